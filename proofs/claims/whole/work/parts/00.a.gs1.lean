/-! Simple braids as permutations of the places (a function and its inverse), and the moves of one crossing from the beginning of a right one to the end of a left one. Whatever finite row of moves ends where none is left, ends at the same place. -/
def gs_sw (i p : Nat) : Nat := if p = i then i + 1 else if p = i + 1 then i else p
theorem gs_sw_a (i : Nat) : gs_sw i i = i + 1 := by simp [gs_sw]
theorem gs_sw_b (i : Nat) : gs_sw i (i + 1) = i := by simp [gs_sw]
theorem gs_sw_n {i p : Nat} (h : p ≠ i) (h2 : p ≠ i + 1) : gs_sw i p = p := by simp [gs_sw, h, h2]
theorem gs_sw_cases (i p : Nat) : (p = i ∧ gs_sw i p = i + 1) ∨ (p = i + 1 ∧ gs_sw i p = i) ∨ (p ≠ i ∧ p ≠ i + 1 ∧ gs_sw i p = p) := by
  by_cases h1 : p = i
  · exact Or.inl ⟨h1, by rw [h1]; exact gs_sw_a i⟩
  · by_cases h2 : p = i + 1
    · exact Or.inr (Or.inl ⟨h2, by rw [h2]; exact gs_sw_b i⟩)
    · exact Or.inr (Or.inr ⟨h1, h2, gs_sw_n h1 h2⟩)
theorem gs_sw_sw (i p : Nat) : gs_sw i (gs_sw i p) = p := by
  rcases gs_sw_cases i p with ⟨h, e⟩ | ⟨h, e⟩ | ⟨h, h2, e⟩
  · rw [e, gs_sw_b, h]
  · rw [e, gs_sw_a, h]
  · rw [e, e]
theorem gs_sw_far {i j : Nat} (h : i + 2 ≤ j) (p : Nat) : gs_sw i (gs_sw j p) = gs_sw j (gs_sw i p) := by
  have h1 := gs_sw_cases i p
  have h2 := gs_sw_cases j p
  have h3 := gs_sw_cases i (gs_sw j p)
  have h4 := gs_sw_cases j (gs_sw i p)
  omega
theorem gs_sw_braid (i p : Nat) : gs_sw i (gs_sw (i + 1) (gs_sw i p)) = gs_sw (i + 1) (gs_sw i (gs_sw (i + 1) p)) := by
  have h1 := gs_sw_cases i p
  have h2 := gs_sw_cases (i + 1) p
  have h3 := gs_sw_cases (i + 1) (gs_sw i p)
  have h4 := gs_sw_cases i (gs_sw (i + 1) p)
  have h5 := gs_sw_cases i (gs_sw (i + 1) (gs_sw i p))
  have h6 := gs_sw_cases (i + 1) (gs_sw i (gs_sw (i + 1) p))
  omega
/-- two places keep their order under a swap, unless they are the two that are swapped -/
theorem gs_sw_lt {i x y : Nat} (h : x < y) (hn : ¬ (x = i ∧ y = i + 1)) : gs_sw i x < gs_sw i y := by
  have h1 := gs_sw_cases i x
  have h2 := gs_sw_cases i y
  omega
theorem gs_sw_ltR {i x y : Nat} (h : gs_sw i x < gs_sw i y) (hn : ¬ (y = i ∧ x = i + 1)) : x < y := by
  have h1 := gs_sw_cases i x
  have h2 := gs_sw_cases i y
  omega
abbrev gs_P : Type := (Nat → Nat) × (Nat → Nat)
def gs_ok (n : Nat) (S : gs_P) : Prop := (∀ p, S.2 (S.1 p) = p) ∧ (∀ q, S.1 (S.2 q) = q) ∧ ∀ p, p < 1 ∨ n < p → S.1 p = p
def gs_L (i : Nat) (S : gs_P) : gs_P := (fun p => gs_sw i (S.1 p), fun q => S.2 (gs_sw i q))
def gs_R (i : Nat) (S : gs_P) : gs_P := (fun p => S.1 (gs_sw i p), fun q => gs_sw i (S.2 q))
def gs_can (i : Nat) (S T : gs_P) : Prop := S.2 i < S.2 (i + 1) ∧ T.1 (i + 1) < T.1 i
theorem gs_ok_L {n i : Nat} {S : gs_P} (h : gs_ok n S) (h1 : 1 ≤ i) (h2 : i < n) : gs_ok n (gs_L i S) := by
  refine ⟨fun p => ?_, fun q => ?_, fun p hp => ?_⟩
  · show S.2 (gs_sw i (gs_sw i (S.1 p))) = p
    rw [gs_sw_sw, h.1]
  · show gs_sw i (S.1 (S.2 (gs_sw i q))) = q
    rw [h.2.1, gs_sw_sw]
  · show gs_sw i (S.1 p) = p
    rw [h.2.2 p hp]
    exact gs_sw_n (by omega) (by omega)
theorem gs_ok_R {n i : Nat} {S : gs_P} (h : gs_ok n S) (h1 : 1 ≤ i) (h2 : i < n) : gs_ok n (gs_R i S) := by
  refine ⟨fun p => ?_, fun q => ?_, fun p hp => ?_⟩
  · show gs_sw i (S.2 (S.1 (gs_sw i p))) = p
    rw [h.1, gs_sw_sw]
  · show S.1 (gs_sw i (gs_sw i (S.2 q))) = q
    rw [gs_sw_sw, h.2.1]
  · show S.1 (gs_sw i p) = p
    rw [gs_sw_n (by omega) (by omega)]
    exact h.2.2 p hp
theorem gs_LR (i j : Nat) (S : gs_P) : gs_L i (gs_R j S) = gs_R j (gs_L i S) := rfl
theorem gs_LL_far {i j : Nat} (h : i + 2 ≤ j) (S : gs_P) : gs_L i (gs_L j S) = gs_L j (gs_L i S) := by
  refine Prod.ext (funext fun p => ?_) (funext fun q => ?_)
  · exact gs_sw_far h _
  · show S.2 (gs_sw j (gs_sw i q)) = S.2 (gs_sw i (gs_sw j q))
    rw [gs_sw_far h]
theorem gs_RR_far {i j : Nat} (h : i + 2 ≤ j) (S : gs_P) : gs_R i (gs_R j S) = gs_R j (gs_R i S) := by
  refine Prod.ext (funext fun p => ?_) (funext fun q => ?_)
  · show S.1 (gs_sw j (gs_sw i p)) = S.1 (gs_sw i (gs_sw j p))
    rw [gs_sw_far h]
  · exact gs_sw_far h _
theorem gs_LLL (i : Nat) (S : gs_P) : gs_L i (gs_L (i + 1) (gs_L i S)) = gs_L (i + 1) (gs_L i (gs_L (i + 1) S)) := by
  refine Prod.ext (funext fun p => ?_) (funext fun q => ?_)
  · exact gs_sw_braid i _
  · show S.2 (gs_sw i (gs_sw (i + 1) (gs_sw i q))) = S.2 (gs_sw (i + 1) (gs_sw i (gs_sw (i + 1) q)))
    rw [gs_sw_braid]
theorem gs_RRR (i : Nat) (S : gs_P) : gs_R i (gs_R (i + 1) (gs_R i S)) = gs_R (i + 1) (gs_R i (gs_R (i + 1) S)) := by
  refine Prod.ext (funext fun p => ?_) (funext fun q => ?_)
  · show S.1 (gs_sw i (gs_sw (i + 1) (gs_sw i p))) = S.1 (gs_sw (i + 1) (gs_sw i (gs_sw (i + 1) p)))
    rw [gs_sw_braid]
  · exact gs_sw_braid i _
/-- a row of simple braids, place by place, and a move from place j + 1 to place j -/
def gs_mv (A : Nat → gs_P) (j i : Nat) : Nat → gs_P := fun k => if k = j then gs_L i (A j) else if k = j + 1 then gs_R i (A (j + 1)) else A k
theorem gs_mv_0 (A : Nat → gs_P) (j i : Nat) : gs_mv A j i j = gs_L i (A j) := by simp [gs_mv]
theorem gs_mv_1 (A : Nat → gs_P) (j i : Nat) : gs_mv A j i (j + 1) = gs_R i (A (j + 1)) := by simp [gs_mv]
theorem gs_mv_n (A : Nat → gs_P) {j k : Nat} (i : Nat) (h : k ≠ j) (h2 : k ≠ j + 1) : gs_mv A j i k = A k := by simp [gs_mv, h, h2]
def gs_st (n m : Nat) (A B : Nat → gs_P) : Prop := ∃ j i, j + 1 < m ∧ 1 ≤ i ∧ i < n ∧ gs_can i (A j) (A (j + 1)) ∧ B = gs_mv A j i
def gs_to (n m : Nat) : Nat → (Nat → gs_P) → (Nat → gs_P) → Prop
  | 0, A, B => A = B
  | k + 1, A, B => ∃ C, gs_st n m A C ∧ gs_to n m k C B
def gs_ir (n m : Nat) (A : Nat → gs_P) : Prop := ∀ j i, j + 1 < m → 1 ≤ i → i < n → ¬ gs_can i (A j) (A (j + 1))
def gs_al (n m : Nat) (A : Nat → gs_P) : Prop := ∀ j, j < m → gs_ok n (A j)
theorem gs_al_mv {n m : Nat} {A : Nat → gs_P} (h : gs_al n m A) {j i : Nat} (hj : j + 1 < m) (h1 : 1 ≤ i) (h2 : i < n) : gs_al n m (gs_mv A j i) := by
  intro k hk
  by_cases e0 : k = j
  · rw [e0, gs_mv_0]; exact gs_ok_L (h j (by omega)) h1 h2
  · by_cases e1 : k = j + 1
    · rw [e1, gs_mv_1]; exact gs_ok_R (h (j + 1) hj) h1 h2
    · rw [gs_mv_n A i e0 e1]; exact h k hk
theorem gs_al_st {n m : Nat} {A B : Nat → gs_P} (h : gs_al n m A) (hs : gs_st n m A B) : gs_al n m B := by
  obtain ⟨j, i, hj, h1, h2, -, rfl⟩ := hs
  exact gs_al_mv h hj h1 h2
theorem gs_al_to {n m : Nat} : ∀ (k : Nat) {A B : Nat → gs_P}, gs_al n m A → gs_to n m k A B → gs_al n m B
  | 0, _, _, h, e => by rw [← (show _ = _ from e)]; exact h
  | k + 1, _, _, h, ⟨_, hs, ht⟩ => gs_al_to k (gs_al_st h hs) ht
theorem gs_to_app {n m : Nat} : ∀ (k : Nat) {l : Nat} {A B C : Nat → gs_P}, gs_to n m k A B → gs_to n m l B C → gs_to n m (k + l) A C
  | 0, l, A, B, C, e, h => by rw [show 0 + l = l by omega, (show A = B from e)]; exact h
  | k + 1, l, A, B, C, ⟨D, hs, ht⟩, h => by
    rw [show k + 1 + l = (k + l) + 1 by omega]
    exact ⟨D, hs, gs_to_app k ht h⟩
theorem gs_to_1 {n m : Nat} {A B : Nat → gs_P} (h : gs_st n m A B) : gs_to n m 1 A B := ⟨B, h, rfl⟩
/-- two moves at the same place, far from one another -/
theorem gs_lc_far {n m : Nat} {A : Nat → gs_P} {j i i' : Nat} (hj : j + 1 < m) (h1 : 1 ≤ i) (h2 : i' < n) (hf : i + 2 ≤ i') (c1 : gs_can i (A j) (A (j + 1))) (c2 : gs_can i' (A j) (A (j + 1))) : gs_st n m (gs_mv A j i) (gs_mv (gs_mv A j i) j i') ∧ gs_st n m (gs_mv A j i') (gs_mv (gs_mv A j i) j i') := by
  constructor
  · refine ⟨j, i', hj, by omega, h2, ?_, rfl⟩
    rw [gs_mv_0, gs_mv_1]
    constructor
    · show (A j).2 (gs_sw i i') < (A j).2 (gs_sw i (i' + 1))
      rw [gs_sw_n (by omega) (by omega), gs_sw_n (by omega) (by omega)]; exact c2.1
    · show (A (j + 1)).1 (gs_sw i (i' + 1)) < (A (j + 1)).1 (gs_sw i i')
      rw [gs_sw_n (by omega) (by omega), gs_sw_n (by omega) (by omega)]; exact c2.2
  · refine ⟨j, i, hj, h1, by omega, ?_, ?_⟩
    · rw [gs_mv_0, gs_mv_1]
      constructor
      · show (A j).2 (gs_sw i' i) < (A j).2 (gs_sw i' (i + 1))
        rw [gs_sw_n (by omega) (by omega), gs_sw_n (by omega) (by omega)]; exact c1.1
      · show (A (j + 1)).1 (gs_sw i' (i + 1)) < (A (j + 1)).1 (gs_sw i' i)
        rw [gs_sw_n (by omega) (by omega), gs_sw_n (by omega) (by omega)]; exact c1.2
    · funext k
      by_cases e0 : k = j
      · subst e0
        rw [gs_mv_0, gs_mv_0, gs_mv_0, gs_mv_0, gs_LL_far hf]
      · by_cases e1 : k = j + 1
        · subst e1
          rw [gs_mv_1, gs_mv_1, gs_mv_1, gs_mv_1, gs_RR_far hf]
        · rw [gs_mv_n _ _ e0 e1, gs_mv_n _ _ e0 e1, gs_mv_n _ _ e0 e1, gs_mv_n _ _ e0 e1]
/-- two moves at the same place, next to one another -/
theorem gs_lc_near {n m : Nat} {A : Nat → gs_P} {j i : Nat} (hj : j + 1 < m) (h1 : 1 ≤ i) (h2 : i + 1 < n) (c1 : gs_can i (A j) (A (j + 1))) (c2 : gs_can (i + 1) (A j) (A (j + 1))) : ∃ D, gs_to n m 2 (gs_mv A j i) D ∧ gs_to n m 2 (gs_mv A j (i + 1)) D := by
  have hl1 := c1.1
  have hl2 := c2.1
  have hr1 := c1.2
  have hr2 := c2.2
  refine ⟨gs_mv (gs_mv (gs_mv A j i) j (i + 1)) j i, ⟨gs_mv (gs_mv A j i) j (i + 1), ⟨j, i + 1, hj, by omega, h2, ?_, rfl⟩, gs_mv (gs_mv (gs_mv A j i) j (i + 1)) j i, ⟨j, i, hj, h1, by omega, ?_, rfl⟩, rfl⟩, ⟨gs_mv (gs_mv A j (i + 1)) j i, ⟨j, i, hj, h1, by omega, ?_, rfl⟩, gs_mv (gs_mv (gs_mv A j (i + 1)) j i) j (i + 1), ⟨j, i + 1, hj, by omega, h2, ?_, rfl⟩, ?_⟩⟩
  · rw [gs_mv_0, gs_mv_1]
    constructor
    · show (A j).2 (gs_sw i (i + 1)) < (A j).2 (gs_sw i (i + 1 + 1))
      rw [gs_sw_b, gs_sw_n (by omega) (by omega)]; omega
    · show (A (j + 1)).1 (gs_sw i (i + 1 + 1)) < (A (j + 1)).1 (gs_sw i (i + 1))
      rw [gs_sw_b, gs_sw_n (by omega) (by omega)]; omega
  · rw [gs_mv_0, gs_mv_1, gs_mv_0, gs_mv_1]
    constructor
    · show (A j).2 (gs_sw i (gs_sw (i + 1) i)) < (A j).2 (gs_sw i (gs_sw (i + 1) (i + 1)))
      rw [gs_sw_n (i := i + 1) (p := i) (by omega) (by omega), gs_sw_a, gs_sw_a, gs_sw_n (by omega) (by omega)]; exact hl2
    · show (A (j + 1)).1 (gs_sw i (gs_sw (i + 1) (i + 1))) < (A (j + 1)).1 (gs_sw i (gs_sw (i + 1) i))
      rw [gs_sw_n (i := i + 1) (p := i) (by omega) (by omega), gs_sw_a, gs_sw_a, gs_sw_n (by omega) (by omega)]; exact hr2
  · rw [gs_mv_0, gs_mv_1]
    constructor
    · show (A j).2 (gs_sw (i + 1) i) < (A j).2 (gs_sw (i + 1) (i + 1))
      rw [gs_sw_a, gs_sw_n (by omega) (by omega)]; omega
    · show (A (j + 1)).1 (gs_sw (i + 1) (i + 1)) < (A (j + 1)).1 (gs_sw (i + 1) i)
      rw [gs_sw_a, gs_sw_n (by omega) (by omega)]; omega
  · rw [gs_mv_0, gs_mv_1, gs_mv_0, gs_mv_1]
    constructor
    · show (A j).2 (gs_sw (i + 1) (gs_sw i (i + 1))) < (A j).2 (gs_sw (i + 1) (gs_sw i (i + 1 + 1)))
      rw [gs_sw_b, gs_sw_n (i := i) (p := i + 1 + 1) (by omega) (by omega), gs_sw_b, gs_sw_n (by omega) (by omega)]; exact hl1
    · show (A (j + 1)).1 (gs_sw (i + 1) (gs_sw i (i + 1 + 1))) < (A (j + 1)).1 (gs_sw (i + 1) (gs_sw i (i + 1)))
      rw [gs_sw_b, gs_sw_n (i := i) (p := i + 1 + 1) (by omega) (by omega), gs_sw_b, gs_sw_n (by omega) (by omega)]; exact hr1
  · show gs_mv (gs_mv (gs_mv A j (i + 1)) j i) j (i + 1) = gs_mv (gs_mv (gs_mv A j i) j (i + 1)) j i
    funext k
    by_cases e0 : k = j
    · subst e0
      rw [gs_mv_0, gs_mv_0, gs_mv_0, gs_mv_0, gs_mv_0, gs_mv_0, gs_LLL]
    · by_cases e1 : k = j + 1
      · subst e1
        rw [gs_mv_1, gs_mv_1, gs_mv_1, gs_mv_1, gs_mv_1, gs_mv_1, gs_RRR]
      · rw [gs_mv_n _ _ e0 e1, gs_mv_n _ _ e0 e1, gs_mv_n _ _ e0 e1, gs_mv_n _ _ e0 e1, gs_mv_n _ _ e0 e1, gs_mv_n _ _ e0 e1]
/-- two moves at places next to one another -/
theorem gs_lc_next {n m : Nat} {A : Nat → gs_P} (hA : gs_al n m A) {j i i' : Nat} (hj : j + 2 < m) (h1 : 1 ≤ i) (h2 : i < n) (h3 : 1 ≤ i') (h4 : i' < n) (c1 : gs_can i (A j) (A (j + 1))) (c2 : gs_can i' (A (j + 1)) (A (j + 2))) : gs_st n m (gs_mv A j i) (gs_mv (gs_mv A j i) (j + 1) i') ∧ gs_st n m (gs_mv A (j + 1) i') (gs_mv (gs_mv A j i) (j + 1) i') := by
  obtain ⟨o1, o2, -⟩ := hA (j + 1) (by omega)
  constructor
  · refine ⟨j + 1, i', by omega, h3, h4, ?_, rfl⟩
    rw [gs_mv_1, gs_mv_n A i (by omega) (by omega)]
    refine ⟨?_, c2.2⟩
    show gs_sw i ((A (j + 1)).2 i') < gs_sw i ((A (j + 1)).2 (i' + 1))
    refine gs_sw_lt c2.1 (fun q => ?_)
    have e1 := o2 i'
    have e2 := o2 (i' + 1)
    rw [q.1] at e1
    rw [q.2] at e2
    have := c1.2
    omega
  · refine ⟨j, i, by omega, h1, h2, ?_, ?_⟩
    · rw [gs_mv_0, gs_mv_n A i' (by omega) (by omega)]
      refine ⟨c1.1, ?_⟩
      show gs_sw i' ((A (j + 1)).1 (i + 1)) < gs_sw i' ((A (j + 1)).1 i)
      refine gs_sw_lt c1.2 (fun q => ?_)
      have e1 := o1 i
      have e2 := o1 (i + 1)
      rw [q.2] at e1
      rw [q.1] at e2
      have := c2.1
      omega
    · funext k
      by_cases e0 : k = j
      · subst e0
        rw [gs_mv_n _ _ (by omega) (by omega), gs_mv_0, gs_mv_0, gs_mv_n _ _ (by omega) (by omega)]
      · by_cases e1 : k = j + 1
        · subst e1
          rw [gs_mv_0, gs_mv_1, gs_mv_1, gs_mv_0]; rfl
        · by_cases e2 : k = j + 1 + 1
          · subst e2
            rw [gs_mv_1, gs_mv_n _ _ (by omega) (by omega), gs_mv_n _ _ (by omega) (by omega), gs_mv_1]
          · rw [gs_mv_n _ _ e1 e2, gs_mv_n _ _ e0 e1, gs_mv_n _ _ e0 e1, gs_mv_n _ _ e1 e2]
/-- two moves at places far from one another -/
theorem gs_lc_apart {n m : Nat} {A : Nat → gs_P} {j j' i i' : Nat} (hj : j + 2 ≤ j') (hj' : j' + 1 < m) (h1 : 1 ≤ i) (h2 : i < n) (h3 : 1 ≤ i') (h4 : i' < n) (c1 : gs_can i (A j) (A (j + 1))) (c2 : gs_can i' (A j') (A (j' + 1))) : gs_st n m (gs_mv A j i) (gs_mv (gs_mv A j i) j' i') ∧ gs_st n m (gs_mv A j' i') (gs_mv (gs_mv A j i) j' i') := by
  constructor
  · refine ⟨j', i', hj', h3, h4, ?_, rfl⟩
    rw [gs_mv_n A i (by omega) (by omega), gs_mv_n A i (by omega) (by omega)]; exact c2
  · refine ⟨j, i, by omega, h1, h2, ?_, ?_⟩
    · rw [gs_mv_n A i' (by omega) (by omega), gs_mv_n A i' (by omega) (by omega)]; exact c1
    · funext k
      by_cases e0 : k = j
      · subst e0
        rw [gs_mv_n _ _ (by omega) (by omega), gs_mv_0, gs_mv_0, gs_mv_n _ _ (by omega) (by omega)]
      · by_cases e1 : k = j + 1
        · subst e1
          rw [gs_mv_n _ _ (by omega) (by omega), gs_mv_1, gs_mv_1, gs_mv_n _ _ (by omega) (by omega)]
        · rw [gs_mv_n (gs_mv A j' i') i e0 e1]
          by_cases e2 : k = j'
          · subst e2
            rw [gs_mv_0, gs_mv_0, gs_mv_n _ _ (by omega) (by omega)]
          · by_cases e3 : k = j' + 1
            · subst e3
              rw [gs_mv_1, gs_mv_1, gs_mv_n _ _ (by omega) (by omega)]
            · rw [gs_mv_n _ _ e2 e3, gs_mv_n _ _ e2 e3, gs_mv_n _ _ e0 e1]
theorem gs_lc {n m : Nat} {A B C : Nat → gs_P} (hA : gs_al n m A) (hB : gs_st n m A B) (hC : gs_st n m A C) : ∃ d D, gs_to n m d B D ∧ gs_to n m d C D := by
  obtain ⟨j, i, hj, h1, h2, c1, rfl⟩ := hB
  obtain ⟨j', i', hj', h3, h4, c2, rfl⟩ := hC
  rcases (show j = j' ∨ j' = j + 1 ∨ j = j' + 1 ∨ j + 2 ≤ j' ∨ j' + 2 ≤ j by omega) with e | e | e | e | e
  · subst e
    rcases (show i = i' ∨ i' = i + 1 ∨ i = i' + 1 ∨ i + 2 ≤ i' ∨ i' + 2 ≤ i by omega) with e | e | e | e | e
    · subst e; exact ⟨0, _, rfl, rfl⟩
    · subst e
      obtain ⟨D, x, y⟩ := gs_lc_near hj h1 h4 c1 c2
      exact ⟨2, D, x, y⟩
    · subst e
      obtain ⟨D, x, y⟩ := gs_lc_near hj h3 h2 c2 c1
      exact ⟨2, D, y, x⟩
    · have q := gs_lc_far hj h1 h4 e c1 c2
      exact ⟨1, _, gs_to_1 q.1, gs_to_1 q.2⟩
    · have q := gs_lc_far hj h3 h2 e c2 c1
      exact ⟨1, _, gs_to_1 q.2, gs_to_1 q.1⟩
  · subst e
    have q := gs_lc_next hA (by omega) h1 h2 h3 h4 c1 c2
    exact ⟨1, _, gs_to_1 q.1, gs_to_1 q.2⟩
  · subst e
    have q := gs_lc_next hA (by omega) h3 h4 h1 h2 c2 c1
    exact ⟨1, _, gs_to_1 q.2, gs_to_1 q.1⟩
  · have q := gs_lc_apart e hj' h1 h2 h3 h4 c1 c2
    exact ⟨1, _, gs_to_1 q.1, gs_to_1 q.2⟩
  · have q := gs_lc_apart e hj h3 h4 h1 h2 c2 c1
    exact ⟨1, _, gs_to_1 q.2, gs_to_1 q.1⟩
theorem gs_ir_no {n m : Nat} {A B : Nat → gs_P} (h : gs_ir n m A) (hs : gs_st n m A B) : False := by
  obtain ⟨j, i, hj, h1, h2, c1, -⟩ := hs
  exact h j i hj h1 h2 c1
/-- every move from A is on a way to the end that one way from A has, and as long -/
theorem gs_conf {n m : Nat} {E : Nat → gs_P} (hE : gs_ir n m E) : ∀ (k : Nat) {A B : Nat → gs_P} {d : Nat}, gs_al n m A → gs_to n m k A E → gs_to n m d A B → ∃ r, k = d + r ∧ gs_to n m r B E := by
  intro k
  induction k using Nat.strongRecOn with
  | ind k ih =>
    intro A B d hA hk hd
    match d, hd with
    | 0, hd =>
      have e : A = B := hd
      subst e
      exact ⟨k, by omega, hk⟩
    | d + 1, ⟨C, hs, hd⟩ =>
      match k, hk, ih with
      | 0, hk, _ =>
        have e : A = E := hk
        subst e
        exact absurd hs (fun q => gs_ir_no hE q)
      | k + 1, ⟨F, hf, hk⟩, ih =>
        obtain ⟨c, G, g1, g2⟩ := gs_lc hA hf hs
        obtain ⟨r, er, hr⟩ := ih k (by omega) (gs_al_st hA hf) hk g1
        have hC : gs_to n m k C E := by rw [er]; exact gs_to_app c g2 hr
        obtain ⟨r2, er2, hr2⟩ := ih k (by omega) (gs_al_st hA hs) hC hd
        exact ⟨r2, by omega, hr2⟩
/-- two ends of moves from one start are the same -/
theorem gs_uniq {n m k l : Nat} {A B C : Nat → gs_P} (hA : gs_al n m A) (hB : gs_ir n m B) (hC : gs_ir n m C) (h1 : gs_to n m k A B) (h2 : gs_to n m l A C) : B = C := by
  obtain ⟨r, -, hr⟩ := gs_conf hB k hA h1 h2
  match r, hr with
  | 0, e => exact (show C = B from e).symm
  | r + 1, ⟨D, hs, _⟩ => exact absurd hs (fun q => gs_ir_no hC q)
