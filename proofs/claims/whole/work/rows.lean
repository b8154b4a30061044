section
/-! Simple braids as permutations of the places (a function and its inverse), and the moves of one crossing from the beginning of a right one to the end of a left one. Whatever finite row of moves ends where none is left, ends at the same place. -/
def gs_sw (i p : Nat) : Nat := if p = i then i + 1 else if p = i + 1 then i else p
theorem gs_sw_a (i : Nat) : gs_sw i i = i + 1 := by simp [gs_sw]
theorem gs_sw_b (i : Nat) : gs_sw i (i + 1) = i := by simp [gs_sw]
theorem gs_sw_n {i p : Nat} (h : p ≠ i) (h2 : p ≠ i + 1) : gs_sw i p = p := by simp [gs_sw, h, h2]
theorem gs_sw_cases (i p : Nat) : (p = i ∧ gs_sw i p = i + 1) ∨ (p = i + 1 ∧ gs_sw i p = i) ∨ (p ≠ i ∧ p ≠ i + 1 ∧ gs_sw i p = p) := by
  by_cases h1 : p = i
  · exact Or.inl ⟨h1, by rw [h1]; exact gs_sw_a i⟩
  · by_cases h2 : p = i + 1
    · exact Or.inr (Or.inl ⟨h2, by rw [h2]; exact gs_sw_b i⟩)
    · exact Or.inr (Or.inr ⟨h1, h2, gs_sw_n h1 h2⟩)
theorem gs_sw_sw (i p : Nat) : gs_sw i (gs_sw i p) = p := by
  rcases gs_sw_cases i p with ⟨h, e⟩ | ⟨h, e⟩ | ⟨h, h2, e⟩
  · rw [e, gs_sw_b, h]
  · rw [e, gs_sw_a, h]
  · rw [e, e]
theorem gs_sw_far {i j : Nat} (h : i + 2 ≤ j) (p : Nat) : gs_sw i (gs_sw j p) = gs_sw j (gs_sw i p) := by
  have h1 := gs_sw_cases i p
  have h2 := gs_sw_cases j p
  have h3 := gs_sw_cases i (gs_sw j p)
  have h4 := gs_sw_cases j (gs_sw i p)
  omega
theorem gs_sw_braid (i p : Nat) : gs_sw i (gs_sw (i + 1) (gs_sw i p)) = gs_sw (i + 1) (gs_sw i (gs_sw (i + 1) p)) := by
  have h1 := gs_sw_cases i p
  have h2 := gs_sw_cases (i + 1) p
  have h3 := gs_sw_cases (i + 1) (gs_sw i p)
  have h4 := gs_sw_cases i (gs_sw (i + 1) p)
  have h5 := gs_sw_cases i (gs_sw (i + 1) (gs_sw i p))
  have h6 := gs_sw_cases (i + 1) (gs_sw i (gs_sw (i + 1) p))
  omega
/-- two places keep their order under a swap, unless they are the two that are swapped -/
theorem gs_sw_lt {i x y : Nat} (h : x < y) (hn : ¬ (x = i ∧ y = i + 1)) : gs_sw i x < gs_sw i y := by
  have h1 := gs_sw_cases i x
  have h2 := gs_sw_cases i y
  omega
theorem gs_sw_ltR {i x y : Nat} (h : gs_sw i x < gs_sw i y) (hn : ¬ (y = i ∧ x = i + 1)) : x < y := by
  have h1 := gs_sw_cases i x
  have h2 := gs_sw_cases i y
  omega
abbrev gs_P : Type := (Nat → Nat) × (Nat → Nat)
def gs_ok (n : Nat) (S : gs_P) : Prop := (∀ p, S.2 (S.1 p) = p) ∧ (∀ q, S.1 (S.2 q) = q) ∧ ∀ p, p < 1 ∨ n < p → S.1 p = p
def gs_L (i : Nat) (S : gs_P) : gs_P := (fun p => gs_sw i (S.1 p), fun q => S.2 (gs_sw i q))
def gs_R (i : Nat) (S : gs_P) : gs_P := (fun p => S.1 (gs_sw i p), fun q => gs_sw i (S.2 q))
def gs_can (i : Nat) (S T : gs_P) : Prop := S.2 i < S.2 (i + 1) ∧ T.1 (i + 1) < T.1 i
theorem gs_ok_L {n i : Nat} {S : gs_P} (h : gs_ok n S) (h1 : 1 ≤ i) (h2 : i < n) : gs_ok n (gs_L i S) := by
  refine ⟨fun p => ?_, fun q => ?_, fun p hp => ?_⟩
  · show S.2 (gs_sw i (gs_sw i (S.1 p))) = p
    rw [gs_sw_sw, h.1]
  · show gs_sw i (S.1 (S.2 (gs_sw i q))) = q
    rw [h.2.1, gs_sw_sw]
  · show gs_sw i (S.1 p) = p
    rw [h.2.2 p hp]
    exact gs_sw_n (by omega) (by omega)
theorem gs_ok_R {n i : Nat} {S : gs_P} (h : gs_ok n S) (h1 : 1 ≤ i) (h2 : i < n) : gs_ok n (gs_R i S) := by
  refine ⟨fun p => ?_, fun q => ?_, fun p hp => ?_⟩
  · show gs_sw i (S.2 (S.1 (gs_sw i p))) = p
    rw [h.1, gs_sw_sw]
  · show S.1 (gs_sw i (gs_sw i (S.2 q))) = q
    rw [gs_sw_sw, h.2.1]
  · show S.1 (gs_sw i p) = p
    rw [gs_sw_n (by omega) (by omega)]
    exact h.2.2 p hp
theorem gs_LR (i j : Nat) (S : gs_P) : gs_L i (gs_R j S) = gs_R j (gs_L i S) := rfl
theorem gs_LL_far {i j : Nat} (h : i + 2 ≤ j) (S : gs_P) : gs_L i (gs_L j S) = gs_L j (gs_L i S) := by
  refine Prod.ext (funext fun p => ?_) (funext fun q => ?_)
  · exact gs_sw_far h _
  · show S.2 (gs_sw j (gs_sw i q)) = S.2 (gs_sw i (gs_sw j q))
    rw [gs_sw_far h]
theorem gs_RR_far {i j : Nat} (h : i + 2 ≤ j) (S : gs_P) : gs_R i (gs_R j S) = gs_R j (gs_R i S) := by
  refine Prod.ext (funext fun p => ?_) (funext fun q => ?_)
  · show S.1 (gs_sw j (gs_sw i p)) = S.1 (gs_sw i (gs_sw j p))
    rw [gs_sw_far h]
  · exact gs_sw_far h _
theorem gs_LLL (i : Nat) (S : gs_P) : gs_L i (gs_L (i + 1) (gs_L i S)) = gs_L (i + 1) (gs_L i (gs_L (i + 1) S)) := by
  refine Prod.ext (funext fun p => ?_) (funext fun q => ?_)
  · exact gs_sw_braid i _
  · show S.2 (gs_sw i (gs_sw (i + 1) (gs_sw i q))) = S.2 (gs_sw (i + 1) (gs_sw i (gs_sw (i + 1) q)))
    rw [gs_sw_braid]
theorem gs_RRR (i : Nat) (S : gs_P) : gs_R i (gs_R (i + 1) (gs_R i S)) = gs_R (i + 1) (gs_R i (gs_R (i + 1) S)) := by
  refine Prod.ext (funext fun p => ?_) (funext fun q => ?_)
  · show S.1 (gs_sw i (gs_sw (i + 1) (gs_sw i p))) = S.1 (gs_sw (i + 1) (gs_sw i (gs_sw (i + 1) p)))
    rw [gs_sw_braid]
  · exact gs_sw_braid i _
/-- a row of simple braids, place by place, and a move from place j + 1 to place j -/
def gs_mv (A : Nat → gs_P) (j i : Nat) : Nat → gs_P := fun k => if k = j then gs_L i (A j) else if k = j + 1 then gs_R i (A (j + 1)) else A k
theorem gs_mv_0 (A : Nat → gs_P) (j i : Nat) : gs_mv A j i j = gs_L i (A j) := by simp [gs_mv]
theorem gs_mv_1 (A : Nat → gs_P) (j i : Nat) : gs_mv A j i (j + 1) = gs_R i (A (j + 1)) := by simp [gs_mv]
theorem gs_mv_n (A : Nat → gs_P) {j k : Nat} (i : Nat) (h : k ≠ j) (h2 : k ≠ j + 1) : gs_mv A j i k = A k := by simp [gs_mv, h, h2]
def gs_st (n m : Nat) (A B : Nat → gs_P) : Prop := ∃ j i, j + 1 < m ∧ 1 ≤ i ∧ i < n ∧ gs_can i (A j) (A (j + 1)) ∧ B = gs_mv A j i
def gs_to (n m : Nat) : Nat → (Nat → gs_P) → (Nat → gs_P) → Prop
  | 0, A, B => A = B
  | k + 1, A, B => ∃ C, gs_st n m A C ∧ gs_to n m k C B
def gs_ir (n m : Nat) (A : Nat → gs_P) : Prop := ∀ j i, j + 1 < m → 1 ≤ i → i < n → ¬ gs_can i (A j) (A (j + 1))
def gs_al (n m : Nat) (A : Nat → gs_P) : Prop := ∀ j, j < m → gs_ok n (A j)
theorem gs_al_mv {n m : Nat} {A : Nat → gs_P} (h : gs_al n m A) {j i : Nat} (hj : j + 1 < m) (h1 : 1 ≤ i) (h2 : i < n) : gs_al n m (gs_mv A j i) := by
  intro k hk
  by_cases e0 : k = j
  · rw [e0, gs_mv_0]; exact gs_ok_L (h j (by omega)) h1 h2
  · by_cases e1 : k = j + 1
    · rw [e1, gs_mv_1]; exact gs_ok_R (h (j + 1) hj) h1 h2
    · rw [gs_mv_n A i e0 e1]; exact h k hk
theorem gs_al_st {n m : Nat} {A B : Nat → gs_P} (h : gs_al n m A) (hs : gs_st n m A B) : gs_al n m B := by
  obtain ⟨j, i, hj, h1, h2, -, rfl⟩ := hs
  exact gs_al_mv h hj h1 h2
theorem gs_al_to {n m : Nat} : ∀ (k : Nat) {A B : Nat → gs_P}, gs_al n m A → gs_to n m k A B → gs_al n m B
  | 0, _, _, h, e => by rw [← (show _ = _ from e)]; exact h
  | k + 1, _, _, h, ⟨_, hs, ht⟩ => gs_al_to k (gs_al_st h hs) ht
theorem gs_to_app {n m : Nat} : ∀ (k : Nat) {l : Nat} {A B C : Nat → gs_P}, gs_to n m k A B → gs_to n m l B C → gs_to n m (k + l) A C
  | 0, l, A, B, C, e, h => by rw [show 0 + l = l by omega, (show A = B from e)]; exact h
  | k + 1, l, A, B, C, ⟨D, hs, ht⟩, h => by
    rw [show k + 1 + l = (k + l) + 1 by omega]
    exact ⟨D, hs, gs_to_app k ht h⟩
theorem gs_to_1 {n m : Nat} {A B : Nat → gs_P} (h : gs_st n m A B) : gs_to n m 1 A B := ⟨B, h, rfl⟩
/-- two moves at the same place, far from one another -/
theorem gs_lc_far {n m : Nat} {A : Nat → gs_P} {j i i' : Nat} (hj : j + 1 < m) (h1 : 1 ≤ i) (h2 : i' < n) (hf : i + 2 ≤ i') (c1 : gs_can i (A j) (A (j + 1))) (c2 : gs_can i' (A j) (A (j + 1))) : gs_st n m (gs_mv A j i) (gs_mv (gs_mv A j i) j i') ∧ gs_st n m (gs_mv A j i') (gs_mv (gs_mv A j i) j i') := by
  constructor
  · refine ⟨j, i', hj, by omega, h2, ?_, rfl⟩
    rw [gs_mv_0, gs_mv_1]
    constructor
    · show (A j).2 (gs_sw i i') < (A j).2 (gs_sw i (i' + 1))
      rw [gs_sw_n (by omega) (by omega), gs_sw_n (by omega) (by omega)]; exact c2.1
    · show (A (j + 1)).1 (gs_sw i (i' + 1)) < (A (j + 1)).1 (gs_sw i i')
      rw [gs_sw_n (by omega) (by omega), gs_sw_n (by omega) (by omega)]; exact c2.2
  · refine ⟨j, i, hj, h1, by omega, ?_, ?_⟩
    · rw [gs_mv_0, gs_mv_1]
      constructor
      · show (A j).2 (gs_sw i' i) < (A j).2 (gs_sw i' (i + 1))
        rw [gs_sw_n (by omega) (by omega), gs_sw_n (by omega) (by omega)]; exact c1.1
      · show (A (j + 1)).1 (gs_sw i' (i + 1)) < (A (j + 1)).1 (gs_sw i' i)
        rw [gs_sw_n (by omega) (by omega), gs_sw_n (by omega) (by omega)]; exact c1.2
    · funext k
      by_cases e0 : k = j
      · subst e0
        rw [gs_mv_0, gs_mv_0, gs_mv_0, gs_mv_0, gs_LL_far hf]
      · by_cases e1 : k = j + 1
        · subst e1
          rw [gs_mv_1, gs_mv_1, gs_mv_1, gs_mv_1, gs_RR_far hf]
        · rw [gs_mv_n _ _ e0 e1, gs_mv_n _ _ e0 e1, gs_mv_n _ _ e0 e1, gs_mv_n _ _ e0 e1]
/-- two moves at the same place, next to one another -/
theorem gs_lc_near {n m : Nat} {A : Nat → gs_P} {j i : Nat} (hj : j + 1 < m) (h1 : 1 ≤ i) (h2 : i + 1 < n) (c1 : gs_can i (A j) (A (j + 1))) (c2 : gs_can (i + 1) (A j) (A (j + 1))) : ∃ D, gs_to n m 2 (gs_mv A j i) D ∧ gs_to n m 2 (gs_mv A j (i + 1)) D := by
  have hl1 := c1.1
  have hl2 := c2.1
  have hr1 := c1.2
  have hr2 := c2.2
  refine ⟨gs_mv (gs_mv (gs_mv A j i) j (i + 1)) j i, ⟨gs_mv (gs_mv A j i) j (i + 1), ⟨j, i + 1, hj, by omega, h2, ?_, rfl⟩, gs_mv (gs_mv (gs_mv A j i) j (i + 1)) j i, ⟨j, i, hj, h1, by omega, ?_, rfl⟩, rfl⟩, ⟨gs_mv (gs_mv A j (i + 1)) j i, ⟨j, i, hj, h1, by omega, ?_, rfl⟩, gs_mv (gs_mv (gs_mv A j (i + 1)) j i) j (i + 1), ⟨j, i + 1, hj, by omega, h2, ?_, rfl⟩, ?_⟩⟩
  · rw [gs_mv_0, gs_mv_1]
    constructor
    · show (A j).2 (gs_sw i (i + 1)) < (A j).2 (gs_sw i (i + 1 + 1))
      rw [gs_sw_b, gs_sw_n (by omega) (by omega)]; omega
    · show (A (j + 1)).1 (gs_sw i (i + 1 + 1)) < (A (j + 1)).1 (gs_sw i (i + 1))
      rw [gs_sw_b, gs_sw_n (by omega) (by omega)]; omega
  · rw [gs_mv_0, gs_mv_1, gs_mv_0, gs_mv_1]
    constructor
    · show (A j).2 (gs_sw i (gs_sw (i + 1) i)) < (A j).2 (gs_sw i (gs_sw (i + 1) (i + 1)))
      rw [gs_sw_n (i := i + 1) (p := i) (by omega) (by omega), gs_sw_a, gs_sw_a, gs_sw_n (by omega) (by omega)]; exact hl2
    · show (A (j + 1)).1 (gs_sw i (gs_sw (i + 1) (i + 1))) < (A (j + 1)).1 (gs_sw i (gs_sw (i + 1) i))
      rw [gs_sw_n (i := i + 1) (p := i) (by omega) (by omega), gs_sw_a, gs_sw_a, gs_sw_n (by omega) (by omega)]; exact hr2
  · rw [gs_mv_0, gs_mv_1]
    constructor
    · show (A j).2 (gs_sw (i + 1) i) < (A j).2 (gs_sw (i + 1) (i + 1))
      rw [gs_sw_a, gs_sw_n (by omega) (by omega)]; omega
    · show (A (j + 1)).1 (gs_sw (i + 1) (i + 1)) < (A (j + 1)).1 (gs_sw (i + 1) i)
      rw [gs_sw_a, gs_sw_n (by omega) (by omega)]; omega
  · rw [gs_mv_0, gs_mv_1, gs_mv_0, gs_mv_1]
    constructor
    · show (A j).2 (gs_sw (i + 1) (gs_sw i (i + 1))) < (A j).2 (gs_sw (i + 1) (gs_sw i (i + 1 + 1)))
      rw [gs_sw_b, gs_sw_n (i := i) (p := i + 1 + 1) (by omega) (by omega), gs_sw_b, gs_sw_n (by omega) (by omega)]; exact hl1
    · show (A (j + 1)).1 (gs_sw (i + 1) (gs_sw i (i + 1 + 1))) < (A (j + 1)).1 (gs_sw (i + 1) (gs_sw i (i + 1)))
      rw [gs_sw_b, gs_sw_n (i := i) (p := i + 1 + 1) (by omega) (by omega), gs_sw_b, gs_sw_n (by omega) (by omega)]; exact hr1
  · show gs_mv (gs_mv (gs_mv A j (i + 1)) j i) j (i + 1) = gs_mv (gs_mv (gs_mv A j i) j (i + 1)) j i
    funext k
    by_cases e0 : k = j
    · subst e0
      rw [gs_mv_0, gs_mv_0, gs_mv_0, gs_mv_0, gs_mv_0, gs_mv_0, gs_LLL]
    · by_cases e1 : k = j + 1
      · subst e1
        rw [gs_mv_1, gs_mv_1, gs_mv_1, gs_mv_1, gs_mv_1, gs_mv_1, gs_RRR]
      · rw [gs_mv_n _ _ e0 e1, gs_mv_n _ _ e0 e1, gs_mv_n _ _ e0 e1, gs_mv_n _ _ e0 e1, gs_mv_n _ _ e0 e1, gs_mv_n _ _ e0 e1]
/-- two moves at places next to one another -/
theorem gs_lc_next {n m : Nat} {A : Nat → gs_P} (hA : gs_al n m A) {j i i' : Nat} (hj : j + 2 < m) (h1 : 1 ≤ i) (h2 : i < n) (h3 : 1 ≤ i') (h4 : i' < n) (c1 : gs_can i (A j) (A (j + 1))) (c2 : gs_can i' (A (j + 1)) (A (j + 2))) : gs_st n m (gs_mv A j i) (gs_mv (gs_mv A j i) (j + 1) i') ∧ gs_st n m (gs_mv A (j + 1) i') (gs_mv (gs_mv A j i) (j + 1) i') := by
  obtain ⟨o1, o2, -⟩ := hA (j + 1) (by omega)
  constructor
  · refine ⟨j + 1, i', by omega, h3, h4, ?_, rfl⟩
    rw [gs_mv_1, gs_mv_n A i (by omega) (by omega)]
    refine ⟨?_, c2.2⟩
    show gs_sw i ((A (j + 1)).2 i') < gs_sw i ((A (j + 1)).2 (i' + 1))
    refine gs_sw_lt c2.1 (fun q => ?_)
    have e1 := o2 i'
    have e2 := o2 (i' + 1)
    rw [q.1] at e1
    rw [q.2] at e2
    have := c1.2
    omega
  · refine ⟨j, i, by omega, h1, h2, ?_, ?_⟩
    · rw [gs_mv_0, gs_mv_n A i' (by omega) (by omega)]
      refine ⟨c1.1, ?_⟩
      show gs_sw i' ((A (j + 1)).1 (i + 1)) < gs_sw i' ((A (j + 1)).1 i)
      refine gs_sw_lt c1.2 (fun q => ?_)
      have e1 := o1 i
      have e2 := o1 (i + 1)
      rw [q.2] at e1
      rw [q.1] at e2
      have := c2.1
      omega
    · funext k
      by_cases e0 : k = j
      · subst e0
        rw [gs_mv_n _ _ (by omega) (by omega), gs_mv_0, gs_mv_0, gs_mv_n _ _ (by omega) (by omega)]
      · by_cases e1 : k = j + 1
        · subst e1
          rw [gs_mv_0, gs_mv_1, gs_mv_1, gs_mv_0]; rfl
        · by_cases e2 : k = j + 1 + 1
          · subst e2
            rw [gs_mv_1, gs_mv_n _ _ (by omega) (by omega), gs_mv_n _ _ (by omega) (by omega), gs_mv_1]
          · rw [gs_mv_n _ _ e1 e2, gs_mv_n _ _ e0 e1, gs_mv_n _ _ e0 e1, gs_mv_n _ _ e1 e2]
/-- two moves at places far from one another -/
theorem gs_lc_apart {n m : Nat} {A : Nat → gs_P} {j j' i i' : Nat} (hj : j + 2 ≤ j') (hj' : j' + 1 < m) (h1 : 1 ≤ i) (h2 : i < n) (h3 : 1 ≤ i') (h4 : i' < n) (c1 : gs_can i (A j) (A (j + 1))) (c2 : gs_can i' (A j') (A (j' + 1))) : gs_st n m (gs_mv A j i) (gs_mv (gs_mv A j i) j' i') ∧ gs_st n m (gs_mv A j' i') (gs_mv (gs_mv A j i) j' i') := by
  constructor
  · refine ⟨j', i', hj', h3, h4, ?_, rfl⟩
    rw [gs_mv_n A i (by omega) (by omega), gs_mv_n A i (by omega) (by omega)]; exact c2
  · refine ⟨j, i, by omega, h1, h2, ?_, ?_⟩
    · rw [gs_mv_n A i' (by omega) (by omega), gs_mv_n A i' (by omega) (by omega)]; exact c1
    · funext k
      by_cases e0 : k = j
      · subst e0
        rw [gs_mv_n _ _ (by omega) (by omega), gs_mv_0, gs_mv_0, gs_mv_n _ _ (by omega) (by omega)]
      · by_cases e1 : k = j + 1
        · subst e1
          rw [gs_mv_n _ _ (by omega) (by omega), gs_mv_1, gs_mv_1, gs_mv_n _ _ (by omega) (by omega)]
        · rw [gs_mv_n (gs_mv A j' i') i e0 e1]
          by_cases e2 : k = j'
          · subst e2
            rw [gs_mv_0, gs_mv_0, gs_mv_n _ _ (by omega) (by omega)]
          · by_cases e3 : k = j' + 1
            · subst e3
              rw [gs_mv_1, gs_mv_1, gs_mv_n _ _ (by omega) (by omega)]
            · rw [gs_mv_n _ _ e2 e3, gs_mv_n _ _ e2 e3, gs_mv_n _ _ e0 e1]
theorem gs_lc {n m : Nat} {A B C : Nat → gs_P} (hA : gs_al n m A) (hB : gs_st n m A B) (hC : gs_st n m A C) : ∃ d D, gs_to n m d B D ∧ gs_to n m d C D := by
  obtain ⟨j, i, hj, h1, h2, c1, rfl⟩ := hB
  obtain ⟨j', i', hj', h3, h4, c2, rfl⟩ := hC
  rcases (show j = j' ∨ j' = j + 1 ∨ j = j' + 1 ∨ j + 2 ≤ j' ∨ j' + 2 ≤ j by omega) with e | e | e | e | e
  · subst e
    rcases (show i = i' ∨ i' = i + 1 ∨ i = i' + 1 ∨ i + 2 ≤ i' ∨ i' + 2 ≤ i by omega) with e | e | e | e | e
    · subst e; exact ⟨0, _, rfl, rfl⟩
    · subst e
      obtain ⟨D, x, y⟩ := gs_lc_near hj h1 h4 c1 c2
      exact ⟨2, D, x, y⟩
    · subst e
      obtain ⟨D, x, y⟩ := gs_lc_near hj h3 h2 c2 c1
      exact ⟨2, D, y, x⟩
    · have q := gs_lc_far hj h1 h4 e c1 c2
      exact ⟨1, _, gs_to_1 q.1, gs_to_1 q.2⟩
    · have q := gs_lc_far hj h3 h2 e c2 c1
      exact ⟨1, _, gs_to_1 q.2, gs_to_1 q.1⟩
  · subst e
    have q := gs_lc_next hA (by omega) h1 h2 h3 h4 c1 c2
    exact ⟨1, _, gs_to_1 q.1, gs_to_1 q.2⟩
  · subst e
    have q := gs_lc_next hA (by omega) h3 h4 h1 h2 c2 c1
    exact ⟨1, _, gs_to_1 q.2, gs_to_1 q.1⟩
  · have q := gs_lc_apart e hj' h1 h2 h3 h4 c1 c2
    exact ⟨1, _, gs_to_1 q.1, gs_to_1 q.2⟩
  · have q := gs_lc_apart e hj h3 h4 h1 h2 c2 c1
    exact ⟨1, _, gs_to_1 q.2, gs_to_1 q.1⟩
theorem gs_ir_no {n m : Nat} {A B : Nat → gs_P} (h : gs_ir n m A) (hs : gs_st n m A B) : False := by
  obtain ⟨j, i, hj, h1, h2, c1, -⟩ := hs
  exact h j i hj h1 h2 c1
/-- every move from A is on a way to the end that one way from A has, and as long -/
theorem gs_conf {n m : Nat} {E : Nat → gs_P} (hE : gs_ir n m E) : ∀ (k : Nat) {A B : Nat → gs_P} {d : Nat}, gs_al n m A → gs_to n m k A E → gs_to n m d A B → ∃ r, k = d + r ∧ gs_to n m r B E := by
  intro k
  induction k using Nat.strongRecOn with
  | ind k ih =>
    intro A B d hA hk hd
    match d, hd with
    | 0, hd =>
      have e : A = B := hd
      subst e
      exact ⟨k, by omega, hk⟩
    | d + 1, ⟨C, hs, hd⟩ =>
      match k, hk, ih with
      | 0, hk, _ =>
        have e : A = E := hk
        subst e
        exact absurd hs (fun q => gs_ir_no hE q)
      | k + 1, ⟨F, hf, hk⟩, ih =>
        obtain ⟨c, G, g1, g2⟩ := gs_lc hA hf hs
        obtain ⟨r, er, hr⟩ := ih k (by omega) (gs_al_st hA hf) hk g1
        have hC : gs_to n m k C E := by rw [er]; exact gs_to_app c g2 hr
        obtain ⟨r2, er2, hr2⟩ := ih k (by omega) (gs_al_st hA hs) hC hd
        exact ⟨r2, by omega, hr2⟩
/-- two ends of moves from one start are the same -/
theorem gs_uniq {n m k l : Nat} {A B C : Nat → gs_P} (hA : gs_al n m A) (hB : gs_ir n m B) (hC : gs_ir n m C) (h1 : gs_to n m k A B) (h2 : gs_to n m l A C) : B = C := by
  obtain ⟨r, -, hr⟩ := gs_conf hB k hA h1 h2
  match r, hr with
  | 0, e => exact (show C = B from e).symm
  | r + 1, ⟨D, hs, _⟩ => exact absurd hs (fun q => gs_ir_no hC q)
end
section
/-! Moves on a pair of simple braids; what a whole row of them does; the domino rule; and the number of crossings, which each move lowers by one on the right. -/
def gs_pr (n : Nat) : Nat → gs_P → gs_P → gs_P → gs_P → Prop
  | 0, S, T, S', T' => S = S' ∧ T = T'
  | k + 1, S, T, S', T' => ∃ i, 1 ≤ i ∧ i < n ∧ gs_can i S T ∧ gs_pr n k (gs_L i S) (gs_R i T) S' T'
theorem gs_pr_app {n : Nat} : ∀ (k : Nat) {l : Nat} {S T S1 T1 S2 T2 : gs_P}, gs_pr n k S T S1 T1 → gs_pr n l S1 T1 S2 T2 → gs_pr n (k + l) S T S2 T2
  | 0, l, S, T, S1, T1, S2, T2, h, h2 => by
    obtain ⟨rfl, rfl⟩ := h
    rw [Nat.zero_add]; exact h2
  | k + 1, l, S, T, S1, T1, S2, T2, ⟨i, h1, h2, hc, h⟩, h3 => by
    rw [show k + 1 + l = (k + l) + 1 by omega]
    exact ⟨i, h1, h2, hc, gs_pr_app k h h3⟩
theorem gs_pr_ok {n : Nat} : ∀ (k : Nat) {S T S1 T1 : gs_P}, gs_ok n S → gs_ok n T → gs_pr n k S T S1 T1 → gs_ok n S1 ∧ gs_ok n T1
  | 0, S, T, S1, T1, h1, h2, h => by
    obtain ⟨rfl, rfl⟩ := h
    exact ⟨h1, h2⟩
  | k + 1, S, T, S1, T1, o1, o2, ⟨i, h1, h2, _, h⟩ => gs_pr_ok k (gs_ok_L o1 h1 h2) (gs_ok_R o2 h1 h2) h
theorem gs_pr_way {n : Nat} : ∀ (k : Nat) {S T S' T' : gs_P}, gs_pr n k S T S' T' → ∃ a b : Nat → Nat, (∀ p, b (a p) = p) ∧ (∀ p, a (b p) = p) ∧ (∀ p, S'.1 p = a (S.1 p)) ∧ (∀ q, S'.2 q = S.2 (b q)) ∧ (∀ p, T'.1 p = T.1 (b p)) ∧ (∀ q, T'.2 q = a (T.2 q)) ∧ ∀ x y, x < y → a y < a x → S.2 x < S.2 y ∧ T.1 y < T.1 x
  | 0, S, T, S', T', h => by
    obtain ⟨rfl, rfl⟩ := h
    exact ⟨id, id, fun _ => rfl, fun _ => rfl, fun _ => rfl, fun _ => rfl, fun _ => rfl, fun _ => rfl, fun x y h1 h2 => absurd h2 (by simp only [id]; omega)⟩
  | k + 1, S, T, S', T', ⟨i, _, _, hc, h⟩ => by
    obtain ⟨a, b, ba, ab, e1, e2, e3, e4, hw⟩ := gs_pr_way k h
    refine ⟨fun p => a (gs_sw i p), fun p => gs_sw i (b p), fun p => ?_, fun p => ?_, e1, e2, e3, e4, fun x y hxy hl => ?_⟩
    · show gs_sw i (b (a (gs_sw i p))) = p
      rw [ba, gs_sw_sw]
    · show a (gs_sw i (gs_sw i (b p))) = p
      rw [gs_sw_sw, ab]
    · by_cases hq : x = i ∧ y = i + 1
      · rw [hq.1, hq.2]; exact hc
      · have := hw (gs_sw i x) (gs_sw i y) (gs_sw_lt hxy hq) hl
        have h1 : S.2 (gs_sw i (gs_sw i x)) < S.2 (gs_sw i (gs_sw i y)) := this.1
        have h2 : T.1 (gs_sw i (gs_sw i y)) < T.1 (gs_sw i (gs_sw i x)) := this.2
        rw [gs_sw_sw, gs_sw_sw] at h1 h2
        exact ⟨h1, h2⟩
def gs_lw (n : Nat) (S T : gs_P) : Prop := ∀ i, 1 ≤ i → i < n → ¬ gs_can i S T
theorem gs_edge (P : Nat → Prop) (p : Nat) (hp : P p) : ∀ d, ¬ P (p + d) → ∃ x, p ≤ x ∧ x < p + d ∧ P x ∧ ¬ P (x + 1)
  | 0, h => absurd hp h
  | d + 1, h => by
    by_cases hd : P (p + d)
    · exact ⟨p + d, by omega, by omega, hd, h⟩
    · obtain ⟨x, h1, h2, h3, h4⟩ := gs_edge P p hp d hd
      exact ⟨x, h1, by omega, h3, h4⟩
theorem gs_domino {n k l : Nat} {S1 S2 T S2' T' S1' S2'' : gs_P} (o2 : gs_ok n S2) (o2' : gs_ok n S2') (hw : gs_lw n S1 S2) (r1 : gs_pr n k S2 T S2' T') (hw1 : gs_lw n S2' T') (r2 : gs_pr n l S1 S2' S1' S2'') : gs_lw n S2'' T' := by
  intro i h1 h2 hc
  obtain ⟨a1, b1, ba1, ab1, e11, e12, e13, e14, w1⟩ := gs_pr_way k r1
  obtain ⟨a2, b2, ba2, ab2, e21, e22, e23, e24, w2⟩ := gs_pr_way l r2
  have fq : S2'.1 (S2'.2 i) = i := o2'.2.1 i
  have fp : S2'.1 (S2'.2 (i + 1)) = i + 1 := o2'.2.1 (i + 1)
  generalize hq : S2'.2 i = q at fq
  generalize hp : S2'.2 (i + 1) = p at fp
  have hpq : p < q := by
    have hn := hw1 i h1 h2
    unfold gs_can at hn
    rw [hq, hp] at hn
    have hne : p ≠ q := fun e => by rw [e, fq] at fp; omega
    have hc2 := hc.2
    omega
  have hinj : ∀ u v, S2'.1 u = S2'.1 v → u = v := fun u v e => by
    have := congrArg S2'.2 e
    rwa [o2'.1, o2'.1] at this
  have ha2 : a2 q < a2 p := by
    have := hc.1
    rw [e24, e24, hq, hp] at this
    exact this
  have eT1 : T'.1 (i + 1) = T.1 (S2.1 p) := by rw [e13, ← fp, e11, ba1]
  have eT0 : T'.1 i = T.1 (S2.1 q) := by rw [e13, ← fq, e11, ba1]
  have hne2 : S2.1 p ≠ S2.1 q := fun e => by
    have := congrArg S2.2 e
    rw [o2.1, o2.1] at this
    omega
  have hf : S2.1 q < S2.1 p := by
    rcases Nat.lt_or_gt_of_ne hne2 with hlt | hgt
    · have := (w1 (S2.1 p) (S2.1 q) hlt (by rw [← e11, ← e11, fp, fq]; omega)).2
      have hc2 := hc.2
      rw [eT1, eT0] at hc2
      omega
    · exact hgt
  have pf : ∀ u v, u < v → S2.1 v < S2.1 u → S2'.1 v < S2'.1 u := by
    intro u v huv hlt
    rcases Nat.lt_trichotomy (S2'.1 v) (S2'.1 u) with h | h | h
    · exact h
    · exact absurd (hinj _ _ h) (by omega)
    · have := (w1 (S2.1 v) (S2.1 u) hlt (by rw [← e11, ← e11]; exact h)).1
      rw [o2.1, o2.1] at this
      omega
  have pa : ∀ u v, u < v → a2 v < a2 u → S2'.1 v < S2'.1 u := fun u v huv hlt => (w2 u v huv hlt).2
  have hp1 : 1 ≤ p ∧ p ≤ n := by
    refine Decidable.byContradiction fun hn => ?_
    have := o2'.2.2 p (by omega)
    omega
  have hq1 : 1 ≤ q ∧ q ≤ n := by
    refine Decidable.byContradiction fun hn => ?_
    have := o2'.2.2 q (by omega)
    omega
  obtain ⟨x, x1, x2, x3, x4⟩ := gs_edge (fun x => x = p ∨ i + 1 < S2'.1 x) p (Or.inl rfl) (q - p) (by
    rw [show p + (q - p) = q by omega, fq]
    omega)
  have x5 : x + 1 = q ∨ S2'.1 (x + 1) < i := by
    by_cases e : x + 1 = q
    · exact Or.inl e
    · right
      have n1 : S2'.1 (x + 1) ≠ i := fun e2 => e (hinj _ _ (by rw [e2, fq]))
      have n2 : S2'.1 (x + 1) ≠ i + 1 := fun e2 => by
        have := hinj (x + 1) p (by rw [e2, fp])
        omega
      omega
  have key : ∀ φ : Nat → Nat, φ q < φ p → (∀ u v, u < v → φ v < φ u → S2'.1 v < S2'.1 u) → φ (x + 1) < φ x := by
    intro φ h0 hφ
    have c1 : φ p ≤ φ x := by
      rcases x3 with e | e
      · rw [e]; exact Nat.le_refl _
      · refine Nat.le_of_not_lt fun hlt => ?_
        have := hφ p x (by
          rcases Nat.lt_or_ge p x with h | h
          · exact h
          · have : x = p := by omega
            rw [this, fp] at e
            omega) hlt
        omega
    have c2 : φ (x + 1) ≤ φ q := by
      rcases x5 with e | e
      · rw [e]; exact Nat.le_refl _
      · refine Nat.le_of_not_lt fun hlt => ?_
        have := hφ (x + 1) q (by
          rcases Nat.lt_or_ge (x + 1) q with h | h
          · exact h
          · have : x + 1 = q := by omega
            rw [this, fq] at e
            omega) hlt
        omega
    omega
  have k1 := key a2 ha2 pa
  have k2 := key S2.1 hf pf
  exact hw x (by omega) (by omega) ⟨(w2 x (x + 1) (by omega) k1).1, k2⟩
/-! the number of crossings -/
def gs_sum (h : Nat → Nat) : Nat → Nat
  | 0 => 0
  | k + 1 => gs_sum h k + h (k + 1)
theorem gs_sum_congr {h g : Nat → Nat} : ∀ n, (∀ p, 1 ≤ p → p ≤ n → h p = g p) → gs_sum h n = gs_sum g n
  | 0, _ => rfl
  | n + 1, e => by
    show gs_sum h n + h (n + 1) = gs_sum g n + g (n + 1)
    rw [gs_sum_congr n (fun p h1 h2 => e p h1 (by omega)), e (n + 1) (by omega) (by omega)]
theorem gs_sum_one {h g : Nat → Nat} {k : Nat} (h1 : 1 ≤ k) (e : ∀ p, p ≠ k → h p = g p) (ek : h k = g k + 1) : ∀ n, k ≤ n → gs_sum h n = gs_sum g n + 1
  | 0, hk => absurd hk (by omega)
  | n + 1, hk => by
    show gs_sum h n + h (n + 1) = gs_sum g n + g (n + 1) + 1
    by_cases q : k = n + 1
    · subst q
      rw [gs_sum_congr n (fun p _ h2 => e p (by omega)), ek]
      omega
    · rw [gs_sum_one h1 e ek n (by omega), e (n + 1) (by omega)]
      omega
theorem gs_sum_sw {h : Nat → Nat} {i : Nat} (h1 : 1 ≤ i) : ∀ n, i < n → gs_sum (fun p => h (gs_sw i p)) n = gs_sum h n
  | 0, hi => absurd hi (by omega)
  | n + 1, hi => by
    show gs_sum (fun p => h (gs_sw i p)) n + h (gs_sw i (n + 1)) = gs_sum h n + h (n + 1)
    by_cases q : i < n
    · rw [gs_sum_sw h1 n q, gs_sw_n (by omega) (by omega)]
    · obtain ⟨m, rfl⟩ : ∃ m, n = m + 1 := ⟨n - 1, by omega⟩
      obtain rfl : i = m + 1 := by omega
      show gs_sum (fun p => h (gs_sw (m + 1) p)) m + h (gs_sw (m + 1) (m + 1)) + h (gs_sw (m + 1) (m + 1 + 1)) = gs_sum h m + h (m + 1) + h (m + 1 + 1)
      rw [gs_sw_a, gs_sw_b, gs_sum_congr (g := h) m (fun p _ h2 => by rw [gs_sw_n (by omega) (by omega)])]
      omega
theorem gs_sum_le {h g : Nat → Nat} : ∀ n, (∀ p, 1 ≤ p → p ≤ n → h p ≤ g p) → gs_sum h n ≤ gs_sum g n
  | 0, _ => Nat.le_refl _
  | n + 1, e => by
    show gs_sum h n + h (n + 1) ≤ gs_sum g n + g (n + 1)
    have := gs_sum_le n (fun p h1 h2 => e p h1 (by omega))
    have := e (n + 1) (by omega) (by omega)
    omega
def gs_x (f : Nat → Nat) (p q : Nat) : Nat := if p < q ∧ f q < f p then 1 else 0
def gs_inv (n : Nat) (f : Nat → Nat) : Nat := gs_sum (fun q => gs_sum (fun p => gs_x f p q) n) n
theorem gs_inv_R {n i : Nat} {f : Nat → Nat} (h1 : 1 ≤ i) (h2 : i < n) (hd : f (i + 1) < f i) : gs_inv n f = gs_inv n (fun p => f (gs_sw i p)) + 1 := by
  have e : gs_inv n (fun p => f (gs_sw i p)) = gs_sum (fun q => gs_sum (fun p => if gs_sw i p < gs_sw i q ∧ f q < f p then 1 else 0) n) n := by
    have s1 : ∀ q, gs_sum (fun p => gs_x (fun p => f (gs_sw i p)) p q) n = gs_sum (fun p => if gs_sw i p < gs_sw i (gs_sw i q) ∧ f (gs_sw i q) < f p then 1 else 0) n := by
      intro q
      rw [← gs_sum_sw (h := fun p => if gs_sw i p < gs_sw i (gs_sw i q) ∧ f (gs_sw i q) < f p then 1 else 0) h1 n h2]
      refine gs_sum_congr n (fun p _ _ => ?_)
      show (if p < q ∧ f (gs_sw i q) < f (gs_sw i p) then 1 else 0) = _
      rw [gs_sw_sw, gs_sw_sw]
    unfold gs_inv
    rw [gs_sum_congr n (fun q _ _ => s1 q)]
    exact gs_sum_sw (h := fun q => gs_sum (fun p => if gs_sw i p < gs_sw i q ∧ f q < f p then 1 else 0) n) h1 n h2
  rw [e]
  unfold gs_inv
  refine gs_sum_one (k := i + 1) (by omega) (fun q hq => ?_) ?_ n h2
  · refine gs_sum_congr n (fun p _ _ => ?_)
    show (if p < q ∧ f q < f p then 1 else 0) = _
    by_cases hx : p = i + 1 ∧ q = i
    · rw [if_neg (by omega), if_neg (by rw [hx.1, hx.2]; omega)]
    · have hiff : p < q ↔ gs_sw i p < gs_sw i q := by
        have c1 := gs_sw_cases i p
        have c2 := gs_sw_cases i q
        omega
      simp only [hiff]
  · refine gs_sum_one (k := i) h1 (fun p hp => ?_) ?_ n (by omega)
    · show (if p < i + 1 ∧ f (i + 1) < f p then 1 else 0) = _
      have hiff : p < i + 1 ↔ gs_sw i p < gs_sw i (i + 1) := by
        have c1 := gs_sw_cases i p
        have c2 := gs_sw_cases i (i + 1)
        omega
      simp only [hiff]
    · show (if i < i + 1 ∧ f (i + 1) < f i then 1 else 0) = (if gs_sw i i < gs_sw i (i + 1) ∧ f (i + 1) < f i then 1 else 0) + 1
      rw [if_pos ⟨by omega, hd⟩, if_neg (by rw [gs_sw_a, gs_sw_b]; omega)]
theorem gs_inv_row (f : Nat → Nat) (q : Nat) : ∀ n, gs_sum (fun p => gs_x f p q) n ≤ n ∧ gs_sum (fun p => gs_x f p q) n ≤ q - 1
  | 0 => ⟨Nat.le_refl _, Nat.zero_le _⟩
  | n + 1 => by
    have ih := gs_inv_row f q n
    show gs_sum (fun p => gs_x f p q) n + gs_x f (n + 1) q ≤ n + 1 ∧ gs_sum (fun p => gs_x f p q) n + gs_x f (n + 1) q ≤ q - 1
    unfold gs_x at ih ⊢
    by_cases h : n + 1 < q ∧ f q < f (n + 1)
    · rw [if_pos h]; omega
    · rw [if_neg h]; omega
theorem gs_inv_28 {n : Nat} (h : n ≤ 8) (f : Nat → Nat) : gs_inv n f ≤ 28 := by
  refine Nat.le_trans (gs_sum_le n (fun q _ _ => (gs_inv_row f q n).2)) ?_
  have : ∀ n, n < 9 → gs_sum (fun q => q - 1) n ≤ 28 := by decide
  exact this n (by omega)
theorem gs_inv_pr {n : Nat} : ∀ (k : Nat) {S T S' T' : gs_P}, gs_pr n k S T S' T' → gs_inv n T.1 = gs_inv n T'.1 + k
  | 0, S, T, S', T', h => by
    obtain ⟨rfl, rfl⟩ := h
    rfl
  | k + 1, S, T, S', T', ⟨i, h1, h2, hc, h⟩ => by
    have e1 := gs_inv_pr k h
    have e2 := gs_inv_R (f := T.1) h1 h2 hc.2
    have e3 : gs_inv n (gs_R i T).1 = gs_inv n (fun p => T.1 (gs_sw i p)) := rfl
    omega
end
section
-- ===== PART A: goes FIRST, ahead of the names: the tables' words, and 'selects' of the private methods out of them =====
/-- a private method of a class that the tables say can be made, by its rows of tables_1 -/
def lw_okq (q : MethodName × Nat) : Prop := (q.1.cls ≠ "java/lang/invoke/MethodHandle" ∧ q.1.cls ≠ "java/lang/invoke/VarHandle") ∧ Cond.instantiable q.1.cls q.2 ∈ tables_1 ∧ Cond.privateMethod q.1 ∈ tables_1 ∧ Cond.instanceMethod q.1 ∈ tables_1
theorem lw_p0 : lw_okq (⟨"BraidWords$Word", "canPass", "(I)Z"⟩, 3) := ⟨⟨by decide +kernel, by decide +kernel⟩, List.mem_of_getElem? (i := 20) (by decide +kernel), List.mem_of_getElem? (i := 212) (by decide +kernel), List.mem_of_getElem? (i := 213) (by decide +kernel)⟩
theorem lw_p1 : lw_okq (⟨"BraidWords", "formOf", "(I)LBraidWords$NormalForm;"⟩, 2) := ⟨⟨by decide +kernel, by decide +kernel⟩, List.mem_of_getElem? (i := 9) (by decide +kernel), List.mem_of_getElem? (i := 236) (by decide +kernel), List.mem_of_getElem? (i := 237) (by decide +kernel)⟩
theorem lw_p2 : lw_okq (⟨"BraidWords$NormalForm", "appendSimple", "(IZ)V"⟩, 6) := ⟨⟨by decide +kernel, by decide +kernel⟩, List.mem_of_getElem? (i := 42) (by decide +kernel), List.mem_of_getElem? (i := 255) (by decide +kernel), List.mem_of_getElem? (i := 256) (by decide +kernel)⟩
theorem lw_p3 : lw_okq (⟨"BraidWords$NormalForm", "settle", "()V"⟩, 6) := ⟨⟨by decide +kernel, by decide +kernel⟩, List.mem_of_getElem? (i := 42) (by decide +kernel), List.mem_of_getElem? (i := 260) (by decide +kernel), List.mem_of_getElem? (i := 261) (by decide +kernel)⟩
theorem lw_p4 : lw_okq (⟨"BraidWords$NormalForm", "moveOver", "([I[I)Z"⟩, 6) := ⟨⟨by decide +kernel, by decide +kernel⟩, List.mem_of_getElem? (i := 42) (by decide +kernel), List.mem_of_getElem? (i := 264) (by decide +kernel), List.mem_of_getElem? (i := 265) (by decide +kernel)⟩
theorem lw_p5 : lw_okq (⟨"BraidWords$NormalForm", "sweepOver", "([I)Z"⟩, 6) := ⟨⟨by decide +kernel, by decide +kernel⟩, List.mem_of_getElem? (i := 42) (by decide +kernel), List.mem_of_getElem? (i := 268) (by decide +kernel), List.mem_of_getElem? (i := 269) (by decide +kernel)⟩
theorem lw_p6 : lw_okq (⟨"BraidWords$NormalForm", "isTurn", "([I)Z"⟩, 6) := ⟨⟨by decide +kernel, by decide +kernel⟩, List.mem_of_getElem? (i := 42) (by decide +kernel), List.mem_of_getElem? (i := 272) (by decide +kernel), List.mem_of_getElem? (i := 273) (by decide +kernel)⟩
theorem lw_p7 : lw_okq (⟨"BraidWords$NormalForm", "isNone", "([I)Z"⟩, 6) := ⟨⟨by decide +kernel, by decide +kernel⟩, List.mem_of_getElem? (i := 42) (by decide +kernel), List.mem_of_getElem? (i := 276) (by decide +kernel), List.mem_of_getElem? (i := 277) (by decide +kernel)⟩
theorem lw_p8 : lw_okq (⟨"BraidWords$Word", "labelAbove", "(II)I"⟩, 3) := ⟨⟨by decide +kernel, by decide +kernel⟩, List.mem_of_getElem? (i := 20) (by decide +kernel), List.mem_of_getElem? (i := 312) (by decide +kernel), List.mem_of_getElem? (i := 313) (by decide +kernel)⟩
theorem lw_p9 : lw_okq (⟨"BraidWords$Word", "madeLabel", "(II)I"⟩, 3) := ⟨⟨by decide +kernel, by decide +kernel⟩, List.mem_of_getElem? (i := 20) (by decide +kernel), List.mem_of_getElem? (i := 316) (by decide +kernel), List.mem_of_getElem? (i := 317) (by decide +kernel)⟩
theorem lw_p10 : lw_okq (⟨"BraidWords$Word", "labelBelow", "(II)I"⟩, 3) := ⟨⟨by decide +kernel, by decide +kernel⟩, List.mem_of_getElem? (i := 20) (by decide +kernel), List.mem_of_getElem? (i := 320) (by decide +kernel), List.mem_of_getElem? (i := 321) (by decide +kernel)⟩
theorem lw_p11 : lw_okq (⟨"BraidWordsModel", "letterAt", "(II)I"⟩, 19) := ⟨⟨by decide +kernel, by decide +kernel⟩, List.mem_of_getElem? (i := 324) (by decide +kernel), List.mem_of_getElem? (i := 403) (by decide +kernel), List.mem_of_getElem? (i := 404) (by decide +kernel)⟩
theorem lw_p12 : lw_okq (⟨"BraidWordsModel", "endOf", "(II)I"⟩, 19) := ⟨⟨by decide +kernel, by decide +kernel⟩, List.mem_of_getElem? (i := 324) (by decide +kernel), List.mem_of_getElem? (i := 411) (by decide +kernel), List.mem_of_getElem? (i := 412) (by decide +kernel)⟩
theorem lw_p13 : lw_okq (⟨"BraidWordsModel", "signs", "(I)I"⟩, 19) := ⟨⟨by decide +kernel, by decide +kernel⟩, List.mem_of_getElem? (i := 324) (by decide +kernel), List.mem_of_getElem? (i := 422) (by decide +kernel), List.mem_of_getElem? (i := 423) (by decide +kernel)⟩
theorem lw_p14 : lw_okq (⟨"BraidWordsModel", "rounds", "(I)I"⟩, 19) := ⟨⟨by decide +kernel, by decide +kernel⟩, List.mem_of_getElem? (i := 324) (by decide +kernel), List.mem_of_getElem? (i := 426) (by decide +kernel), List.mem_of_getElem? (i := 427) (by decide +kernel)⟩
theorem lw_p15 : lw_okq (⟨"BraidWordsModel", "untouched", "(I)I"⟩, 19) := ⟨⟨by decide +kernel, by decide +kernel⟩, List.mem_of_getElem? (i := 324) (by decide +kernel), List.mem_of_getElem? (i := 430) (by decide +kernel), List.mem_of_getElem? (i := 431) (by decide +kernel)⟩
def lw_privs_1 : List (MethodName × Nat) := [(⟨"BraidWords$Word", "canPass", "(I)Z"⟩, 3), (⟨"BraidWords", "formOf", "(I)LBraidWords$NormalForm;"⟩, 2), (⟨"BraidWords$NormalForm", "appendSimple", "(IZ)V"⟩, 6), (⟨"BraidWords$NormalForm", "settle", "()V"⟩, 6), (⟨"BraidWords$NormalForm", "moveOver", "([I[I)Z"⟩, 6), (⟨"BraidWords$NormalForm", "sweepOver", "([I)Z"⟩, 6), (⟨"BraidWords$NormalForm", "isTurn", "([I)Z"⟩, 6), (⟨"BraidWords$NormalForm", "isNone", "([I)Z"⟩, 6), (⟨"BraidWords$Word", "labelAbove", "(II)I"⟩, 3), (⟨"BraidWords$Word", "madeLabel", "(II)I"⟩, 3), (⟨"BraidWords$Word", "labelBelow", "(II)I"⟩, 3), (⟨"BraidWordsModel", "letterAt", "(II)I"⟩, 19), (⟨"BraidWordsModel", "endOf", "(II)I"⟩, 19), (⟨"BraidWordsModel", "signs", "(I)I"⟩, 19), (⟨"BraidWordsModel", "rounds", "(I)I"⟩, 19), (⟨"BraidWordsModel", "untouched", "(I)I"⟩, 19)]
theorem lw_r1 : ∀ q ∈ lw_privs_1, lw_okq q := List.forall_mem_cons.mpr ⟨lw_p0, List.forall_mem_cons.mpr ⟨lw_p1, List.forall_mem_cons.mpr ⟨lw_p2, List.forall_mem_cons.mpr ⟨lw_p3, List.forall_mem_cons.mpr ⟨lw_p4, List.forall_mem_cons.mpr ⟨lw_p5, List.forall_mem_cons.mpr ⟨lw_p6, List.forall_mem_cons.mpr ⟨lw_p7, List.forall_mem_cons.mpr ⟨lw_p8, List.forall_mem_cons.mpr ⟨lw_p9, List.forall_mem_cons.mpr ⟨lw_p10, List.forall_mem_cons.mpr ⟨lw_p11, List.forall_mem_cons.mpr ⟨lw_p12, List.forall_mem_cons.mpr ⟨lw_p13, List.forall_mem_cons.mpr ⟨lw_p14, List.forall_mem_cons.mpr ⟨lw_p15, fun _ h => absurd h List.not_mem_nil⟩⟩⟩⟩⟩⟩⟩⟩⟩⟩⟩⟩⟩⟩⟩⟩
theorem lw_p16 : lw_okq (⟨"BraidWordsModel", "remove", "(II)V"⟩, 19) := ⟨⟨by decide +kernel, by decide +kernel⟩, List.mem_of_getElem? (i := 324) (by decide +kernel), List.mem_of_getElem? (i := 442) (by decide +kernel), List.mem_of_getElem? (i := 443) (by decide +kernel)⟩
theorem lw_p17 : lw_okq (⟨"BraidWordsModel", "know", "(I)V"⟩, 19) := ⟨⟨by decide +kernel, by decide +kernel⟩, List.mem_of_getElem? (i := 324) (by decide +kernel), List.mem_of_getElem? (i := 470) (by decide +kernel), List.mem_of_getElem? (i := 471) (by decide +kernel)⟩
theorem lw_p18 : lw_okq (⟨"BraidWordsModel", "makePositive", "(I)V"⟩, 19) := ⟨⟨by decide +kernel, by decide +kernel⟩, List.mem_of_getElem? (i := 324) (by decide +kernel), List.mem_of_getElem? (i := 474) (by decide +kernel), List.mem_of_getElem? (i := 475) (by decide +kernel)⟩
theorem lw_p19 : lw_okq (⟨"BraidWordsModel", "writeSimple", "(I)V"⟩, 19) := ⟨⟨by decide +kernel, by decide +kernel⟩, List.mem_of_getElem? (i := 324) (by decide +kernel), List.mem_of_getElem? (i := 478) (by decide +kernel), List.mem_of_getElem? (i := 479) (by decide +kernel)⟩
theorem lw_p20 : lw_okq (⟨"BraidWordsModel", "takeSimple", "(I)V"⟩, 19) := ⟨⟨by decide +kernel, by decide +kernel⟩, List.mem_of_getElem? (i := 324) (by decide +kernel), List.mem_of_getElem? (i := 482) (by decide +kernel), List.mem_of_getElem? (i := 483) (by decide +kernel)⟩
theorem lw_p21 : lw_okq (⟨"BraidWordsModel", "clearChain", "()V"⟩, 19) := ⟨⟨by decide +kernel, by decide +kernel⟩, List.mem_of_getElem? (i := 324) (by decide +kernel), List.mem_of_getElem? (i := 486) (by decide +kernel), List.mem_of_getElem? (i := 487) (by decide +kernel)⟩
theorem lw_p22 : lw_okq (⟨"BraidWordsModel", "writeTurn", "(I)V"⟩, 19) := ⟨⟨by decide +kernel, by decide +kernel⟩, List.mem_of_getElem? (i := 324) (by decide +kernel), List.mem_of_getElem? (i := 490) (by decide +kernel), List.mem_of_getElem? (i := 491) (by decide +kernel)⟩
theorem lw_p23 : lw_okq (⟨"BraidWordsModel", "insert", "(II)I"⟩, 19) := ⟨⟨by decide +kernel, by decide +kernel⟩, List.mem_of_getElem? (i := 324) (by decide +kernel), List.mem_of_getElem? (i := 494) (by decide +kernel), List.mem_of_getElem? (i := 495) (by decide +kernel)⟩
theorem lw_p24 : lw_okq (⟨"BraidWordsModel", "turnRight", "()V"⟩, 19) := ⟨⟨by decide +kernel, by decide +kernel⟩, List.mem_of_getElem? (i := 324) (by decide +kernel), List.mem_of_getElem? (i := 498) (by decide +kernel), List.mem_of_getElem? (i := 499) (by decide +kernel)⟩
theorem lw_p25 : lw_okq (⟨"BraidWordsModel", "take", "(I)V"⟩, 19) := ⟨⟨by decide +kernel, by decide +kernel⟩, List.mem_of_getElem? (i := 324) (by decide +kernel), List.mem_of_getElem? (i := 502) (by decide +kernel), List.mem_of_getElem? (i := 503) (by decide +kernel)⟩
theorem lw_p26 : lw_okq (⟨"BraidWordsModel", "turnLeft", "()V"⟩, 19) := ⟨⟨by decide +kernel, by decide +kernel⟩, List.mem_of_getElem? (i := 324) (by decide +kernel), List.mem_of_getElem? (i := 509) (by decide +kernel), List.mem_of_getElem? (i := 510) (by decide +kernel)⟩
theorem lw_p27 : lw_okq (⟨"BraidWordsModel", "close", "(I)V"⟩, 19) := ⟨⟨by decide +kernel, by decide +kernel⟩, List.mem_of_getElem? (i := 324) (by decide +kernel), List.mem_of_getElem? (i := 525) (by decide +kernel), List.mem_of_getElem? (i := 526) (by decide +kernel)⟩
def lw_privs_2 : List (MethodName × Nat) := [(⟨"BraidWordsModel", "remove", "(II)V"⟩, 19), (⟨"BraidWordsModel", "know", "(I)V"⟩, 19), (⟨"BraidWordsModel", "makePositive", "(I)V"⟩, 19), (⟨"BraidWordsModel", "writeSimple", "(I)V"⟩, 19), (⟨"BraidWordsModel", "takeSimple", "(I)V"⟩, 19), (⟨"BraidWordsModel", "clearChain", "()V"⟩, 19), (⟨"BraidWordsModel", "writeTurn", "(I)V"⟩, 19), (⟨"BraidWordsModel", "insert", "(II)I"⟩, 19), (⟨"BraidWordsModel", "turnRight", "()V"⟩, 19), (⟨"BraidWordsModel", "take", "(I)V"⟩, 19), (⟨"BraidWordsModel", "turnLeft", "()V"⟩, 19), (⟨"BraidWordsModel", "close", "(I)V"⟩, 19)]
theorem lw_r2 : ∀ q ∈ lw_privs_2, lw_okq q := List.forall_mem_cons.mpr ⟨lw_p16, List.forall_mem_cons.mpr ⟨lw_p17, List.forall_mem_cons.mpr ⟨lw_p18, List.forall_mem_cons.mpr ⟨lw_p19, List.forall_mem_cons.mpr ⟨lw_p20, List.forall_mem_cons.mpr ⟨lw_p21, List.forall_mem_cons.mpr ⟨lw_p22, List.forall_mem_cons.mpr ⟨lw_p23, List.forall_mem_cons.mpr ⟨lw_p24, List.forall_mem_cons.mpr ⟨lw_p25, List.forall_mem_cons.mpr ⟨lw_p26, List.forall_mem_cons.mpr ⟨lw_p27, fun _ h => absurd h List.not_mem_nil⟩⟩⟩⟩⟩⟩⟩⟩⟩⟩⟩⟩
def lw_privs : List (MethodName × Nat) := lw_privs_1 ++ (lw_privs_2)
def lw_tbl : List Cond := k2_sels lw_privs ++ tables_1
theorem lw_privs_ok : ∀ q ∈ lw_privs, lw_okq q := by
  show ∀ q ∈ lw_privs_1 ++ (lw_privs_2), lw_okq q
  exact List.forall_mem_append.mpr ⟨lw_r1, lw_r2⟩
def R_B : String := "BraidWords"
def R_W : String := "BraidWords$Word"
def R_N : String := "BraidWords$NormalForm"
def R_M : String := "BraidWordsModel"
def R_L : String := "BraidWordsLaw"
def R_JI : String := "java/lang/Integer"
def R_JM : String := "java/lang/Math"
def R_JS : String := "java/lang/System"
def F_W : u_T := fun k => match k with
  | 0 => ("BraidWords$Word", "letters", "[I", true)
  | 1 => ("BraidWords$Word", "width", "I", false)
  | _ => ("BraidWords$Word", "count", "I", false)
def t_W : Nat → FieldType := fun k => match k with
  | 0 => .array .int
  | 1 => .int
  | _ => .int
theorem n_W : ∀ a, a < 3 → ∀ b, b < 3 → a ≠ b → (F_W a).2.1 ≠ (F_W b).2.1 := by decide +kernel
theorem tk_W : ∀ k, k < 3 → parseFieldDescriptor (F_W k).2.2.1 = some (t_W k) := by decide +kernel
def F_N : u_T := fun k => match k with
  | 0 => ("BraidWords$NormalForm", "source", "LBraidWords$Word;", true)
  | 1 => ("BraidWords$NormalForm", "rows", "[[I", true)
  | 2 => ("BraidWords$NormalForm", "startOf", "[I", true)
  | 3 => ("BraidWords$NormalForm", "from", "I", false)
  | 4 => ("BraidWords$NormalForm", "to", "I", false)
  | _ => ("BraidWords$NormalForm", "power", "I", false)
def t_N : Nat → FieldType := fun k => match k with
  | 0 => .object "BraidWords$Word"
  | 1 => .array (.array .int)
  | 2 => .array .int
  | 3 => .int
  | 4 => .int
  | _ => .int
theorem n_N : ∀ a, a < 6 → ∀ b, b < 6 → a ≠ b → (F_N a).2.1 ≠ (F_N b).2.1 := by decide +kernel
theorem tk_N : ∀ k, k < 6 → parseFieldDescriptor (F_N k).2.2.1 = some (t_N k) := by decide +kernel
def F_B : u_T := fun k => match k with
  | 0 => ("BraidWords", "words", "[LBraidWords$Word;", true)
  | _ => ("BraidWords", "forms", "[LBraidWords$NormalForm;", true)
def t_B : Nat → FieldType := fun k => match k with
  | 0 => .array (.object "BraidWords$Word")
  | _ => .array (.object "BraidWords$NormalForm")
theorem n_B : ∀ a, a < 2 → ∀ b, b < 2 → a ≠ b → (F_B a).2.1 ≠ (F_B b).2.1 := by decide +kernel
theorem tk_B : ∀ k, k < 2 → parseFieldDescriptor (F_B k).2.2.1 = some (t_B k) := by decide +kernel
def F_M : u_T := fun k => match k with
  | 0 => ("BraidWordsModel", "thrown", "I", false)
  | 1 => ("BraidWordsModel", "strands", "[I", true)
  | 2 => ("BraidWordsModel", "size", "[I", true)
  | 3 => ("BraidWordsModel", "word", "[I", true)
  | 4 => ("BraidWordsModel", "letterOf", "[I", true)
  | 5 => ("BraidWordsModel", "next", "[I", true)
  | 6 => ("BraidWordsModel", "before", "[I", true)
  | 7 => ("BraidWordsModel", "made", "I", false)
  | 8 => ("BraidWordsModel", "free", "I", false)
  | 9 => ("BraidWordsModel", "positives", "I", false)
  | 10 => ("BraidWordsModel", "positive", "[I", true)
  | 11 => ("BraidWordsModel", "target", "[I", true)
  | 12 => ("BraidWordsModel", "ended", "[I", true)
  | 13 => ("BraidWordsModel", "known", "[Z", true)
  | 14 => ("BraidWordsModel", "turns", "[I", true)
  | 15 => ("BraidWordsModel", "simples", "[I", true)
  | 16 => ("BraidWordsModel", "simple", "[I", true)
  | 17 => ("BraidWordsModel", "label", "[I", true)
  | _ => ("BraidWordsModel", "corner", "[I", true)
def t_M : Nat → FieldType := fun k => match k with
  | 0 => .int
  | 1 => .array .int
  | 2 => .array .int
  | 3 => .array .int
  | 4 => .array .int
  | 5 => .array .int
  | 6 => .array .int
  | 7 => .int
  | 8 => .int
  | 9 => .int
  | 10 => .array .int
  | 11 => .array .int
  | 12 => .array .int
  | 13 => .array .boolean
  | 14 => .array .int
  | 15 => .array .int
  | 16 => .array .int
  | 17 => .array .int
  | _ => .array .int
theorem n_M : ∀ a, a < 19 → ∀ b, b < 19 → a ≠ b → (F_M a).2.1 ≠ (F_M b).2.1 := by decide +kernel
theorem tk_M : ∀ k, k < 19 → parseFieldDescriptor (F_M k).2.2.1 = some (t_M k) := by decide +kernel
abbrev classes : List vw_C := [(R_W, F_W, 3), (R_N, F_N, 6), (R_B, F_B, 2), (R_M, F_M, 19)]
abbrev b_B_init : ByteArray := prog_1_method_1_code
def y_B_init : MethodName := ⟨R_B, "<init>", "()V"⟩
abbrev b_W_init : ByteArray := prog_3_method_1_code
def y_W_init : MethodName := ⟨R_W, "<init>", "()V"⟩
abbrev b_N_init : ByteArray := prog_2_method_1_code
def y_N_init : MethodName := ⟨R_N, "<init>", "()V"⟩
abbrev b_B_strands : ByteArray := prog_1_method_2_code
def y_B_strands : MethodName := ⟨R_B, "strands", "(II)Z"⟩
abbrev b_B_isSlot : ByteArray := prog_1_method_18_code
def y_B_isSlot : MethodName := ⟨R_B, "isSlot", "(I)Z"⟩
abbrev b_W_clear : ByteArray := prog_3_method_2_code
def y_W_clear : MethodName := ⟨R_W, "clear", "(I)V"⟩
abbrev b_B_letter : ByteArray := prog_1_method_3_code
def y_B_letter : MethodName := ⟨R_B, "letter", "(II)I"⟩
abbrev b_W_append : ByteArray := prog_3_method_3_code
def y_W_append : MethodName := ⟨R_W, "append", "(I)Z"⟩
abbrev b_B_copy : ByteArray := prog_1_method_4_code
def y_B_copy : MethodName := ⟨R_B, "copy", "(IIZ)Z"⟩
abbrev b_W_take : ByteArray := prog_3_method_4_code
def y_W_take : MethodName := ⟨R_W, "take", "(LBraidWords$Word;)V"⟩
abbrev b_W_invert : ByteArray := prog_3_method_6_code
def y_W_invert : MethodName := ⟨R_W, "invert", "()V"⟩
abbrev b_B_many : ByteArray := prog_1_method_5_code
def y_B_many : MethodName := ⟨R_B, "many", "(II)I"⟩
abbrev b_W_signSum : ByteArray := prog_3_method_10_code
def y_W_signSum : MethodName := ⟨R_W, "signSum", "()I"⟩
abbrev b_JI_signum : ByteArray := prog_6_method_56_code
def y_JI_signum : MethodName := ⟨R_JI, "signum", "(I)I"⟩
abbrev b_W_components : ByteArray := prog_3_method_13_code
def y_W_components : MethodName := ⟨R_W, "components", "()I"⟩
abbrev b_W_endOf : ByteArray := prog_3_method_12_code
def y_W_endOf : MethodName := ⟨R_W, "endOf", "(I)I"⟩
abbrev b_W_value : ByteArray := prog_3_method_9_code
def y_W_value : MethodName := ⟨R_W, "value", "(I)I"⟩
abbrev b_JM_abs : ByteArray := prog_7_method_59_code
def y_JM_abs : MethodName := ⟨R_JM, "abs", "(I)I"⟩
abbrev b_W_circles : ByteArray := prog_3_method_14_code
def y_W_circles : MethodName := ⟨R_W, "circles", "()I"⟩
abbrev b_W_touchedFrom : ByteArray := prog_3_method_16_code
def y_W_touchedFrom : MethodName := ⟨R_W, "touchedFrom", "(II)Z"⟩
abbrev b_W_touches : ByteArray := prog_3_method_15_code
def y_W_touches : MethodName := ⟨R_W, "touches", "(II)Z"⟩
abbrev b_B_at : ByteArray := prog_1_method_6_code
def y_B_at : MethodName := ⟨R_B, "at", "(II)I"⟩
abbrev b_W_hasLetters : ByteArray := prog_3_method_8_code
def y_W_hasLetters : MethodName := ⟨R_W, "hasLetters", "(II)Z"⟩
abbrev b_B_end : ByteArray := prog_1_method_7_code
def y_B_end : MethodName := ⟨R_B, "end", "(II)I"⟩
abbrev b_W_hasPlace : ByteArray := prog_3_method_7_code
def y_W_hasPlace : MethodName := ⟨R_W, "hasPlace", "(I)Z"⟩
abbrev b_B_reduce : ByteArray := prog_1_method_8_code
def y_B_reduce : MethodName := ⟨R_B, "reduce", "(IZ)I"⟩
abbrev b_W_cancelNeighbours : ByteArray := prog_3_method_17_code
def y_W_cancelNeighbours : MethodName := ⟨R_W, "cancelNeighbours", "()V"⟩
abbrev b_W_cancelEnds : ByteArray := prog_3_method_18_code
def y_W_cancelEnds : MethodName := ⟨R_W, "cancelEnds", "()V"⟩
abbrev b_B_round : ByteArray := prog_1_method_9_code
def y_B_round : MethodName := ⟨R_B, "round", "(IZ)Z"⟩
abbrev b_W_lastToFront : ByteArray := prog_3_method_20_code
def y_W_lastToFront : MethodName := ⟨R_W, "lastToFront", "()Z"⟩
abbrev b_W_firstToBack : ByteArray := prog_3_method_19_code
def y_W_firstToBack : MethodName := ⟨R_W, "firstToBack", "()Z"⟩
abbrev b_B_exchange : ByteArray := prog_1_method_10_code
def y_B_exchange : MethodName := ⟨R_B, "exchange", "(II)Z"⟩
abbrev b_W_swapFar : ByteArray := prog_3_method_21_code
def y_W_swapFar : MethodName := ⟨R_W, "swapFar", "(I)Z"⟩
abbrev b_B_swapAt : ByteArray := prog_1_method_20_code
def y_B_swapAt : MethodName := ⟨R_B, "swapAt", "([II)V"⟩
abbrev b_B_pass : ByteArray := prog_1_method_11_code
def y_B_pass : MethodName := ⟨R_B, "pass", "(II)Z"⟩
abbrev b_W_passOver : ByteArray := prog_3_method_22_code
def y_W_passOver : MethodName := ⟨R_W, "passOver", "(I)Z"⟩
abbrev b_W_canPass : ByteArray := prog_3_method_23_code
def y_W_canPass : MethodName := ⟨R_W, "canPass", "(I)Z"⟩
abbrev b_B_grow : ByteArray := prog_1_method_12_code
def y_B_grow : MethodName := ⟨R_B, "grow", "(II)Z"⟩
abbrev b_W_addStrand : ByteArray := prog_3_method_24_code
def y_W_addStrand : MethodName := ⟨R_W, "addStrand", "(I)Z"⟩
abbrev b_B_shrink : ByteArray := prog_1_method_13_code
def y_B_shrink : MethodName := ⟨R_B, "shrink", "(I)Z"⟩
abbrev b_W_dropStrand : ByteArray := prog_3_method_25_code
def y_W_dropStrand : MethodName := ⟨R_W, "dropStrand", "()Z"⟩
abbrev b_B_same : ByteArray := prog_1_method_14_code
def y_B_same : MethodName := ⟨R_B, "same", "(II)Z"⟩
abbrev b_B_formOf : ByteArray := prog_1_method_19_code
def y_B_formOf : MethodName := ⟨R_B, "formOf", "(I)LBraidWords$NormalForm;"⟩
abbrev b_N_follow : ByteArray := prog_2_method_2_code
def y_N_follow : MethodName := ⟨R_N, "follow", "(LBraidWords$Word;)V"⟩
abbrev b_W_equalTo : ByteArray := prog_3_method_5_code
def y_W_equalTo : MethodName := ⟨R_W, "equalTo", "(LBraidWords$Word;)Z"⟩
abbrev b_W_negatives : ByteArray := prog_3_method_11_code
def y_W_negatives : MethodName := ⟨R_W, "negatives", "()I"⟩
abbrev b_N_appendSimple : ByteArray := prog_2_method_6_code
def y_N_appendSimple : MethodName := ⟨R_N, "appendSimple", "(IZ)V"⟩
abbrev b_N_settle : ByteArray := prog_2_method_7_code
def y_N_settle : MethodName := ⟨R_N, "settle", "()V"⟩
abbrev b_N_moveOver : ByteArray := prog_2_method_8_code
def y_N_moveOver : MethodName := ⟨R_N, "moveOver", "([I[I)Z"⟩
abbrev b_N_sweepOver : ByteArray := prog_2_method_9_code
def y_N_sweepOver : MethodName := ⟨R_N, "sweepOver", "([I)Z"⟩
abbrev b_N_isTurn : ByteArray := prog_2_method_10_code
def y_N_isTurn : MethodName := ⟨R_N, "isTurn", "([I)Z"⟩
abbrev b_N_isNone : ByteArray := prog_2_method_11_code
def y_N_isNone : MethodName := ⟨R_N, "isNone", "([I)Z"⟩
abbrev b_N_equalTo : ByteArray := prog_2_method_5_code
def y_N_equalTo : MethodName := ⟨R_N, "equalTo", "(LBraidWords$NormalForm;)Z"⟩
abbrev b_N_size : ByteArray := prog_2_method_3_code
def y_N_size : MethodName := ⟨R_N, "size", "()I"⟩
abbrev b_N_image : ByteArray := prog_2_method_4_code
def y_N_image : MethodName := ⟨R_N, "image", "(II)I"⟩
abbrev b_B_form : ByteArray := prog_1_method_15_code
def y_B_form : MethodName := ⟨R_B, "form", "(III)I"⟩
abbrev b_B_length : ByteArray := prog_1_method_16_code
def y_B_length : MethodName := ⟨R_B, "length", "(I)I"⟩
abbrev b_B_crossing : ByteArray := prog_1_method_17_code
def y_B_crossing : MethodName := ⟨R_B, "crossing", "(III)I"⟩
abbrev b_W_cornerLabel : ByteArray := prog_3_method_26_code
def y_W_cornerLabel : MethodName := ⟨R_W, "cornerLabel", "(II)I"⟩
abbrev b_W_labelAbove : ByteArray := prog_3_method_27_code
def y_W_labelAbove : MethodName := ⟨R_W, "labelAbove", "(II)I"⟩
abbrev b_W_madeLabel : ByteArray := prog_3_method_29_code
def y_W_madeLabel : MethodName := ⟨R_W, "madeLabel", "(II)I"⟩
abbrev b_W_labelBelow : ByteArray := prog_3_method_28_code
def y_W_labelBelow : MethodName := ⟨R_W, "labelBelow", "(II)I"⟩
abbrev b_M_init : ByteArray := prog_5_method_1_code
def y_M_init : MethodName := ⟨R_M, "<init>", "()V"⟩
abbrev b_M_strands : ByteArray := prog_5_method_6_code
def y_M_strands : MethodName := ⟨R_M, "strands", "(II)Z"⟩
abbrev b_M_isSlot : ByteArray := prog_5_method_3_code
def y_M_isSlot : MethodName := ⟨R_M, "isSlot", "(I)Z"⟩
abbrev b_M_letter : ByteArray := prog_5_method_7_code
def y_M_letter : MethodName := ⟨R_M, "letter", "(II)I"⟩
abbrev b_M_copy : ByteArray := prog_5_method_8_code
def y_M_copy : MethodName := ⟨R_M, "copy", "(IIZ)Z"⟩
abbrev b_M_letterAt : ByteArray := prog_5_method_5_code
def y_M_letterAt : MethodName := ⟨R_M, "letterAt", "(II)I"⟩
abbrev b_M_end : ByteArray := prog_5_method_10_code
def y_M_end : MethodName := ⟨R_M, "end", "(II)I"⟩
abbrev b_M_endOf : ByteArray := prog_5_method_9_code
def y_M_endOf : MethodName := ⟨R_M, "endOf", "(II)I"⟩
abbrev b_M_value : ByteArray := prog_5_method_4_code
def y_M_value : MethodName := ⟨R_M, "value", "(I)I"⟩
abbrev b_M_many : ByteArray := prog_5_method_14_code
def y_M_many : MethodName := ⟨R_M, "many", "(II)I"⟩
abbrev b_M_signs : ByteArray := prog_5_method_13_code
def y_M_signs : MethodName := ⟨R_M, "signs", "(I)I"⟩
abbrev b_M_rounds : ByteArray := prog_5_method_11_code
def y_M_rounds : MethodName := ⟨R_M, "rounds", "(I)I"⟩
abbrev b_M_untouched : ByteArray := prog_5_method_12_code
def y_M_untouched : MethodName := ⟨R_M, "untouched", "(I)I"⟩
abbrev b_M_at : ByteArray := prog_5_method_15_code
def y_M_at : MethodName := ⟨R_M, "at", "(II)I"⟩
abbrev b_M_reduce : ByteArray := prog_5_method_17_code
def y_M_reduce : MethodName := ⟨R_M, "reduce", "(IZ)I"⟩
abbrev b_M_remove : ByteArray := prog_5_method_16_code
def y_M_remove : MethodName := ⟨R_M, "remove", "(II)V"⟩
abbrev b_M_round : ByteArray := prog_5_method_18_code
def y_M_round : MethodName := ⟨R_M, "round", "(IZ)Z"⟩
abbrev b_M_exchange : ByteArray := prog_5_method_19_code
def y_M_exchange : MethodName := ⟨R_M, "exchange", "(II)Z"⟩
abbrev b_M_pass : ByteArray := prog_5_method_20_code
def y_M_pass : MethodName := ⟨R_M, "pass", "(II)Z"⟩
abbrev b_M_grow : ByteArray := prog_5_method_21_code
def y_M_grow : MethodName := ⟨R_M, "grow", "(II)Z"⟩
abbrev b_M_shrink : ByteArray := prog_5_method_22_code
def y_M_shrink : MethodName := ⟨R_M, "shrink", "(I)Z"⟩
abbrev b_M_same : ByteArray := prog_5_method_34_code
def y_M_same : MethodName := ⟨R_M, "same", "(II)Z"⟩
abbrev b_M_know : ByteArray := prog_5_method_33_code
def y_M_know : MethodName := ⟨R_M, "know", "(I)V"⟩
abbrev b_M_makePositive : ByteArray := prog_5_method_31_code
def y_M_makePositive : MethodName := ⟨R_M, "makePositive", "(I)V"⟩
abbrev b_M_writeSimple : ByteArray := prog_5_method_29_code
def y_M_writeSimple : MethodName := ⟨R_M, "writeSimple", "(I)V"⟩
abbrev b_M_takeSimple : ByteArray := prog_5_method_32_code
def y_M_takeSimple : MethodName := ⟨R_M, "takeSimple", "(I)V"⟩
abbrev b_M_clearChain : ByteArray := prog_5_method_23_code
def y_M_clearChain : MethodName := ⟨R_M, "clearChain", "()V"⟩
abbrev b_M_writeTurn : ByteArray := prog_5_method_30_code
def y_M_writeTurn : MethodName := ⟨R_M, "writeTurn", "(I)V"⟩
abbrev b_M_insert : ByteArray := prog_5_method_24_code
def y_M_insert : MethodName := ⟨R_M, "insert", "(II)I"⟩
abbrev b_M_turnRight : ByteArray := prog_5_method_27_code
def y_M_turnRight : MethodName := ⟨R_M, "turnRight", "()V"⟩
abbrev b_M_take : ByteArray := prog_5_method_25_code
def y_M_take : MethodName := ⟨R_M, "take", "(I)V"⟩
abbrev b_M_isNear : ByteArray := prog_5_method_26_code
def y_M_isNear : MethodName := ⟨R_M, "isNear", "(II)Z"⟩
abbrev b_M_turnLeft : ByteArray := prog_5_method_28_code
def y_M_turnLeft : MethodName := ⟨R_M, "turnLeft", "()V"⟩
abbrev b_M_form : ByteArray := prog_5_method_35_code
def y_M_form : MethodName := ⟨R_M, "form", "(III)I"⟩
abbrev b_M_length : ByteArray := prog_5_method_36_code
def y_M_length : MethodName := ⟨R_M, "length", "(I)I"⟩
abbrev b_M_crossing : ByteArray := prog_5_method_38_code
def y_M_crossing : MethodName := ⟨R_M, "crossing", "(III)I"⟩
abbrev b_M_close : ByteArray := prog_5_method_37_code
def y_M_close : MethodName := ⟨R_M, "close", "(I)V"⟩
def G0 : List Cond := lw_tbl.filter goodWord
theorem G0_good : ∀ w ∈ G0, goodWord w = true := fun _ h => (List.mem_filter.mp h).2
theorem G0_of {w : Cond} {i : Nat} (h : tables_1[i]? = some w) (g : goodWord w = true) : w ∈ G0 := List.mem_filter.mpr ⟨List.mem_append_right _ (List.mem_of_getElem? h), g⟩
theorem G0_sel {q : MethodName × Nat} (h : q ∈ lw_privs) : Cond.selects q.1.cls q.1 q.1 ∈ k2_sels lw_privs → goodWord (Cond.selects q.1.cls q.1 q.1) = true → Cond.selects q.1.cls q.1 q.1 ∈ G0 := fun m g => List.mem_filter.mpr ⟨List.mem_append_left _ m, g⟩
end
section
theorem in_L : Cond.initialized R_L ∈ G0 := G0_of (i := 0) (by rfl) (by rfl)
theorem in_B : Cond.initialized R_B ∈ G0 := G0_of (i := 1) (by rfl) (by rfl)
theorem in_W : Cond.initialized R_W ∈ G0 := G0_of (i := 2) (by rfl) (by rfl)
theorem in_N : Cond.initialized R_N ∈ G0 := G0_of (i := 3) (by rfl) (by rfl)
theorem in_M : Cond.initialized R_M ∈ G0 := G0_of (i := 4) (by rfl) (by rfl)
theorem in_JS : Cond.initialized R_JS ∈ G0 := G0_of (i := 5) (by rfl) (by rfl)
theorem in_JI : Cond.initialized R_JI ∈ G0 := G0_of (i := 6) (by rfl) (by rfl)
theorem in_JM : Cond.initialized R_JM ∈ G0 := G0_of (i := 7) (by rfl) (by rfl)
theorem cl_L_7 : Cond.classLink R_L 7 R_B ∈ G0 := G0_of (i := 8) (by rfl) (by rfl)
theorem ia_B : Cond.instantiable R_B 2 ∈ G0 := G0_of (i := 9) (by rfl) (by rfl)
theorem ml_L_9 : Cond.methodLink R_L 9 y_B_init ∈ G0 := G0_of (i := 10) (by rfl) (by rfl)
theorem im_B_init : Cond.instanceMethod y_B_init ∈ G0 := G0_of (i := 11) (by rfl) (by rfl)
theorem co_B_init : Cond.code y_B_init b_B_init 2 (none) ∈ G0 := G0_of (i := 12) (by rfl) (by rfl)
theorem ml_B_3 : Cond.methodLink R_B 3 objectInit ∈ G0 := G0_of (i := 13) (by rfl) (by rfl)
theorem im_JO_init : Cond.instanceMethod objectInit ∈ G0 := G0_of (i := 14) (by rfl) (by rfl)
theorem co_JO_init : Cond.code objectInit ⟨#[0xb1]⟩ 1 none ∈ G0 := G0_of (i := 15) (by rfl) (by rfl)
theorem cl_B_9 : Cond.classLink R_B 9 R_W ∈ G0 := G0_of (i := 16) (by rfl) (by rfl)
theorem cl_B_15 : Cond.classLink R_B 15 R_N ∈ G0 := G0_of (i := 18) (by rfl) (by rfl)
theorem ia_W : Cond.instantiable R_W 3 ∈ G0 := G0_of (i := 20) (by rfl) (by rfl)
theorem im_W_init : Cond.instanceMethod y_W_init ∈ G0 := G0_of (i := 22) (by rfl) (by rfl)
theorem co_W_init : Cond.code y_W_init b_W_init 1 (none) ∈ G0 := G0_of (i := 23) (by rfl) (by rfl)
theorem ml_W_3 : Cond.methodLink R_W 3 objectInit ∈ G0 := G0_of (i := 24) (by rfl) (by rfl)
theorem fl_W_9 : Cond.fieldLink R_W 9 R_W "letters" "[I" ∈ G0 := G0_of (i := 25) (by rfl) (by rfl)
theorem fl_N_52 : Cond.fieldLink R_N 52 R_W "letters" "[I" ∈ G0 := G0_of (i := 26) (by rfl) (by rfl)
theorem fl_B_62 : Cond.fieldLink R_B 62 R_W "letters" "[I" ∈ G0 := G0_of (i := 27) (by rfl) (by rfl)
theorem fl_W_15 : Cond.fieldLink R_W 15 R_W "width" "I" ∈ G0 := G0_of (i := 28) (by rfl) (by rfl)
theorem fl_N_55 : Cond.fieldLink R_N 55 R_W "width" "I" ∈ G0 := G0_of (i := 29) (by rfl) (by rfl)
theorem fl_B_45 : Cond.fieldLink R_B 45 R_W "width" "I" ∈ G0 := G0_of (i := 30) (by rfl) (by rfl)
theorem fl_W_19 : Cond.fieldLink R_W 19 R_W "count" "I" ∈ G0 := G0_of (i := 31) (by rfl) (by rfl)
theorem fl_N_49 : Cond.fieldLink R_N 49 R_W "count" "I" ∈ G0 := G0_of (i := 32) (by rfl) (by rfl)
theorem fl_B_34 : Cond.fieldLink R_B 34 R_W "count" "I" ∈ G0 := G0_of (i := 33) (by rfl) (by rfl)
theorem ac_int : Cond.arrayClass .int ∈ G0 := G0_of (i := 41) (by rfl) (by rfl)
theorem ia_N : Cond.instantiable R_N 6 ∈ G0 := G0_of (i := 42) (by rfl) (by rfl)
theorem im_N_init : Cond.instanceMethod y_N_init ∈ G0 := G0_of (i := 44) (by rfl) (by rfl)
theorem co_N_init : Cond.code y_N_init b_N_init 1 (none) ∈ G0 := G0_of (i := 45) (by rfl) (by rfl)
theorem ml_N_3 : Cond.methodLink R_N 3 objectInit ∈ G0 := G0_of (i := 46) (by rfl) (by rfl)
theorem cl_N_9 : Cond.classLink R_N 9 R_W ∈ G0 := G0_of (i := 47) (by rfl) (by rfl)
theorem cl_N_18 : Cond.classLink R_N 18 "[[I" ∈ G0 := G0_of (i := 49) (by rfl) (by rfl)
theorem fl_N_12 : Cond.fieldLink R_N 12 R_N "source" "LBraidWords$Word;" ∈ G0 := G0_of (i := 51) (by rfl) (by rfl)
theorem fl_N_20 : Cond.fieldLink R_N 20 R_N "rows" "[[I" ∈ G0 := G0_of (i := 52) (by rfl) (by rfl)
theorem fl_N_23 : Cond.fieldLink R_N 23 R_N "startOf" "[I" ∈ G0 := G0_of (i := 53) (by rfl) (by rfl)
theorem fl_N_27 : Cond.fieldLink R_N 27 R_N "from" "I" ∈ G0 := G0_of (i := 54) (by rfl) (by rfl)
theorem fl_N_31 : Cond.fieldLink R_N 31 R_N "to" "I" ∈ G0 := G0_of (i := 55) (by rfl) (by rfl)
theorem fl_N_34 : Cond.fieldLink R_N 34 R_N "power" "I" ∈ G0 := G0_of (i := 56) (by rfl) (by rfl)
theorem fl_B_106 : Cond.fieldLink R_B 106 R_N "power" "I" ∈ G0 := G0_of (i := 57) (by rfl) (by rfl)
theorem fl_B_11 : Cond.fieldLink R_B 11 R_B "words" "[LBraidWords$Word;" ∈ G0 := G0_of (i := 71) (by rfl) (by rfl)
theorem fl_B_17 : Cond.fieldLink R_B 17 R_B "forms" "[LBraidWords$NormalForm;" ∈ G0 := G0_of (i := 72) (by rfl) (by rfl)
theorem ml_L_13 : Cond.methodLink R_L 13 y_B_strands ∈ G0 := G0_of (i := 78) (by rfl) (by rfl)
theorem im_B_strands : Cond.instanceMethod y_B_strands ∈ G0 := G0_of (i := 79) (by rfl) (by rfl)
theorem se_B_strands : Cond.selects R_B y_B_strands y_B_strands ∈ G0 := G0_of (i := 80) (by rfl) (by rfl)
theorem co_B_strands : Cond.code y_B_strands b_B_strands 3 (some .boolean) ∈ G0 := G0_of (i := 81) (by rfl) (by rfl)
theorem ml_B_23 : Cond.methodLink R_B 23 y_B_isSlot ∈ G0 := G0_of (i := 82) (by rfl) (by rfl)
theorem st_B_isSlot : Cond.static y_B_isSlot ∈ G0 := G0_of (i := 83) (by rfl) (by rfl)
theorem co_B_isSlot : Cond.code y_B_isSlot b_B_isSlot 1 (some .boolean) ∈ G0 := G0_of (i := 84) (by rfl) (by rfl)
theorem ml_B_27 : Cond.methodLink R_B 27 y_W_clear ∈ G0 := G0_of (i := 85) (by rfl) (by rfl)
theorem im_W_clear : Cond.instanceMethod y_W_clear ∈ G0 := G0_of (i := 86) (by rfl) (by rfl)
theorem se_W_clear : Cond.selects R_W y_W_clear y_W_clear ∈ G0 := G0_of (i := 87) (by rfl) (by rfl)
theorem co_W_clear : Cond.code y_W_clear b_W_clear 2 (none) ∈ G0 := G0_of (i := 88) (by rfl) (by rfl)
theorem ml_L_18 : Cond.methodLink R_L 18 y_B_letter ∈ G0 := G0_of (i := 89) (by rfl) (by rfl)
theorem im_B_letter : Cond.instanceMethod y_B_letter ∈ G0 := G0_of (i := 90) (by rfl) (by rfl)
theorem se_B_letter : Cond.selects R_B y_B_letter y_B_letter ∈ G0 := G0_of (i := 91) (by rfl) (by rfl)
theorem co_B_letter : Cond.code y_B_letter b_B_letter 3 (some .int) ∈ G0 := G0_of (i := 92) (by rfl) (by rfl)
theorem ml_B_31 : Cond.methodLink R_B 31 y_W_append ∈ G0 := G0_of (i := 93) (by rfl) (by rfl)
theorem im_W_append : Cond.instanceMethod y_W_append ∈ G0 := G0_of (i := 94) (by rfl) (by rfl)
theorem se_W_append : Cond.selects R_W y_W_append y_W_append ∈ G0 := G0_of (i := 95) (by rfl) (by rfl)
theorem co_W_append : Cond.code y_W_append b_W_append 2 (some .boolean) ∈ G0 := G0_of (i := 96) (by rfl) (by rfl)
theorem ml_L_23 : Cond.methodLink R_L 23 y_B_copy ∈ G0 := G0_of (i := 97) (by rfl) (by rfl)
theorem im_B_copy : Cond.instanceMethod y_B_copy ∈ G0 := G0_of (i := 98) (by rfl) (by rfl)
theorem se_B_copy : Cond.selects R_B y_B_copy y_B_copy ∈ G0 := G0_of (i := 99) (by rfl) (by rfl)
theorem co_B_copy : Cond.code y_B_copy b_B_copy 4 (some .boolean) ∈ G0 := G0_of (i := 100) (by rfl) (by rfl)
theorem ml_B_38 : Cond.methodLink R_B 38 y_W_take ∈ G0 := G0_of (i := 101) (by rfl) (by rfl)
theorem im_W_take : Cond.instanceMethod y_W_take ∈ G0 := G0_of (i := 102) (by rfl) (by rfl)
theorem se_W_take : Cond.selects R_W y_W_take y_W_take ∈ G0 := G0_of (i := 103) (by rfl) (by rfl)
theorem co_W_take : Cond.code y_W_take b_W_take 2 (none) ∈ G0 := G0_of (i := 104) (by rfl) (by rfl)
theorem ml_W_22 : Cond.methodLink R_W 22 arraycopyName ∈ G0 := G0_of (i := 105) (by rfl) (by rfl)
theorem st_JS_arraycopy : Cond.static arraycopyName ∈ G0 := G0_of (i := 106) (by rfl) (by rfl)
theorem na_JS_arraycopy : Cond.native arraycopyName ∈ G0 := G0_of (i := 107) (by rfl) (by rfl)
theorem ml_B_42 : Cond.methodLink R_B 42 y_W_invert ∈ G0 := G0_of (i := 108) (by rfl) (by rfl)
theorem im_W_invert : Cond.instanceMethod y_W_invert ∈ G0 := G0_of (i := 109) (by rfl) (by rfl)
theorem se_W_invert : Cond.selects R_W y_W_invert y_W_invert ∈ G0 := G0_of (i := 110) (by rfl) (by rfl)
theorem co_W_invert : Cond.code y_W_invert b_W_invert 4 (none) ∈ G0 := G0_of (i := 111) (by rfl) (by rfl)
theorem ml_L_28 : Cond.methodLink R_L 28 y_B_many ∈ G0 := G0_of (i := 112) (by rfl) (by rfl)
theorem im_B_many : Cond.instanceMethod y_B_many ∈ G0 := G0_of (i := 113) (by rfl) (by rfl)
theorem se_B_many : Cond.selects R_B y_B_many y_B_many ∈ G0 := G0_of (i := 114) (by rfl) (by rfl)
theorem co_B_many : Cond.code y_B_many b_B_many 4 (some .int) ∈ G0 := G0_of (i := 115) (by rfl) (by rfl)
theorem ml_B_48 : Cond.methodLink R_B 48 y_W_signSum ∈ G0 := G0_of (i := 116) (by rfl) (by rfl)
theorem im_W_signSum : Cond.instanceMethod y_W_signSum ∈ G0 := G0_of (i := 117) (by rfl) (by rfl)
theorem se_W_signSum : Cond.selects R_W y_W_signSum y_W_signSum ∈ G0 := G0_of (i := 118) (by rfl) (by rfl)
theorem co_W_signSum : Cond.code y_W_signSum b_W_signSum 3 (some .int) ∈ G0 := G0_of (i := 119) (by rfl) (by rfl)
theorem ml_W_34 : Cond.methodLink R_W 34 y_JI_signum ∈ G0 := G0_of (i := 120) (by rfl) (by rfl)
theorem st_JI_signum : Cond.static y_JI_signum ∈ G0 := G0_of (i := 121) (by rfl) (by rfl)
theorem co_JI_signum : Cond.code y_JI_signum b_JI_signum 1 (some .int) ∈ G0 := G0_of (i := 122) (by rfl) (by rfl)
theorem ml_B_52 : Cond.methodLink R_B 52 y_W_components ∈ G0 := G0_of (i := 123) (by rfl) (by rfl)
theorem im_W_components : Cond.instanceMethod y_W_components ∈ G0 := G0_of (i := 124) (by rfl) (by rfl)
theorem se_W_components : Cond.selects R_W y_W_components y_W_components ∈ G0 := G0_of (i := 125) (by rfl) (by rfl)
theorem co_W_components : Cond.code y_W_components b_W_components 6 (some .int) ∈ G0 := G0_of (i := 126) (by rfl) (by rfl)
theorem ml_W_46 : Cond.methodLink R_W 46 y_W_endOf ∈ G0 := G0_of (i := 127) (by rfl) (by rfl)
theorem im_W_endOf : Cond.instanceMethod y_W_endOf ∈ G0 := G0_of (i := 128) (by rfl) (by rfl)
theorem se_W_endOf : Cond.selects R_W y_W_endOf y_W_endOf ∈ G0 := G0_of (i := 129) (by rfl) (by rfl)
theorem co_W_endOf : Cond.code y_W_endOf b_W_endOf 4 (some .int) ∈ G0 := G0_of (i := 130) (by rfl) (by rfl)
theorem ml_W_43 : Cond.methodLink R_W 43 y_W_value ∈ G0 := G0_of (i := 131) (by rfl) (by rfl)
theorem im_W_value : Cond.instanceMethod y_W_value ∈ G0 := G0_of (i := 132) (by rfl) (by rfl)
theorem se_W_value : Cond.selects R_W y_W_value y_W_value ∈ G0 := G0_of (i := 133) (by rfl) (by rfl)
theorem co_W_value : Cond.code y_W_value b_W_value 2 (some .int) ∈ G0 := G0_of (i := 134) (by rfl) (by rfl)
theorem ml_W_28 : Cond.methodLink R_W 28 y_JM_abs ∈ G0 := G0_of (i := 135) (by rfl) (by rfl)
theorem st_JM_abs : Cond.static y_JM_abs ∈ G0 := G0_of (i := 136) (by rfl) (by rfl)
theorem co_JM_abs : Cond.code y_JM_abs b_JM_abs 1 (some .int) ∈ G0 := G0_of (i := 137) (by rfl) (by rfl)
theorem ml_B_55 : Cond.methodLink R_B 55 y_W_circles ∈ G0 := G0_of (i := 138) (by rfl) (by rfl)
theorem im_W_circles : Cond.instanceMethod y_W_circles ∈ G0 := G0_of (i := 139) (by rfl) (by rfl)
theorem se_W_circles : Cond.selects R_W y_W_circles y_W_circles ∈ G0 := G0_of (i := 140) (by rfl) (by rfl)
theorem co_W_circles : Cond.code y_W_circles b_W_circles 3 (some .int) ∈ G0 := G0_of (i := 141) (by rfl) (by rfl)
theorem ml_W_49 : Cond.methodLink R_W 49 y_W_touchedFrom ∈ G0 := G0_of (i := 142) (by rfl) (by rfl)
theorem im_W_touchedFrom : Cond.instanceMethod y_W_touchedFrom ∈ G0 := G0_of (i := 143) (by rfl) (by rfl)
theorem se_W_touchedFrom : Cond.selects R_W y_W_touchedFrom y_W_touchedFrom ∈ G0 := G0_of (i := 144) (by rfl) (by rfl)
theorem co_W_touchedFrom : Cond.code y_W_touchedFrom b_W_touchedFrom 4 (some .boolean) ∈ G0 := G0_of (i := 145) (by rfl) (by rfl)
theorem ml_W_53 : Cond.methodLink R_W 53 y_W_touches ∈ G0 := G0_of (i := 146) (by rfl) (by rfl)
theorem im_W_touches : Cond.instanceMethod y_W_touches ∈ G0 := G0_of (i := 147) (by rfl) (by rfl)
theorem se_W_touches : Cond.selects R_W y_W_touches y_W_touches ∈ G0 := G0_of (i := 148) (by rfl) (by rfl)
theorem co_W_touches : Cond.code y_W_touches b_W_touches 3 (some .boolean) ∈ G0 := G0_of (i := 149) (by rfl) (by rfl)
theorem ml_L_32 : Cond.methodLink R_L 32 y_B_at ∈ G0 := G0_of (i := 150) (by rfl) (by rfl)
theorem im_B_at : Cond.instanceMethod y_B_at ∈ G0 := G0_of (i := 151) (by rfl) (by rfl)
theorem se_B_at : Cond.selects R_B y_B_at y_B_at ∈ G0 := G0_of (i := 152) (by rfl) (by rfl)
theorem co_B_at : Cond.code y_B_at b_B_at 3 (some .int) ∈ G0 := G0_of (i := 153) (by rfl) (by rfl)
theorem ml_B_58 : Cond.methodLink R_B 58 y_W_hasLetters ∈ G0 := G0_of (i := 154) (by rfl) (by rfl)
theorem im_W_hasLetters : Cond.instanceMethod y_W_hasLetters ∈ G0 := G0_of (i := 155) (by rfl) (by rfl)
theorem se_W_hasLetters : Cond.selects R_W y_W_hasLetters y_W_hasLetters ∈ G0 := G0_of (i := 156) (by rfl) (by rfl)
theorem co_W_hasLetters : Cond.code y_W_hasLetters b_W_hasLetters 3 (some .boolean) ∈ G0 := G0_of (i := 157) (by rfl) (by rfl)
theorem ml_L_36 : Cond.methodLink R_L 36 y_B_end ∈ G0 := G0_of (i := 158) (by rfl) (by rfl)
theorem im_B_end : Cond.instanceMethod y_B_end ∈ G0 := G0_of (i := 159) (by rfl) (by rfl)
theorem se_B_end : Cond.selects R_B y_B_end y_B_end ∈ G0 := G0_of (i := 160) (by rfl) (by rfl)
theorem co_B_end : Cond.code y_B_end b_B_end 3 (some .int) ∈ G0 := G0_of (i := 161) (by rfl) (by rfl)
theorem ml_B_66 : Cond.methodLink R_B 66 y_W_hasPlace ∈ G0 := G0_of (i := 162) (by rfl) (by rfl)
theorem im_W_hasPlace : Cond.instanceMethod y_W_hasPlace ∈ G0 := G0_of (i := 163) (by rfl) (by rfl)
theorem se_W_hasPlace : Cond.selects R_W y_W_hasPlace y_W_hasPlace ∈ G0 := G0_of (i := 164) (by rfl) (by rfl)
theorem co_W_hasPlace : Cond.code y_W_hasPlace b_W_hasPlace 2 (some .boolean) ∈ G0 := G0_of (i := 165) (by rfl) (by rfl)
theorem ml_B_69 : Cond.methodLink R_B 69 y_W_endOf ∈ G0 := G0_of (i := 166) (by rfl) (by rfl)
theorem ml_L_40 : Cond.methodLink R_L 40 y_B_reduce ∈ G0 := G0_of (i := 167) (by rfl) (by rfl)
theorem im_B_reduce : Cond.instanceMethod y_B_reduce ∈ G0 := G0_of (i := 168) (by rfl) (by rfl)
theorem se_B_reduce : Cond.selects R_B y_B_reduce y_B_reduce ∈ G0 := G0_of (i := 169) (by rfl) (by rfl)
theorem co_B_reduce : Cond.code y_B_reduce b_B_reduce 5 (some .int) ∈ G0 := G0_of (i := 170) (by rfl) (by rfl)
theorem ml_B_73 : Cond.methodLink R_B 73 y_W_cancelNeighbours ∈ G0 := G0_of (i := 171) (by rfl) (by rfl)
theorem im_W_cancelNeighbours : Cond.instanceMethod y_W_cancelNeighbours ∈ G0 := G0_of (i := 172) (by rfl) (by rfl)
theorem se_W_cancelNeighbours : Cond.selects R_W y_W_cancelNeighbours y_W_cancelNeighbours ∈ G0 := G0_of (i := 173) (by rfl) (by rfl)
theorem co_W_cancelNeighbours : Cond.code y_W_cancelNeighbours b_W_cancelNeighbours 3 (none) ∈ G0 := G0_of (i := 174) (by rfl) (by rfl)
theorem ml_B_76 : Cond.methodLink R_B 76 y_W_cancelEnds ∈ G0 := G0_of (i := 175) (by rfl) (by rfl)
theorem im_W_cancelEnds : Cond.instanceMethod y_W_cancelEnds ∈ G0 := G0_of (i := 176) (by rfl) (by rfl)
theorem se_W_cancelEnds : Cond.selects R_W y_W_cancelEnds y_W_cancelEnds ∈ G0 := G0_of (i := 177) (by rfl) (by rfl)
theorem co_W_cancelEnds : Cond.code y_W_cancelEnds b_W_cancelEnds 2 (none) ∈ G0 := G0_of (i := 178) (by rfl) (by rfl)
theorem ml_L_45 : Cond.methodLink R_L 45 y_B_round ∈ G0 := G0_of (i := 179) (by rfl) (by rfl)
theorem im_B_round : Cond.instanceMethod y_B_round ∈ G0 := G0_of (i := 180) (by rfl) (by rfl)
theorem se_B_round : Cond.selects R_B y_B_round y_B_round ∈ G0 := G0_of (i := 181) (by rfl) (by rfl)
theorem co_B_round : Cond.code y_B_round b_B_round 3 (some .boolean) ∈ G0 := G0_of (i := 182) (by rfl) (by rfl)
theorem ml_B_79 : Cond.methodLink R_B 79 y_W_lastToFront ∈ G0 := G0_of (i := 183) (by rfl) (by rfl)
theorem im_W_lastToFront : Cond.instanceMethod y_W_lastToFront ∈ G0 := G0_of (i := 184) (by rfl) (by rfl)
theorem se_W_lastToFront : Cond.selects R_W y_W_lastToFront y_W_lastToFront ∈ G0 := G0_of (i := 185) (by rfl) (by rfl)
theorem co_W_lastToFront : Cond.code y_W_lastToFront b_W_lastToFront 2 (some .boolean) ∈ G0 := G0_of (i := 186) (by rfl) (by rfl)
theorem ml_B_83 : Cond.methodLink R_B 83 y_W_firstToBack ∈ G0 := G0_of (i := 187) (by rfl) (by rfl)
theorem im_W_firstToBack : Cond.instanceMethod y_W_firstToBack ∈ G0 := G0_of (i := 188) (by rfl) (by rfl)
theorem se_W_firstToBack : Cond.selects R_W y_W_firstToBack y_W_firstToBack ∈ G0 := G0_of (i := 189) (by rfl) (by rfl)
theorem co_W_firstToBack : Cond.code y_W_firstToBack b_W_firstToBack 2 (some .boolean) ∈ G0 := G0_of (i := 190) (by rfl) (by rfl)
theorem ml_L_50 : Cond.methodLink R_L 50 y_B_exchange ∈ G0 := G0_of (i := 191) (by rfl) (by rfl)
theorem im_B_exchange : Cond.instanceMethod y_B_exchange ∈ G0 := G0_of (i := 192) (by rfl) (by rfl)
theorem se_B_exchange : Cond.selects R_B y_B_exchange y_B_exchange ∈ G0 := G0_of (i := 193) (by rfl) (by rfl)
theorem co_B_exchange : Cond.code y_B_exchange b_B_exchange 3 (some .boolean) ∈ G0 := G0_of (i := 194) (by rfl) (by rfl)
theorem ml_B_86 : Cond.methodLink R_B 86 y_W_swapFar ∈ G0 := G0_of (i := 195) (by rfl) (by rfl)
theorem im_W_swapFar : Cond.instanceMethod y_W_swapFar ∈ G0 := G0_of (i := 196) (by rfl) (by rfl)
theorem se_W_swapFar : Cond.selects R_W y_W_swapFar y_W_swapFar ∈ G0 := G0_of (i := 197) (by rfl) (by rfl)
theorem co_W_swapFar : Cond.code y_W_swapFar b_W_swapFar 2 (some .boolean) ∈ G0 := G0_of (i := 198) (by rfl) (by rfl)
theorem ml_W_56 : Cond.methodLink R_W 56 y_W_hasLetters ∈ G0 := G0_of (i := 199) (by rfl) (by rfl)
theorem st_B_swapAt : Cond.static y_B_swapAt ∈ G0 := G0_of (i := 201) (by rfl) (by rfl)
theorem co_B_swapAt : Cond.code y_B_swapAt b_B_swapAt 3 (none) ∈ G0 := G0_of (i := 202) (by rfl) (by rfl)
theorem ml_L_54 : Cond.methodLink R_L 54 y_B_pass ∈ G0 := G0_of (i := 203) (by rfl) (by rfl)
theorem im_B_pass : Cond.instanceMethod y_B_pass ∈ G0 := G0_of (i := 204) (by rfl) (by rfl)
theorem se_B_pass : Cond.selects R_B y_B_pass y_B_pass ∈ G0 := G0_of (i := 205) (by rfl) (by rfl)
theorem co_B_pass : Cond.code y_B_pass b_B_pass 3 (some .boolean) ∈ G0 := G0_of (i := 206) (by rfl) (by rfl)
theorem ml_B_89 : Cond.methodLink R_B 89 y_W_passOver ∈ G0 := G0_of (i := 207) (by rfl) (by rfl)
theorem im_W_passOver : Cond.instanceMethod y_W_passOver ∈ G0 := G0_of (i := 208) (by rfl) (by rfl)
theorem se_W_passOver : Cond.selects R_W y_W_passOver y_W_passOver ∈ G0 := G0_of (i := 209) (by rfl) (by rfl)
theorem co_W_passOver : Cond.code y_W_passOver b_W_passOver 7 (some .boolean) ∈ G0 := G0_of (i := 210) (by rfl) (by rfl)
theorem ml_W_63 : Cond.methodLink R_W 63 y_W_canPass ∈ G0 := G0_of (i := 211) (by rfl) (by rfl)
theorem im_W_canPass : Cond.instanceMethod y_W_canPass ∈ G0 := G0_of (i := 213) (by rfl) (by rfl)
theorem co_W_canPass : Cond.code y_W_canPass b_W_canPass 4 (some .boolean) ∈ G0 := G0_of (i := 214) (by rfl) (by rfl)
theorem ml_L_58 : Cond.methodLink R_L 58 y_B_grow ∈ G0 := G0_of (i := 215) (by rfl) (by rfl)
theorem im_B_grow : Cond.instanceMethod y_B_grow ∈ G0 := G0_of (i := 216) (by rfl) (by rfl)
theorem se_B_grow : Cond.selects R_B y_B_grow y_B_grow ∈ G0 := G0_of (i := 217) (by rfl) (by rfl)
theorem co_B_grow : Cond.code y_B_grow b_B_grow 3 (some .boolean) ∈ G0 := G0_of (i := 218) (by rfl) (by rfl)
theorem ml_B_92 : Cond.methodLink R_B 92 y_W_addStrand ∈ G0 := G0_of (i := 219) (by rfl) (by rfl)
theorem im_W_addStrand : Cond.instanceMethod y_W_addStrand ∈ G0 := G0_of (i := 220) (by rfl) (by rfl)
theorem se_W_addStrand : Cond.selects R_W y_W_addStrand y_W_addStrand ∈ G0 := G0_of (i := 221) (by rfl) (by rfl)
theorem co_W_addStrand : Cond.code y_W_addStrand b_W_addStrand 2 (some .boolean) ∈ G0 := G0_of (i := 222) (by rfl) (by rfl)
theorem ml_L_62 : Cond.methodLink R_L 62 y_B_shrink ∈ G0 := G0_of (i := 223) (by rfl) (by rfl)
theorem im_B_shrink : Cond.instanceMethod y_B_shrink ∈ G0 := G0_of (i := 224) (by rfl) (by rfl)
theorem se_B_shrink : Cond.selects R_B y_B_shrink y_B_shrink ∈ G0 := G0_of (i := 225) (by rfl) (by rfl)
theorem co_B_shrink : Cond.code y_B_shrink b_B_shrink 2 (some .boolean) ∈ G0 := G0_of (i := 226) (by rfl) (by rfl)
theorem ml_B_95 : Cond.methodLink R_B 95 y_W_dropStrand ∈ G0 := G0_of (i := 227) (by rfl) (by rfl)
theorem im_W_dropStrand : Cond.instanceMethod y_W_dropStrand ∈ G0 := G0_of (i := 228) (by rfl) (by rfl)
theorem se_W_dropStrand : Cond.selects R_W y_W_dropStrand y_W_dropStrand ∈ G0 := G0_of (i := 229) (by rfl) (by rfl)
theorem co_W_dropStrand : Cond.code y_W_dropStrand b_W_dropStrand 2 (some .boolean) ∈ G0 := G0_of (i := 230) (by rfl) (by rfl)
theorem ml_L_67 : Cond.methodLink R_L 67 y_B_same ∈ G0 := G0_of (i := 231) (by rfl) (by rfl)
theorem im_B_same : Cond.instanceMethod y_B_same ∈ G0 := G0_of (i := 232) (by rfl) (by rfl)
theorem se_B_same : Cond.selects R_B y_B_same y_B_same ∈ G0 := G0_of (i := 233) (by rfl) (by rfl)
theorem co_B_same : Cond.code y_B_same b_B_same 3 (some .boolean) ∈ G0 := G0_of (i := 234) (by rfl) (by rfl)
theorem ml_B_98 : Cond.methodLink R_B 98 y_B_formOf ∈ G0 := G0_of (i := 235) (by rfl) (by rfl)
theorem im_B_formOf : Cond.instanceMethod y_B_formOf ∈ G0 := G0_of (i := 237) (by rfl) (by rfl)
theorem co_B_formOf : Cond.code y_B_formOf b_B_formOf 2 (some (.object "BraidWords$NormalForm")) ∈ G0 := G0_of (i := 238) (by rfl) (by rfl)
theorem ml_B_124 : Cond.methodLink R_B 124 y_N_follow ∈ G0 := G0_of (i := 239) (by rfl) (by rfl)
theorem im_N_follow : Cond.instanceMethod y_N_follow ∈ G0 := G0_of (i := 240) (by rfl) (by rfl)
theorem se_N_follow : Cond.selects R_N y_N_follow y_N_follow ∈ G0 := G0_of (i := 241) (by rfl) (by rfl)
theorem co_N_follow : Cond.code y_N_follow b_N_follow 5 (none) ∈ G0 := G0_of (i := 242) (by rfl) (by rfl)
theorem ml_N_37 : Cond.methodLink R_N 37 y_W_equalTo ∈ G0 := G0_of (i := 243) (by rfl) (by rfl)
theorem im_W_equalTo : Cond.instanceMethod y_W_equalTo ∈ G0 := G0_of (i := 244) (by rfl) (by rfl)
theorem se_W_equalTo : Cond.selects R_W y_W_equalTo y_W_equalTo ∈ G0 := G0_of (i := 245) (by rfl) (by rfl)
theorem co_W_equalTo : Cond.code y_W_equalTo b_W_equalTo 3 (some .boolean) ∈ G0 := G0_of (i := 246) (by rfl) (by rfl)
theorem ml_N_41 : Cond.methodLink R_N 41 y_W_take ∈ G0 := G0_of (i := 247) (by rfl) (by rfl)
theorem ml_N_45 : Cond.methodLink R_N 45 y_W_negatives ∈ G0 := G0_of (i := 248) (by rfl) (by rfl)
theorem im_W_negatives : Cond.instanceMethod y_W_negatives ∈ G0 := G0_of (i := 249) (by rfl) (by rfl)
theorem se_W_negatives : Cond.selects R_W y_W_negatives y_W_negatives ∈ G0 := G0_of (i := 250) (by rfl) (by rfl)
theorem co_W_negatives : Cond.code y_W_negatives b_W_negatives 1 (some .int) ∈ G0 := G0_of (i := 251) (by rfl) (by rfl)
theorem ml_W_39 : Cond.methodLink R_W 39 y_W_signSum ∈ G0 := G0_of (i := 252) (by rfl) (by rfl)
theorem ml_N_58 : Cond.methodLink R_N 58 y_W_value ∈ G0 := G0_of (i := 253) (by rfl) (by rfl)
theorem ml_N_62 : Cond.methodLink R_N 62 y_N_appendSimple ∈ G0 := G0_of (i := 254) (by rfl) (by rfl)
theorem im_N_appendSimple : Cond.instanceMethod y_N_appendSimple ∈ G0 := G0_of (i := 256) (by rfl) (by rfl)
theorem co_N_appendSimple : Cond.code y_N_appendSimple b_N_appendSimple 6 (none) ∈ G0 := G0_of (i := 257) (by rfl) (by rfl)
theorem ml_N_66 : Cond.methodLink R_N 66 y_N_settle ∈ G0 := G0_of (i := 259) (by rfl) (by rfl)
theorem im_N_settle : Cond.instanceMethod y_N_settle ∈ G0 := G0_of (i := 261) (by rfl) (by rfl)
theorem co_N_settle : Cond.code y_N_settle b_N_settle 2 (none) ∈ G0 := G0_of (i := 262) (by rfl) (by rfl)
theorem ml_N_84 : Cond.methodLink R_N 84 y_N_moveOver ∈ G0 := G0_of (i := 263) (by rfl) (by rfl)
theorem im_N_moveOver : Cond.instanceMethod y_N_moveOver ∈ G0 := G0_of (i := 265) (by rfl) (by rfl)
theorem co_N_moveOver : Cond.code y_N_moveOver b_N_moveOver 7 (some .boolean) ∈ G0 := G0_of (i := 266) (by rfl) (by rfl)
theorem ml_N_95 : Cond.methodLink R_N 95 y_N_sweepOver ∈ G0 := G0_of (i := 267) (by rfl) (by rfl)
theorem im_N_sweepOver : Cond.instanceMethod y_N_sweepOver ∈ G0 := G0_of (i := 269) (by rfl) (by rfl)
theorem co_N_sweepOver : Cond.code y_N_sweepOver b_N_sweepOver 4 (some .boolean) ∈ G0 := G0_of (i := 270) (by rfl) (by rfl)
theorem ml_N_88 : Cond.methodLink R_N 88 y_N_isTurn ∈ G0 := G0_of (i := 271) (by rfl) (by rfl)
theorem im_N_isTurn : Cond.instanceMethod y_N_isTurn ∈ G0 := G0_of (i := 273) (by rfl) (by rfl)
theorem co_N_isTurn : Cond.code y_N_isTurn b_N_isTurn 3 (some .boolean) ∈ G0 := G0_of (i := 274) (by rfl) (by rfl)
theorem ml_N_92 : Cond.methodLink R_N 92 y_N_isNone ∈ G0 := G0_of (i := 275) (by rfl) (by rfl)
theorem im_N_isNone : Cond.instanceMethod y_N_isNone ∈ G0 := G0_of (i := 277) (by rfl) (by rfl)
theorem co_N_isNone : Cond.code y_N_isNone b_N_isNone 3 (some .boolean) ∈ G0 := G0_of (i := 278) (by rfl) (by rfl)
theorem ml_B_102 : Cond.methodLink R_B 102 y_N_equalTo ∈ G0 := G0_of (i := 279) (by rfl) (by rfl)
theorem im_N_equalTo : Cond.instanceMethod y_N_equalTo ∈ G0 := G0_of (i := 280) (by rfl) (by rfl)
theorem se_N_equalTo : Cond.selects R_N y_N_equalTo y_N_equalTo ∈ G0 := G0_of (i := 281) (by rfl) (by rfl)
theorem co_N_equalTo : Cond.code y_N_equalTo b_N_equalTo 4 (some .boolean) ∈ G0 := G0_of (i := 282) (by rfl) (by rfl)
theorem ml_N_69 : Cond.methodLink R_N 69 y_N_size ∈ G0 := G0_of (i := 283) (by rfl) (by rfl)
theorem im_N_size : Cond.instanceMethod y_N_size ∈ G0 := G0_of (i := 284) (by rfl) (by rfl)
theorem se_N_size : Cond.selects R_N y_N_size y_N_size ∈ G0 := G0_of (i := 285) (by rfl) (by rfl)
theorem co_N_size : Cond.code y_N_size b_N_size 1 (some .int) ∈ G0 := G0_of (i := 286) (by rfl) (by rfl)
theorem ml_N_76 : Cond.methodLink R_N 76 y_N_image ∈ G0 := G0_of (i := 287) (by rfl) (by rfl)
theorem im_N_image : Cond.instanceMethod y_N_image ∈ G0 := G0_of (i := 288) (by rfl) (by rfl)
theorem se_N_image : Cond.selects R_N y_N_image y_N_image ∈ G0 := G0_of (i := 289) (by rfl) (by rfl)
theorem co_N_image : Cond.code y_N_image b_N_image 3 (some .int) ∈ G0 := G0_of (i := 290) (by rfl) (by rfl)
theorem ml_N_72 : Cond.methodLink R_N 72 y_W_hasPlace ∈ G0 := G0_of (i := 291) (by rfl) (by rfl)
theorem ml_L_71 : Cond.methodLink R_L 71 y_B_form ∈ G0 := G0_of (i := 292) (by rfl) (by rfl)
theorem im_B_form : Cond.instanceMethod y_B_form ∈ G0 := G0_of (i := 293) (by rfl) (by rfl)
theorem se_B_form : Cond.selects R_B y_B_form y_B_form ∈ G0 := G0_of (i := 294) (by rfl) (by rfl)
theorem co_B_form : Cond.code y_B_form b_B_form 5 (some .int) ∈ G0 := G0_of (i := 295) (by rfl) (by rfl)
theorem ml_B_109 : Cond.methodLink R_B 109 y_N_image ∈ G0 := G0_of (i := 296) (by rfl) (by rfl)
theorem ml_L_76 : Cond.methodLink R_L 76 y_B_length ∈ G0 := G0_of (i := 297) (by rfl) (by rfl)
theorem im_B_length : Cond.instanceMethod y_B_length ∈ G0 := G0_of (i := 298) (by rfl) (by rfl)
theorem se_B_length : Cond.selects R_B y_B_length y_B_length ∈ G0 := G0_of (i := 299) (by rfl) (by rfl)
theorem co_B_length : Cond.code y_B_length b_B_length 2 (some .int) ∈ G0 := G0_of (i := 300) (by rfl) (by rfl)
theorem ml_B_113 : Cond.methodLink R_B 113 y_N_size ∈ G0 := G0_of (i := 301) (by rfl) (by rfl)
theorem ml_L_81 : Cond.methodLink R_L 81 y_B_crossing ∈ G0 := G0_of (i := 302) (by rfl) (by rfl)
theorem im_B_crossing : Cond.instanceMethod y_B_crossing ∈ G0 := G0_of (i := 303) (by rfl) (by rfl)
theorem se_B_crossing : Cond.selects R_B y_B_crossing y_B_crossing ∈ G0 := G0_of (i := 304) (by rfl) (by rfl)
theorem co_B_crossing : Cond.code y_B_crossing b_B_crossing 4 (some .int) ∈ G0 := G0_of (i := 305) (by rfl) (by rfl)
theorem ml_B_116 : Cond.methodLink R_B 116 y_JI_signum ∈ G0 := G0_of (i := 306) (by rfl) (by rfl)
theorem ml_B_121 : Cond.methodLink R_B 121 y_W_cornerLabel ∈ G0 := G0_of (i := 307) (by rfl) (by rfl)
theorem im_W_cornerLabel : Cond.instanceMethod y_W_cornerLabel ∈ G0 := G0_of (i := 308) (by rfl) (by rfl)
theorem se_W_cornerLabel : Cond.selects R_W y_W_cornerLabel y_W_cornerLabel ∈ G0 := G0_of (i := 309) (by rfl) (by rfl)
theorem co_W_cornerLabel : Cond.code y_W_cornerLabel b_W_cornerLabel 5 (some .int) ∈ G0 := G0_of (i := 310) (by rfl) (by rfl)
theorem ml_W_67 : Cond.methodLink R_W 67 y_W_labelAbove ∈ G0 := G0_of (i := 311) (by rfl) (by rfl)
theorem im_W_labelAbove : Cond.instanceMethod y_W_labelAbove ∈ G0 := G0_of (i := 313) (by rfl) (by rfl)
theorem co_W_labelAbove : Cond.code y_W_labelAbove b_W_labelAbove 4 (some .int) ∈ G0 := G0_of (i := 314) (by rfl) (by rfl)
theorem ml_W_74 : Cond.methodLink R_W 74 y_W_madeLabel ∈ G0 := G0_of (i := 315) (by rfl) (by rfl)
theorem im_W_madeLabel : Cond.instanceMethod y_W_madeLabel ∈ G0 := G0_of (i := 317) (by rfl) (by rfl)
theorem co_W_madeLabel : Cond.code y_W_madeLabel b_W_madeLabel 3 (some .int) ∈ G0 := G0_of (i := 318) (by rfl) (by rfl)
theorem ml_W_71 : Cond.methodLink R_W 71 y_W_labelBelow ∈ G0 := G0_of (i := 319) (by rfl) (by rfl)
theorem im_W_labelBelow : Cond.instanceMethod y_W_labelBelow ∈ G0 := G0_of (i := 321) (by rfl) (by rfl)
theorem co_W_labelBelow : Cond.code y_W_labelBelow b_W_labelBelow 3 (some .int) ∈ G0 := G0_of (i := 322) (by rfl) (by rfl)
theorem cl_L_10 : Cond.classLink R_L 10 R_M ∈ G0 := G0_of (i := 323) (by rfl) (by rfl)
theorem ia_M : Cond.instantiable R_M 19 ∈ G0 := G0_of (i := 324) (by rfl) (by rfl)
theorem ml_L_12 : Cond.methodLink R_L 12 y_M_init ∈ G0 := G0_of (i := 325) (by rfl) (by rfl)
theorem im_M_init : Cond.instanceMethod y_M_init ∈ G0 := G0_of (i := 326) (by rfl) (by rfl)
theorem co_M_init : Cond.code y_M_init b_M_init 1 (none) ∈ G0 := G0_of (i := 327) (by rfl) (by rfl)
theorem ml_M_1 : Cond.methodLink R_M 1 objectInit ∈ G0 := G0_of (i := 328) (by rfl) (by rfl)
theorem fl_M_7 : Cond.fieldLink R_M 7 R_M "strands" "[I" ∈ G0 := G0_of (i := 329) (by rfl) (by rfl)
theorem fl_M_13 : Cond.fieldLink R_M 13 R_M "size" "[I" ∈ G0 := G0_of (i := 330) (by rfl) (by rfl)
theorem fl_M_16 : Cond.fieldLink R_M 16 R_M "word" "[I" ∈ G0 := G0_of (i := 331) (by rfl) (by rfl)
theorem fl_M_19 : Cond.fieldLink R_M 19 R_M "letterOf" "[I" ∈ G0 := G0_of (i := 332) (by rfl) (by rfl)
theorem fl_M_22 : Cond.fieldLink R_M 22 R_M "next" "[I" ∈ G0 := G0_of (i := 333) (by rfl) (by rfl)
theorem fl_M_25 : Cond.fieldLink R_M 25 R_M "before" "[I" ∈ G0 := G0_of (i := 334) (by rfl) (by rfl)
theorem fl_M_88 : Cond.fieldLink R_M 88 R_M "made" "I" ∈ G0 := G0_of (i := 335) (by rfl) (by rfl)
theorem fl_M_91 : Cond.fieldLink R_M 91 R_M "free" "I" ∈ G0 := G0_of (i := 336) (by rfl) (by rfl)
theorem fl_M_105 : Cond.fieldLink R_M 105 R_M "positives" "I" ∈ G0 := G0_of (i := 337) (by rfl) (by rfl)
theorem fl_M_28 : Cond.fieldLink R_M 28 R_M "positive" "[I" ∈ G0 := G0_of (i := 338) (by rfl) (by rfl)
theorem fl_M_31 : Cond.fieldLink R_M 31 R_M "target" "[I" ∈ G0 := G0_of (i := 339) (by rfl) (by rfl)
theorem fl_M_34 : Cond.fieldLink R_M 34 R_M "ended" "[I" ∈ G0 := G0_of (i := 340) (by rfl) (by rfl)
theorem fl_M_37 : Cond.fieldLink R_M 37 R_M "known" "[Z" ∈ G0 := G0_of (i := 341) (by rfl) (by rfl)
theorem fl_M_41 : Cond.fieldLink R_M 41 R_M "turns" "[I" ∈ G0 := G0_of (i := 342) (by rfl) (by rfl)
theorem fl_M_44 : Cond.fieldLink R_M 44 R_M "simples" "[I" ∈ G0 := G0_of (i := 343) (by rfl) (by rfl)
theorem fl_M_47 : Cond.fieldLink R_M 47 R_M "simple" "[I" ∈ G0 := G0_of (i := 344) (by rfl) (by rfl)
theorem fl_M_50 : Cond.fieldLink R_M 50 R_M "label" "[I" ∈ G0 := G0_of (i := 345) (by rfl) (by rfl)
theorem fl_M_53 : Cond.fieldLink R_M 53 R_M "corner" "[I" ∈ G0 := G0_of (i := 346) (by rfl) (by rfl)
theorem ac_boolean : Cond.arrayClass .boolean ∈ G0 := G0_of (i := 386) (by rfl) (by rfl)
theorem ml_L_17 : Cond.methodLink R_L 17 y_M_strands ∈ G0 := G0_of (i := 387) (by rfl) (by rfl)
theorem im_M_strands : Cond.instanceMethod y_M_strands ∈ G0 := G0_of (i := 388) (by rfl) (by rfl)
theorem se_M_strands : Cond.selects R_M y_M_strands y_M_strands ∈ G0 := G0_of (i := 389) (by rfl) (by rfl)
theorem co_M_strands : Cond.code y_M_strands b_M_strands 3 (some .boolean) ∈ G0 := G0_of (i := 390) (by rfl) (by rfl)
theorem ml_M_60 : Cond.methodLink R_M 60 y_M_isSlot ∈ G0 := G0_of (i := 391) (by rfl) (by rfl)
theorem st_M_isSlot : Cond.static y_M_isSlot ∈ G0 := G0_of (i := 392) (by rfl) (by rfl)
theorem co_M_isSlot : Cond.code y_M_isSlot b_M_isSlot 1 (some .boolean) ∈ G0 := G0_of (i := 393) (by rfl) (by rfl)
theorem ml_L_22 : Cond.methodLink R_L 22 y_M_letter ∈ G0 := G0_of (i := 394) (by rfl) (by rfl)
theorem im_M_letter : Cond.instanceMethod y_M_letter ∈ G0 := G0_of (i := 395) (by rfl) (by rfl)
theorem se_M_letter : Cond.selects R_M y_M_letter y_M_letter ∈ G0 := G0_of (i := 396) (by rfl) (by rfl)
theorem co_M_letter : Cond.code y_M_letter b_M_letter 3 (some .int) ∈ G0 := G0_of (i := 397) (by rfl) (by rfl)
theorem ml_L_27 : Cond.methodLink R_L 27 y_M_copy ∈ G0 := G0_of (i := 398) (by rfl) (by rfl)
theorem im_M_copy : Cond.instanceMethod y_M_copy ∈ G0 := G0_of (i := 399) (by rfl) (by rfl)
theorem se_M_copy : Cond.selects R_M y_M_copy y_M_copy ∈ G0 := G0_of (i := 400) (by rfl) (by rfl)
set_option maxRecDepth 20000 in
theorem co_M_copy : Cond.code y_M_copy b_M_copy 6 (some .boolean) ∈ G0 := G0_of (i := 401) (by rfl) (by rfl)
set_option maxRecDepth 20000 in
theorem ml_M_64 : Cond.methodLink R_M 64 y_M_letterAt ∈ G0 := G0_of (i := 402) (by rfl) (by rfl)
set_option maxRecDepth 20000 in
theorem im_M_letterAt : Cond.instanceMethod y_M_letterAt ∈ G0 := G0_of (i := 404) (by rfl) (by rfl)
set_option maxRecDepth 20000 in
theorem co_M_letterAt : Cond.code y_M_letterAt b_M_letterAt 3 (some .int) ∈ G0 := G0_of (i := 405) (by rfl) (by rfl)
set_option maxRecDepth 20000 in
theorem ml_L_39 : Cond.methodLink R_L 39 y_M_end ∈ G0 := G0_of (i := 406) (by rfl) (by rfl)
set_option maxRecDepth 20000 in
theorem im_M_end : Cond.instanceMethod y_M_end ∈ G0 := G0_of (i := 407) (by rfl) (by rfl)
set_option maxRecDepth 20000 in
theorem se_M_end : Cond.selects R_M y_M_end y_M_end ∈ G0 := G0_of (i := 408) (by rfl) (by rfl)
set_option maxRecDepth 20000 in
theorem co_M_end : Cond.code y_M_end b_M_end 3 (some .int) ∈ G0 := G0_of (i := 409) (by rfl) (by rfl)
set_option maxRecDepth 20000 in
theorem ml_M_72 : Cond.methodLink R_M 72 y_M_endOf ∈ G0 := G0_of (i := 410) (by rfl) (by rfl)
set_option maxRecDepth 20000 in
theorem im_M_endOf : Cond.instanceMethod y_M_endOf ∈ G0 := G0_of (i := 412) (by rfl) (by rfl)
set_option maxRecDepth 20000 in
theorem co_M_endOf : Cond.code y_M_endOf b_M_endOf 6 (some .int) ∈ G0 := G0_of (i := 413) (by rfl) (by rfl)
set_option maxRecDepth 20000 in
theorem ml_M_68 : Cond.methodLink R_M 68 y_M_value ∈ G0 := G0_of (i := 414) (by rfl) (by rfl)
set_option maxRecDepth 20000 in
theorem st_M_value : Cond.static y_M_value ∈ G0 := G0_of (i := 415) (by rfl) (by rfl)
set_option maxRecDepth 20000 in
theorem co_M_value : Cond.code y_M_value b_M_value 1 (some .int) ∈ G0 := G0_of (i := 416) (by rfl) (by rfl)
set_option maxRecDepth 20000 in
theorem ml_L_31 : Cond.methodLink R_L 31 y_M_many ∈ G0 := G0_of (i := 417) (by rfl) (by rfl)
set_option maxRecDepth 20000 in
theorem im_M_many : Cond.instanceMethod y_M_many ∈ G0 := G0_of (i := 418) (by rfl) (by rfl)
set_option maxRecDepth 20000 in
theorem se_M_many : Cond.selects R_M y_M_many y_M_many ∈ G0 := G0_of (i := 419) (by rfl) (by rfl)
set_option maxRecDepth 20000 in
theorem co_M_many : Cond.code y_M_many b_M_many 3 (some .int) ∈ G0 := G0_of (i := 420) (by rfl) (by rfl)
set_option maxRecDepth 20000 in
theorem ml_M_75 : Cond.methodLink R_M 75 y_M_signs ∈ G0 := G0_of (i := 421) (by rfl) (by rfl)
set_option maxRecDepth 20000 in
theorem im_M_signs : Cond.instanceMethod y_M_signs ∈ G0 := G0_of (i := 423) (by rfl) (by rfl)
set_option maxRecDepth 20000 in
theorem co_M_signs : Cond.code y_M_signs b_M_signs 4 (some .int) ∈ G0 := G0_of (i := 424) (by rfl) (by rfl)
set_option maxRecDepth 20000 in
theorem ml_M_78 : Cond.methodLink R_M 78 y_M_rounds ∈ G0 := G0_of (i := 425) (by rfl) (by rfl)
set_option maxRecDepth 20000 in
theorem im_M_rounds : Cond.instanceMethod y_M_rounds ∈ G0 := G0_of (i := 427) (by rfl) (by rfl)
set_option maxRecDepth 20000 in
theorem co_M_rounds : Cond.code y_M_rounds b_M_rounds 6 (some .int) ∈ G0 := G0_of (i := 428) (by rfl) (by rfl)
set_option maxRecDepth 20000 in
theorem ml_M_81 : Cond.methodLink R_M 81 y_M_untouched ∈ G0 := G0_of (i := 429) (by rfl) (by rfl)
set_option maxRecDepth 20000 in
theorem im_M_untouched : Cond.instanceMethod y_M_untouched ∈ G0 := G0_of (i := 431) (by rfl) (by rfl)
set_option maxRecDepth 20000 in
theorem co_M_untouched : Cond.code y_M_untouched b_M_untouched 6 (some .int) ∈ G0 := G0_of (i := 432) (by rfl) (by rfl)
set_option maxRecDepth 20000 in
theorem ml_L_35 : Cond.methodLink R_L 35 y_M_at ∈ G0 := G0_of (i := 433) (by rfl) (by rfl)
set_option maxRecDepth 20000 in
theorem im_M_at : Cond.instanceMethod y_M_at ∈ G0 := G0_of (i := 434) (by rfl) (by rfl)
set_option maxRecDepth 20000 in
theorem se_M_at : Cond.selects R_M y_M_at y_M_at ∈ G0 := G0_of (i := 435) (by rfl) (by rfl)
set_option maxRecDepth 20000 in
theorem co_M_at : Cond.code y_M_at b_M_at 3 (some .int) ∈ G0 := G0_of (i := 436) (by rfl) (by rfl)
set_option maxRecDepth 20000 in
theorem ml_L_44 : Cond.methodLink R_L 44 y_M_reduce ∈ G0 := G0_of (i := 437) (by rfl) (by rfl)
set_option maxRecDepth 20000 in
theorem im_M_reduce : Cond.instanceMethod y_M_reduce ∈ G0 := G0_of (i := 438) (by rfl) (by rfl)
set_option maxRecDepth 20000 in
theorem se_M_reduce : Cond.selects R_M y_M_reduce y_M_reduce ∈ G0 := G0_of (i := 439) (by rfl) (by rfl)
set_option maxRecDepth 20000 in
theorem co_M_reduce : Cond.code y_M_reduce b_M_reduce 5 (some .int) ∈ G0 := G0_of (i := 440) (by rfl) (by rfl)
set_option maxRecDepth 20000 in
theorem ml_M_84 : Cond.methodLink R_M 84 y_M_remove ∈ G0 := G0_of (i := 441) (by rfl) (by rfl)
set_option maxRecDepth 20000 in
theorem im_M_remove : Cond.instanceMethod y_M_remove ∈ G0 := G0_of (i := 443) (by rfl) (by rfl)
set_option maxRecDepth 20000 in
theorem co_M_remove : Cond.code y_M_remove b_M_remove 4 (none) ∈ G0 := G0_of (i := 444) (by rfl) (by rfl)
set_option maxRecDepth 20000 in
theorem ml_L_49 : Cond.methodLink R_L 49 y_M_round ∈ G0 := G0_of (i := 445) (by rfl) (by rfl)
set_option maxRecDepth 20000 in
theorem im_M_round : Cond.instanceMethod y_M_round ∈ G0 := G0_of (i := 446) (by rfl) (by rfl)
set_option maxRecDepth 20000 in
theorem se_M_round : Cond.selects R_M y_M_round y_M_round ∈ G0 := G0_of (i := 447) (by rfl) (by rfl)
set_option maxRecDepth 20000 in
theorem co_M_round : Cond.code y_M_round b_M_round 6 (some .boolean) ∈ G0 := G0_of (i := 448) (by rfl) (by rfl)
set_option maxRecDepth 20000 in
theorem ml_L_53 : Cond.methodLink R_L 53 y_M_exchange ∈ G0 := G0_of (i := 449) (by rfl) (by rfl)
set_option maxRecDepth 20000 in
theorem im_M_exchange : Cond.instanceMethod y_M_exchange ∈ G0 := G0_of (i := 450) (by rfl) (by rfl)
set_option maxRecDepth 20000 in
theorem se_M_exchange : Cond.selects R_M y_M_exchange y_M_exchange ∈ G0 := G0_of (i := 451) (by rfl) (by rfl)
set_option maxRecDepth 20000 in
theorem co_M_exchange : Cond.code y_M_exchange b_M_exchange 6 (some .boolean) ∈ G0 := G0_of (i := 452) (by rfl) (by rfl)
set_option maxRecDepth 20000 in
theorem ml_L_57 : Cond.methodLink R_L 57 y_M_pass ∈ G0 := G0_of (i := 453) (by rfl) (by rfl)
set_option maxRecDepth 20000 in
theorem im_M_pass : Cond.instanceMethod y_M_pass ∈ G0 := G0_of (i := 454) (by rfl) (by rfl)
set_option maxRecDepth 20000 in
theorem se_M_pass : Cond.selects R_M y_M_pass y_M_pass ∈ G0 := G0_of (i := 455) (by rfl) (by rfl)
set_option maxRecDepth 20000 in
theorem co_M_pass : Cond.code y_M_pass b_M_pass 10 (some .boolean) ∈ G0 := G0_of (i := 456) (by rfl) (by rfl)
set_option maxRecDepth 20000 in
theorem ml_L_61 : Cond.methodLink R_L 61 y_M_grow ∈ G0 := G0_of (i := 457) (by rfl) (by rfl)
set_option maxRecDepth 20000 in
theorem im_M_grow : Cond.instanceMethod y_M_grow ∈ G0 := G0_of (i := 458) (by rfl) (by rfl)
set_option maxRecDepth 20000 in
theorem se_M_grow : Cond.selects R_M y_M_grow y_M_grow ∈ G0 := G0_of (i := 459) (by rfl) (by rfl)
set_option maxRecDepth 20000 in
theorem co_M_grow : Cond.code y_M_grow b_M_grow 3 (some .boolean) ∈ G0 := G0_of (i := 460) (by rfl) (by rfl)
set_option maxRecDepth 20000 in
theorem ml_L_66 : Cond.methodLink R_L 66 y_M_shrink ∈ G0 := G0_of (i := 461) (by rfl) (by rfl)
set_option maxRecDepth 20000 in
theorem im_M_shrink : Cond.instanceMethod y_M_shrink ∈ G0 := G0_of (i := 462) (by rfl) (by rfl)
set_option maxRecDepth 20000 in
theorem se_M_shrink : Cond.selects R_M y_M_shrink y_M_shrink ∈ G0 := G0_of (i := 463) (by rfl) (by rfl)
set_option maxRecDepth 20000 in
theorem co_M_shrink : Cond.code y_M_shrink b_M_shrink 4 (some .boolean) ∈ G0 := G0_of (i := 464) (by rfl) (by rfl)
set_option maxRecDepth 20000 in
theorem ml_L_70 : Cond.methodLink R_L 70 y_M_same ∈ G0 := G0_of (i := 465) (by rfl) (by rfl)
set_option maxRecDepth 20000 in
theorem im_M_same : Cond.instanceMethod y_M_same ∈ G0 := G0_of (i := 466) (by rfl) (by rfl)
set_option maxRecDepth 20000 in
theorem se_M_same : Cond.selects R_M y_M_same y_M_same ∈ G0 := G0_of (i := 467) (by rfl) (by rfl)
set_option maxRecDepth 20000 in
theorem co_M_same : Cond.code y_M_same b_M_same 5 (some .boolean) ∈ G0 := G0_of (i := 468) (by rfl) (by rfl)
set_option maxRecDepth 20000 in
theorem ml_M_129 : Cond.methodLink R_M 129 y_M_know ∈ G0 := G0_of (i := 469) (by rfl) (by rfl)
set_option maxRecDepth 20000 in
theorem im_M_know : Cond.instanceMethod y_M_know ∈ G0 := G0_of (i := 471) (by rfl) (by rfl)
set_option maxRecDepth 20000 in
theorem co_M_know : Cond.code y_M_know b_M_know 5 (none) ∈ G0 := G0_of (i := 472) (by rfl) (by rfl)
set_option maxRecDepth 20000 in
theorem ml_M_123 : Cond.methodLink R_M 123 y_M_makePositive ∈ G0 := G0_of (i := 473) (by rfl) (by rfl)
set_option maxRecDepth 20000 in
theorem im_M_makePositive : Cond.instanceMethod y_M_makePositive ∈ G0 := G0_of (i := 475) (by rfl) (by rfl)
set_option maxRecDepth 20000 in
theorem co_M_makePositive : Cond.code y_M_makePositive b_M_makePositive 7 (none) ∈ G0 := G0_of (i := 476) (by rfl) (by rfl)
set_option maxRecDepth 20000 in
theorem ml_M_108 : Cond.methodLink R_M 108 y_M_writeSimple ∈ G0 := G0_of (i := 477) (by rfl) (by rfl)
set_option maxRecDepth 20000 in
theorem im_M_writeSimple : Cond.instanceMethod y_M_writeSimple ∈ G0 := G0_of (i := 479) (by rfl) (by rfl)
set_option maxRecDepth 20000 in
theorem co_M_writeSimple : Cond.code y_M_writeSimple b_M_writeSimple 5 (none) ∈ G0 := G0_of (i := 480) (by rfl) (by rfl)
set_option maxRecDepth 20000 in
theorem ml_M_126 : Cond.methodLink R_M 126 y_M_takeSimple ∈ G0 := G0_of (i := 481) (by rfl) (by rfl)
set_option maxRecDepth 20000 in
theorem im_M_takeSimple : Cond.instanceMethod y_M_takeSimple ∈ G0 := G0_of (i := 483) (by rfl) (by rfl)
set_option maxRecDepth 20000 in
theorem co_M_takeSimple : Cond.code y_M_takeSimple b_M_takeSimple 7 (none) ∈ G0 := G0_of (i := 484) (by rfl) (by rfl)
set_option maxRecDepth 20000 in
theorem ml_M_111 : Cond.methodLink R_M 111 y_M_clearChain ∈ G0 := G0_of (i := 485) (by rfl) (by rfl)
set_option maxRecDepth 20000 in
theorem im_M_clearChain : Cond.instanceMethod y_M_clearChain ∈ G0 := G0_of (i := 487) (by rfl) (by rfl)
set_option maxRecDepth 20000 in
theorem co_M_clearChain : Cond.code y_M_clearChain b_M_clearChain 2 (none) ∈ G0 := G0_of (i := 488) (by rfl) (by rfl)
set_option maxRecDepth 20000 in
theorem ml_M_114 : Cond.methodLink R_M 114 y_M_writeTurn ∈ G0 := G0_of (i := 489) (by rfl) (by rfl)
set_option maxRecDepth 20000 in
theorem im_M_writeTurn : Cond.instanceMethod y_M_writeTurn ∈ G0 := G0_of (i := 491) (by rfl) (by rfl)
set_option maxRecDepth 20000 in
theorem co_M_writeTurn : Cond.code y_M_writeTurn b_M_writeTurn 3 (none) ∈ G0 := G0_of (i := 492) (by rfl) (by rfl)
set_option maxRecDepth 20000 in
theorem ml_M_98 : Cond.methodLink R_M 98 y_M_insert ∈ G0 := G0_of (i := 493) (by rfl) (by rfl)
set_option maxRecDepth 20000 in
theorem im_M_insert : Cond.instanceMethod y_M_insert ∈ G0 := G0_of (i := 495) (by rfl) (by rfl)
set_option maxRecDepth 20000 in
theorem co_M_insert : Cond.code y_M_insert b_M_insert 4 (some .int) ∈ G0 := G0_of (i := 496) (by rfl) (by rfl)
set_option maxRecDepth 20000 in
theorem ml_M_117 : Cond.methodLink R_M 117 y_M_turnRight ∈ G0 := G0_of (i := 497) (by rfl) (by rfl)
set_option maxRecDepth 20000 in
theorem im_M_turnRight : Cond.instanceMethod y_M_turnRight ∈ G0 := G0_of (i := 499) (by rfl) (by rfl)
set_option maxRecDepth 20000 in
theorem co_M_turnRight : Cond.code y_M_turnRight b_M_turnRight 7 (none) ∈ G0 := G0_of (i := 500) (by rfl) (by rfl)
set_option maxRecDepth 20000 in
theorem ml_M_94 : Cond.methodLink R_M 94 y_M_take ∈ G0 := G0_of (i := 501) (by rfl) (by rfl)
set_option maxRecDepth 20000 in
theorem im_M_take : Cond.instanceMethod y_M_take ∈ G0 := G0_of (i := 503) (by rfl) (by rfl)
set_option maxRecDepth 20000 in
theorem co_M_take : Cond.code y_M_take b_M_take 2 (none) ∈ G0 := G0_of (i := 504) (by rfl) (by rfl)
set_option maxRecDepth 20000 in
theorem ml_M_101 : Cond.methodLink R_M 101 y_M_isNear ∈ G0 := G0_of (i := 505) (by rfl) (by rfl)
set_option maxRecDepth 20000 in
theorem st_M_isNear : Cond.static y_M_isNear ∈ G0 := G0_of (i := 506) (by rfl) (by rfl)
set_option maxRecDepth 20000 in
theorem co_M_isNear : Cond.code y_M_isNear b_M_isNear 2 (some .boolean) ∈ G0 := G0_of (i := 507) (by rfl) (by rfl)
set_option maxRecDepth 20000 in
theorem ml_M_120 : Cond.methodLink R_M 120 y_M_turnLeft ∈ G0 := G0_of (i := 508) (by rfl) (by rfl)
set_option maxRecDepth 20000 in
theorem im_M_turnLeft : Cond.instanceMethod y_M_turnLeft ∈ G0 := G0_of (i := 510) (by rfl) (by rfl)
set_option maxRecDepth 20000 in
theorem co_M_turnLeft : Cond.code y_M_turnLeft b_M_turnLeft 7 (none) ∈ G0 := G0_of (i := 511) (by rfl) (by rfl)
set_option maxRecDepth 20000 in
theorem ml_L_75 : Cond.methodLink R_L 75 y_M_form ∈ G0 := G0_of (i := 512) (by rfl) (by rfl)
set_option maxRecDepth 20000 in
theorem im_M_form : Cond.instanceMethod y_M_form ∈ G0 := G0_of (i := 513) (by rfl) (by rfl)
set_option maxRecDepth 20000 in
theorem se_M_form : Cond.selects R_M y_M_form y_M_form ∈ G0 := G0_of (i := 514) (by rfl) (by rfl)
set_option maxRecDepth 20000 in
theorem co_M_form : Cond.code y_M_form b_M_form 4 (some .int) ∈ G0 := G0_of (i := 515) (by rfl) (by rfl)
set_option maxRecDepth 20000 in
theorem ml_L_80 : Cond.methodLink R_L 80 y_M_length ∈ G0 := G0_of (i := 516) (by rfl) (by rfl)
set_option maxRecDepth 20000 in
theorem im_M_length : Cond.instanceMethod y_M_length ∈ G0 := G0_of (i := 517) (by rfl) (by rfl)
set_option maxRecDepth 20000 in
theorem se_M_length : Cond.selects R_M y_M_length y_M_length ∈ G0 := G0_of (i := 518) (by rfl) (by rfl)
set_option maxRecDepth 20000 in
theorem co_M_length : Cond.code y_M_length b_M_length 2 (some .int) ∈ G0 := G0_of (i := 519) (by rfl) (by rfl)
set_option maxRecDepth 20000 in
theorem ml_L_84 : Cond.methodLink R_L 84 y_M_crossing ∈ G0 := G0_of (i := 520) (by rfl) (by rfl)
set_option maxRecDepth 20000 in
theorem im_M_crossing : Cond.instanceMethod y_M_crossing ∈ G0 := G0_of (i := 521) (by rfl) (by rfl)
set_option maxRecDepth 20000 in
theorem se_M_crossing : Cond.selects R_M y_M_crossing y_M_crossing ∈ G0 := G0_of (i := 522) (by rfl) (by rfl)
set_option maxRecDepth 20000 in
theorem co_M_crossing : Cond.code y_M_crossing b_M_crossing 4 (some .int) ∈ G0 := G0_of (i := 523) (by rfl) (by rfl)
set_option maxRecDepth 20000 in
theorem ml_M_132 : Cond.methodLink R_M 132 y_M_close ∈ G0 := G0_of (i := 524) (by rfl) (by rfl)
set_option maxRecDepth 20000 in
theorem im_M_close : Cond.instanceMethod y_M_close ∈ G0 := G0_of (i := 526) (by rfl) (by rfl)
set_option maxRecDepth 20000 in
theorem co_M_close : Cond.code y_M_close b_M_close 8 (none) ∈ G0 := G0_of (i := 527) (by rfl) (by rfl)
theorem la_W : ∀ w ∈ u_ws R_W F_W 3, w ∈ G0 := by decide +kernel
theorem la_N : ∀ w ∈ u_ws R_N F_N 6, w ∈ G0 := by decide +kernel
theorem la_B : ∀ w ∈ u_ws R_B F_B 2, w ∈ G0 := by decide +kernel
theorem la_M : ∀ w ∈ u_ws R_M F_M 19, w ∈ G0 := by decide +kernel
theorem hd_B_init : y_B_init.cls = R_B ∧ y_B_init.cls ≠ "java/lang/invoke/MethodHandle" ∧ y_B_init.cls ≠ "java/lang/invoke/VarHandle" ∧ (parseMethodDescriptor y_B_init.desc).map (fun d => d.parameters.length) = some 0 := by decide +kernel
theorem hd_W_init : y_W_init.cls = R_W ∧ y_W_init.cls ≠ "java/lang/invoke/MethodHandle" ∧ y_W_init.cls ≠ "java/lang/invoke/VarHandle" ∧ (parseMethodDescriptor y_W_init.desc).map (fun d => d.parameters.length) = some 0 := by decide +kernel
theorem hd_N_init : y_N_init.cls = R_N ∧ y_N_init.cls ≠ "java/lang/invoke/MethodHandle" ∧ y_N_init.cls ≠ "java/lang/invoke/VarHandle" ∧ (parseMethodDescriptor y_N_init.desc).map (fun d => d.parameters.length) = some 0 := by decide +kernel
theorem hd_B_strands : y_B_strands.cls = R_B ∧ y_B_strands.cls ≠ "java/lang/invoke/MethodHandle" ∧ y_B_strands.cls ≠ "java/lang/invoke/VarHandle" ∧ (parseMethodDescriptor y_B_strands.desc).map (fun d => d.parameters.length) = some 2 := by decide +kernel
theorem hd_B_isSlot : y_B_isSlot.cls = R_B ∧ y_B_isSlot.cls ≠ "java/lang/invoke/MethodHandle" ∧ y_B_isSlot.cls ≠ "java/lang/invoke/VarHandle" ∧ (parseMethodDescriptor y_B_isSlot.desc).map (fun d => d.parameters.length) = some 1 := by decide +kernel
theorem hd_W_clear : y_W_clear.cls = R_W ∧ y_W_clear.cls ≠ "java/lang/invoke/MethodHandle" ∧ y_W_clear.cls ≠ "java/lang/invoke/VarHandle" ∧ (parseMethodDescriptor y_W_clear.desc).map (fun d => d.parameters.length) = some 1 := by decide +kernel
theorem hd_B_letter : y_B_letter.cls = R_B ∧ y_B_letter.cls ≠ "java/lang/invoke/MethodHandle" ∧ y_B_letter.cls ≠ "java/lang/invoke/VarHandle" ∧ (parseMethodDescriptor y_B_letter.desc).map (fun d => d.parameters.length) = some 2 := by decide +kernel
theorem hd_W_append : y_W_append.cls = R_W ∧ y_W_append.cls ≠ "java/lang/invoke/MethodHandle" ∧ y_W_append.cls ≠ "java/lang/invoke/VarHandle" ∧ (parseMethodDescriptor y_W_append.desc).map (fun d => d.parameters.length) = some 1 := by decide +kernel
theorem hd_B_copy : y_B_copy.cls = R_B ∧ y_B_copy.cls ≠ "java/lang/invoke/MethodHandle" ∧ y_B_copy.cls ≠ "java/lang/invoke/VarHandle" ∧ (parseMethodDescriptor y_B_copy.desc).map (fun d => d.parameters.length) = some 3 := by decide +kernel
theorem hd_W_take : y_W_take.cls = R_W ∧ y_W_take.cls ≠ "java/lang/invoke/MethodHandle" ∧ y_W_take.cls ≠ "java/lang/invoke/VarHandle" ∧ (parseMethodDescriptor y_W_take.desc).map (fun d => d.parameters.length) = some 1 := by decide +kernel
theorem hd_W_invert : y_W_invert.cls = R_W ∧ y_W_invert.cls ≠ "java/lang/invoke/MethodHandle" ∧ y_W_invert.cls ≠ "java/lang/invoke/VarHandle" ∧ (parseMethodDescriptor y_W_invert.desc).map (fun d => d.parameters.length) = some 0 := by decide +kernel
theorem hd_B_many : y_B_many.cls = R_B ∧ y_B_many.cls ≠ "java/lang/invoke/MethodHandle" ∧ y_B_many.cls ≠ "java/lang/invoke/VarHandle" ∧ (parseMethodDescriptor y_B_many.desc).map (fun d => d.parameters.length) = some 2 := by decide +kernel
theorem hd_W_signSum : y_W_signSum.cls = R_W ∧ y_W_signSum.cls ≠ "java/lang/invoke/MethodHandle" ∧ y_W_signSum.cls ≠ "java/lang/invoke/VarHandle" ∧ (parseMethodDescriptor y_W_signSum.desc).map (fun d => d.parameters.length) = some 0 := by decide +kernel
theorem hd_JI_signum : y_JI_signum.cls = R_JI ∧ y_JI_signum.cls ≠ "java/lang/invoke/MethodHandle" ∧ y_JI_signum.cls ≠ "java/lang/invoke/VarHandle" ∧ (parseMethodDescriptor y_JI_signum.desc).map (fun d => d.parameters.length) = some 1 := by decide +kernel
theorem hd_W_components : y_W_components.cls = R_W ∧ y_W_components.cls ≠ "java/lang/invoke/MethodHandle" ∧ y_W_components.cls ≠ "java/lang/invoke/VarHandle" ∧ (parseMethodDescriptor y_W_components.desc).map (fun d => d.parameters.length) = some 0 := by decide +kernel
theorem hd_W_endOf : y_W_endOf.cls = R_W ∧ y_W_endOf.cls ≠ "java/lang/invoke/MethodHandle" ∧ y_W_endOf.cls ≠ "java/lang/invoke/VarHandle" ∧ (parseMethodDescriptor y_W_endOf.desc).map (fun d => d.parameters.length) = some 1 := by decide +kernel
theorem hd_W_value : y_W_value.cls = R_W ∧ y_W_value.cls ≠ "java/lang/invoke/MethodHandle" ∧ y_W_value.cls ≠ "java/lang/invoke/VarHandle" ∧ (parseMethodDescriptor y_W_value.desc).map (fun d => d.parameters.length) = some 1 := by decide +kernel
theorem hd_JM_abs : y_JM_abs.cls = R_JM ∧ y_JM_abs.cls ≠ "java/lang/invoke/MethodHandle" ∧ y_JM_abs.cls ≠ "java/lang/invoke/VarHandle" ∧ (parseMethodDescriptor y_JM_abs.desc).map (fun d => d.parameters.length) = some 1 := by decide +kernel
theorem hd_W_circles : y_W_circles.cls = R_W ∧ y_W_circles.cls ≠ "java/lang/invoke/MethodHandle" ∧ y_W_circles.cls ≠ "java/lang/invoke/VarHandle" ∧ (parseMethodDescriptor y_W_circles.desc).map (fun d => d.parameters.length) = some 0 := by decide +kernel
theorem hd_W_touchedFrom : y_W_touchedFrom.cls = R_W ∧ y_W_touchedFrom.cls ≠ "java/lang/invoke/MethodHandle" ∧ y_W_touchedFrom.cls ≠ "java/lang/invoke/VarHandle" ∧ (parseMethodDescriptor y_W_touchedFrom.desc).map (fun d => d.parameters.length) = some 2 := by decide +kernel
theorem hd_W_touches : y_W_touches.cls = R_W ∧ y_W_touches.cls ≠ "java/lang/invoke/MethodHandle" ∧ y_W_touches.cls ≠ "java/lang/invoke/VarHandle" ∧ (parseMethodDescriptor y_W_touches.desc).map (fun d => d.parameters.length) = some 2 := by decide +kernel
theorem hd_B_at : y_B_at.cls = R_B ∧ y_B_at.cls ≠ "java/lang/invoke/MethodHandle" ∧ y_B_at.cls ≠ "java/lang/invoke/VarHandle" ∧ (parseMethodDescriptor y_B_at.desc).map (fun d => d.parameters.length) = some 2 := by decide +kernel
theorem hd_W_hasLetters : y_W_hasLetters.cls = R_W ∧ y_W_hasLetters.cls ≠ "java/lang/invoke/MethodHandle" ∧ y_W_hasLetters.cls ≠ "java/lang/invoke/VarHandle" ∧ (parseMethodDescriptor y_W_hasLetters.desc).map (fun d => d.parameters.length) = some 2 := by decide +kernel
theorem hd_B_end : y_B_end.cls = R_B ∧ y_B_end.cls ≠ "java/lang/invoke/MethodHandle" ∧ y_B_end.cls ≠ "java/lang/invoke/VarHandle" ∧ (parseMethodDescriptor y_B_end.desc).map (fun d => d.parameters.length) = some 2 := by decide +kernel
theorem hd_W_hasPlace : y_W_hasPlace.cls = R_W ∧ y_W_hasPlace.cls ≠ "java/lang/invoke/MethodHandle" ∧ y_W_hasPlace.cls ≠ "java/lang/invoke/VarHandle" ∧ (parseMethodDescriptor y_W_hasPlace.desc).map (fun d => d.parameters.length) = some 1 := by decide +kernel
theorem hd_B_reduce : y_B_reduce.cls = R_B ∧ y_B_reduce.cls ≠ "java/lang/invoke/MethodHandle" ∧ y_B_reduce.cls ≠ "java/lang/invoke/VarHandle" ∧ (parseMethodDescriptor y_B_reduce.desc).map (fun d => d.parameters.length) = some 2 := by decide +kernel
theorem hd_W_cancelNeighbours : y_W_cancelNeighbours.cls = R_W ∧ y_W_cancelNeighbours.cls ≠ "java/lang/invoke/MethodHandle" ∧ y_W_cancelNeighbours.cls ≠ "java/lang/invoke/VarHandle" ∧ (parseMethodDescriptor y_W_cancelNeighbours.desc).map (fun d => d.parameters.length) = some 0 := by decide +kernel
theorem hd_W_cancelEnds : y_W_cancelEnds.cls = R_W ∧ y_W_cancelEnds.cls ≠ "java/lang/invoke/MethodHandle" ∧ y_W_cancelEnds.cls ≠ "java/lang/invoke/VarHandle" ∧ (parseMethodDescriptor y_W_cancelEnds.desc).map (fun d => d.parameters.length) = some 0 := by decide +kernel
theorem hd_B_round : y_B_round.cls = R_B ∧ y_B_round.cls ≠ "java/lang/invoke/MethodHandle" ∧ y_B_round.cls ≠ "java/lang/invoke/VarHandle" ∧ (parseMethodDescriptor y_B_round.desc).map (fun d => d.parameters.length) = some 2 := by decide +kernel
theorem hd_W_lastToFront : y_W_lastToFront.cls = R_W ∧ y_W_lastToFront.cls ≠ "java/lang/invoke/MethodHandle" ∧ y_W_lastToFront.cls ≠ "java/lang/invoke/VarHandle" ∧ (parseMethodDescriptor y_W_lastToFront.desc).map (fun d => d.parameters.length) = some 0 := by decide +kernel
theorem hd_W_firstToBack : y_W_firstToBack.cls = R_W ∧ y_W_firstToBack.cls ≠ "java/lang/invoke/MethodHandle" ∧ y_W_firstToBack.cls ≠ "java/lang/invoke/VarHandle" ∧ (parseMethodDescriptor y_W_firstToBack.desc).map (fun d => d.parameters.length) = some 0 := by decide +kernel
theorem hd_B_exchange : y_B_exchange.cls = R_B ∧ y_B_exchange.cls ≠ "java/lang/invoke/MethodHandle" ∧ y_B_exchange.cls ≠ "java/lang/invoke/VarHandle" ∧ (parseMethodDescriptor y_B_exchange.desc).map (fun d => d.parameters.length) = some 2 := by decide +kernel
theorem hd_W_swapFar : y_W_swapFar.cls = R_W ∧ y_W_swapFar.cls ≠ "java/lang/invoke/MethodHandle" ∧ y_W_swapFar.cls ≠ "java/lang/invoke/VarHandle" ∧ (parseMethodDescriptor y_W_swapFar.desc).map (fun d => d.parameters.length) = some 1 := by decide +kernel
theorem hd_B_swapAt : y_B_swapAt.cls = R_B ∧ y_B_swapAt.cls ≠ "java/lang/invoke/MethodHandle" ∧ y_B_swapAt.cls ≠ "java/lang/invoke/VarHandle" ∧ (parseMethodDescriptor y_B_swapAt.desc).map (fun d => d.parameters.length) = some 2 := by decide +kernel
theorem hd_B_pass : y_B_pass.cls = R_B ∧ y_B_pass.cls ≠ "java/lang/invoke/MethodHandle" ∧ y_B_pass.cls ≠ "java/lang/invoke/VarHandle" ∧ (parseMethodDescriptor y_B_pass.desc).map (fun d => d.parameters.length) = some 2 := by decide +kernel
theorem hd_W_passOver : y_W_passOver.cls = R_W ∧ y_W_passOver.cls ≠ "java/lang/invoke/MethodHandle" ∧ y_W_passOver.cls ≠ "java/lang/invoke/VarHandle" ∧ (parseMethodDescriptor y_W_passOver.desc).map (fun d => d.parameters.length) = some 1 := by decide +kernel
theorem hd_W_canPass : y_W_canPass.cls = R_W ∧ y_W_canPass.cls ≠ "java/lang/invoke/MethodHandle" ∧ y_W_canPass.cls ≠ "java/lang/invoke/VarHandle" ∧ (parseMethodDescriptor y_W_canPass.desc).map (fun d => d.parameters.length) = some 1 := by decide +kernel
theorem hd_B_grow : y_B_grow.cls = R_B ∧ y_B_grow.cls ≠ "java/lang/invoke/MethodHandle" ∧ y_B_grow.cls ≠ "java/lang/invoke/VarHandle" ∧ (parseMethodDescriptor y_B_grow.desc).map (fun d => d.parameters.length) = some 2 := by decide +kernel
theorem hd_W_addStrand : y_W_addStrand.cls = R_W ∧ y_W_addStrand.cls ≠ "java/lang/invoke/MethodHandle" ∧ y_W_addStrand.cls ≠ "java/lang/invoke/VarHandle" ∧ (parseMethodDescriptor y_W_addStrand.desc).map (fun d => d.parameters.length) = some 1 := by decide +kernel
theorem hd_B_shrink : y_B_shrink.cls = R_B ∧ y_B_shrink.cls ≠ "java/lang/invoke/MethodHandle" ∧ y_B_shrink.cls ≠ "java/lang/invoke/VarHandle" ∧ (parseMethodDescriptor y_B_shrink.desc).map (fun d => d.parameters.length) = some 1 := by decide +kernel
theorem hd_W_dropStrand : y_W_dropStrand.cls = R_W ∧ y_W_dropStrand.cls ≠ "java/lang/invoke/MethodHandle" ∧ y_W_dropStrand.cls ≠ "java/lang/invoke/VarHandle" ∧ (parseMethodDescriptor y_W_dropStrand.desc).map (fun d => d.parameters.length) = some 0 := by decide +kernel
theorem hd_B_same : y_B_same.cls = R_B ∧ y_B_same.cls ≠ "java/lang/invoke/MethodHandle" ∧ y_B_same.cls ≠ "java/lang/invoke/VarHandle" ∧ (parseMethodDescriptor y_B_same.desc).map (fun d => d.parameters.length) = some 2 := by decide +kernel
theorem hd_B_formOf : y_B_formOf.cls = R_B ∧ y_B_formOf.cls ≠ "java/lang/invoke/MethodHandle" ∧ y_B_formOf.cls ≠ "java/lang/invoke/VarHandle" ∧ (parseMethodDescriptor y_B_formOf.desc).map (fun d => d.parameters.length) = some 1 := by decide +kernel
theorem hd_N_follow : y_N_follow.cls = R_N ∧ y_N_follow.cls ≠ "java/lang/invoke/MethodHandle" ∧ y_N_follow.cls ≠ "java/lang/invoke/VarHandle" ∧ (parseMethodDescriptor y_N_follow.desc).map (fun d => d.parameters.length) = some 1 := by decide +kernel
theorem hd_W_equalTo : y_W_equalTo.cls = R_W ∧ y_W_equalTo.cls ≠ "java/lang/invoke/MethodHandle" ∧ y_W_equalTo.cls ≠ "java/lang/invoke/VarHandle" ∧ (parseMethodDescriptor y_W_equalTo.desc).map (fun d => d.parameters.length) = some 1 := by decide +kernel
theorem hd_W_negatives : y_W_negatives.cls = R_W ∧ y_W_negatives.cls ≠ "java/lang/invoke/MethodHandle" ∧ y_W_negatives.cls ≠ "java/lang/invoke/VarHandle" ∧ (parseMethodDescriptor y_W_negatives.desc).map (fun d => d.parameters.length) = some 0 := by decide +kernel
theorem hd_N_appendSimple : y_N_appendSimple.cls = R_N ∧ y_N_appendSimple.cls ≠ "java/lang/invoke/MethodHandle" ∧ y_N_appendSimple.cls ≠ "java/lang/invoke/VarHandle" ∧ (parseMethodDescriptor y_N_appendSimple.desc).map (fun d => d.parameters.length) = some 2 := by decide +kernel
theorem hd_N_settle : y_N_settle.cls = R_N ∧ y_N_settle.cls ≠ "java/lang/invoke/MethodHandle" ∧ y_N_settle.cls ≠ "java/lang/invoke/VarHandle" ∧ (parseMethodDescriptor y_N_settle.desc).map (fun d => d.parameters.length) = some 0 := by decide +kernel
theorem hd_N_moveOver : y_N_moveOver.cls = R_N ∧ y_N_moveOver.cls ≠ "java/lang/invoke/MethodHandle" ∧ y_N_moveOver.cls ≠ "java/lang/invoke/VarHandle" ∧ (parseMethodDescriptor y_N_moveOver.desc).map (fun d => d.parameters.length) = some 2 := by decide +kernel
theorem hd_N_sweepOver : y_N_sweepOver.cls = R_N ∧ y_N_sweepOver.cls ≠ "java/lang/invoke/MethodHandle" ∧ y_N_sweepOver.cls ≠ "java/lang/invoke/VarHandle" ∧ (parseMethodDescriptor y_N_sweepOver.desc).map (fun d => d.parameters.length) = some 1 := by decide +kernel
theorem hd_N_isTurn : y_N_isTurn.cls = R_N ∧ y_N_isTurn.cls ≠ "java/lang/invoke/MethodHandle" ∧ y_N_isTurn.cls ≠ "java/lang/invoke/VarHandle" ∧ (parseMethodDescriptor y_N_isTurn.desc).map (fun d => d.parameters.length) = some 1 := by decide +kernel
theorem hd_N_isNone : y_N_isNone.cls = R_N ∧ y_N_isNone.cls ≠ "java/lang/invoke/MethodHandle" ∧ y_N_isNone.cls ≠ "java/lang/invoke/VarHandle" ∧ (parseMethodDescriptor y_N_isNone.desc).map (fun d => d.parameters.length) = some 1 := by decide +kernel
theorem hd_N_equalTo : y_N_equalTo.cls = R_N ∧ y_N_equalTo.cls ≠ "java/lang/invoke/MethodHandle" ∧ y_N_equalTo.cls ≠ "java/lang/invoke/VarHandle" ∧ (parseMethodDescriptor y_N_equalTo.desc).map (fun d => d.parameters.length) = some 1 := by decide +kernel
theorem hd_N_size : y_N_size.cls = R_N ∧ y_N_size.cls ≠ "java/lang/invoke/MethodHandle" ∧ y_N_size.cls ≠ "java/lang/invoke/VarHandle" ∧ (parseMethodDescriptor y_N_size.desc).map (fun d => d.parameters.length) = some 0 := by decide +kernel
theorem hd_N_image : y_N_image.cls = R_N ∧ y_N_image.cls ≠ "java/lang/invoke/MethodHandle" ∧ y_N_image.cls ≠ "java/lang/invoke/VarHandle" ∧ (parseMethodDescriptor y_N_image.desc).map (fun d => d.parameters.length) = some 2 := by decide +kernel
theorem hd_B_form : y_B_form.cls = R_B ∧ y_B_form.cls ≠ "java/lang/invoke/MethodHandle" ∧ y_B_form.cls ≠ "java/lang/invoke/VarHandle" ∧ (parseMethodDescriptor y_B_form.desc).map (fun d => d.parameters.length) = some 3 := by decide +kernel
theorem hd_B_length : y_B_length.cls = R_B ∧ y_B_length.cls ≠ "java/lang/invoke/MethodHandle" ∧ y_B_length.cls ≠ "java/lang/invoke/VarHandle" ∧ (parseMethodDescriptor y_B_length.desc).map (fun d => d.parameters.length) = some 1 := by decide +kernel
theorem hd_B_crossing : y_B_crossing.cls = R_B ∧ y_B_crossing.cls ≠ "java/lang/invoke/MethodHandle" ∧ y_B_crossing.cls ≠ "java/lang/invoke/VarHandle" ∧ (parseMethodDescriptor y_B_crossing.desc).map (fun d => d.parameters.length) = some 3 := by decide +kernel
theorem hd_W_cornerLabel : y_W_cornerLabel.cls = R_W ∧ y_W_cornerLabel.cls ≠ "java/lang/invoke/MethodHandle" ∧ y_W_cornerLabel.cls ≠ "java/lang/invoke/VarHandle" ∧ (parseMethodDescriptor y_W_cornerLabel.desc).map (fun d => d.parameters.length) = some 2 := by decide +kernel
theorem hd_W_labelAbove : y_W_labelAbove.cls = R_W ∧ y_W_labelAbove.cls ≠ "java/lang/invoke/MethodHandle" ∧ y_W_labelAbove.cls ≠ "java/lang/invoke/VarHandle" ∧ (parseMethodDescriptor y_W_labelAbove.desc).map (fun d => d.parameters.length) = some 2 := by decide +kernel
theorem hd_W_madeLabel : y_W_madeLabel.cls = R_W ∧ y_W_madeLabel.cls ≠ "java/lang/invoke/MethodHandle" ∧ y_W_madeLabel.cls ≠ "java/lang/invoke/VarHandle" ∧ (parseMethodDescriptor y_W_madeLabel.desc).map (fun d => d.parameters.length) = some 2 := by decide +kernel
theorem hd_W_labelBelow : y_W_labelBelow.cls = R_W ∧ y_W_labelBelow.cls ≠ "java/lang/invoke/MethodHandle" ∧ y_W_labelBelow.cls ≠ "java/lang/invoke/VarHandle" ∧ (parseMethodDescriptor y_W_labelBelow.desc).map (fun d => d.parameters.length) = some 2 := by decide +kernel
theorem hd_M_init : y_M_init.cls = R_M ∧ y_M_init.cls ≠ "java/lang/invoke/MethodHandle" ∧ y_M_init.cls ≠ "java/lang/invoke/VarHandle" ∧ (parseMethodDescriptor y_M_init.desc).map (fun d => d.parameters.length) = some 0 := by decide +kernel
theorem hd_M_strands : y_M_strands.cls = R_M ∧ y_M_strands.cls ≠ "java/lang/invoke/MethodHandle" ∧ y_M_strands.cls ≠ "java/lang/invoke/VarHandle" ∧ (parseMethodDescriptor y_M_strands.desc).map (fun d => d.parameters.length) = some 2 := by decide +kernel
theorem hd_M_isSlot : y_M_isSlot.cls = R_M ∧ y_M_isSlot.cls ≠ "java/lang/invoke/MethodHandle" ∧ y_M_isSlot.cls ≠ "java/lang/invoke/VarHandle" ∧ (parseMethodDescriptor y_M_isSlot.desc).map (fun d => d.parameters.length) = some 1 := by decide +kernel
theorem hd_M_letter : y_M_letter.cls = R_M ∧ y_M_letter.cls ≠ "java/lang/invoke/MethodHandle" ∧ y_M_letter.cls ≠ "java/lang/invoke/VarHandle" ∧ (parseMethodDescriptor y_M_letter.desc).map (fun d => d.parameters.length) = some 2 := by decide +kernel
theorem hd_M_copy : y_M_copy.cls = R_M ∧ y_M_copy.cls ≠ "java/lang/invoke/MethodHandle" ∧ y_M_copy.cls ≠ "java/lang/invoke/VarHandle" ∧ (parseMethodDescriptor y_M_copy.desc).map (fun d => d.parameters.length) = some 3 := by decide +kernel
theorem hd_M_letterAt : y_M_letterAt.cls = R_M ∧ y_M_letterAt.cls ≠ "java/lang/invoke/MethodHandle" ∧ y_M_letterAt.cls ≠ "java/lang/invoke/VarHandle" ∧ (parseMethodDescriptor y_M_letterAt.desc).map (fun d => d.parameters.length) = some 2 := by decide +kernel
theorem hd_M_end : y_M_end.cls = R_M ∧ y_M_end.cls ≠ "java/lang/invoke/MethodHandle" ∧ y_M_end.cls ≠ "java/lang/invoke/VarHandle" ∧ (parseMethodDescriptor y_M_end.desc).map (fun d => d.parameters.length) = some 2 := by decide +kernel
theorem hd_M_endOf : y_M_endOf.cls = R_M ∧ y_M_endOf.cls ≠ "java/lang/invoke/MethodHandle" ∧ y_M_endOf.cls ≠ "java/lang/invoke/VarHandle" ∧ (parseMethodDescriptor y_M_endOf.desc).map (fun d => d.parameters.length) = some 2 := by decide +kernel
theorem hd_M_value : y_M_value.cls = R_M ∧ y_M_value.cls ≠ "java/lang/invoke/MethodHandle" ∧ y_M_value.cls ≠ "java/lang/invoke/VarHandle" ∧ (parseMethodDescriptor y_M_value.desc).map (fun d => d.parameters.length) = some 1 := by decide +kernel
theorem hd_M_many : y_M_many.cls = R_M ∧ y_M_many.cls ≠ "java/lang/invoke/MethodHandle" ∧ y_M_many.cls ≠ "java/lang/invoke/VarHandle" ∧ (parseMethodDescriptor y_M_many.desc).map (fun d => d.parameters.length) = some 2 := by decide +kernel
theorem hd_M_signs : y_M_signs.cls = R_M ∧ y_M_signs.cls ≠ "java/lang/invoke/MethodHandle" ∧ y_M_signs.cls ≠ "java/lang/invoke/VarHandle" ∧ (parseMethodDescriptor y_M_signs.desc).map (fun d => d.parameters.length) = some 1 := by decide +kernel
theorem hd_M_rounds : y_M_rounds.cls = R_M ∧ y_M_rounds.cls ≠ "java/lang/invoke/MethodHandle" ∧ y_M_rounds.cls ≠ "java/lang/invoke/VarHandle" ∧ (parseMethodDescriptor y_M_rounds.desc).map (fun d => d.parameters.length) = some 1 := by decide +kernel
theorem hd_M_untouched : y_M_untouched.cls = R_M ∧ y_M_untouched.cls ≠ "java/lang/invoke/MethodHandle" ∧ y_M_untouched.cls ≠ "java/lang/invoke/VarHandle" ∧ (parseMethodDescriptor y_M_untouched.desc).map (fun d => d.parameters.length) = some 1 := by decide +kernel
theorem hd_M_at : y_M_at.cls = R_M ∧ y_M_at.cls ≠ "java/lang/invoke/MethodHandle" ∧ y_M_at.cls ≠ "java/lang/invoke/VarHandle" ∧ (parseMethodDescriptor y_M_at.desc).map (fun d => d.parameters.length) = some 2 := by decide +kernel
theorem hd_M_reduce : y_M_reduce.cls = R_M ∧ y_M_reduce.cls ≠ "java/lang/invoke/MethodHandle" ∧ y_M_reduce.cls ≠ "java/lang/invoke/VarHandle" ∧ (parseMethodDescriptor y_M_reduce.desc).map (fun d => d.parameters.length) = some 2 := by decide +kernel
theorem hd_M_remove : y_M_remove.cls = R_M ∧ y_M_remove.cls ≠ "java/lang/invoke/MethodHandle" ∧ y_M_remove.cls ≠ "java/lang/invoke/VarHandle" ∧ (parseMethodDescriptor y_M_remove.desc).map (fun d => d.parameters.length) = some 2 := by decide +kernel
theorem hd_M_round : y_M_round.cls = R_M ∧ y_M_round.cls ≠ "java/lang/invoke/MethodHandle" ∧ y_M_round.cls ≠ "java/lang/invoke/VarHandle" ∧ (parseMethodDescriptor y_M_round.desc).map (fun d => d.parameters.length) = some 2 := by decide +kernel
theorem hd_M_exchange : y_M_exchange.cls = R_M ∧ y_M_exchange.cls ≠ "java/lang/invoke/MethodHandle" ∧ y_M_exchange.cls ≠ "java/lang/invoke/VarHandle" ∧ (parseMethodDescriptor y_M_exchange.desc).map (fun d => d.parameters.length) = some 2 := by decide +kernel
theorem hd_M_pass : y_M_pass.cls = R_M ∧ y_M_pass.cls ≠ "java/lang/invoke/MethodHandle" ∧ y_M_pass.cls ≠ "java/lang/invoke/VarHandle" ∧ (parseMethodDescriptor y_M_pass.desc).map (fun d => d.parameters.length) = some 2 := by decide +kernel
theorem hd_M_grow : y_M_grow.cls = R_M ∧ y_M_grow.cls ≠ "java/lang/invoke/MethodHandle" ∧ y_M_grow.cls ≠ "java/lang/invoke/VarHandle" ∧ (parseMethodDescriptor y_M_grow.desc).map (fun d => d.parameters.length) = some 2 := by decide +kernel
theorem hd_M_shrink : y_M_shrink.cls = R_M ∧ y_M_shrink.cls ≠ "java/lang/invoke/MethodHandle" ∧ y_M_shrink.cls ≠ "java/lang/invoke/VarHandle" ∧ (parseMethodDescriptor y_M_shrink.desc).map (fun d => d.parameters.length) = some 1 := by decide +kernel
theorem hd_M_same : y_M_same.cls = R_M ∧ y_M_same.cls ≠ "java/lang/invoke/MethodHandle" ∧ y_M_same.cls ≠ "java/lang/invoke/VarHandle" ∧ (parseMethodDescriptor y_M_same.desc).map (fun d => d.parameters.length) = some 2 := by decide +kernel
theorem hd_M_know : y_M_know.cls = R_M ∧ y_M_know.cls ≠ "java/lang/invoke/MethodHandle" ∧ y_M_know.cls ≠ "java/lang/invoke/VarHandle" ∧ (parseMethodDescriptor y_M_know.desc).map (fun d => d.parameters.length) = some 1 := by decide +kernel
theorem hd_M_makePositive : y_M_makePositive.cls = R_M ∧ y_M_makePositive.cls ≠ "java/lang/invoke/MethodHandle" ∧ y_M_makePositive.cls ≠ "java/lang/invoke/VarHandle" ∧ (parseMethodDescriptor y_M_makePositive.desc).map (fun d => d.parameters.length) = some 1 := by decide +kernel
theorem hd_M_writeSimple : y_M_writeSimple.cls = R_M ∧ y_M_writeSimple.cls ≠ "java/lang/invoke/MethodHandle" ∧ y_M_writeSimple.cls ≠ "java/lang/invoke/VarHandle" ∧ (parseMethodDescriptor y_M_writeSimple.desc).map (fun d => d.parameters.length) = some 1 := by decide +kernel
theorem hd_M_takeSimple : y_M_takeSimple.cls = R_M ∧ y_M_takeSimple.cls ≠ "java/lang/invoke/MethodHandle" ∧ y_M_takeSimple.cls ≠ "java/lang/invoke/VarHandle" ∧ (parseMethodDescriptor y_M_takeSimple.desc).map (fun d => d.parameters.length) = some 1 := by decide +kernel
theorem hd_M_clearChain : y_M_clearChain.cls = R_M ∧ y_M_clearChain.cls ≠ "java/lang/invoke/MethodHandle" ∧ y_M_clearChain.cls ≠ "java/lang/invoke/VarHandle" ∧ (parseMethodDescriptor y_M_clearChain.desc).map (fun d => d.parameters.length) = some 0 := by decide +kernel
theorem hd_M_writeTurn : y_M_writeTurn.cls = R_M ∧ y_M_writeTurn.cls ≠ "java/lang/invoke/MethodHandle" ∧ y_M_writeTurn.cls ≠ "java/lang/invoke/VarHandle" ∧ (parseMethodDescriptor y_M_writeTurn.desc).map (fun d => d.parameters.length) = some 1 := by decide +kernel
theorem hd_M_insert : y_M_insert.cls = R_M ∧ y_M_insert.cls ≠ "java/lang/invoke/MethodHandle" ∧ y_M_insert.cls ≠ "java/lang/invoke/VarHandle" ∧ (parseMethodDescriptor y_M_insert.desc).map (fun d => d.parameters.length) = some 2 := by decide +kernel
theorem hd_M_turnRight : y_M_turnRight.cls = R_M ∧ y_M_turnRight.cls ≠ "java/lang/invoke/MethodHandle" ∧ y_M_turnRight.cls ≠ "java/lang/invoke/VarHandle" ∧ (parseMethodDescriptor y_M_turnRight.desc).map (fun d => d.parameters.length) = some 0 := by decide +kernel
theorem hd_M_take : y_M_take.cls = R_M ∧ y_M_take.cls ≠ "java/lang/invoke/MethodHandle" ∧ y_M_take.cls ≠ "java/lang/invoke/VarHandle" ∧ (parseMethodDescriptor y_M_take.desc).map (fun d => d.parameters.length) = some 1 := by decide +kernel
theorem hd_M_isNear : y_M_isNear.cls = R_M ∧ y_M_isNear.cls ≠ "java/lang/invoke/MethodHandle" ∧ y_M_isNear.cls ≠ "java/lang/invoke/VarHandle" ∧ (parseMethodDescriptor y_M_isNear.desc).map (fun d => d.parameters.length) = some 2 := by decide +kernel
theorem hd_M_turnLeft : y_M_turnLeft.cls = R_M ∧ y_M_turnLeft.cls ≠ "java/lang/invoke/MethodHandle" ∧ y_M_turnLeft.cls ≠ "java/lang/invoke/VarHandle" ∧ (parseMethodDescriptor y_M_turnLeft.desc).map (fun d => d.parameters.length) = some 0 := by decide +kernel
theorem hd_M_form : y_M_form.cls = R_M ∧ y_M_form.cls ≠ "java/lang/invoke/MethodHandle" ∧ y_M_form.cls ≠ "java/lang/invoke/VarHandle" ∧ (parseMethodDescriptor y_M_form.desc).map (fun d => d.parameters.length) = some 3 := by decide +kernel
theorem hd_M_length : y_M_length.cls = R_M ∧ y_M_length.cls ≠ "java/lang/invoke/MethodHandle" ∧ y_M_length.cls ≠ "java/lang/invoke/VarHandle" ∧ (parseMethodDescriptor y_M_length.desc).map (fun d => d.parameters.length) = some 1 := by decide +kernel
theorem hd_M_crossing : y_M_crossing.cls = R_M ∧ y_M_crossing.cls ≠ "java/lang/invoke/MethodHandle" ∧ y_M_crossing.cls ≠ "java/lang/invoke/VarHandle" ∧ (parseMethodDescriptor y_M_crossing.desc).map (fun d => d.parameters.length) = some 3 := by decide +kernel
theorem hd_M_close : y_M_close.cls = R_M ∧ y_M_close.cls ≠ "java/lang/invoke/MethodHandle" ∧ y_M_close.cls ≠ "java/lang/invoke/VarHandle" ∧ (parseMethodDescriptor y_M_close.desc).map (fun d => d.parameters.length) = some 1 := by decide +kernel
theorem se_W_canPass : Cond.selects R_W y_W_canPass y_W_canPass ∈ G0 := by decide +kernel
theorem se_B_formOf : Cond.selects R_B y_B_formOf y_B_formOf ∈ G0 := by decide +kernel
theorem se_N_appendSimple : Cond.selects R_N y_N_appendSimple y_N_appendSimple ∈ G0 := by decide +kernel
theorem se_N_settle : Cond.selects R_N y_N_settle y_N_settle ∈ G0 := by decide +kernel
theorem se_N_moveOver : Cond.selects R_N y_N_moveOver y_N_moveOver ∈ G0 := by decide +kernel
theorem se_N_sweepOver : Cond.selects R_N y_N_sweepOver y_N_sweepOver ∈ G0 := by decide +kernel
theorem se_N_isTurn : Cond.selects R_N y_N_isTurn y_N_isTurn ∈ G0 := by decide +kernel
theorem se_N_isNone : Cond.selects R_N y_N_isNone y_N_isNone ∈ G0 := by decide +kernel
theorem se_W_labelAbove : Cond.selects R_W y_W_labelAbove y_W_labelAbove ∈ G0 := by decide +kernel
theorem se_W_madeLabel : Cond.selects R_W y_W_madeLabel y_W_madeLabel ∈ G0 := by decide +kernel
theorem se_W_labelBelow : Cond.selects R_W y_W_labelBelow y_W_labelBelow ∈ G0 := by decide +kernel
theorem se_M_letterAt : Cond.selects R_M y_M_letterAt y_M_letterAt ∈ G0 := by decide +kernel
theorem se_M_endOf : Cond.selects R_M y_M_endOf y_M_endOf ∈ G0 := by decide +kernel
theorem se_M_signs : Cond.selects R_M y_M_signs y_M_signs ∈ G0 := by decide +kernel
theorem se_M_rounds : Cond.selects R_M y_M_rounds y_M_rounds ∈ G0 := by decide +kernel
theorem se_M_untouched : Cond.selects R_M y_M_untouched y_M_untouched ∈ G0 := by decide +kernel
theorem se_M_remove : Cond.selects R_M y_M_remove y_M_remove ∈ G0 := by decide +kernel
theorem se_M_know : Cond.selects R_M y_M_know y_M_know ∈ G0 := by decide +kernel
theorem se_M_makePositive : Cond.selects R_M y_M_makePositive y_M_makePositive ∈ G0 := by decide +kernel
theorem se_M_writeSimple : Cond.selects R_M y_M_writeSimple y_M_writeSimple ∈ G0 := by decide +kernel
theorem se_M_takeSimple : Cond.selects R_M y_M_takeSimple y_M_takeSimple ∈ G0 := by decide +kernel
theorem se_M_clearChain : Cond.selects R_M y_M_clearChain y_M_clearChain ∈ G0 := by decide +kernel
theorem se_M_writeTurn : Cond.selects R_M y_M_writeTurn y_M_writeTurn ∈ G0 := by decide +kernel
theorem se_M_insert : Cond.selects R_M y_M_insert y_M_insert ∈ G0 := by decide +kernel
theorem se_M_turnRight : Cond.selects R_M y_M_turnRight y_M_turnRight ∈ G0 := by decide +kernel
theorem se_M_take : Cond.selects R_M y_M_take y_M_take ∈ G0 := by decide +kernel
theorem se_M_turnLeft : Cond.selects R_M y_M_turnLeft y_M_turnLeft ∈ G0 := by decide +kernel
theorem se_M_close : Cond.selects R_M y_M_close y_M_close ∈ G0 := by decide +kernel
end
section
/-! Numbers of the machine as whole numbers: iI z is the int z; rows for arithmetic and branches in these words. -/
def iI (z : Int) : Int32 := Int32.ofInt z
def iR (z : Int) : Prop := -2147483648 ≤ z ∧ z < 2147483648
def bI (b : Bool) : Int := if b then 1 else 0
theorem bI_t : bI true = 1 := rfl
theorem bI_f : bI false = 0 := rfl
theorem iI_add (a b : Int) : iI a + iI b = iI (a + b) := (Int32.ofInt_add a b).symm
theorem iI_sub (a b : Int) : iI a - iI b = iI (a - b) := (Int32.ofInt_sub a b).symm
theorem iI_mul (a b : Int) : iI a * iI b = iI (a * b) := (Int32.ofInt_mul a b).symm
theorem iI_neg (a : Int) : -iI a = iI (-a) := (Int32.ofInt_neg a).symm
theorem iI_toInt {z : Int} (h : iR z) : (iI z).toInt = z := Int32.toInt_ofInt_of_le h.1 h.2
theorem iI_of (x : Int32) : iI x.toInt = x := Int32.ofInt_toInt x
theorem iR_of (x : Int32) : iR x.toInt := ⟨x.le_toInt, x.toInt_lt⟩
theorem iI_lt {a b : Int} (ha : iR a) (hb : iR b) : iI a < iI b ↔ a < b := by rw [Int32.lt_iff_toInt_lt, iI_toInt ha, iI_toInt hb]
theorem iI_le {a b : Int} (ha : iR a) (hb : iR b) : iI a ≤ iI b ↔ a ≤ b := by rw [Int32.le_iff_toInt_le, iI_toInt ha, iI_toInt hb]
theorem iI_eq {a b : Int} (ha : iR a) (hb : iR b) : iI a = iI b ↔ a = b := by rw [← Int32.toInt_inj, iI_toInt ha, iI_toInt hb]
theorem iI_0 : iI 0 = 0 := rfl
theorem iR_0 : iR 0 := by unfold iR; omega
theorem iI_nI (k : Nat) : iI (k : Int) = nI k := Int32.ofInt_eq_ofNat
theorem iI_cl {z : Int} {k : Nat} (hk : z = (k : Int)) (h : k < 2147483648) : (iI z).toNatClampNeg = k := by rw [hk, iI_nI]; exact nI_clamp h
theorem iI_in {z : Int} {k n : Nat} (hk : z = (k : Int)) (h : k < n) (hn : n < 2147483648) : vp_in (iI z) n := by rw [hk, iI_nI]; exact vp_in_nI h hn
section HA
variable {p : Program} {l : Launch} {e : Env} {R : Room} {s : State} {m : MethodId} {args : Array Value} {below : List Frame} {meth : Method} {c : Code} {H : Heap} {locs : List Loc} {cells slots : Nat} {Q : State → Prop}
variable {cc : ByteArray} {pc : Nat} {ls : Array Slot} {rest : List Value}
theorem hp_iconst (hexec : p.tables.exec = Jvm.exec) (hb : c.code = cc) {n z : Int} (hdg : decode cc pc = .ok (.iconst n, 1)) (hv : Int32.ofInt n = iI z) (k : W p l e R s m args below meth c H locs cells slots Q (F0 m (pc + 1) ls (.int (iI z) :: rest))) : W p l e R s m args below meth c H locs cells slots Q (F0 m pc ls rest) := lv_iconst hexec hb hdg hv k
theorem hp_bipush (hexec : p.tables.exec = Jvm.exec) (hb : c.code = cc) {n z : Int} (hdg : decode cc pc = .ok (.bipush n, 2)) (hv : (Int8.ofInt n).toInt32 = iI z) (k : W p l e R s m args below meth c H locs cells slots Q (F0 m (pc + 2) ls (.int (iI z) :: rest))) : W p l e R s m args below meth c H locs cells slots Q (F0 m pc ls rest) := lv_bipush hexec hb hdg hv k
theorem hp_sipush (hexec : p.tables.exec = Jvm.exec) (hb : c.code = cc) {n z : Int} (hdg : decode cc pc = .ok (.sipush n, 3)) (hv : (Int16.ofInt n).toInt32 = iI z) (k : W p l e R s m args below meth c H locs cells slots Q (F0 m (pc + 3) ls (.int (iI z) :: rest))) : W p l e R s m args below meth c H locs cells slots Q (F0 m pc ls rest) := lv_sipush hexec hb hdg hv k
theorem hp_iadd (hexec : p.tables.exec = Jvm.exec) (hb : c.code = cc) {a b : Int} (hdg : decode cc pc = .ok (.iadd, 1)) (k : W p l e R s m args below meth c H locs cells slots Q (F0 m (pc + 1) ls (.int (iI (a + b)) :: rest))) : W p l e R s m args below meth c H locs cells slots Q (F0 m pc ls (.int (iI b) :: .int (iI a) :: rest)) := lv_iadd hexec hb hdg (by rw [iI_add]; exact k)
theorem hp_isub (hexec : p.tables.exec = Jvm.exec) (hb : c.code = cc) {a b : Int} (hdg : decode cc pc = .ok (.isub, 1)) (k : W p l e R s m args below meth c H locs cells slots Q (F0 m (pc + 1) ls (.int (iI (a - b)) :: rest))) : W p l e R s m args below meth c H locs cells slots Q (F0 m pc ls (.int (iI b) :: .int (iI a) :: rest)) := lv_isub hexec hb hdg (by rw [iI_sub]; exact k)
theorem hp_imul (hexec : p.tables.exec = Jvm.exec) (hb : c.code = cc) {a b : Int} (hdg : decode cc pc = .ok (.imul, 1)) (k : W p l e R s m args below meth c H locs cells slots Q (F0 m (pc + 1) ls (.int (iI (a * b)) :: rest))) : W p l e R s m args below meth c H locs cells slots Q (F0 m pc ls (.int (iI b) :: .int (iI a) :: rest)) := lv_imul hexec hb hdg (by rw [iI_mul]; exact k)
theorem hp_ineg (hexec : p.tables.exec = Jvm.exec) (hb : c.code = cc) {a : Int} (hdg : decode cc pc = .ok (.ineg, 1)) (k : W p l e R s m args below meth c H locs cells slots Q (F0 m (pc + 1) ls (.int (iI (-a)) :: rest))) : W p l e R s m args below meth c H locs cells slots Q (F0 m pc ls (.int (iI a) :: rest)) := lv_ineg hexec hb hdg (by rw [iI_neg]; exact k)
theorem hp_icmp_eq (hexec : p.tables.exec = Jvm.exec) (hb : c.code = cc) {a b : Int} {off : Int} {tgt : Nat} (hdg : decode cc pc = .ok (.if_icmp .eq off, 3)) (ht : (pc : Int) + off = (tgt : Int)) (ha : iR a) (hb2 : iR b) (kt : a = b → W p l e R s m args below meth c H locs cells slots Q (F0 m tgt ls rest)) (kf : ¬ a = b → W p l e R s m args below meth c H locs cells slots Q (F0 m (pc + 3) ls rest)) : W p l e R s m args below meth c H locs cells slots Q (F0 m pc ls (.int (iI b) :: .int (iI a) :: rest)) := lv_icmp_eq hexec hb hdg ht (fun h => kt ((iI_eq ha hb2).mp h)) (fun h => kf (fun q => h ((iI_eq ha hb2).mpr q)))
theorem hp_if_eq (hexec : p.tables.exec = Jvm.exec) (hb : c.code = cc) {a : Int} {off : Int} {tgt : Nat} (hdg : decode cc pc = .ok (.ifCond .eq off, 3)) (ht : (pc : Int) + off = (tgt : Int)) (ha : iR a) (kt : a = 0 → W p l e R s m args below meth c H locs cells slots Q (F0 m tgt ls rest)) (kf : ¬ a = 0 → W p l e R s m args below meth c H locs cells slots Q (F0 m (pc + 3) ls rest)) : W p l e R s m args below meth c H locs cells slots Q (F0 m pc ls (.int (iI a) :: rest)) := lv_if_eq hexec hb hdg ht (fun h => kt ((iI_eq ha iR_0).mp h)) (fun h => kf (fun q => h ((iI_eq ha iR_0).mpr q)))
theorem hp_icmp_ne (hexec : p.tables.exec = Jvm.exec) (hb : c.code = cc) {a b : Int} {off : Int} {tgt : Nat} (hdg : decode cc pc = .ok (.if_icmp .ne off, 3)) (ht : (pc : Int) + off = (tgt : Int)) (ha : iR a) (hb2 : iR b) (kt : ¬ a = b → W p l e R s m args below meth c H locs cells slots Q (F0 m tgt ls rest)) (kf : a = b → W p l e R s m args below meth c H locs cells slots Q (F0 m (pc + 3) ls rest)) : W p l e R s m args below meth c H locs cells slots Q (F0 m pc ls (.int (iI b) :: .int (iI a) :: rest)) := lv_icmp_ne hexec hb hdg ht (fun h => kt (fun q => h ((iI_eq ha hb2).mpr q))) (fun h => kf ((iI_eq ha hb2).mp h))
theorem hp_if_ne (hexec : p.tables.exec = Jvm.exec) (hb : c.code = cc) {a : Int} {off : Int} {tgt : Nat} (hdg : decode cc pc = .ok (.ifCond .ne off, 3)) (ht : (pc : Int) + off = (tgt : Int)) (ha : iR a) (kt : ¬ a = 0 → W p l e R s m args below meth c H locs cells slots Q (F0 m tgt ls rest)) (kf : a = 0 → W p l e R s m args below meth c H locs cells slots Q (F0 m (pc + 3) ls rest)) : W p l e R s m args below meth c H locs cells slots Q (F0 m pc ls (.int (iI a) :: rest)) := lv_if_ne hexec hb hdg ht (fun h => kt (fun q => h ((iI_eq ha iR_0).mpr q))) (fun h => kf ((iI_eq ha iR_0).mp h))
theorem hp_icmp_lt (hexec : p.tables.exec = Jvm.exec) (hb : c.code = cc) {a b : Int} {off : Int} {tgt : Nat} (hdg : decode cc pc = .ok (.if_icmp .lt off, 3)) (ht : (pc : Int) + off = (tgt : Int)) (ha : iR a) (hb2 : iR b) (kt : a < b → W p l e R s m args below meth c H locs cells slots Q (F0 m tgt ls rest)) (kf : b ≤ a → W p l e R s m args below meth c H locs cells slots Q (F0 m (pc + 3) ls rest)) : W p l e R s m args below meth c H locs cells slots Q (F0 m pc ls (.int (iI b) :: .int (iI a) :: rest)) := lv_icmp_lt hexec hb hdg ht (fun h => kt ((iI_lt ha hb2).mp h)) (fun h => kf (Int.not_lt.mp (fun q => h ((iI_lt ha hb2).mpr q))))
theorem hp_if_lt (hexec : p.tables.exec = Jvm.exec) (hb : c.code = cc) {a : Int} {off : Int} {tgt : Nat} (hdg : decode cc pc = .ok (.ifCond .lt off, 3)) (ht : (pc : Int) + off = (tgt : Int)) (ha : iR a) (kt : a < 0 → W p l e R s m args below meth c H locs cells slots Q (F0 m tgt ls rest)) (kf : 0 ≤ a → W p l e R s m args below meth c H locs cells slots Q (F0 m (pc + 3) ls rest)) : W p l e R s m args below meth c H locs cells slots Q (F0 m pc ls (.int (iI a) :: rest)) := lv_if_lt hexec hb hdg ht (fun h => kt ((iI_lt ha iR_0).mp h)) (fun h => kf (Int.not_lt.mp (fun q => h ((iI_lt ha iR_0).mpr q))))
theorem hp_icmp_ge (hexec : p.tables.exec = Jvm.exec) (hb : c.code = cc) {a b : Int} {off : Int} {tgt : Nat} (hdg : decode cc pc = .ok (.if_icmp .ge off, 3)) (ht : (pc : Int) + off = (tgt : Int)) (ha : iR a) (hb2 : iR b) (kt : b ≤ a → W p l e R s m args below meth c H locs cells slots Q (F0 m tgt ls rest)) (kf : a < b → W p l e R s m args below meth c H locs cells slots Q (F0 m (pc + 3) ls rest)) : W p l e R s m args below meth c H locs cells slots Q (F0 m pc ls (.int (iI b) :: .int (iI a) :: rest)) := lv_icmp_ge hexec hb hdg ht (fun h => kt ((iI_le hb2 ha).mp h)) (fun h => kf (Int.not_le.mp (fun q => h ((iI_le hb2 ha).mpr q))))
theorem hp_if_ge (hexec : p.tables.exec = Jvm.exec) (hb : c.code = cc) {a : Int} {off : Int} {tgt : Nat} (hdg : decode cc pc = .ok (.ifCond .ge off, 3)) (ht : (pc : Int) + off = (tgt : Int)) (ha : iR a) (kt : 0 ≤ a → W p l e R s m args below meth c H locs cells slots Q (F0 m tgt ls rest)) (kf : a < 0 → W p l e R s m args below meth c H locs cells slots Q (F0 m (pc + 3) ls rest)) : W p l e R s m args below meth c H locs cells slots Q (F0 m pc ls (.int (iI a) :: rest)) := lv_if_ge hexec hb hdg ht (fun h => kt ((iI_le iR_0 ha).mp h)) (fun h => kf (Int.not_le.mp (fun q => h ((iI_le iR_0 ha).mpr q))))
theorem hp_icmp_gt (hexec : p.tables.exec = Jvm.exec) (hb : c.code = cc) {a b : Int} {off : Int} {tgt : Nat} (hdg : decode cc pc = .ok (.if_icmp .gt off, 3)) (ht : (pc : Int) + off = (tgt : Int)) (ha : iR a) (hb2 : iR b) (kt : b < a → W p l e R s m args below meth c H locs cells slots Q (F0 m tgt ls rest)) (kf : a ≤ b → W p l e R s m args below meth c H locs cells slots Q (F0 m (pc + 3) ls rest)) : W p l e R s m args below meth c H locs cells slots Q (F0 m pc ls (.int (iI b) :: .int (iI a) :: rest)) := lv_icmp_gt hexec hb hdg ht (fun h => kt ((iI_lt hb2 ha).mp h)) (fun h => kf (Int.not_lt.mp (fun q => h ((iI_lt hb2 ha).mpr q))))
theorem hp_if_gt (hexec : p.tables.exec = Jvm.exec) (hb : c.code = cc) {a : Int} {off : Int} {tgt : Nat} (hdg : decode cc pc = .ok (.ifCond .gt off, 3)) (ht : (pc : Int) + off = (tgt : Int)) (ha : iR a) (kt : 0 < a → W p l e R s m args below meth c H locs cells slots Q (F0 m tgt ls rest)) (kf : a ≤ 0 → W p l e R s m args below meth c H locs cells slots Q (F0 m (pc + 3) ls rest)) : W p l e R s m args below meth c H locs cells slots Q (F0 m pc ls (.int (iI a) :: rest)) := lv_if_gt hexec hb hdg ht (fun h => kt ((iI_lt iR_0 ha).mp h)) (fun h => kf (Int.not_lt.mp (fun q => h ((iI_lt iR_0 ha).mpr q))))
theorem hp_icmp_le (hexec : p.tables.exec = Jvm.exec) (hb : c.code = cc) {a b : Int} {off : Int} {tgt : Nat} (hdg : decode cc pc = .ok (.if_icmp .le off, 3)) (ht : (pc : Int) + off = (tgt : Int)) (ha : iR a) (hb2 : iR b) (kt : a ≤ b → W p l e R s m args below meth c H locs cells slots Q (F0 m tgt ls rest)) (kf : b < a → W p l e R s m args below meth c H locs cells slots Q (F0 m (pc + 3) ls rest)) : W p l e R s m args below meth c H locs cells slots Q (F0 m pc ls (.int (iI b) :: .int (iI a) :: rest)) := lv_icmp_le hexec hb hdg ht (fun h => kt ((iI_le ha hb2).mp h)) (fun h => kf (Int.not_le.mp (fun q => h ((iI_le ha hb2).mpr q))))
theorem hp_if_le (hexec : p.tables.exec = Jvm.exec) (hb : c.code = cc) {a : Int} {off : Int} {tgt : Nat} (hdg : decode cc pc = .ok (.ifCond .le off, 3)) (ht : (pc : Int) + off = (tgt : Int)) (ha : iR a) (kt : a ≤ 0 → W p l e R s m args below meth c H locs cells slots Q (F0 m tgt ls rest)) (kf : 0 < a → W p l e R s m args below meth c H locs cells slots Q (F0 m (pc + 3) ls rest)) : W p l e R s m args below meth c H locs cells slots Q (F0 m pc ls (.int (iI a) :: rest)) := lv_if_le hexec hb hdg ht (fun h => kt ((iI_le ha iR_0).mp h)) (fun h => kf (Int.not_le.mp (fun q => h ((iI_le ha iR_0).mpr q))))
theorem hp_ifb_eq (hexec : p.tables.exec = Jvm.exec) (hb : c.code = cc) {b : Bool} {off : Int} {tgt : Nat} (hdg : decode cc pc = .ok (.ifCond .eq off, 3)) (ht : (pc : Int) + off = (tgt : Int)) (kt : b = false → W p l e R s m args below meth c H locs cells slots Q (F0 m tgt ls rest)) (kf : b = true → W p l e R s m args below meth c H locs cells slots Q (F0 m (pc + 3) ls rest)) : W p l e R s m args below meth c H locs cells slots Q (F0 m pc ls (.int (iI (bI b)) :: rest)) := lv_if_eq hexec hb hdg ht (fun h => kt (by cases b; rfl; exact absurd h (by decide))) (fun h => kf (by cases b; exact absurd rfl h; rfl))
theorem hp_ifb_ne (hexec : p.tables.exec = Jvm.exec) (hb : c.code = cc) {b : Bool} {off : Int} {tgt : Nat} (hdg : decode cc pc = .ok (.ifCond .ne off, 3)) (ht : (pc : Int) + off = (tgt : Int)) (kt : b = true → W p l e R s m args below meth c H locs cells slots Q (F0 m tgt ls rest)) (kf : b = false → W p l e R s m args below meth c H locs cells slots Q (F0 m (pc + 3) ls rest)) : W p l e R s m args below meth c H locs cells slots Q (F0 m pc ls (.int (iI (bI b)) :: rest)) := lv_if_ne hexec hb hdg ht (fun h => kt (by cases b; exact absurd rfl h; rfl)) (fun h => kf (by cases b; rfl; exact absurd h (by decide)))
theorem hp_iinc (hexec : p.tables.exec = Jvm.exec) (hb : c.code = cc) {i nL k : Nat} {n x z : Int} {lv lv' : List (Nat × Value)} (hdg : decode cc pc = .ok (.iinc i n, 3)) (h : lv_has ls nL lv) (hk : lv[k]? = some (i, .int (iI x))) (hv : x + n = z) (hn : i < nL) (hl : (i, Value.int (iI z)) :: lv.filter (fun q => !(q.1 == i) && !(q.1 + 1 == i && q.2.category == 2)) = lv') (kk : ∀ ls' : Array Slot, lv_has ls' nL lv' → W p l e R s m args below meth c H locs cells slots Q (F0 m (pc + 3) ls' rest)) : W p l e R s m args below meth c H locs cells slots Q (F0 m pc ls rest) := lv_iinc hexec hb hdg h hk (by rw [← hv]; exact iI_add x n) hn hl kk
end HA
end
section
/-! The heap cell by cell: 'va_at D cl (a, what) H' says what lies at a; a write names the cell, and says that all others are as they were. -/
theorem hp_one {D : va_G} {cl : List vw_C} {q : Nat × va_E} {H : Heap} (h : va_at D cl q H) : va_P D cl [q] H := fun k x hx => by
  match k, hx with
  | 0, hx => cases hx; exact h
  | k + 1, hx => simp at hx
def hp_up {α : Type} (f : Nat → α) (k : Nat) (v : α) : Nat → α := fun j => if j = k then v else f j
theorem hp_up_s {α : Type} (f : Nat → α) (k : Nat) (v : α) : hp_up f k v k = v := by simp [hp_up]
theorem hp_up_n {α : Type} (f : Nat → α) {k j : Nat} (v : α) (h : j ≠ k) : hp_up f k v j = f j := by simp [hp_up, h]
/-- an array of ints of which all are known as whole numbers -/
abbrev hp_ai (cI : ClassId) (n : Nat) (f : Nat → Int) : va_E := .inl (cI, n, .inl (fun k => iI (f k)))
/-- an array of references -/
abbrev hp_aq (cA : ClassId) (n : Nat) (f : Nat → Option Nat) : va_E := .inl (cA, n, .inr (.inr (.inr (.inr f))))
section HB
variable {p : Program} {l : Launch} {e : Env} {R : Room} {s : State} {m : MethodId} {args : Array Value} {below : List Frame} {meth : Method} {c : Code} {H : Heap} {locs : List Loc} {cells slots : Nat} {Q : State → Prop}
variable {cc : ByteArray} {pc : Nat} {ls : Array Slot} {rest : List Value} {D : va_G} {cl : List vw_C} {A : Nat → Prop} {a : Nat} {tys : List (ClassId × FieldType)} {H0 : Heap}
theorem hp_get (hexec : p.tables.exec = Jvm.exec) (hb : c.code = cc) {own ref C : String} {T : u_T} {N ci index : Nat} {Ts : List Cond} (hts : ∀ w ∈ Ts, w.before args s = true) (hin : ∀ w ∈ u_ws C T N, w ∈ Ts) (hown : s.vm.findClass own = some m.cls) (hK : va_K D cl tys s) {fs : List Value} (hP : va_at D cl (a, .inr (ci, fs)) H) (hc : cl[ci]? = some (C, T, N)) (k : Nat) (hk : k < N) (hlink : (Cond.fieldLink own index ref (T k).2.1 (T k).2.2.1).before args s = true) (hsame : ∀ x, s.fieldFound? (T k).1 (T k).2.1 (T k).2.2.1 = some x → s.fieldFound? ref (T k).2.1 (T k).2.2.1 = some x) {v : Value} (hv : fs[k]? = some v) (hdg : decode cc pc = .ok (.getfield index, 3))
    (kk : W p l e R s m args below meth c H locs cells slots Q (F0 m (pc + 3) ls (v :: rest))) : W p l e R s m args below meth c H locs cells slots Q (F0 m pc ls (.ref a :: rest)) :=
  va_get hexec hb hts hin hown hK (hp_one hP) 0 rfl hc k hk hlink hsame hv hdg kk
theorem hp_put (hexec : p.tables.exec = Jvm.exec) (hb : c.code = cc) {own ref C : String} {T : u_T} {N ci index : Nat} {Ts : List Cond} (hts : ∀ w ∈ Ts, w.before args s = true) (hin : ∀ w ∈ u_ws C T N, w ∈ Ts) (ty0 : Nat → FieldType) (hty : ∀ k, k < N → parseFieldDescriptor (T k).2.2.1 = some (ty0 k)) (hnm : ∀ a, a < N → ∀ b, b < N → a ≠ b → (T a).2.1 ≠ (T b).2.1) (hown : s.vm.findClass own = some m.cls) (hK : va_K D cl tys s) {fs : List Value} (hP : va_at D cl (a, .inr (ci, fs)) H) (hS0 : va_S A H0 H locs) (hA : A a) (hc : cl[ci]? = some (C, T, N)) (k : Nat) (hk : k < N) (hlink : (Cond.fieldLink own index ref (T k).2.1 (T k).2.2.1).before args s = true) (hsame : ∀ x, s.fieldFound? (T k).1 (T k).2.1 (T k).2.2.1 = some x → s.fieldFound? ref (T k).2.1 (T k).2.2.1 = some x) (hfin : (T k).2.2.2 = false) {ty : FieldType} {v : Value} (hd : parseFieldDescriptor (T k).2.2.1 = some ty) (hn : narrow ty v = v) (hfit : fits ty v = true) (hl : k < fs.length)
    (hdg : decode cc pc = .ok (.putfield index, 3)) (kk : ∀ (H1 : Heap) (locs1 : List Loc), va_at D cl (a, .inr (ci, fs.set k v)) H1 → H1.size = H.size → (∀ q, q ≠ a → H1[q]? = H[q]?) → va_S A H0 H1 locs1 → W p l e R s m args below meth c H1 locs1 cells slots Q (F0 m (pc + 3) ls rest)) : W p l e R s m args below meth c H locs cells slots Q (F0 m pc ls (v :: .ref a :: rest)) := by
  have hap := va_apart (own := own) hts hin ty0 hty hnm hK hc
  obtain ⟨r, h1, cell, q1, q2, q3, q4⟩ := hP
  have hr : r = (C, T, N) := Option.some.inj (h1.symm.trans hc)
  subst hr
  obtain ⟨hS, hfc, kC, hkC, hkind⟩ := hK.1 ci _ hc
  obtain ⟨cf, kf, fi, f, hi, hsl⟩ := hS k hk
  have hlay := hts _ (hin _ (u_in_lay hk))
  unfold u_lay at hlay
  rw [if_neg (by rw [hfin]; decide)] at hlay
  have hst := (u_facts hfc hkC (u_lays hts hin hk) hi).1
  have h6 := u_store hfc hkC hkind hlay hi hd hn hfit
  refine W.putK hexec hb (f := f) ⟨hown, hlink, ⟨_, _, _, hsame _ hi⟩, hst⟩ (by rw [q2]; exact h6) q1 q3 (by rw [hsl]; exact k2_hasslot (q4 k hk)) rfl rfl hdg fun H' e1 e2 e3 => ?_
  rw [hsl] at e1 ⊢
  exact kk H' _ ⟨_, hc, t_OB.to (V := updV (vp_V fs) k v) ⟨_, e1, q2, q3, t_set q4 hap hk v⟩ (fun j _ => vp_updV_set hl v j)⟩ e2 e3 (hS0.put e2 e3 hA)
theorem hp_putF (hexec : p.tables.exec = Jvm.exec) (hb : c.code = cc) {own ref C : String} {T : u_T} {N ci index : Nat} {Ts : List Cond} (hts : ∀ w ∈ Ts, w.before args s = true) (hin : ∀ w ∈ u_ws C T N, w ∈ Ts) (ty0 : Nat → FieldType) (hty : ∀ k, k < N → parseFieldDescriptor (T k).2.2.1 = some (ty0 k)) (hnm : ∀ a, a < N → ∀ b, b < N → a ≠ b → (T a).2.1 ≠ (T b).2.1) (hown : s.vm.findClass own = some m.cls) (hK : va_K D cl tys s) {fs : List Value} (hP : va_at D cl (a, .inr (ci, fs)) H) (hS0 : va_S A H0 H locs) (hA : A a) (hc : cl[ci]? = some (C, T, N)) (k : Nat) (hk : k < N) (hlink : (Cond.fieldLink own index ref (T k).2.1 (T k).2.2.1).before args s = true) (hsame : ∀ x, s.fieldFound? (T k).1 (T k).2.1 (T k).2.2.1 = some x → s.fieldFound? ref (T k).2.1 (T k).2.2.1 = some x) (hfin : (T k).2.2.2 = true) (hin2 : meth.name = "<init>") (hdecl : (T k).1 = own) {ty : FieldType} {v : Value} (hd : parseFieldDescriptor (T k).2.2.1 = some ty) (hn : narrow ty v = v) (hfit : fits ty v = true) (hl : k < fs.length)
    (hdg : decode cc pc = .ok (.putfield index, 3)) (kk : ∀ (H1 : Heap) (locs1 : List Loc), va_at D cl (a, .inr (ci, fs.set k v)) H1 → H1.size = H.size → (∀ q, q ≠ a → H1[q]? = H[q]?) → va_S A H0 H1 locs1 → W p l e R s m args below meth c H1 locs1 cells slots Q (F0 m (pc + 3) ls rest)) : W p l e R s m args below meth c H locs cells slots Q (F0 m pc ls (v :: .ref a :: rest)) := by
  have hap := va_apart (own := own) hts hin ty0 hty hnm hK hc
  obtain ⟨r, h1, cell, q1, q2, q3, q4⟩ := hP
  have hr : r = (C, T, N) := Option.some.inj (h1.symm.trans hc)
  subst hr
  obtain ⟨hS, hfc, kC, hkC, hkind⟩ := hK.1 ci _ hc
  obtain ⟨cf, kf, fi, f, hi, hsl⟩ := hS k hk
  have hlay := hts _ (hin _ (u_in_lay hk))
  unfold u_lay at hlay
  rw [if_pos hfin] at hlay
  have hst := (u_facts hfc hkC (u_lays hts hin hk) hi).1
  have hcf : m.cls = cf := by
    obtain ⟨_, _, c', _, _, _, -, -, hf', -, -, -, hown2, -⟩ := Cond.laysFinal_spec hlay
    have e1 : c' = cf := by have := hi.symm.trans hf'; simp at this; exact this.1.symm
    rw [hdecl] at hown2
    rw [← e1]; exact Option.some.inj (hown.symm.trans hown2)
  have h6 := u_fits hfc hkC hkind (Or.inr hlay) hi hd hn hfit
  refine W.putFinK hexec hb hown hlink (hsame _ hi) hst hcf hin2 (by rw [q2]; exact h6) q1 q3 (by rw [hsl]; exact k2_hasslot (q4 k hk)) rfl rfl hdg fun H' e1 e2 e3 => ?_
  rw [hsl] at e1 ⊢
  exact kk H' _ ⟨_, hc, t_OB.to (V := updV (vp_V fs) k v) ⟨_, e1, q2, q3, t_set q4 hap hk v⟩ (fun j _ => vp_updV_set hl v j)⟩ e2 e3 (hS0.put e2 e3 hA)
theorem hp_iald (hexec : p.tables.exec = Jvm.exec) (hb : c.code = cc) (hK : va_K D cl tys s) (t0 : Nat) {cI : ClassId} {n : Nat} {f : Nat → Int} (hP : va_at D cl (a, hp_ai cI n f) H) (ht : tys[t0]? = some (cI, .int)) (hdg : decode cc pc = .ok (.iaload, 1)) (hn : n < 2147483648) {z : Int} (k : Nat) (hz : z = (k : Int)) (hk : k < n)
    (kk : W p l e R s m args below meth c H locs cells slots Q (F0 m (pc + 1) ls (.int (iI (f k)) :: rest))) : W p l e R s m args below meth c H locs cells slots Q (F0 m pc ls (.int (iI z) :: .ref a :: rest)) := by
  refine va_iald hexec hb hK (hp_one hP) 0 t0 rfl ht (iI_in hz hk hn) hdg ?_
  rw [iI_cl hz (by omega)]
  exact kk
theorem hp_iast (hexec : p.tables.exec = Jvm.exec) (hb : c.code = cc) (hK : va_K D cl tys s) (t0 : Nat) {cI : ClassId} {n : Nat} {f : Nat → Int} (hP : va_at D cl (a, hp_ai cI n f) H) (hS : va_S A H0 H locs) (hA : A a) (ht : tys[t0]? = some (cI, .int)) (hdg : decode cc pc = .ok (.iastore, 1)) (hn : n < 2147483648) {z x : Int} (k : Nat) (hz : z = (k : Int)) (hk : k < n)
    (kk : ∀ (H1 : Heap) (locs1 : List Loc), va_at D cl (a, hp_ai cI n (hp_up f k x)) H1 → H1.size = H.size → (∀ q, q ≠ a → H1[q]? = H[q]?) → va_S A H0 H1 locs1 → W p l e R s m args below meth c H1 locs1 cells slots Q (F0 m (pc + 1) ls rest)) : W p l e R s m args below meth c H locs cells slots Q (F0 m pc ls (.int (iI x) :: .int (iI z) :: .ref a :: rest)) := by
  have hi := iI_in hz hk hn
  have hc := iI_cl hz (show k < 2147483648 by omega)
  refine W.iast hexec hb hP ((hK.2 t0 _ ht).1 n (fun j => .int (iI (f j)))) (fun q => by cases q) (by show ¬ (iI z < 0 ∨ (arrV _ _ _).slots.size ≤ _); rw [arrV_size]; exact hi) rfl rfl hdg fun H1 e1 z1 oq => ?_
  refine kk H1 _ ?_ z1 oq (hS.put z1 oq hA)
  show H1[a]? = some (vp_cell _ _)
  rw [e1, vp_cell_i, vp_cell_i, arrV_store, hc]
  congr 2
  funext q
  by_cases hq : q = k
  · subst hq
    simp [updV, hp_up]
  · simp [updV, hp_up, hq]
theorem hp_aald (hexec : p.tables.exec = Jvm.exec) (hb : c.code = cc) (hK : va_K D cl tys s) (t0 : Nat) {cA : ClassId} {ty : FieldType} {n : Nat} {f : Nat → Option Nat} (hP : va_at D cl (a, hp_aq cA n f) H) (ht : tys[t0]? = some (cA, ty)) (hty : ty.isReference = true) (hdg : decode cc pc = .ok (.aaload, 1)) (hn : n < 2147483648) {z : Int} (k : Nat) (hz : z = (k : Int)) (hk : k < n) {v : Value} (hv : va_rf (f k) = v)
    (kk : W p l e R s m args below meth c H locs cells slots Q (F0 m (pc + 1) ls (v :: rest))) : W p l e R s m args below meth c H locs cells slots Q (F0 m pc ls (.int (iI z) :: .ref a :: rest)) := by
  have hi := iI_in hz hk hn
  have hc := iI_cl hz (show k < 2147483648 by omega)
  exact W.aald (v := v) hexec hb hP ((hK.2 t0 _ ht).1 n (fun j => va_rf (f j))) hty (fun q => by cases q) (by show ¬ (iI z < 0 ∨ (arrV _ _ _).slots.size ≤ _); rw [arrV_size]; exact hi) (by show (arrV _ _ _).slots[_]? = _; rw [hc, arrV_read _ _ hk, hv]) rfl rfl hdg kk
theorem hp_alen (hexec : p.tables.exec = Jvm.exec) (hb : c.code = cc) (hK : va_K D cl tys s) (t0 : Nat) {cA : ClassId} {x : vp_A} (hP : va_at D cl (a, .inl (cA, x)) H) {ty : FieldType} (ht : tys[t0]? = some (cA, ty)) (hdg : decode cc pc = .ok (.arraylength, 1))
    (kk : W p l e R s m args below meth c H locs cells slots Q (F0 m (pc + 1) ls (.int (iI (x.1 : Int)) :: rest))) : W p l e R s m args below meth c H locs cells slots Q (F0 m pc ls (.ref a :: rest)) :=
  va_alen hexec hb hK (hp_one hP) 0 t0 rfl ht (v := iI (x.1 : Int)) (iI_nI x.1).symm hdg kk
theorem hp_newa (hexec : p.tables.exec = Jvm.exec) (hb : c.code = cc) (harr : (Cond.arrayClass .int).before args s = true) (hK : va_K D cl tys s) (t0 : Nat) {cI : ClassId} (ht : tys[t0]? = some (cI, .int)) (hS : va_S A H0 H locs) (hA : ∀ q, H0.size ≤ q → A q) {z : Int} (n : Nat) (hz : z = (n : Int)) (hn : n < 100000000) (hcells : cells + 1 ≤ R.cells) (hslots : slots + n ≤ R.slots) (hdg : decode cc pc = .ok (.newarray .int, 2))
    (kk : ∀ (H1 : Heap), va_at D cl (H.size, hp_ai cI n (fun _ => 0)) H1 → H1.size = H.size + 1 → (∀ q, q < H.size → H1[q]? = H[q]?) → va_S A H0 H1 locs → W p l e R s m args below meth c H1 locs (cells + 1) (slots + n) Q (F0 m (pc + 2) ls (.ref H.size :: rest))) : W p l e R s m args below meth c H locs cells slots Q (F0 m pc ls (.int (iI z) :: rest)) := by
  have hcl := iI_cl hz (show n < 2147483648 by omega)
  refine va_newaK (atype := .int) hexec hb harr rfl hdg rfl (fun h => (iI_in hz (Nat.lt_succ_self n) (by omega)) (Or.inl h)) hcl (by show n * 4 ≤ _; omega) hcells hslots rfl fun H1 cA e1 z1 o1 hAr hNm => ?_
  have hc : cA = cI := by
    have h2 : s.vm.findClass ("[" ++ FieldType.int.toString) = some cI := (hK.2 t0 _ ht).2
    exact Option.some.inj (hNm.symm.trans h2)
  subst hc
  refine kk H1 ?_ z1 o1 ⟨Nat.le_trans hS.1 (by omega), fun x h1 h2 => (o1 x (Nat.lt_of_lt_of_le h1 hS.1)).trans (hS.2.1 x h1 h2), hS.2.2⟩
  show H1[H.size]? = some (vp_cell _ _)
  rw [vp_cell_i]
  exact e1
theorem hp_new (hexec : p.tables.exec = Jvm.exec) (hb : c.code = cc) {own C : String} {T : u_T} {N ci index : Nat} {Ts : List Cond} (hts : ∀ w ∈ Ts, w.before args s = true) (hin : ∀ w ∈ u_ws C T N, w ∈ Ts) (ty : Nat → FieldType) (hty : ∀ k, k < N → parseFieldDescriptor (T k).2.2.1 = some (ty k)) (hown : s.vm.findClass own = some m.cls) (hcl : (Cond.classLink own index C).before args s = true) (hinst : (Cond.instantiable C N).before args s = true) (hini : (Cond.initialized C).before args s = true)
    (hK : va_K D cl tys s) (hS : va_S A H0 H locs) (hc : cl[ci]? = some (C, T, N)) {fs : List Value} (hfs : ∀ j, j < N → defaultValue (ty j) = vp_V fs j) (hcells : cells + 1 ≤ R.cells) (hslots : slots + N ≤ R.slots) (hdg : decode cc pc = .ok (.new index, 3))
    (kk : ∀ (H1 : Heap), va_at D cl (H.size, .inr (ci, fs)) H1 → H1.size = H.size + 1 → (∀ q, q < H.size → H1[q]? = H[q]?) → va_S A H0 H1 locs → W p l e R s m args below meth c H1 locs (cells + 1) (slots + N) Q (F0 m (pc + 3) ls (.ref H.size :: rest))) : W p l e R s m args below meth c H locs cells slots Q (F0 m pc ls rest) := by
  have hKn := hK.1 ci _ hc
  refine W.newcK hexec hb hown hcl hinst hini rfl hdg hcells hslots hKn.2.1 rfl fun H1 kC hkC e1 z1 o1 => ?_
  exact kk H1 ⟨_, hc, (u_born ty hts hin hKn hkC e1 hty).to hfs⟩ z1 o1 ⟨Nat.le_trans hS.1 (by omega), fun x h1 h2 => (o1 x (Nat.lt_of_lt_of_le h1 hS.1)).trans (hS.2.1 x h1 h2), hS.2.2⟩
end HB
end
section
/-! Calls: of a method that changes nothing, and of one that writes cells of M alone. -/
abbrev hp_Si (r : Int) : Array Value → State → Outcome → State → Prop := vp_Si (fun x => x = iI r)
def hp_Qv (M : Nat → Prop) (post : Heap → Prop) : Array Value → State → Outcome → State → Prop := fun _ st oc t => oc = .returned none ∧ post t.heap ∧ t.heap.size = st.heap.size ∧ ∀ q, ¬ M q → t.heap[q]? = st.heap[q]?
def hp_Qi (M : Nat → Prop) (post : Int → Heap → Prop) : Array Value → State → Outcome → State → Prop := fun _ st oc t => ∃ r : Int, oc = .returned (some (.int (iI r))) ∧ post r t.heap ∧ t.heap.size = st.heap.size ∧ ∀ q, ¬ M q → t.heap[q]? = st.heap[q]?
def hp_Qr (M : Nat → Prop) (post : Nat → Heap → Prop) : Array Value → State → Outcome → State → Prop := fun _ st oc t => ∃ r : Nat, oc = .returned (some (.ref r)) ∧ post r t.heap ∧ t.heap.size = st.heap.size ∧ ∀ q, ¬ M q → t.heap[q]? = st.heap[q]?
def hp_KK (D : va_G) (cl : List vw_C) (tys : List (ClassId × FieldType)) (ns : List Cond) (U : State) : Prop := va_K D cl tys U ∧ ∀ w ∈ ns, va_Nw w U
def hp_nest (ns : List Cond) : Prop := ∀ w ∈ ns, ∃ (a : String) (i : Nat) (x : MethodName) (h : String), w = Cond.methodLinkNest a i x h
theorem hp_KK.warm {D : va_G} {cl : List vw_C} {tys : List (ClassId × FieldType)} {ns : List Cond} (hn : hp_nest ns) {s U : State} (hW : s.WarmedH U.vm) (h : hp_KK D cl tys ns s) : hp_KK D cl tys ns U := ⟨va_K.moved hW.alike h.1, fun w hw => by
  obtain ⟨a, i, x, y, rfl⟩ := hn w hw
  exact va_Nw.warmM hW (h.2 _ hw)⟩
theorem hp_KK.call {D : va_G} {cl : List vw_C} {tys : List (ClassId × FieldType)} {ns : List Cond} (hn : hp_nest ns) {U : State} (h : hp_KK D cl tys ns U) (g : JFrame) (mk : MethodId) (a : Array Value) : hp_KK D cl tys ns (U.calling g mk a) := ⟨va_K.moved (u := U) (U := U.calling g mk a) (Vm.Alike.refl U.vm) h.1, fun w hw => by
  obtain ⟨a, i, x, y, rfl⟩ := hn w hw
  exact va_Nw.same rfl (u := U) rfl (h.2 _ hw)⟩
/-- the start of a contract: the arguments, what lies in the heap, the tables -/
def hp_Pc (D : va_G) (cl : List vw_C) (tys : List (ClassId × FieldType)) (ns : List Cond) (av : List Value) (B : Heap → Prop) : Array Value → State → Prop := fun v U => v = av.toArray ∧ B U.heap ∧ hp_KK D cl tys ns U
theorem hp_blind {D : va_G} {cl : List vw_C} {tys : List (ClassId × FieldType)} {ns : List Cond} (hn : hp_nest ns) {av : List Value} {B : Heap → Prop} : FrameBlind (hp_Pc D cl tys ns av B) := fun a _ g mk h => ⟨h.1, h.2.1, h.2.2.call hn g mk a⟩
theorem hp_preS {D : va_G} {cl : List vw_C} {tys : List (ClassId × FieldType)} {ns : List Cond} (hn : hp_nest ns) {As : List Value} {B : Heap → Prop} {s : State} {H : Heap} (hK : hp_KK D cl tys ns s) (hB : B H) : PreS s H (hp_Pc D cl tys ns As B) As := ⟨hp_blind hn, fun U hU hW => ⟨rfl, by rw [hU]; exact hB, hK.warm hn hW⟩⟩
theorem hp_preV {D : va_G} {cl : List vw_C} {tys : List (ClassId × FieldType)} {ns : List Cond} (hn : hp_nest ns) {b ci : Nat} {fs : List Value} {q : vw_C} {As : List Value} {B : Heap → Prop} {s : State} {H : Heap} (hK : hp_KK D cl tys ns s) (hc : cl[ci]? = some q) (hP : va_at D cl (b, .inr (ci, fs)) H) (hB : B H) : PreV s H q.1 b (hp_Pc D cl tys ns (.ref b :: As) B) As := ⟨hp_blind hn, va_recv hK.1 (hp_one hP) hc (q0 := 0) rfl, fun U hU hW => ⟨rfl, by rw [hU]; exact hB, hK.warm hn hW⟩⟩
section HC
variable {p : Program} {l : Launch} {e : Env} {R : Room} {s : State} {m : MethodId} {args : Array Value} {below : List Frame} {meth : Method} {c : Code} {H : Heap} {locs : List Loc} {cells slots : Nat} {Q : State → Prop}
variable {pc : Nat} {ls : Array Slot} {rest st0 : List Value} {A M : Nat → Prop} {H0 : Heap} {a : Array Value}
theorem hp_callS {r : Int} (hr : CallRun p l e R s m args below meth c H locs cells slots 0 0 (F0 m pc ls st0) rest (hp_Si r a) (fun _ => False))
    (kk : W p l e R s m args below meth c H locs cells slots Q (F0 m (pc + 3) ls (.int (iI r) :: rest))) : W p l e R s m args below meth c H locs cells slots Q (F0 m pc ls st0) := vp_callSi hr (fun x hx => by rw [hx]; exact kk)
theorem hp_callv {post : Heap → Prop} (hr : CallRun p l e R s m args below meth c H locs cells slots 0 0 (F0 m pc ls st0) rest (hp_Qv M post a) M) (hS : va_S A H0 H locs) (hM : ∀ q, M q → A q)
    (kk : ∀ (H1 : Heap) (locs1 : List Loc), post H1 → H1.size = H.size → (∀ q, ¬ M q → H1[q]? = H[q]?) → va_S A H0 H1 locs1 → W p l e R s m args below meth c H1 locs1 cells slots Q (F0 m (pc + 3) ls rest)) : W p l e R s m args below meth c H locs cells slots Q (F0 m pc ls st0) := by
  intro T hT X
  obtain ⟨v, st₀, t, T', L, h0, X', hL, e1, ⟨hv, hp, hz, hk⟩, st⟩ := hr T hT X
  cases hv
  rw [h0] at hz hk
  obtain ⟨t2, a1, b1⟩ := kk t.heap (locs ++ L) hp hz hk ⟨by rw [hz]; exact hS.1, fun q _ h2 => (hk q (fun z => h2 (hM q z))).trans (hS.2.1 q (by assumption) h2), fun q hq => by
    rcases List.mem_append.mp hq with h | h
    · exact hS.2.2 q h
    · exact hM _ (hL q h)⟩ T' e1 X'
  exact ⟨t2, st t2 a1, b1⟩
theorem hp_calli {post : Int → Heap → Prop} (hr : CallRun p l e R s m args below meth c H locs cells slots 0 0 (F0 m pc ls st0) rest (hp_Qi M post a) M) (hS : va_S A H0 H locs) (hM : ∀ q, M q → A q)
    (kk : ∀ (r : Int) (H1 : Heap) (locs1 : List Loc), post r H1 → H1.size = H.size → (∀ q, ¬ M q → H1[q]? = H[q]?) → va_S A H0 H1 locs1 → W p l e R s m args below meth c H1 locs1 cells slots Q (F0 m (pc + 3) ls (.int (iI r) :: rest))) : W p l e R s m args below meth c H locs cells slots Q (F0 m pc ls st0) := by
  intro T hT X
  obtain ⟨v, st₀, t, T', L, h0, X', hL, e1, ⟨r, hv, hp, hz, hk⟩, st⟩ := hr T hT X
  cases hv
  rw [h0] at hz hk
  obtain ⟨t2, a1, b1⟩ := kk r t.heap (locs ++ L) hp hz hk ⟨by rw [hz]; exact hS.1, fun q _ h2 => (hk q (fun z => h2 (hM q z))).trans (hS.2.1 q (by assumption) h2), fun q hq => by
    rcases List.mem_append.mp hq with h | h
    · exact hS.2.2 q h
    · exact hM _ (hL q h)⟩ T' e1 X'
  exact ⟨t2, st t2 a1, b1⟩
theorem hp_callr {post : Nat → Heap → Prop} (hr : CallRun p l e R s m args below meth c H locs cells slots 0 0 (F0 m pc ls st0) rest (hp_Qr M post a) M) (hS : va_S A H0 H locs) (hM : ∀ q, M q → A q)
    (kk : ∀ (r : Nat) (H1 : Heap) (locs1 : List Loc), post r H1 → H1.size = H.size → (∀ q, ¬ M q → H1[q]? = H[q]?) → va_S A H0 H1 locs1 → W p l e R s m args below meth c H1 locs1 cells slots Q (F0 m (pc + 3) ls (.ref r :: rest))) : W p l e R s m args below meth c H locs cells slots Q (F0 m pc ls st0) := by
  intro T hT X
  obtain ⟨v, st₀, t, T', L, h0, X', hL, e1, ⟨r, hv, hp, hz, hk⟩, st⟩ := hr T hT X
  cases hv
  rw [h0] at hz hk
  obtain ⟨t2, a1, b1⟩ := kk r t.heap (locs ++ L) hp hz hk ⟨by rw [hz]; exact hS.1, fun q _ h2 => (hk q (fun z => h2 (hM q z))).trans (hS.2.1 q (by assumption) h2), fun q hq => by
    rcases List.mem_append.mp hq with h | h
    · exact hS.2.2 q h
    · exact hM _ (hL q h)⟩ T' e1 X'
  exact ⟨t2, st t2 a1, b1⟩
end HC
/-- the end of a method that changes nothing -/
theorem hp_endS {s t : State} {as : Array Value} {r : Int} (ht : t.heap = s.heap) : hp_Si r as s (.returned (some (.int (iI r)))) t := ⟨iI r, rfl, rfl, ht⟩
end
