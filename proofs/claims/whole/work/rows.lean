section
/-! Simple braids as permutations of the places (a function and its inverse), and the moves of one crossing from the beginning of a right one to the end of a left one. Whatever finite row of moves ends where none is left, ends at the same place. -/
def gs_sw (i p : Nat) : Nat := if p = i then i + 1 else if p = i + 1 then i else p
theorem gs_sw_a (i : Nat) : gs_sw i i = i + 1 := by simp [gs_sw]
theorem gs_sw_b (i : Nat) : gs_sw i (i + 1) = i := by simp [gs_sw]
theorem gs_sw_n {i p : Nat} (h : p ≠ i) (h2 : p ≠ i + 1) : gs_sw i p = p := by simp [gs_sw, h, h2]
theorem gs_sw_cases (i p : Nat) : (p = i ∧ gs_sw i p = i + 1) ∨ (p = i + 1 ∧ gs_sw i p = i) ∨ (p ≠ i ∧ p ≠ i + 1 ∧ gs_sw i p = p) := by
  by_cases h1 : p = i
  · exact Or.inl ⟨h1, by rw [h1]; exact gs_sw_a i⟩
  · by_cases h2 : p = i + 1
    · exact Or.inr (Or.inl ⟨h2, by rw [h2]; exact gs_sw_b i⟩)
    · exact Or.inr (Or.inr ⟨h1, h2, gs_sw_n h1 h2⟩)
theorem gs_sw_sw (i p : Nat) : gs_sw i (gs_sw i p) = p := by
  rcases gs_sw_cases i p with ⟨h, e⟩ | ⟨h, e⟩ | ⟨h, h2, e⟩
  · rw [e, gs_sw_b, h]
  · rw [e, gs_sw_a, h]
  · rw [e, e]
theorem gs_sw_far {i j : Nat} (h : i + 2 ≤ j) (p : Nat) : gs_sw i (gs_sw j p) = gs_sw j (gs_sw i p) := by
  have h1 := gs_sw_cases i p
  have h2 := gs_sw_cases j p
  have h3 := gs_sw_cases i (gs_sw j p)
  have h4 := gs_sw_cases j (gs_sw i p)
  omega
theorem gs_sw_braid (i p : Nat) : gs_sw i (gs_sw (i + 1) (gs_sw i p)) = gs_sw (i + 1) (gs_sw i (gs_sw (i + 1) p)) := by
  have h1 := gs_sw_cases i p
  have h2 := gs_sw_cases (i + 1) p
  have h3 := gs_sw_cases (i + 1) (gs_sw i p)
  have h4 := gs_sw_cases i (gs_sw (i + 1) p)
  have h5 := gs_sw_cases i (gs_sw (i + 1) (gs_sw i p))
  have h6 := gs_sw_cases (i + 1) (gs_sw i (gs_sw (i + 1) p))
  omega
/-- two places keep their order under a swap, unless they are the two that are swapped -/
theorem gs_sw_lt {i x y : Nat} (h : x < y) (hn : ¬ (x = i ∧ y = i + 1)) : gs_sw i x < gs_sw i y := by
  have h1 := gs_sw_cases i x
  have h2 := gs_sw_cases i y
  omega
theorem gs_sw_ltR {i x y : Nat} (h : gs_sw i x < gs_sw i y) (hn : ¬ (y = i ∧ x = i + 1)) : x < y := by
  have h1 := gs_sw_cases i x
  have h2 := gs_sw_cases i y
  omega
abbrev gs_P : Type := (Nat → Nat) × (Nat → Nat)
def gs_ok (n : Nat) (S : gs_P) : Prop := (∀ p, S.2 (S.1 p) = p) ∧ (∀ q, S.1 (S.2 q) = q) ∧ ∀ p, p < 1 ∨ n < p → S.1 p = p
def gs_L (i : Nat) (S : gs_P) : gs_P := (fun p => gs_sw i (S.1 p), fun q => S.2 (gs_sw i q))
def gs_R (i : Nat) (S : gs_P) : gs_P := (fun p => S.1 (gs_sw i p), fun q => gs_sw i (S.2 q))
def gs_can (i : Nat) (S T : gs_P) : Prop := S.2 i < S.2 (i + 1) ∧ T.1 (i + 1) < T.1 i
theorem gs_ok_L {n i : Nat} {S : gs_P} (h : gs_ok n S) (h1 : 1 ≤ i) (h2 : i < n) : gs_ok n (gs_L i S) := by
  refine ⟨fun p => ?_, fun q => ?_, fun p hp => ?_⟩
  · show S.2 (gs_sw i (gs_sw i (S.1 p))) = p
    rw [gs_sw_sw, h.1]
  · show gs_sw i (S.1 (S.2 (gs_sw i q))) = q
    rw [h.2.1, gs_sw_sw]
  · show gs_sw i (S.1 p) = p
    rw [h.2.2 p hp]
    exact gs_sw_n (by omega) (by omega)
theorem gs_ok_R {n i : Nat} {S : gs_P} (h : gs_ok n S) (h1 : 1 ≤ i) (h2 : i < n) : gs_ok n (gs_R i S) := by
  refine ⟨fun p => ?_, fun q => ?_, fun p hp => ?_⟩
  · show gs_sw i (S.2 (S.1 (gs_sw i p))) = p
    rw [h.1, gs_sw_sw]
  · show S.1 (gs_sw i (gs_sw i (S.2 q))) = q
    rw [gs_sw_sw, h.2.1]
  · show S.1 (gs_sw i p) = p
    rw [gs_sw_n (by omega) (by omega)]
    exact h.2.2 p hp
theorem gs_LR (i j : Nat) (S : gs_P) : gs_L i (gs_R j S) = gs_R j (gs_L i S) := rfl
theorem gs_LL_far {i j : Nat} (h : i + 2 ≤ j) (S : gs_P) : gs_L i (gs_L j S) = gs_L j (gs_L i S) := by
  refine Prod.ext (funext fun p => ?_) (funext fun q => ?_)
  · exact gs_sw_far h _
  · show S.2 (gs_sw j (gs_sw i q)) = S.2 (gs_sw i (gs_sw j q))
    rw [gs_sw_far h]
theorem gs_RR_far {i j : Nat} (h : i + 2 ≤ j) (S : gs_P) : gs_R i (gs_R j S) = gs_R j (gs_R i S) := by
  refine Prod.ext (funext fun p => ?_) (funext fun q => ?_)
  · show S.1 (gs_sw j (gs_sw i p)) = S.1 (gs_sw i (gs_sw j p))
    rw [gs_sw_far h]
  · exact gs_sw_far h _
theorem gs_LLL (i : Nat) (S : gs_P) : gs_L i (gs_L (i + 1) (gs_L i S)) = gs_L (i + 1) (gs_L i (gs_L (i + 1) S)) := by
  refine Prod.ext (funext fun p => ?_) (funext fun q => ?_)
  · exact gs_sw_braid i _
  · show S.2 (gs_sw i (gs_sw (i + 1) (gs_sw i q))) = S.2 (gs_sw (i + 1) (gs_sw i (gs_sw (i + 1) q)))
    rw [gs_sw_braid]
theorem gs_RRR (i : Nat) (S : gs_P) : gs_R i (gs_R (i + 1) (gs_R i S)) = gs_R (i + 1) (gs_R i (gs_R (i + 1) S)) := by
  refine Prod.ext (funext fun p => ?_) (funext fun q => ?_)
  · show S.1 (gs_sw i (gs_sw (i + 1) (gs_sw i p))) = S.1 (gs_sw (i + 1) (gs_sw i (gs_sw (i + 1) p)))
    rw [gs_sw_braid]
  · exact gs_sw_braid i _
/-- a row of simple braids, place by place, and a move from place j + 1 to place j -/
def gs_mv (A : Nat → gs_P) (j i : Nat) : Nat → gs_P := fun k => if k = j then gs_L i (A j) else if k = j + 1 then gs_R i (A (j + 1)) else A k
theorem gs_mv_0 (A : Nat → gs_P) (j i : Nat) : gs_mv A j i j = gs_L i (A j) := by simp [gs_mv]
theorem gs_mv_1 (A : Nat → gs_P) (j i : Nat) : gs_mv A j i (j + 1) = gs_R i (A (j + 1)) := by simp [gs_mv]
theorem gs_mv_n (A : Nat → gs_P) {j k : Nat} (i : Nat) (h : k ≠ j) (h2 : k ≠ j + 1) : gs_mv A j i k = A k := by simp [gs_mv, h, h2]
def gs_st (n m : Nat) (A B : Nat → gs_P) : Prop := ∃ j i, j + 1 < m ∧ 1 ≤ i ∧ i < n ∧ gs_can i (A j) (A (j + 1)) ∧ B = gs_mv A j i
def gs_to (n m : Nat) : Nat → (Nat → gs_P) → (Nat → gs_P) → Prop
  | 0, A, B => A = B
  | k + 1, A, B => ∃ C, gs_st n m A C ∧ gs_to n m k C B
def gs_ir (n m : Nat) (A : Nat → gs_P) : Prop := ∀ j i, j + 1 < m → 1 ≤ i → i < n → ¬ gs_can i (A j) (A (j + 1))
def gs_al (n m : Nat) (A : Nat → gs_P) : Prop := ∀ j, j < m → gs_ok n (A j)
theorem gs_al_mv {n m : Nat} {A : Nat → gs_P} (h : gs_al n m A) {j i : Nat} (hj : j + 1 < m) (h1 : 1 ≤ i) (h2 : i < n) : gs_al n m (gs_mv A j i) := by
  intro k hk
  by_cases e0 : k = j
  · rw [e0, gs_mv_0]; exact gs_ok_L (h j (by omega)) h1 h2
  · by_cases e1 : k = j + 1
    · rw [e1, gs_mv_1]; exact gs_ok_R (h (j + 1) hj) h1 h2
    · rw [gs_mv_n A i e0 e1]; exact h k hk
theorem gs_al_st {n m : Nat} {A B : Nat → gs_P} (h : gs_al n m A) (hs : gs_st n m A B) : gs_al n m B := by
  obtain ⟨j, i, hj, h1, h2, -, rfl⟩ := hs
  exact gs_al_mv h hj h1 h2
theorem gs_al_to {n m : Nat} : ∀ (k : Nat) {A B : Nat → gs_P}, gs_al n m A → gs_to n m k A B → gs_al n m B
  | 0, _, _, h, e => by rw [← (show _ = _ from e)]; exact h
  | k + 1, _, _, h, ⟨_, hs, ht⟩ => gs_al_to k (gs_al_st h hs) ht
theorem gs_to_app {n m : Nat} : ∀ (k : Nat) {l : Nat} {A B C : Nat → gs_P}, gs_to n m k A B → gs_to n m l B C → gs_to n m (k + l) A C
  | 0, l, A, B, C, e, h => by rw [show 0 + l = l by omega, (show A = B from e)]; exact h
  | k + 1, l, A, B, C, ⟨D, hs, ht⟩, h => by
    rw [show k + 1 + l = (k + l) + 1 by omega]
    exact ⟨D, hs, gs_to_app k ht h⟩
theorem gs_to_1 {n m : Nat} {A B : Nat → gs_P} (h : gs_st n m A B) : gs_to n m 1 A B := ⟨B, h, rfl⟩
/-- two moves at the same place, far from one another -/
theorem gs_lc_far {n m : Nat} {A : Nat → gs_P} {j i i' : Nat} (hj : j + 1 < m) (h1 : 1 ≤ i) (h2 : i' < n) (hf : i + 2 ≤ i') (c1 : gs_can i (A j) (A (j + 1))) (c2 : gs_can i' (A j) (A (j + 1))) : gs_st n m (gs_mv A j i) (gs_mv (gs_mv A j i) j i') ∧ gs_st n m (gs_mv A j i') (gs_mv (gs_mv A j i) j i') := by
  constructor
  · refine ⟨j, i', hj, by omega, h2, ?_, rfl⟩
    rw [gs_mv_0, gs_mv_1]
    constructor
    · show (A j).2 (gs_sw i i') < (A j).2 (gs_sw i (i' + 1))
      rw [gs_sw_n (by omega) (by omega), gs_sw_n (by omega) (by omega)]; exact c2.1
    · show (A (j + 1)).1 (gs_sw i (i' + 1)) < (A (j + 1)).1 (gs_sw i i')
      rw [gs_sw_n (by omega) (by omega), gs_sw_n (by omega) (by omega)]; exact c2.2
  · refine ⟨j, i, hj, h1, by omega, ?_, ?_⟩
    · rw [gs_mv_0, gs_mv_1]
      constructor
      · show (A j).2 (gs_sw i' i) < (A j).2 (gs_sw i' (i + 1))
        rw [gs_sw_n (by omega) (by omega), gs_sw_n (by omega) (by omega)]; exact c1.1
      · show (A (j + 1)).1 (gs_sw i' (i + 1)) < (A (j + 1)).1 (gs_sw i' i)
        rw [gs_sw_n (by omega) (by omega), gs_sw_n (by omega) (by omega)]; exact c1.2
    · funext k
      by_cases e0 : k = j
      · subst e0
        rw [gs_mv_0, gs_mv_0, gs_mv_0, gs_mv_0, gs_LL_far hf]
      · by_cases e1 : k = j + 1
        · subst e1
          rw [gs_mv_1, gs_mv_1, gs_mv_1, gs_mv_1, gs_RR_far hf]
        · rw [gs_mv_n _ _ e0 e1, gs_mv_n _ _ e0 e1, gs_mv_n _ _ e0 e1, gs_mv_n _ _ e0 e1]
/-- two moves at the same place, next to one another -/
theorem gs_lc_near {n m : Nat} {A : Nat → gs_P} {j i : Nat} (hj : j + 1 < m) (h1 : 1 ≤ i) (h2 : i + 1 < n) (c1 : gs_can i (A j) (A (j + 1))) (c2 : gs_can (i + 1) (A j) (A (j + 1))) : ∃ D, gs_to n m 2 (gs_mv A j i) D ∧ gs_to n m 2 (gs_mv A j (i + 1)) D := by
  have hl1 := c1.1
  have hl2 := c2.1
  have hr1 := c1.2
  have hr2 := c2.2
  refine ⟨gs_mv (gs_mv (gs_mv A j i) j (i + 1)) j i, ⟨gs_mv (gs_mv A j i) j (i + 1), ⟨j, i + 1, hj, by omega, h2, ?_, rfl⟩, gs_mv (gs_mv (gs_mv A j i) j (i + 1)) j i, ⟨j, i, hj, h1, by omega, ?_, rfl⟩, rfl⟩, ⟨gs_mv (gs_mv A j (i + 1)) j i, ⟨j, i, hj, h1, by omega, ?_, rfl⟩, gs_mv (gs_mv (gs_mv A j (i + 1)) j i) j (i + 1), ⟨j, i + 1, hj, by omega, h2, ?_, rfl⟩, ?_⟩⟩
  · rw [gs_mv_0, gs_mv_1]
    constructor
    · show (A j).2 (gs_sw i (i + 1)) < (A j).2 (gs_sw i (i + 1 + 1))
      rw [gs_sw_b, gs_sw_n (by omega) (by omega)]; omega
    · show (A (j + 1)).1 (gs_sw i (i + 1 + 1)) < (A (j + 1)).1 (gs_sw i (i + 1))
      rw [gs_sw_b, gs_sw_n (by omega) (by omega)]; omega
  · rw [gs_mv_0, gs_mv_1, gs_mv_0, gs_mv_1]
    constructor
    · show (A j).2 (gs_sw i (gs_sw (i + 1) i)) < (A j).2 (gs_sw i (gs_sw (i + 1) (i + 1)))
      rw [gs_sw_n (i := i + 1) (p := i) (by omega) (by omega), gs_sw_a, gs_sw_a, gs_sw_n (by omega) (by omega)]; exact hl2
    · show (A (j + 1)).1 (gs_sw i (gs_sw (i + 1) (i + 1))) < (A (j + 1)).1 (gs_sw i (gs_sw (i + 1) i))
      rw [gs_sw_n (i := i + 1) (p := i) (by omega) (by omega), gs_sw_a, gs_sw_a, gs_sw_n (by omega) (by omega)]; exact hr2
  · rw [gs_mv_0, gs_mv_1]
    constructor
    · show (A j).2 (gs_sw (i + 1) i) < (A j).2 (gs_sw (i + 1) (i + 1))
      rw [gs_sw_a, gs_sw_n (by omega) (by omega)]; omega
    · show (A (j + 1)).1 (gs_sw (i + 1) (i + 1)) < (A (j + 1)).1 (gs_sw (i + 1) i)
      rw [gs_sw_a, gs_sw_n (by omega) (by omega)]; omega
  · rw [gs_mv_0, gs_mv_1, gs_mv_0, gs_mv_1]
    constructor
    · show (A j).2 (gs_sw (i + 1) (gs_sw i (i + 1))) < (A j).2 (gs_sw (i + 1) (gs_sw i (i + 1 + 1)))
      rw [gs_sw_b, gs_sw_n (i := i) (p := i + 1 + 1) (by omega) (by omega), gs_sw_b, gs_sw_n (by omega) (by omega)]; exact hl1
    · show (A (j + 1)).1 (gs_sw (i + 1) (gs_sw i (i + 1 + 1))) < (A (j + 1)).1 (gs_sw (i + 1) (gs_sw i (i + 1)))
      rw [gs_sw_b, gs_sw_n (i := i) (p := i + 1 + 1) (by omega) (by omega), gs_sw_b, gs_sw_n (by omega) (by omega)]; exact hr1
  · show gs_mv (gs_mv (gs_mv A j (i + 1)) j i) j (i + 1) = gs_mv (gs_mv (gs_mv A j i) j (i + 1)) j i
    funext k
    by_cases e0 : k = j
    · subst e0
      rw [gs_mv_0, gs_mv_0, gs_mv_0, gs_mv_0, gs_mv_0, gs_mv_0, gs_LLL]
    · by_cases e1 : k = j + 1
      · subst e1
        rw [gs_mv_1, gs_mv_1, gs_mv_1, gs_mv_1, gs_mv_1, gs_mv_1, gs_RRR]
      · rw [gs_mv_n _ _ e0 e1, gs_mv_n _ _ e0 e1, gs_mv_n _ _ e0 e1, gs_mv_n _ _ e0 e1, gs_mv_n _ _ e0 e1, gs_mv_n _ _ e0 e1]
/-- two moves at places next to one another -/
theorem gs_lc_next {n m : Nat} {A : Nat → gs_P} (hA : gs_al n m A) {j i i' : Nat} (hj : j + 2 < m) (h1 : 1 ≤ i) (h2 : i < n) (h3 : 1 ≤ i') (h4 : i' < n) (c1 : gs_can i (A j) (A (j + 1))) (c2 : gs_can i' (A (j + 1)) (A (j + 2))) : gs_st n m (gs_mv A j i) (gs_mv (gs_mv A j i) (j + 1) i') ∧ gs_st n m (gs_mv A (j + 1) i') (gs_mv (gs_mv A j i) (j + 1) i') := by
  obtain ⟨o1, o2, -⟩ := hA (j + 1) (by omega)
  constructor
  · refine ⟨j + 1, i', by omega, h3, h4, ?_, rfl⟩
    rw [gs_mv_1, gs_mv_n A i (by omega) (by omega)]
    refine ⟨?_, c2.2⟩
    show gs_sw i ((A (j + 1)).2 i') < gs_sw i ((A (j + 1)).2 (i' + 1))
    refine gs_sw_lt c2.1 (fun q => ?_)
    have e1 := o2 i'
    have e2 := o2 (i' + 1)
    rw [q.1] at e1
    rw [q.2] at e2
    have := c1.2
    omega
  · refine ⟨j, i, by omega, h1, h2, ?_, ?_⟩
    · rw [gs_mv_0, gs_mv_n A i' (by omega) (by omega)]
      refine ⟨c1.1, ?_⟩
      show gs_sw i' ((A (j + 1)).1 (i + 1)) < gs_sw i' ((A (j + 1)).1 i)
      refine gs_sw_lt c1.2 (fun q => ?_)
      have e1 := o1 i
      have e2 := o1 (i + 1)
      rw [q.2] at e1
      rw [q.1] at e2
      have := c2.1
      omega
    · funext k
      by_cases e0 : k = j
      · subst e0
        rw [gs_mv_n _ _ (by omega) (by omega), gs_mv_0, gs_mv_0, gs_mv_n _ _ (by omega) (by omega)]
      · by_cases e1 : k = j + 1
        · subst e1
          rw [gs_mv_0, gs_mv_1, gs_mv_1, gs_mv_0]; rfl
        · by_cases e2 : k = j + 1 + 1
          · subst e2
            rw [gs_mv_1, gs_mv_n _ _ (by omega) (by omega), gs_mv_n _ _ (by omega) (by omega), gs_mv_1]
          · rw [gs_mv_n _ _ e1 e2, gs_mv_n _ _ e0 e1, gs_mv_n _ _ e0 e1, gs_mv_n _ _ e1 e2]
/-- two moves at places far from one another -/
theorem gs_lc_apart {n m : Nat} {A : Nat → gs_P} {j j' i i' : Nat} (hj : j + 2 ≤ j') (hj' : j' + 1 < m) (h1 : 1 ≤ i) (h2 : i < n) (h3 : 1 ≤ i') (h4 : i' < n) (c1 : gs_can i (A j) (A (j + 1))) (c2 : gs_can i' (A j') (A (j' + 1))) : gs_st n m (gs_mv A j i) (gs_mv (gs_mv A j i) j' i') ∧ gs_st n m (gs_mv A j' i') (gs_mv (gs_mv A j i) j' i') := by
  constructor
  · refine ⟨j', i', hj', h3, h4, ?_, rfl⟩
    rw [gs_mv_n A i (by omega) (by omega), gs_mv_n A i (by omega) (by omega)]; exact c2
  · refine ⟨j, i, by omega, h1, h2, ?_, ?_⟩
    · rw [gs_mv_n A i' (by omega) (by omega), gs_mv_n A i' (by omega) (by omega)]; exact c1
    · funext k
      by_cases e0 : k = j
      · subst e0
        rw [gs_mv_n _ _ (by omega) (by omega), gs_mv_0, gs_mv_0, gs_mv_n _ _ (by omega) (by omega)]
      · by_cases e1 : k = j + 1
        · subst e1
          rw [gs_mv_n _ _ (by omega) (by omega), gs_mv_1, gs_mv_1, gs_mv_n _ _ (by omega) (by omega)]
        · rw [gs_mv_n (gs_mv A j' i') i e0 e1]
          by_cases e2 : k = j'
          · subst e2
            rw [gs_mv_0, gs_mv_0, gs_mv_n _ _ (by omega) (by omega)]
          · by_cases e3 : k = j' + 1
            · subst e3
              rw [gs_mv_1, gs_mv_1, gs_mv_n _ _ (by omega) (by omega)]
            · rw [gs_mv_n _ _ e2 e3, gs_mv_n _ _ e2 e3, gs_mv_n _ _ e0 e1]
theorem gs_lc {n m : Nat} {A B C : Nat → gs_P} (hA : gs_al n m A) (hB : gs_st n m A B) (hC : gs_st n m A C) : ∃ d D, gs_to n m d B D ∧ gs_to n m d C D := by
  obtain ⟨j, i, hj, h1, h2, c1, rfl⟩ := hB
  obtain ⟨j', i', hj', h3, h4, c2, rfl⟩ := hC
  rcases (show j = j' ∨ j' = j + 1 ∨ j = j' + 1 ∨ j + 2 ≤ j' ∨ j' + 2 ≤ j by omega) with e | e | e | e | e
  · subst e
    rcases (show i = i' ∨ i' = i + 1 ∨ i = i' + 1 ∨ i + 2 ≤ i' ∨ i' + 2 ≤ i by omega) with e | e | e | e | e
    · subst e; exact ⟨0, _, rfl, rfl⟩
    · subst e
      obtain ⟨D, x, y⟩ := gs_lc_near hj h1 h4 c1 c2
      exact ⟨2, D, x, y⟩
    · subst e
      obtain ⟨D, x, y⟩ := gs_lc_near hj h3 h2 c2 c1
      exact ⟨2, D, y, x⟩
    · have q := gs_lc_far hj h1 h4 e c1 c2
      exact ⟨1, _, gs_to_1 q.1, gs_to_1 q.2⟩
    · have q := gs_lc_far hj h3 h2 e c2 c1
      exact ⟨1, _, gs_to_1 q.2, gs_to_1 q.1⟩
  · subst e
    have q := gs_lc_next hA (by omega) h1 h2 h3 h4 c1 c2
    exact ⟨1, _, gs_to_1 q.1, gs_to_1 q.2⟩
  · subst e
    have q := gs_lc_next hA (by omega) h3 h4 h1 h2 c2 c1
    exact ⟨1, _, gs_to_1 q.2, gs_to_1 q.1⟩
  · have q := gs_lc_apart e hj' h1 h2 h3 h4 c1 c2
    exact ⟨1, _, gs_to_1 q.1, gs_to_1 q.2⟩
  · have q := gs_lc_apart e hj h3 h4 h1 h2 c2 c1
    exact ⟨1, _, gs_to_1 q.2, gs_to_1 q.1⟩
theorem gs_ir_no {n m : Nat} {A B : Nat → gs_P} (h : gs_ir n m A) (hs : gs_st n m A B) : False := by
  obtain ⟨j, i, hj, h1, h2, c1, -⟩ := hs
  exact h j i hj h1 h2 c1
/-- every move from A is on a way to the end that one way from A has, and as long -/
theorem gs_conf {n m : Nat} {E : Nat → gs_P} (hE : gs_ir n m E) : ∀ (k : Nat) {A B : Nat → gs_P} {d : Nat}, gs_al n m A → gs_to n m k A E → gs_to n m d A B → ∃ r, k = d + r ∧ gs_to n m r B E := by
  intro k
  induction k using Nat.strongRecOn with
  | ind k ih =>
    intro A B d hA hk hd
    match d, hd with
    | 0, hd =>
      have e : A = B := hd
      subst e
      exact ⟨k, by omega, hk⟩
    | d + 1, ⟨C, hs, hd⟩ =>
      match k, hk, ih with
      | 0, hk, _ =>
        have e : A = E := hk
        subst e
        exact absurd hs (fun q => gs_ir_no hE q)
      | k + 1, ⟨F, hf, hk⟩, ih =>
        obtain ⟨c, G, g1, g2⟩ := gs_lc hA hf hs
        obtain ⟨r, er, hr⟩ := ih k (by omega) (gs_al_st hA hf) hk g1
        have hC : gs_to n m k C E := by rw [er]; exact gs_to_app c g2 hr
        obtain ⟨r2, er2, hr2⟩ := ih k (by omega) (gs_al_st hA hs) hC hd
        exact ⟨r2, by omega, hr2⟩
/-- two ends of moves from one start are the same -/
theorem gs_uniq {n m k l : Nat} {A B C : Nat → gs_P} (hA : gs_al n m A) (hB : gs_ir n m B) (hC : gs_ir n m C) (h1 : gs_to n m k A B) (h2 : gs_to n m l A C) : B = C := by
  obtain ⟨r, -, hr⟩ := gs_conf hB k hA h1 h2
  match r, hr with
  | 0, e => exact (show C = B from e).symm
  | r + 1, ⟨D, hs, _⟩ => exact absurd hs (fun q => gs_ir_no hC q)
end
section
/-! Moves on a pair of simple braids; what a whole row of them does; the domino rule; and the number of crossings, which each move lowers by one on the right. -/
def gs_pr (n : Nat) : Nat → gs_P → gs_P → gs_P → gs_P → Prop
  | 0, S, T, S', T' => S = S' ∧ T = T'
  | k + 1, S, T, S', T' => ∃ i, 1 ≤ i ∧ i < n ∧ gs_can i S T ∧ gs_pr n k (gs_L i S) (gs_R i T) S' T'
theorem gs_pr_app {n : Nat} : ∀ (k : Nat) {l : Nat} {S T S1 T1 S2 T2 : gs_P}, gs_pr n k S T S1 T1 → gs_pr n l S1 T1 S2 T2 → gs_pr n (k + l) S T S2 T2
  | 0, l, S, T, S1, T1, S2, T2, h, h2 => by
    obtain ⟨rfl, rfl⟩ := h
    rw [Nat.zero_add]; exact h2
  | k + 1, l, S, T, S1, T1, S2, T2, ⟨i, h1, h2, hc, h⟩, h3 => by
    rw [show k + 1 + l = (k + l) + 1 by omega]
    exact ⟨i, h1, h2, hc, gs_pr_app k h h3⟩
theorem gs_pr_ok {n : Nat} : ∀ (k : Nat) {S T S1 T1 : gs_P}, gs_ok n S → gs_ok n T → gs_pr n k S T S1 T1 → gs_ok n S1 ∧ gs_ok n T1
  | 0, S, T, S1, T1, h1, h2, h => by
    obtain ⟨rfl, rfl⟩ := h
    exact ⟨h1, h2⟩
  | k + 1, S, T, S1, T1, o1, o2, ⟨i, h1, h2, _, h⟩ => gs_pr_ok k (gs_ok_L o1 h1 h2) (gs_ok_R o2 h1 h2) h
theorem gs_pr_way {n : Nat} : ∀ (k : Nat) {S T S' T' : gs_P}, gs_pr n k S T S' T' → ∃ a b : Nat → Nat, (∀ p, b (a p) = p) ∧ (∀ p, a (b p) = p) ∧ (∀ p, S'.1 p = a (S.1 p)) ∧ (∀ q, S'.2 q = S.2 (b q)) ∧ (∀ p, T'.1 p = T.1 (b p)) ∧ (∀ q, T'.2 q = a (T.2 q)) ∧ ∀ x y, x < y → a y < a x → S.2 x < S.2 y ∧ T.1 y < T.1 x
  | 0, S, T, S', T', h => by
    obtain ⟨rfl, rfl⟩ := h
    exact ⟨id, id, fun _ => rfl, fun _ => rfl, fun _ => rfl, fun _ => rfl, fun _ => rfl, fun _ => rfl, fun x y h1 h2 => absurd h2 (by simp only [id]; omega)⟩
  | k + 1, S, T, S', T', ⟨i, _, _, hc, h⟩ => by
    obtain ⟨a, b, ba, ab, e1, e2, e3, e4, hw⟩ := gs_pr_way k h
    refine ⟨fun p => a (gs_sw i p), fun p => gs_sw i (b p), fun p => ?_, fun p => ?_, e1, e2, e3, e4, fun x y hxy hl => ?_⟩
    · show gs_sw i (b (a (gs_sw i p))) = p
      rw [ba, gs_sw_sw]
    · show a (gs_sw i (gs_sw i (b p))) = p
      rw [gs_sw_sw, ab]
    · by_cases hq : x = i ∧ y = i + 1
      · rw [hq.1, hq.2]; exact hc
      · have := hw (gs_sw i x) (gs_sw i y) (gs_sw_lt hxy hq) hl
        have h1 : S.2 (gs_sw i (gs_sw i x)) < S.2 (gs_sw i (gs_sw i y)) := this.1
        have h2 : T.1 (gs_sw i (gs_sw i y)) < T.1 (gs_sw i (gs_sw i x)) := this.2
        rw [gs_sw_sw, gs_sw_sw] at h1 h2
        exact ⟨h1, h2⟩
def gs_lw (n : Nat) (S T : gs_P) : Prop := ∀ i, 1 ≤ i → i < n → ¬ gs_can i S T
theorem gs_edge (P : Nat → Prop) (p : Nat) (hp : P p) : ∀ d, ¬ P (p + d) → ∃ x, p ≤ x ∧ x < p + d ∧ P x ∧ ¬ P (x + 1)
  | 0, h => absurd hp h
  | d + 1, h => by
    by_cases hd : P (p + d)
    · exact ⟨p + d, by omega, by omega, hd, h⟩
    · obtain ⟨x, h1, h2, h3, h4⟩ := gs_edge P p hp d hd
      exact ⟨x, h1, by omega, h3, h4⟩
theorem gs_domino {n k l : Nat} {S1 S2 T S2' T' S1' S2'' : gs_P} (o2 : gs_ok n S2) (o2' : gs_ok n S2') (hw : gs_lw n S1 S2) (r1 : gs_pr n k S2 T S2' T') (hw1 : gs_lw n S2' T') (r2 : gs_pr n l S1 S2' S1' S2'') : gs_lw n S2'' T' := by
  intro i h1 h2 hc
  obtain ⟨a1, b1, ba1, ab1, e11, e12, e13, e14, w1⟩ := gs_pr_way k r1
  obtain ⟨a2, b2, ba2, ab2, e21, e22, e23, e24, w2⟩ := gs_pr_way l r2
  have fq : S2'.1 (S2'.2 i) = i := o2'.2.1 i
  have fp : S2'.1 (S2'.2 (i + 1)) = i + 1 := o2'.2.1 (i + 1)
  generalize hq : S2'.2 i = q at fq
  generalize hp : S2'.2 (i + 1) = p at fp
  have hpq : p < q := by
    have hn := hw1 i h1 h2
    unfold gs_can at hn
    rw [hq, hp] at hn
    have hne : p ≠ q := fun e => by rw [e, fq] at fp; omega
    have hc2 := hc.2
    omega
  have hinj : ∀ u v, S2'.1 u = S2'.1 v → u = v := fun u v e => by
    have := congrArg S2'.2 e
    rwa [o2'.1, o2'.1] at this
  have ha2 : a2 q < a2 p := by
    have := hc.1
    rw [e24, e24, hq, hp] at this
    exact this
  have eT1 : T'.1 (i + 1) = T.1 (S2.1 p) := by rw [e13, ← fp, e11, ba1]
  have eT0 : T'.1 i = T.1 (S2.1 q) := by rw [e13, ← fq, e11, ba1]
  have hne2 : S2.1 p ≠ S2.1 q := fun e => by
    have := congrArg S2.2 e
    rw [o2.1, o2.1] at this
    omega
  have hf : S2.1 q < S2.1 p := by
    rcases Nat.lt_or_gt_of_ne hne2 with hlt | hgt
    · have := (w1 (S2.1 p) (S2.1 q) hlt (by rw [← e11, ← e11, fp, fq]; omega)).2
      have hc2 := hc.2
      rw [eT1, eT0] at hc2
      omega
    · exact hgt
  have pf : ∀ u v, u < v → S2.1 v < S2.1 u → S2'.1 v < S2'.1 u := by
    intro u v huv hlt
    rcases Nat.lt_trichotomy (S2'.1 v) (S2'.1 u) with h | h | h
    · exact h
    · exact absurd (hinj _ _ h) (by omega)
    · have := (w1 (S2.1 v) (S2.1 u) hlt (by rw [← e11, ← e11]; exact h)).1
      rw [o2.1, o2.1] at this
      omega
  have pa : ∀ u v, u < v → a2 v < a2 u → S2'.1 v < S2'.1 u := fun u v huv hlt => (w2 u v huv hlt).2
  have hp1 : 1 ≤ p ∧ p ≤ n := by
    refine Decidable.byContradiction fun hn => ?_
    have := o2'.2.2 p (by omega)
    omega
  have hq1 : 1 ≤ q ∧ q ≤ n := by
    refine Decidable.byContradiction fun hn => ?_
    have := o2'.2.2 q (by omega)
    omega
  obtain ⟨x, x1, x2, x3, x4⟩ := gs_edge (fun x => x = p ∨ i + 1 < S2'.1 x) p (Or.inl rfl) (q - p) (by
    rw [show p + (q - p) = q by omega, fq]
    omega)
  have x5 : x + 1 = q ∨ S2'.1 (x + 1) < i := by
    by_cases e : x + 1 = q
    · exact Or.inl e
    · right
      have n1 : S2'.1 (x + 1) ≠ i := fun e2 => e (hinj _ _ (by rw [e2, fq]))
      have n2 : S2'.1 (x + 1) ≠ i + 1 := fun e2 => by
        have := hinj (x + 1) p (by rw [e2, fp])
        omega
      omega
  have key : ∀ φ : Nat → Nat, φ q < φ p → (∀ u v, u < v → φ v < φ u → S2'.1 v < S2'.1 u) → φ (x + 1) < φ x := by
    intro φ h0 hφ
    have c1 : φ p ≤ φ x := by
      rcases x3 with e | e
      · rw [e]; exact Nat.le_refl _
      · refine Nat.le_of_not_lt fun hlt => ?_
        have := hφ p x (by
          rcases Nat.lt_or_ge p x with h | h
          · exact h
          · have : x = p := by omega
            rw [this, fp] at e
            omega) hlt
        omega
    have c2 : φ (x + 1) ≤ φ q := by
      rcases x5 with e | e
      · rw [e]; exact Nat.le_refl _
      · refine Nat.le_of_not_lt fun hlt => ?_
        have := hφ (x + 1) q (by
          rcases Nat.lt_or_ge (x + 1) q with h | h
          · exact h
          · have : x + 1 = q := by omega
            rw [this, fq] at e
            omega) hlt
        omega
    omega
  have k1 := key a2 ha2 pa
  have k2 := key S2.1 hf pf
  exact hw x (by omega) (by omega) ⟨(w2 x (x + 1) (by omega) k1).1, k2⟩
/-! the number of crossings -/
def gs_sum (h : Nat → Nat) : Nat → Nat
  | 0 => 0
  | k + 1 => gs_sum h k + h (k + 1)
theorem gs_sum_congr {h g : Nat → Nat} : ∀ n, (∀ p, 1 ≤ p → p ≤ n → h p = g p) → gs_sum h n = gs_sum g n
  | 0, _ => rfl
  | n + 1, e => by
    show gs_sum h n + h (n + 1) = gs_sum g n + g (n + 1)
    rw [gs_sum_congr n (fun p h1 h2 => e p h1 (by omega)), e (n + 1) (by omega) (by omega)]
theorem gs_sum_one {h g : Nat → Nat} {k : Nat} (h1 : 1 ≤ k) (e : ∀ p, p ≠ k → h p = g p) (ek : h k = g k + 1) : ∀ n, k ≤ n → gs_sum h n = gs_sum g n + 1
  | 0, hk => absurd hk (by omega)
  | n + 1, hk => by
    show gs_sum h n + h (n + 1) = gs_sum g n + g (n + 1) + 1
    by_cases q : k = n + 1
    · subst q
      rw [gs_sum_congr n (fun p _ h2 => e p (by omega)), ek]
      omega
    · rw [gs_sum_one h1 e ek n (by omega), e (n + 1) (by omega)]
      omega
theorem gs_sum_sw {h : Nat → Nat} {i : Nat} (h1 : 1 ≤ i) : ∀ n, i < n → gs_sum (fun p => h (gs_sw i p)) n = gs_sum h n
  | 0, hi => absurd hi (by omega)
  | n + 1, hi => by
    show gs_sum (fun p => h (gs_sw i p)) n + h (gs_sw i (n + 1)) = gs_sum h n + h (n + 1)
    by_cases q : i < n
    · rw [gs_sum_sw h1 n q, gs_sw_n (by omega) (by omega)]
    · obtain ⟨m, rfl⟩ : ∃ m, n = m + 1 := ⟨n - 1, by omega⟩
      obtain rfl : i = m + 1 := by omega
      show gs_sum (fun p => h (gs_sw (m + 1) p)) m + h (gs_sw (m + 1) (m + 1)) + h (gs_sw (m + 1) (m + 1 + 1)) = gs_sum h m + h (m + 1) + h (m + 1 + 1)
      rw [gs_sw_a, gs_sw_b, gs_sum_congr (g := h) m (fun p _ h2 => by rw [gs_sw_n (by omega) (by omega)])]
      omega
theorem gs_sum_le {h g : Nat → Nat} : ∀ n, (∀ p, 1 ≤ p → p ≤ n → h p ≤ g p) → gs_sum h n ≤ gs_sum g n
  | 0, _ => Nat.le_refl _
  | n + 1, e => by
    show gs_sum h n + h (n + 1) ≤ gs_sum g n + g (n + 1)
    have := gs_sum_le n (fun p h1 h2 => e p h1 (by omega))
    have := e (n + 1) (by omega) (by omega)
    omega
def gs_x (f : Nat → Nat) (p q : Nat) : Nat := if p < q ∧ f q < f p then 1 else 0
def gs_inv (n : Nat) (f : Nat → Nat) : Nat := gs_sum (fun q => gs_sum (fun p => gs_x f p q) n) n
theorem gs_inv_R {n i : Nat} {f : Nat → Nat} (h1 : 1 ≤ i) (h2 : i < n) (hd : f (i + 1) < f i) : gs_inv n f = gs_inv n (fun p => f (gs_sw i p)) + 1 := by
  have e : gs_inv n (fun p => f (gs_sw i p)) = gs_sum (fun q => gs_sum (fun p => if gs_sw i p < gs_sw i q ∧ f q < f p then 1 else 0) n) n := by
    have s1 : ∀ q, gs_sum (fun p => gs_x (fun p => f (gs_sw i p)) p q) n = gs_sum (fun p => if gs_sw i p < gs_sw i (gs_sw i q) ∧ f (gs_sw i q) < f p then 1 else 0) n := by
      intro q
      rw [← gs_sum_sw (h := fun p => if gs_sw i p < gs_sw i (gs_sw i q) ∧ f (gs_sw i q) < f p then 1 else 0) h1 n h2]
      refine gs_sum_congr n (fun p _ _ => ?_)
      show (if p < q ∧ f (gs_sw i q) < f (gs_sw i p) then 1 else 0) = _
      rw [gs_sw_sw, gs_sw_sw]
    unfold gs_inv
    rw [gs_sum_congr n (fun q _ _ => s1 q)]
    exact gs_sum_sw (h := fun q => gs_sum (fun p => if gs_sw i p < gs_sw i q ∧ f q < f p then 1 else 0) n) h1 n h2
  rw [e]
  unfold gs_inv
  refine gs_sum_one (k := i + 1) (by omega) (fun q hq => ?_) ?_ n h2
  · refine gs_sum_congr n (fun p _ _ => ?_)
    show (if p < q ∧ f q < f p then 1 else 0) = _
    by_cases hx : p = i + 1 ∧ q = i
    · rw [if_neg (by omega), if_neg (by rw [hx.1, hx.2]; omega)]
    · have hiff : p < q ↔ gs_sw i p < gs_sw i q := by
        have c1 := gs_sw_cases i p
        have c2 := gs_sw_cases i q
        omega
      simp only [hiff]
  · refine gs_sum_one (k := i) h1 (fun p hp => ?_) ?_ n (by omega)
    · show (if p < i + 1 ∧ f (i + 1) < f p then 1 else 0) = _
      have hiff : p < i + 1 ↔ gs_sw i p < gs_sw i (i + 1) := by
        have c1 := gs_sw_cases i p
        have c2 := gs_sw_cases i (i + 1)
        omega
      simp only [hiff]
    · show (if i < i + 1 ∧ f (i + 1) < f i then 1 else 0) = (if gs_sw i i < gs_sw i (i + 1) ∧ f (i + 1) < f i then 1 else 0) + 1
      rw [if_pos ⟨by omega, hd⟩, if_neg (by rw [gs_sw_a, gs_sw_b]; omega)]
theorem gs_inv_row (f : Nat → Nat) (q : Nat) : ∀ n, gs_sum (fun p => gs_x f p q) n ≤ n ∧ gs_sum (fun p => gs_x f p q) n ≤ q - 1
  | 0 => ⟨Nat.le_refl _, Nat.zero_le _⟩
  | n + 1 => by
    have ih := gs_inv_row f q n
    show gs_sum (fun p => gs_x f p q) n + gs_x f (n + 1) q ≤ n + 1 ∧ gs_sum (fun p => gs_x f p q) n + gs_x f (n + 1) q ≤ q - 1
    unfold gs_x at ih ⊢
    by_cases h : n + 1 < q ∧ f q < f (n + 1)
    · rw [if_pos h]; omega
    · rw [if_neg h]; omega
theorem gs_inv_28 {n : Nat} (h : n ≤ 8) (f : Nat → Nat) : gs_inv n f ≤ 28 := by
  refine Nat.le_trans (gs_sum_le n (fun q _ _ => (gs_inv_row f q n).2)) ?_
  have : ∀ n, n < 9 → gs_sum (fun q => q - 1) n ≤ 28 := by decide
  exact this n (by omega)
theorem gs_inv_pr {n : Nat} : ∀ (k : Nat) {S T S' T' : gs_P}, gs_pr n k S T S' T' → gs_inv n T.1 = gs_inv n T'.1 + k
  | 0, S, T, S', T', h => by
    obtain ⟨rfl, rfl⟩ := h
    rfl
  | k + 1, S, T, S', T', ⟨i, h1, h2, hc, h⟩ => by
    have e1 := gs_inv_pr k h
    have e2 := gs_inv_R (f := T.1) h1 h2 hc.2
    have e3 : gs_inv n (gs_R i T).1 = gs_inv n (fun p => T.1 (gs_sw i p)) := rfl
    omega
end
section
-- ===== PART A: goes FIRST, ahead of the names: the tables' words, and 'selects' of the private methods out of them =====
/-- a private method of a class that the tables say can be made, by its rows of tables_1 -/
def lw_okq (q : MethodName × Nat) : Prop := (q.1.cls ≠ "java/lang/invoke/MethodHandle" ∧ q.1.cls ≠ "java/lang/invoke/VarHandle") ∧ Cond.instantiable q.1.cls q.2 ∈ tables_1 ∧ Cond.privateMethod q.1 ∈ tables_1 ∧ Cond.instanceMethod q.1 ∈ tables_1
theorem lw_p0 : lw_okq (⟨"BraidWords$Word", "canPass", "(I)Z"⟩, 3) := ⟨⟨by decide +kernel, by decide +kernel⟩, List.mem_of_getElem? (i := 20) (by decide +kernel), List.mem_of_getElem? (i := 212) (by decide +kernel), List.mem_of_getElem? (i := 213) (by decide +kernel)⟩
theorem lw_p1 : lw_okq (⟨"BraidWords", "formOf", "(I)LBraidWords$NormalForm;"⟩, 2) := ⟨⟨by decide +kernel, by decide +kernel⟩, List.mem_of_getElem? (i := 9) (by decide +kernel), List.mem_of_getElem? (i := 236) (by decide +kernel), List.mem_of_getElem? (i := 237) (by decide +kernel)⟩
theorem lw_p2 : lw_okq (⟨"BraidWords$NormalForm", "appendSimple", "(IZ)V"⟩, 6) := ⟨⟨by decide +kernel, by decide +kernel⟩, List.mem_of_getElem? (i := 42) (by decide +kernel), List.mem_of_getElem? (i := 255) (by decide +kernel), List.mem_of_getElem? (i := 256) (by decide +kernel)⟩
theorem lw_p3 : lw_okq (⟨"BraidWords$NormalForm", "settle", "()V"⟩, 6) := ⟨⟨by decide +kernel, by decide +kernel⟩, List.mem_of_getElem? (i := 42) (by decide +kernel), List.mem_of_getElem? (i := 260) (by decide +kernel), List.mem_of_getElem? (i := 261) (by decide +kernel)⟩
theorem lw_p4 : lw_okq (⟨"BraidWords$NormalForm", "moveOver", "([I[I)Z"⟩, 6) := ⟨⟨by decide +kernel, by decide +kernel⟩, List.mem_of_getElem? (i := 42) (by decide +kernel), List.mem_of_getElem? (i := 264) (by decide +kernel), List.mem_of_getElem? (i := 265) (by decide +kernel)⟩
theorem lw_p5 : lw_okq (⟨"BraidWords$NormalForm", "sweepOver", "([I)Z"⟩, 6) := ⟨⟨by decide +kernel, by decide +kernel⟩, List.mem_of_getElem? (i := 42) (by decide +kernel), List.mem_of_getElem? (i := 268) (by decide +kernel), List.mem_of_getElem? (i := 269) (by decide +kernel)⟩
theorem lw_p6 : lw_okq (⟨"BraidWords$NormalForm", "isTurn", "([I)Z"⟩, 6) := ⟨⟨by decide +kernel, by decide +kernel⟩, List.mem_of_getElem? (i := 42) (by decide +kernel), List.mem_of_getElem? (i := 272) (by decide +kernel), List.mem_of_getElem? (i := 273) (by decide +kernel)⟩
theorem lw_p7 : lw_okq (⟨"BraidWords$NormalForm", "isNone", "([I)Z"⟩, 6) := ⟨⟨by decide +kernel, by decide +kernel⟩, List.mem_of_getElem? (i := 42) (by decide +kernel), List.mem_of_getElem? (i := 276) (by decide +kernel), List.mem_of_getElem? (i := 277) (by decide +kernel)⟩
theorem lw_p8 : lw_okq (⟨"BraidWords$Word", "labelAbove", "(II)I"⟩, 3) := ⟨⟨by decide +kernel, by decide +kernel⟩, List.mem_of_getElem? (i := 20) (by decide +kernel), List.mem_of_getElem? (i := 312) (by decide +kernel), List.mem_of_getElem? (i := 313) (by decide +kernel)⟩
theorem lw_p9 : lw_okq (⟨"BraidWords$Word", "madeLabel", "(II)I"⟩, 3) := ⟨⟨by decide +kernel, by decide +kernel⟩, List.mem_of_getElem? (i := 20) (by decide +kernel), List.mem_of_getElem? (i := 316) (by decide +kernel), List.mem_of_getElem? (i := 317) (by decide +kernel)⟩
theorem lw_p10 : lw_okq (⟨"BraidWords$Word", "labelBelow", "(II)I"⟩, 3) := ⟨⟨by decide +kernel, by decide +kernel⟩, List.mem_of_getElem? (i := 20) (by decide +kernel), List.mem_of_getElem? (i := 320) (by decide +kernel), List.mem_of_getElem? (i := 321) (by decide +kernel)⟩
theorem lw_p11 : lw_okq (⟨"BraidWordsModel", "letterAt", "(II)I"⟩, 19) := ⟨⟨by decide +kernel, by decide +kernel⟩, List.mem_of_getElem? (i := 324) (by decide +kernel), List.mem_of_getElem? (i := 403) (by decide +kernel), List.mem_of_getElem? (i := 404) (by decide +kernel)⟩
theorem lw_p12 : lw_okq (⟨"BraidWordsModel", "endOf", "(II)I"⟩, 19) := ⟨⟨by decide +kernel, by decide +kernel⟩, List.mem_of_getElem? (i := 324) (by decide +kernel), List.mem_of_getElem? (i := 411) (by decide +kernel), List.mem_of_getElem? (i := 412) (by decide +kernel)⟩
theorem lw_p13 : lw_okq (⟨"BraidWordsModel", "signs", "(I)I"⟩, 19) := ⟨⟨by decide +kernel, by decide +kernel⟩, List.mem_of_getElem? (i := 324) (by decide +kernel), List.mem_of_getElem? (i := 422) (by decide +kernel), List.mem_of_getElem? (i := 423) (by decide +kernel)⟩
theorem lw_p14 : lw_okq (⟨"BraidWordsModel", "rounds", "(I)I"⟩, 19) := ⟨⟨by decide +kernel, by decide +kernel⟩, List.mem_of_getElem? (i := 324) (by decide +kernel), List.mem_of_getElem? (i := 426) (by decide +kernel), List.mem_of_getElem? (i := 427) (by decide +kernel)⟩
theorem lw_p15 : lw_okq (⟨"BraidWordsModel", "untouched", "(I)I"⟩, 19) := ⟨⟨by decide +kernel, by decide +kernel⟩, List.mem_of_getElem? (i := 324) (by decide +kernel), List.mem_of_getElem? (i := 430) (by decide +kernel), List.mem_of_getElem? (i := 431) (by decide +kernel)⟩
def lw_privs_1 : List (MethodName × Nat) := [(⟨"BraidWords$Word", "canPass", "(I)Z"⟩, 3), (⟨"BraidWords", "formOf", "(I)LBraidWords$NormalForm;"⟩, 2), (⟨"BraidWords$NormalForm", "appendSimple", "(IZ)V"⟩, 6), (⟨"BraidWords$NormalForm", "settle", "()V"⟩, 6), (⟨"BraidWords$NormalForm", "moveOver", "([I[I)Z"⟩, 6), (⟨"BraidWords$NormalForm", "sweepOver", "([I)Z"⟩, 6), (⟨"BraidWords$NormalForm", "isTurn", "([I)Z"⟩, 6), (⟨"BraidWords$NormalForm", "isNone", "([I)Z"⟩, 6), (⟨"BraidWords$Word", "labelAbove", "(II)I"⟩, 3), (⟨"BraidWords$Word", "madeLabel", "(II)I"⟩, 3), (⟨"BraidWords$Word", "labelBelow", "(II)I"⟩, 3), (⟨"BraidWordsModel", "letterAt", "(II)I"⟩, 19), (⟨"BraidWordsModel", "endOf", "(II)I"⟩, 19), (⟨"BraidWordsModel", "signs", "(I)I"⟩, 19), (⟨"BraidWordsModel", "rounds", "(I)I"⟩, 19), (⟨"BraidWordsModel", "untouched", "(I)I"⟩, 19)]
theorem lw_r1 : ∀ q ∈ lw_privs_1, lw_okq q := List.forall_mem_cons.mpr ⟨lw_p0, List.forall_mem_cons.mpr ⟨lw_p1, List.forall_mem_cons.mpr ⟨lw_p2, List.forall_mem_cons.mpr ⟨lw_p3, List.forall_mem_cons.mpr ⟨lw_p4, List.forall_mem_cons.mpr ⟨lw_p5, List.forall_mem_cons.mpr ⟨lw_p6, List.forall_mem_cons.mpr ⟨lw_p7, List.forall_mem_cons.mpr ⟨lw_p8, List.forall_mem_cons.mpr ⟨lw_p9, List.forall_mem_cons.mpr ⟨lw_p10, List.forall_mem_cons.mpr ⟨lw_p11, List.forall_mem_cons.mpr ⟨lw_p12, List.forall_mem_cons.mpr ⟨lw_p13, List.forall_mem_cons.mpr ⟨lw_p14, List.forall_mem_cons.mpr ⟨lw_p15, fun _ h => absurd h List.not_mem_nil⟩⟩⟩⟩⟩⟩⟩⟩⟩⟩⟩⟩⟩⟩⟩⟩
theorem lw_p16 : lw_okq (⟨"BraidWordsModel", "remove", "(II)V"⟩, 19) := ⟨⟨by decide +kernel, by decide +kernel⟩, List.mem_of_getElem? (i := 324) (by decide +kernel), List.mem_of_getElem? (i := 442) (by decide +kernel), List.mem_of_getElem? (i := 443) (by decide +kernel)⟩
theorem lw_p17 : lw_okq (⟨"BraidWordsModel", "know", "(I)V"⟩, 19) := ⟨⟨by decide +kernel, by decide +kernel⟩, List.mem_of_getElem? (i := 324) (by decide +kernel), List.mem_of_getElem? (i := 470) (by decide +kernel), List.mem_of_getElem? (i := 471) (by decide +kernel)⟩
theorem lw_p18 : lw_okq (⟨"BraidWordsModel", "makePositive", "(I)V"⟩, 19) := ⟨⟨by decide +kernel, by decide +kernel⟩, List.mem_of_getElem? (i := 324) (by decide +kernel), List.mem_of_getElem? (i := 474) (by decide +kernel), List.mem_of_getElem? (i := 475) (by decide +kernel)⟩
theorem lw_p19 : lw_okq (⟨"BraidWordsModel", "writeSimple", "(I)V"⟩, 19) := ⟨⟨by decide +kernel, by decide +kernel⟩, List.mem_of_getElem? (i := 324) (by decide +kernel), List.mem_of_getElem? (i := 478) (by decide +kernel), List.mem_of_getElem? (i := 479) (by decide +kernel)⟩
theorem lw_p20 : lw_okq (⟨"BraidWordsModel", "takeSimple", "(I)V"⟩, 19) := ⟨⟨by decide +kernel, by decide +kernel⟩, List.mem_of_getElem? (i := 324) (by decide +kernel), List.mem_of_getElem? (i := 482) (by decide +kernel), List.mem_of_getElem? (i := 483) (by decide +kernel)⟩
theorem lw_p21 : lw_okq (⟨"BraidWordsModel", "clearChain", "()V"⟩, 19) := ⟨⟨by decide +kernel, by decide +kernel⟩, List.mem_of_getElem? (i := 324) (by decide +kernel), List.mem_of_getElem? (i := 486) (by decide +kernel), List.mem_of_getElem? (i := 487) (by decide +kernel)⟩
theorem lw_p22 : lw_okq (⟨"BraidWordsModel", "writeTurn", "(I)V"⟩, 19) := ⟨⟨by decide +kernel, by decide +kernel⟩, List.mem_of_getElem? (i := 324) (by decide +kernel), List.mem_of_getElem? (i := 490) (by decide +kernel), List.mem_of_getElem? (i := 491) (by decide +kernel)⟩
theorem lw_p23 : lw_okq (⟨"BraidWordsModel", "insert", "(II)I"⟩, 19) := ⟨⟨by decide +kernel, by decide +kernel⟩, List.mem_of_getElem? (i := 324) (by decide +kernel), List.mem_of_getElem? (i := 494) (by decide +kernel), List.mem_of_getElem? (i := 495) (by decide +kernel)⟩
theorem lw_p24 : lw_okq (⟨"BraidWordsModel", "turnRight", "()V"⟩, 19) := ⟨⟨by decide +kernel, by decide +kernel⟩, List.mem_of_getElem? (i := 324) (by decide +kernel), List.mem_of_getElem? (i := 498) (by decide +kernel), List.mem_of_getElem? (i := 499) (by decide +kernel)⟩
theorem lw_p25 : lw_okq (⟨"BraidWordsModel", "take", "(I)V"⟩, 19) := ⟨⟨by decide +kernel, by decide +kernel⟩, List.mem_of_getElem? (i := 324) (by decide +kernel), List.mem_of_getElem? (i := 502) (by decide +kernel), List.mem_of_getElem? (i := 503) (by decide +kernel)⟩
theorem lw_p26 : lw_okq (⟨"BraidWordsModel", "turnLeft", "()V"⟩, 19) := ⟨⟨by decide +kernel, by decide +kernel⟩, List.mem_of_getElem? (i := 324) (by decide +kernel), List.mem_of_getElem? (i := 509) (by decide +kernel), List.mem_of_getElem? (i := 510) (by decide +kernel)⟩
theorem lw_p27 : lw_okq (⟨"BraidWordsModel", "close", "(I)V"⟩, 19) := ⟨⟨by decide +kernel, by decide +kernel⟩, List.mem_of_getElem? (i := 324) (by decide +kernel), List.mem_of_getElem? (i := 525) (by decide +kernel), List.mem_of_getElem? (i := 526) (by decide +kernel)⟩
def lw_privs_2 : List (MethodName × Nat) := [(⟨"BraidWordsModel", "remove", "(II)V"⟩, 19), (⟨"BraidWordsModel", "know", "(I)V"⟩, 19), (⟨"BraidWordsModel", "makePositive", "(I)V"⟩, 19), (⟨"BraidWordsModel", "writeSimple", "(I)V"⟩, 19), (⟨"BraidWordsModel", "takeSimple", "(I)V"⟩, 19), (⟨"BraidWordsModel", "clearChain", "()V"⟩, 19), (⟨"BraidWordsModel", "writeTurn", "(I)V"⟩, 19), (⟨"BraidWordsModel", "insert", "(II)I"⟩, 19), (⟨"BraidWordsModel", "turnRight", "()V"⟩, 19), (⟨"BraidWordsModel", "take", "(I)V"⟩, 19), (⟨"BraidWordsModel", "turnLeft", "()V"⟩, 19), (⟨"BraidWordsModel", "close", "(I)V"⟩, 19)]
theorem lw_r2 : ∀ q ∈ lw_privs_2, lw_okq q := List.forall_mem_cons.mpr ⟨lw_p16, List.forall_mem_cons.mpr ⟨lw_p17, List.forall_mem_cons.mpr ⟨lw_p18, List.forall_mem_cons.mpr ⟨lw_p19, List.forall_mem_cons.mpr ⟨lw_p20, List.forall_mem_cons.mpr ⟨lw_p21, List.forall_mem_cons.mpr ⟨lw_p22, List.forall_mem_cons.mpr ⟨lw_p23, List.forall_mem_cons.mpr ⟨lw_p24, List.forall_mem_cons.mpr ⟨lw_p25, List.forall_mem_cons.mpr ⟨lw_p26, List.forall_mem_cons.mpr ⟨lw_p27, fun _ h => absurd h List.not_mem_nil⟩⟩⟩⟩⟩⟩⟩⟩⟩⟩⟩⟩
def lw_privs : List (MethodName × Nat) := lw_privs_1 ++ (lw_privs_2)
def lw_tbl : List Cond := k2_sels lw_privs ++ tables_1
theorem lw_privs_ok : ∀ q ∈ lw_privs, lw_okq q := by
  show ∀ q ∈ lw_privs_1 ++ (lw_privs_2), lw_okq q
  exact List.forall_mem_append.mpr ⟨lw_r1, lw_r2⟩
def R_B : String := "BraidWords"
def R_W : String := "BraidWords$Word"
def R_N : String := "BraidWords$NormalForm"
def R_M : String := "BraidWordsModel"
def R_L : String := "BraidWordsLaw"
def R_JI : String := "java/lang/Integer"
def R_JM : String := "java/lang/Math"
def R_JS : String := "java/lang/System"
def F_W : u_T := fun k => match k with
  | 0 => ("BraidWords$Word", "letters", "[I", true)
  | 1 => ("BraidWords$Word", "width", "I", false)
  | _ => ("BraidWords$Word", "count", "I", false)
def t_W : Nat → FieldType := fun k => match k with
  | 0 => .array .int
  | 1 => .int
  | _ => .int
theorem n_W : ∀ a, a < 3 → ∀ b, b < 3 → a ≠ b → (F_W a).2.1 ≠ (F_W b).2.1 := by decide +kernel
theorem tk_W : ∀ k, k < 3 → parseFieldDescriptor (F_W k).2.2.1 = some (t_W k) := by decide +kernel
def F_N : u_T := fun k => match k with
  | 0 => ("BraidWords$NormalForm", "source", "LBraidWords$Word;", true)
  | 1 => ("BraidWords$NormalForm", "rows", "[[I", true)
  | 2 => ("BraidWords$NormalForm", "startOf", "[I", true)
  | 3 => ("BraidWords$NormalForm", "from", "I", false)
  | 4 => ("BraidWords$NormalForm", "to", "I", false)
  | _ => ("BraidWords$NormalForm", "power", "I", false)
def t_N : Nat → FieldType := fun k => match k with
  | 0 => .object "BraidWords$Word"
  | 1 => .array (.array .int)
  | 2 => .array .int
  | 3 => .int
  | 4 => .int
  | _ => .int
theorem n_N : ∀ a, a < 6 → ∀ b, b < 6 → a ≠ b → (F_N a).2.1 ≠ (F_N b).2.1 := by decide +kernel
theorem tk_N : ∀ k, k < 6 → parseFieldDescriptor (F_N k).2.2.1 = some (t_N k) := by decide +kernel
def F_B : u_T := fun k => match k with
  | 0 => ("BraidWords", "words", "[LBraidWords$Word;", true)
  | _ => ("BraidWords", "forms", "[LBraidWords$NormalForm;", true)
def t_B : Nat → FieldType := fun k => match k with
  | 0 => .array (.object "BraidWords$Word")
  | _ => .array (.object "BraidWords$NormalForm")
theorem n_B : ∀ a, a < 2 → ∀ b, b < 2 → a ≠ b → (F_B a).2.1 ≠ (F_B b).2.1 := by decide +kernel
theorem tk_B : ∀ k, k < 2 → parseFieldDescriptor (F_B k).2.2.1 = some (t_B k) := by decide +kernel
def F_M : u_T := fun k => match k with
  | 0 => ("BraidWordsModel", "thrown", "I", false)
  | 1 => ("BraidWordsModel", "strands", "[I", true)
  | 2 => ("BraidWordsModel", "size", "[I", true)
  | 3 => ("BraidWordsModel", "word", "[I", true)
  | 4 => ("BraidWordsModel", "letterOf", "[I", true)
  | 5 => ("BraidWordsModel", "next", "[I", true)
  | 6 => ("BraidWordsModel", "before", "[I", true)
  | 7 => ("BraidWordsModel", "made", "I", false)
  | 8 => ("BraidWordsModel", "free", "I", false)
  | 9 => ("BraidWordsModel", "positives", "I", false)
  | 10 => ("BraidWordsModel", "positive", "[I", true)
  | 11 => ("BraidWordsModel", "target", "[I", true)
  | 12 => ("BraidWordsModel", "ended", "[I", true)
  | 13 => ("BraidWordsModel", "known", "[Z", true)
  | 14 => ("BraidWordsModel", "turns", "[I", true)
  | 15 => ("BraidWordsModel", "simples", "[I", true)
  | 16 => ("BraidWordsModel", "simple", "[I", true)
  | 17 => ("BraidWordsModel", "label", "[I", true)
  | _ => ("BraidWordsModel", "corner", "[I", true)
def t_M : Nat → FieldType := fun k => match k with
  | 0 => .int
  | 1 => .array .int
  | 2 => .array .int
  | 3 => .array .int
  | 4 => .array .int
  | 5 => .array .int
  | 6 => .array .int
  | 7 => .int
  | 8 => .int
  | 9 => .int
  | 10 => .array .int
  | 11 => .array .int
  | 12 => .array .int
  | 13 => .array .boolean
  | 14 => .array .int
  | 15 => .array .int
  | 16 => .array .int
  | 17 => .array .int
  | _ => .array .int
theorem n_M : ∀ a, a < 19 → ∀ b, b < 19 → a ≠ b → (F_M a).2.1 ≠ (F_M b).2.1 := by decide +kernel
theorem tk_M : ∀ k, k < 19 → parseFieldDescriptor (F_M k).2.2.1 = some (t_M k) := by decide +kernel
abbrev classes : List vw_C := [(R_W, F_W, 3), (R_N, F_N, 6), (R_B, F_B, 2), (R_M, F_M, 19)]
abbrev b_B_init : ByteArray := prog_1_method_1_code
def y_B_init : MethodName := ⟨R_B, "<init>", "()V"⟩
abbrev b_W_init : ByteArray := prog_3_method_1_code
def y_W_init : MethodName := ⟨R_W, "<init>", "()V"⟩
abbrev b_N_init : ByteArray := prog_2_method_1_code
def y_N_init : MethodName := ⟨R_N, "<init>", "()V"⟩
abbrev b_B_strands : ByteArray := prog_1_method_2_code
def y_B_strands : MethodName := ⟨R_B, "strands", "(II)Z"⟩
abbrev b_B_isSlot : ByteArray := prog_1_method_18_code
def y_B_isSlot : MethodName := ⟨R_B, "isSlot", "(I)Z"⟩
abbrev b_W_clear : ByteArray := prog_3_method_2_code
def y_W_clear : MethodName := ⟨R_W, "clear", "(I)V"⟩
abbrev b_B_letter : ByteArray := prog_1_method_3_code
def y_B_letter : MethodName := ⟨R_B, "letter", "(II)I"⟩
abbrev b_W_append : ByteArray := prog_3_method_3_code
def y_W_append : MethodName := ⟨R_W, "append", "(I)Z"⟩
abbrev b_B_copy : ByteArray := prog_1_method_4_code
def y_B_copy : MethodName := ⟨R_B, "copy", "(IIZ)Z"⟩
abbrev b_W_take : ByteArray := prog_3_method_4_code
def y_W_take : MethodName := ⟨R_W, "take", "(LBraidWords$Word;)V"⟩
abbrev b_W_invert : ByteArray := prog_3_method_6_code
def y_W_invert : MethodName := ⟨R_W, "invert", "()V"⟩
abbrev b_B_many : ByteArray := prog_1_method_5_code
def y_B_many : MethodName := ⟨R_B, "many", "(II)I"⟩
abbrev b_W_signSum : ByteArray := prog_3_method_10_code
def y_W_signSum : MethodName := ⟨R_W, "signSum", "()I"⟩
abbrev b_JI_signum : ByteArray := prog_6_method_56_code
def y_JI_signum : MethodName := ⟨R_JI, "signum", "(I)I"⟩
abbrev b_W_components : ByteArray := prog_3_method_13_code
def y_W_components : MethodName := ⟨R_W, "components", "()I"⟩
abbrev b_W_endOf : ByteArray := prog_3_method_12_code
def y_W_endOf : MethodName := ⟨R_W, "endOf", "(I)I"⟩
abbrev b_W_value : ByteArray := prog_3_method_9_code
def y_W_value : MethodName := ⟨R_W, "value", "(I)I"⟩
abbrev b_JM_abs : ByteArray := prog_7_method_59_code
def y_JM_abs : MethodName := ⟨R_JM, "abs", "(I)I"⟩
abbrev b_W_circles : ByteArray := prog_3_method_14_code
def y_W_circles : MethodName := ⟨R_W, "circles", "()I"⟩
abbrev b_W_touchedFrom : ByteArray := prog_3_method_16_code
def y_W_touchedFrom : MethodName := ⟨R_W, "touchedFrom", "(II)Z"⟩
abbrev b_W_touches : ByteArray := prog_3_method_15_code
def y_W_touches : MethodName := ⟨R_W, "touches", "(II)Z"⟩
abbrev b_B_at : ByteArray := prog_1_method_6_code
def y_B_at : MethodName := ⟨R_B, "at", "(II)I"⟩
abbrev b_W_hasLetters : ByteArray := prog_3_method_8_code
def y_W_hasLetters : MethodName := ⟨R_W, "hasLetters", "(II)Z"⟩
abbrev b_B_end : ByteArray := prog_1_method_7_code
def y_B_end : MethodName := ⟨R_B, "end", "(II)I"⟩
abbrev b_W_hasPlace : ByteArray := prog_3_method_7_code
def y_W_hasPlace : MethodName := ⟨R_W, "hasPlace", "(I)Z"⟩
abbrev b_B_reduce : ByteArray := prog_1_method_8_code
def y_B_reduce : MethodName := ⟨R_B, "reduce", "(IZ)I"⟩
abbrev b_W_cancelNeighbours : ByteArray := prog_3_method_17_code
def y_W_cancelNeighbours : MethodName := ⟨R_W, "cancelNeighbours", "()V"⟩
abbrev b_W_cancelEnds : ByteArray := prog_3_method_18_code
def y_W_cancelEnds : MethodName := ⟨R_W, "cancelEnds", "()V"⟩
abbrev b_B_round : ByteArray := prog_1_method_9_code
def y_B_round : MethodName := ⟨R_B, "round", "(IZ)Z"⟩
abbrev b_W_lastToFront : ByteArray := prog_3_method_20_code
def y_W_lastToFront : MethodName := ⟨R_W, "lastToFront", "()Z"⟩
abbrev b_W_firstToBack : ByteArray := prog_3_method_19_code
def y_W_firstToBack : MethodName := ⟨R_W, "firstToBack", "()Z"⟩
abbrev b_B_exchange : ByteArray := prog_1_method_10_code
def y_B_exchange : MethodName := ⟨R_B, "exchange", "(II)Z"⟩
abbrev b_W_swapFar : ByteArray := prog_3_method_21_code
def y_W_swapFar : MethodName := ⟨R_W, "swapFar", "(I)Z"⟩
abbrev b_B_swapAt : ByteArray := prog_1_method_20_code
def y_B_swapAt : MethodName := ⟨R_B, "swapAt", "([II)V"⟩
abbrev b_B_pass : ByteArray := prog_1_method_11_code
def y_B_pass : MethodName := ⟨R_B, "pass", "(II)Z"⟩
abbrev b_W_passOver : ByteArray := prog_3_method_22_code
def y_W_passOver : MethodName := ⟨R_W, "passOver", "(I)Z"⟩
abbrev b_W_canPass : ByteArray := prog_3_method_23_code
def y_W_canPass : MethodName := ⟨R_W, "canPass", "(I)Z"⟩
abbrev b_B_grow : ByteArray := prog_1_method_12_code
def y_B_grow : MethodName := ⟨R_B, "grow", "(II)Z"⟩
abbrev b_W_addStrand : ByteArray := prog_3_method_24_code
def y_W_addStrand : MethodName := ⟨R_W, "addStrand", "(I)Z"⟩
abbrev b_B_shrink : ByteArray := prog_1_method_13_code
def y_B_shrink : MethodName := ⟨R_B, "shrink", "(I)Z"⟩
abbrev b_W_dropStrand : ByteArray := prog_3_method_25_code
def y_W_dropStrand : MethodName := ⟨R_W, "dropStrand", "()Z"⟩
abbrev b_B_same : ByteArray := prog_1_method_14_code
def y_B_same : MethodName := ⟨R_B, "same", "(II)Z"⟩
abbrev b_B_formOf : ByteArray := prog_1_method_19_code
def y_B_formOf : MethodName := ⟨R_B, "formOf", "(I)LBraidWords$NormalForm;"⟩
abbrev b_N_follow : ByteArray := prog_2_method_2_code
def y_N_follow : MethodName := ⟨R_N, "follow", "(LBraidWords$Word;)V"⟩
abbrev b_W_equalTo : ByteArray := prog_3_method_5_code
def y_W_equalTo : MethodName := ⟨R_W, "equalTo", "(LBraidWords$Word;)Z"⟩
abbrev b_W_negatives : ByteArray := prog_3_method_11_code
def y_W_negatives : MethodName := ⟨R_W, "negatives", "()I"⟩
abbrev b_N_appendSimple : ByteArray := prog_2_method_6_code
def y_N_appendSimple : MethodName := ⟨R_N, "appendSimple", "(IZ)V"⟩
abbrev b_N_settle : ByteArray := prog_2_method_7_code
def y_N_settle : MethodName := ⟨R_N, "settle", "()V"⟩
abbrev b_N_moveOver : ByteArray := prog_2_method_8_code
def y_N_moveOver : MethodName := ⟨R_N, "moveOver", "([I[I)Z"⟩
abbrev b_N_sweepOver : ByteArray := prog_2_method_9_code
def y_N_sweepOver : MethodName := ⟨R_N, "sweepOver", "([I)Z"⟩
abbrev b_N_isTurn : ByteArray := prog_2_method_10_code
def y_N_isTurn : MethodName := ⟨R_N, "isTurn", "([I)Z"⟩
abbrev b_N_isNone : ByteArray := prog_2_method_11_code
def y_N_isNone : MethodName := ⟨R_N, "isNone", "([I)Z"⟩
abbrev b_N_equalTo : ByteArray := prog_2_method_5_code
def y_N_equalTo : MethodName := ⟨R_N, "equalTo", "(LBraidWords$NormalForm;)Z"⟩
abbrev b_N_size : ByteArray := prog_2_method_3_code
def y_N_size : MethodName := ⟨R_N, "size", "()I"⟩
abbrev b_N_image : ByteArray := prog_2_method_4_code
def y_N_image : MethodName := ⟨R_N, "image", "(II)I"⟩
abbrev b_B_form : ByteArray := prog_1_method_15_code
def y_B_form : MethodName := ⟨R_B, "form", "(III)I"⟩
abbrev b_B_length : ByteArray := prog_1_method_16_code
def y_B_length : MethodName := ⟨R_B, "length", "(I)I"⟩
abbrev b_B_crossing : ByteArray := prog_1_method_17_code
def y_B_crossing : MethodName := ⟨R_B, "crossing", "(III)I"⟩
abbrev b_W_cornerLabel : ByteArray := prog_3_method_26_code
def y_W_cornerLabel : MethodName := ⟨R_W, "cornerLabel", "(II)I"⟩
abbrev b_W_labelAbove : ByteArray := prog_3_method_27_code
def y_W_labelAbove : MethodName := ⟨R_W, "labelAbove", "(II)I"⟩
abbrev b_W_madeLabel : ByteArray := prog_3_method_29_code
def y_W_madeLabel : MethodName := ⟨R_W, "madeLabel", "(II)I"⟩
abbrev b_W_labelBelow : ByteArray := prog_3_method_28_code
def y_W_labelBelow : MethodName := ⟨R_W, "labelBelow", "(II)I"⟩
abbrev b_M_init : ByteArray := prog_5_method_1_code
def y_M_init : MethodName := ⟨R_M, "<init>", "()V"⟩
abbrev b_M_strands : ByteArray := prog_5_method_6_code
def y_M_strands : MethodName := ⟨R_M, "strands", "(II)Z"⟩
abbrev b_M_isSlot : ByteArray := prog_5_method_3_code
def y_M_isSlot : MethodName := ⟨R_M, "isSlot", "(I)Z"⟩
abbrev b_M_letter : ByteArray := prog_5_method_7_code
def y_M_letter : MethodName := ⟨R_M, "letter", "(II)I"⟩
abbrev b_M_copy : ByteArray := prog_5_method_8_code
def y_M_copy : MethodName := ⟨R_M, "copy", "(IIZ)Z"⟩
abbrev b_M_letterAt : ByteArray := prog_5_method_5_code
def y_M_letterAt : MethodName := ⟨R_M, "letterAt", "(II)I"⟩
abbrev b_M_end : ByteArray := prog_5_method_10_code
def y_M_end : MethodName := ⟨R_M, "end", "(II)I"⟩
abbrev b_M_endOf : ByteArray := prog_5_method_9_code
def y_M_endOf : MethodName := ⟨R_M, "endOf", "(II)I"⟩
abbrev b_M_value : ByteArray := prog_5_method_4_code
def y_M_value : MethodName := ⟨R_M, "value", "(I)I"⟩
abbrev b_M_many : ByteArray := prog_5_method_14_code
def y_M_many : MethodName := ⟨R_M, "many", "(II)I"⟩
abbrev b_M_signs : ByteArray := prog_5_method_13_code
def y_M_signs : MethodName := ⟨R_M, "signs", "(I)I"⟩
abbrev b_M_rounds : ByteArray := prog_5_method_11_code
def y_M_rounds : MethodName := ⟨R_M, "rounds", "(I)I"⟩
abbrev b_M_untouched : ByteArray := prog_5_method_12_code
def y_M_untouched : MethodName := ⟨R_M, "untouched", "(I)I"⟩
abbrev b_M_at : ByteArray := prog_5_method_15_code
def y_M_at : MethodName := ⟨R_M, "at", "(II)I"⟩
abbrev b_M_reduce : ByteArray := prog_5_method_17_code
def y_M_reduce : MethodName := ⟨R_M, "reduce", "(IZ)I"⟩
abbrev b_M_remove : ByteArray := prog_5_method_16_code
def y_M_remove : MethodName := ⟨R_M, "remove", "(II)V"⟩
abbrev b_M_round : ByteArray := prog_5_method_18_code
def y_M_round : MethodName := ⟨R_M, "round", "(IZ)Z"⟩
abbrev b_M_exchange : ByteArray := prog_5_method_19_code
def y_M_exchange : MethodName := ⟨R_M, "exchange", "(II)Z"⟩
abbrev b_M_pass : ByteArray := prog_5_method_20_code
def y_M_pass : MethodName := ⟨R_M, "pass", "(II)Z"⟩
abbrev b_M_grow : ByteArray := prog_5_method_21_code
def y_M_grow : MethodName := ⟨R_M, "grow", "(II)Z"⟩
abbrev b_M_shrink : ByteArray := prog_5_method_22_code
def y_M_shrink : MethodName := ⟨R_M, "shrink", "(I)Z"⟩
abbrev b_M_same : ByteArray := prog_5_method_34_code
def y_M_same : MethodName := ⟨R_M, "same", "(II)Z"⟩
abbrev b_M_know : ByteArray := prog_5_method_33_code
def y_M_know : MethodName := ⟨R_M, "know", "(I)V"⟩
abbrev b_M_makePositive : ByteArray := prog_5_method_31_code
def y_M_makePositive : MethodName := ⟨R_M, "makePositive", "(I)V"⟩
abbrev b_M_writeSimple : ByteArray := prog_5_method_29_code
def y_M_writeSimple : MethodName := ⟨R_M, "writeSimple", "(I)V"⟩
abbrev b_M_takeSimple : ByteArray := prog_5_method_32_code
def y_M_takeSimple : MethodName := ⟨R_M, "takeSimple", "(I)V"⟩
abbrev b_M_clearChain : ByteArray := prog_5_method_23_code
def y_M_clearChain : MethodName := ⟨R_M, "clearChain", "()V"⟩
abbrev b_M_writeTurn : ByteArray := prog_5_method_30_code
def y_M_writeTurn : MethodName := ⟨R_M, "writeTurn", "(I)V"⟩
abbrev b_M_insert : ByteArray := prog_5_method_24_code
def y_M_insert : MethodName := ⟨R_M, "insert", "(II)I"⟩
abbrev b_M_turnRight : ByteArray := prog_5_method_27_code
def y_M_turnRight : MethodName := ⟨R_M, "turnRight", "()V"⟩
abbrev b_M_take : ByteArray := prog_5_method_25_code
def y_M_take : MethodName := ⟨R_M, "take", "(I)V"⟩
abbrev b_M_isNear : ByteArray := prog_5_method_26_code
def y_M_isNear : MethodName := ⟨R_M, "isNear", "(II)Z"⟩
abbrev b_M_turnLeft : ByteArray := prog_5_method_28_code
def y_M_turnLeft : MethodName := ⟨R_M, "turnLeft", "()V"⟩
abbrev b_M_form : ByteArray := prog_5_method_35_code
def y_M_form : MethodName := ⟨R_M, "form", "(III)I"⟩
abbrev b_M_length : ByteArray := prog_5_method_36_code
def y_M_length : MethodName := ⟨R_M, "length", "(I)I"⟩
abbrev b_M_crossing : ByteArray := prog_5_method_38_code
def y_M_crossing : MethodName := ⟨R_M, "crossing", "(III)I"⟩
abbrev b_M_close : ByteArray := prog_5_method_37_code
def y_M_close : MethodName := ⟨R_M, "close", "(I)V"⟩
def G0 : List Cond := lw_tbl.filter goodWord
theorem G0_good : ∀ w ∈ G0, goodWord w = true := fun _ h => (List.mem_filter.mp h).2
theorem G0_of {w : Cond} {i : Nat} (h : tables_1[i]? = some w) (g : goodWord w = true) : w ∈ G0 := List.mem_filter.mpr ⟨List.mem_append_right _ (List.mem_of_getElem? h), g⟩
theorem G0_sel {q : MethodName × Nat} (h : q ∈ lw_privs) : Cond.selects q.1.cls q.1 q.1 ∈ k2_sels lw_privs → goodWord (Cond.selects q.1.cls q.1 q.1) = true → Cond.selects q.1.cls q.1 q.1 ∈ G0 := fun m g => List.mem_filter.mpr ⟨List.mem_append_left _ m, g⟩
end
section
theorem in_L : Cond.initialized R_L ∈ G0 := G0_of (i := 0) (by rfl) (by rfl)
theorem in_B : Cond.initialized R_B ∈ G0 := G0_of (i := 1) (by rfl) (by rfl)
theorem in_W : Cond.initialized R_W ∈ G0 := G0_of (i := 2) (by rfl) (by rfl)
theorem in_N : Cond.initialized R_N ∈ G0 := G0_of (i := 3) (by rfl) (by rfl)
theorem in_M : Cond.initialized R_M ∈ G0 := G0_of (i := 4) (by rfl) (by rfl)
theorem in_JS : Cond.initialized R_JS ∈ G0 := G0_of (i := 5) (by rfl) (by rfl)
theorem in_JI : Cond.initialized R_JI ∈ G0 := G0_of (i := 6) (by rfl) (by rfl)
theorem in_JM : Cond.initialized R_JM ∈ G0 := G0_of (i := 7) (by rfl) (by rfl)
theorem cl_L_7 : Cond.classLink R_L 7 R_B ∈ G0 := G0_of (i := 8) (by rfl) (by rfl)
theorem ia_B : Cond.instantiable R_B 2 ∈ G0 := G0_of (i := 9) (by rfl) (by rfl)
theorem ml_L_9 : Cond.methodLink R_L 9 y_B_init ∈ G0 := G0_of (i := 10) (by rfl) (by rfl)
theorem im_B_init : Cond.instanceMethod y_B_init ∈ G0 := G0_of (i := 11) (by rfl) (by rfl)
theorem co_B_init : Cond.code y_B_init b_B_init 2 (none) ∈ G0 := G0_of (i := 12) (by rfl) (by rfl)
theorem ml_B_3 : Cond.methodLink R_B 3 objectInit ∈ G0 := G0_of (i := 13) (by rfl) (by rfl)
theorem im_JO_init : Cond.instanceMethod objectInit ∈ G0 := G0_of (i := 14) (by rfl) (by rfl)
theorem co_JO_init : Cond.code objectInit ⟨#[0xb1]⟩ 1 none ∈ G0 := G0_of (i := 15) (by rfl) (by rfl)
theorem cl_B_9 : Cond.classLink R_B 9 R_W ∈ G0 := G0_of (i := 16) (by rfl) (by rfl)
theorem cl_B_15 : Cond.classLink R_B 15 R_N ∈ G0 := G0_of (i := 18) (by rfl) (by rfl)
theorem ia_W : Cond.instantiable R_W 3 ∈ G0 := G0_of (i := 20) (by rfl) (by rfl)
theorem im_W_init : Cond.instanceMethod y_W_init ∈ G0 := G0_of (i := 22) (by rfl) (by rfl)
theorem co_W_init : Cond.code y_W_init b_W_init 1 (none) ∈ G0 := G0_of (i := 23) (by rfl) (by rfl)
theorem ml_W_3 : Cond.methodLink R_W 3 objectInit ∈ G0 := G0_of (i := 24) (by rfl) (by rfl)
theorem fl_W_9 : Cond.fieldLink R_W 9 R_W "letters" "[I" ∈ G0 := G0_of (i := 25) (by rfl) (by rfl)
theorem fl_N_52 : Cond.fieldLink R_N 52 R_W "letters" "[I" ∈ G0 := G0_of (i := 26) (by rfl) (by rfl)
theorem fl_B_62 : Cond.fieldLink R_B 62 R_W "letters" "[I" ∈ G0 := G0_of (i := 27) (by rfl) (by rfl)
theorem fl_W_15 : Cond.fieldLink R_W 15 R_W "width" "I" ∈ G0 := G0_of (i := 28) (by rfl) (by rfl)
theorem fl_N_55 : Cond.fieldLink R_N 55 R_W "width" "I" ∈ G0 := G0_of (i := 29) (by rfl) (by rfl)
theorem fl_B_45 : Cond.fieldLink R_B 45 R_W "width" "I" ∈ G0 := G0_of (i := 30) (by rfl) (by rfl)
theorem fl_W_19 : Cond.fieldLink R_W 19 R_W "count" "I" ∈ G0 := G0_of (i := 31) (by rfl) (by rfl)
theorem fl_N_49 : Cond.fieldLink R_N 49 R_W "count" "I" ∈ G0 := G0_of (i := 32) (by rfl) (by rfl)
theorem fl_B_34 : Cond.fieldLink R_B 34 R_W "count" "I" ∈ G0 := G0_of (i := 33) (by rfl) (by rfl)
theorem ac_int : Cond.arrayClass .int ∈ G0 := G0_of (i := 41) (by rfl) (by rfl)
theorem ia_N : Cond.instantiable R_N 6 ∈ G0 := G0_of (i := 42) (by rfl) (by rfl)
theorem im_N_init : Cond.instanceMethod y_N_init ∈ G0 := G0_of (i := 44) (by rfl) (by rfl)
theorem co_N_init : Cond.code y_N_init b_N_init 1 (none) ∈ G0 := G0_of (i := 45) (by rfl) (by rfl)
theorem ml_N_3 : Cond.methodLink R_N 3 objectInit ∈ G0 := G0_of (i := 46) (by rfl) (by rfl)
theorem cl_N_9 : Cond.classLink R_N 9 R_W ∈ G0 := G0_of (i := 47) (by rfl) (by rfl)
theorem cl_N_18 : Cond.classLink R_N 18 "[[I" ∈ G0 := G0_of (i := 49) (by rfl) (by rfl)
theorem fl_N_12 : Cond.fieldLink R_N 12 R_N "source" "LBraidWords$Word;" ∈ G0 := G0_of (i := 51) (by rfl) (by rfl)
theorem fl_N_20 : Cond.fieldLink R_N 20 R_N "rows" "[[I" ∈ G0 := G0_of (i := 52) (by rfl) (by rfl)
theorem fl_N_23 : Cond.fieldLink R_N 23 R_N "startOf" "[I" ∈ G0 := G0_of (i := 53) (by rfl) (by rfl)
theorem fl_N_27 : Cond.fieldLink R_N 27 R_N "from" "I" ∈ G0 := G0_of (i := 54) (by rfl) (by rfl)
theorem fl_N_31 : Cond.fieldLink R_N 31 R_N "to" "I" ∈ G0 := G0_of (i := 55) (by rfl) (by rfl)
theorem fl_N_34 : Cond.fieldLink R_N 34 R_N "power" "I" ∈ G0 := G0_of (i := 56) (by rfl) (by rfl)
theorem fl_B_106 : Cond.fieldLink R_B 106 R_N "power" "I" ∈ G0 := G0_of (i := 57) (by rfl) (by rfl)
theorem fl_B_11 : Cond.fieldLink R_B 11 R_B "words" "[LBraidWords$Word;" ∈ G0 := G0_of (i := 71) (by rfl) (by rfl)
theorem fl_B_17 : Cond.fieldLink R_B 17 R_B "forms" "[LBraidWords$NormalForm;" ∈ G0 := G0_of (i := 72) (by rfl) (by rfl)
theorem ml_L_13 : Cond.methodLink R_L 13 y_B_strands ∈ G0 := G0_of (i := 78) (by rfl) (by rfl)
theorem im_B_strands : Cond.instanceMethod y_B_strands ∈ G0 := G0_of (i := 79) (by rfl) (by rfl)
theorem se_B_strands : Cond.selects R_B y_B_strands y_B_strands ∈ G0 := G0_of (i := 80) (by rfl) (by rfl)
theorem co_B_strands : Cond.code y_B_strands b_B_strands 3 (some .boolean) ∈ G0 := G0_of (i := 81) (by rfl) (by rfl)
theorem ml_B_23 : Cond.methodLink R_B 23 y_B_isSlot ∈ G0 := G0_of (i := 82) (by rfl) (by rfl)
theorem st_B_isSlot : Cond.static y_B_isSlot ∈ G0 := G0_of (i := 83) (by rfl) (by rfl)
theorem co_B_isSlot : Cond.code y_B_isSlot b_B_isSlot 1 (some .boolean) ∈ G0 := G0_of (i := 84) (by rfl) (by rfl)
theorem ml_B_27 : Cond.methodLink R_B 27 y_W_clear ∈ G0 := G0_of (i := 85) (by rfl) (by rfl)
theorem im_W_clear : Cond.instanceMethod y_W_clear ∈ G0 := G0_of (i := 86) (by rfl) (by rfl)
theorem se_W_clear : Cond.selects R_W y_W_clear y_W_clear ∈ G0 := G0_of (i := 87) (by rfl) (by rfl)
theorem co_W_clear : Cond.code y_W_clear b_W_clear 2 (none) ∈ G0 := G0_of (i := 88) (by rfl) (by rfl)
theorem ml_L_18 : Cond.methodLink R_L 18 y_B_letter ∈ G0 := G0_of (i := 89) (by rfl) (by rfl)
theorem im_B_letter : Cond.instanceMethod y_B_letter ∈ G0 := G0_of (i := 90) (by rfl) (by rfl)
theorem se_B_letter : Cond.selects R_B y_B_letter y_B_letter ∈ G0 := G0_of (i := 91) (by rfl) (by rfl)
theorem co_B_letter : Cond.code y_B_letter b_B_letter 3 (some .int) ∈ G0 := G0_of (i := 92) (by rfl) (by rfl)
theorem ml_B_31 : Cond.methodLink R_B 31 y_W_append ∈ G0 := G0_of (i := 93) (by rfl) (by rfl)
theorem im_W_append : Cond.instanceMethod y_W_append ∈ G0 := G0_of (i := 94) (by rfl) (by rfl)
theorem se_W_append : Cond.selects R_W y_W_append y_W_append ∈ G0 := G0_of (i := 95) (by rfl) (by rfl)
theorem co_W_append : Cond.code y_W_append b_W_append 2 (some .boolean) ∈ G0 := G0_of (i := 96) (by rfl) (by rfl)
theorem ml_L_23 : Cond.methodLink R_L 23 y_B_copy ∈ G0 := G0_of (i := 97) (by rfl) (by rfl)
theorem im_B_copy : Cond.instanceMethod y_B_copy ∈ G0 := G0_of (i := 98) (by rfl) (by rfl)
theorem se_B_copy : Cond.selects R_B y_B_copy y_B_copy ∈ G0 := G0_of (i := 99) (by rfl) (by rfl)
theorem co_B_copy : Cond.code y_B_copy b_B_copy 4 (some .boolean) ∈ G0 := G0_of (i := 100) (by rfl) (by rfl)
theorem ml_B_38 : Cond.methodLink R_B 38 y_W_take ∈ G0 := G0_of (i := 101) (by rfl) (by rfl)
theorem im_W_take : Cond.instanceMethod y_W_take ∈ G0 := G0_of (i := 102) (by rfl) (by rfl)
theorem se_W_take : Cond.selects R_W y_W_take y_W_take ∈ G0 := G0_of (i := 103) (by rfl) (by rfl)
theorem co_W_take : Cond.code y_W_take b_W_take 2 (none) ∈ G0 := G0_of (i := 104) (by rfl) (by rfl)
theorem ml_W_22 : Cond.methodLink R_W 22 arraycopyName ∈ G0 := G0_of (i := 105) (by rfl) (by rfl)
theorem st_JS_arraycopy : Cond.static arraycopyName ∈ G0 := G0_of (i := 106) (by rfl) (by rfl)
theorem na_JS_arraycopy : Cond.native arraycopyName ∈ G0 := G0_of (i := 107) (by rfl) (by rfl)
theorem ml_B_42 : Cond.methodLink R_B 42 y_W_invert ∈ G0 := G0_of (i := 108) (by rfl) (by rfl)
theorem im_W_invert : Cond.instanceMethod y_W_invert ∈ G0 := G0_of (i := 109) (by rfl) (by rfl)
theorem se_W_invert : Cond.selects R_W y_W_invert y_W_invert ∈ G0 := G0_of (i := 110) (by rfl) (by rfl)
theorem co_W_invert : Cond.code y_W_invert b_W_invert 4 (none) ∈ G0 := G0_of (i := 111) (by rfl) (by rfl)
theorem ml_L_28 : Cond.methodLink R_L 28 y_B_many ∈ G0 := G0_of (i := 112) (by rfl) (by rfl)
theorem im_B_many : Cond.instanceMethod y_B_many ∈ G0 := G0_of (i := 113) (by rfl) (by rfl)
theorem se_B_many : Cond.selects R_B y_B_many y_B_many ∈ G0 := G0_of (i := 114) (by rfl) (by rfl)
theorem co_B_many : Cond.code y_B_many b_B_many 4 (some .int) ∈ G0 := G0_of (i := 115) (by rfl) (by rfl)
theorem ml_B_48 : Cond.methodLink R_B 48 y_W_signSum ∈ G0 := G0_of (i := 116) (by rfl) (by rfl)
theorem im_W_signSum : Cond.instanceMethod y_W_signSum ∈ G0 := G0_of (i := 117) (by rfl) (by rfl)
theorem se_W_signSum : Cond.selects R_W y_W_signSum y_W_signSum ∈ G0 := G0_of (i := 118) (by rfl) (by rfl)
theorem co_W_signSum : Cond.code y_W_signSum b_W_signSum 3 (some .int) ∈ G0 := G0_of (i := 119) (by rfl) (by rfl)
theorem ml_W_34 : Cond.methodLink R_W 34 y_JI_signum ∈ G0 := G0_of (i := 120) (by rfl) (by rfl)
theorem st_JI_signum : Cond.static y_JI_signum ∈ G0 := G0_of (i := 121) (by rfl) (by rfl)
theorem co_JI_signum : Cond.code y_JI_signum b_JI_signum 1 (some .int) ∈ G0 := G0_of (i := 122) (by rfl) (by rfl)
theorem ml_B_52 : Cond.methodLink R_B 52 y_W_components ∈ G0 := G0_of (i := 123) (by rfl) (by rfl)
theorem im_W_components : Cond.instanceMethod y_W_components ∈ G0 := G0_of (i := 124) (by rfl) (by rfl)
theorem se_W_components : Cond.selects R_W y_W_components y_W_components ∈ G0 := G0_of (i := 125) (by rfl) (by rfl)
theorem co_W_components : Cond.code y_W_components b_W_components 6 (some .int) ∈ G0 := G0_of (i := 126) (by rfl) (by rfl)
theorem ml_W_46 : Cond.methodLink R_W 46 y_W_endOf ∈ G0 := G0_of (i := 127) (by rfl) (by rfl)
theorem im_W_endOf : Cond.instanceMethod y_W_endOf ∈ G0 := G0_of (i := 128) (by rfl) (by rfl)
theorem se_W_endOf : Cond.selects R_W y_W_endOf y_W_endOf ∈ G0 := G0_of (i := 129) (by rfl) (by rfl)
theorem co_W_endOf : Cond.code y_W_endOf b_W_endOf 4 (some .int) ∈ G0 := G0_of (i := 130) (by rfl) (by rfl)
theorem ml_W_43 : Cond.methodLink R_W 43 y_W_value ∈ G0 := G0_of (i := 131) (by rfl) (by rfl)
theorem im_W_value : Cond.instanceMethod y_W_value ∈ G0 := G0_of (i := 132) (by rfl) (by rfl)
theorem se_W_value : Cond.selects R_W y_W_value y_W_value ∈ G0 := G0_of (i := 133) (by rfl) (by rfl)
theorem co_W_value : Cond.code y_W_value b_W_value 2 (some .int) ∈ G0 := G0_of (i := 134) (by rfl) (by rfl)
theorem ml_W_28 : Cond.methodLink R_W 28 y_JM_abs ∈ G0 := G0_of (i := 135) (by rfl) (by rfl)
theorem st_JM_abs : Cond.static y_JM_abs ∈ G0 := G0_of (i := 136) (by rfl) (by rfl)
theorem co_JM_abs : Cond.code y_JM_abs b_JM_abs 1 (some .int) ∈ G0 := G0_of (i := 137) (by rfl) (by rfl)
theorem ml_B_55 : Cond.methodLink R_B 55 y_W_circles ∈ G0 := G0_of (i := 138) (by rfl) (by rfl)
theorem im_W_circles : Cond.instanceMethod y_W_circles ∈ G0 := G0_of (i := 139) (by rfl) (by rfl)
theorem se_W_circles : Cond.selects R_W y_W_circles y_W_circles ∈ G0 := G0_of (i := 140) (by rfl) (by rfl)
theorem co_W_circles : Cond.code y_W_circles b_W_circles 3 (some .int) ∈ G0 := G0_of (i := 141) (by rfl) (by rfl)
theorem ml_W_49 : Cond.methodLink R_W 49 y_W_touchedFrom ∈ G0 := G0_of (i := 142) (by rfl) (by rfl)
theorem im_W_touchedFrom : Cond.instanceMethod y_W_touchedFrom ∈ G0 := G0_of (i := 143) (by rfl) (by rfl)
theorem se_W_touchedFrom : Cond.selects R_W y_W_touchedFrom y_W_touchedFrom ∈ G0 := G0_of (i := 144) (by rfl) (by rfl)
theorem co_W_touchedFrom : Cond.code y_W_touchedFrom b_W_touchedFrom 4 (some .boolean) ∈ G0 := G0_of (i := 145) (by rfl) (by rfl)
theorem ml_W_53 : Cond.methodLink R_W 53 y_W_touches ∈ G0 := G0_of (i := 146) (by rfl) (by rfl)
theorem im_W_touches : Cond.instanceMethod y_W_touches ∈ G0 := G0_of (i := 147) (by rfl) (by rfl)
theorem se_W_touches : Cond.selects R_W y_W_touches y_W_touches ∈ G0 := G0_of (i := 148) (by rfl) (by rfl)
theorem co_W_touches : Cond.code y_W_touches b_W_touches 3 (some .boolean) ∈ G0 := G0_of (i := 149) (by rfl) (by rfl)
theorem ml_L_32 : Cond.methodLink R_L 32 y_B_at ∈ G0 := G0_of (i := 150) (by rfl) (by rfl)
theorem im_B_at : Cond.instanceMethod y_B_at ∈ G0 := G0_of (i := 151) (by rfl) (by rfl)
theorem se_B_at : Cond.selects R_B y_B_at y_B_at ∈ G0 := G0_of (i := 152) (by rfl) (by rfl)
theorem co_B_at : Cond.code y_B_at b_B_at 3 (some .int) ∈ G0 := G0_of (i := 153) (by rfl) (by rfl)
theorem ml_B_58 : Cond.methodLink R_B 58 y_W_hasLetters ∈ G0 := G0_of (i := 154) (by rfl) (by rfl)
theorem im_W_hasLetters : Cond.instanceMethod y_W_hasLetters ∈ G0 := G0_of (i := 155) (by rfl) (by rfl)
theorem se_W_hasLetters : Cond.selects R_W y_W_hasLetters y_W_hasLetters ∈ G0 := G0_of (i := 156) (by rfl) (by rfl)
theorem co_W_hasLetters : Cond.code y_W_hasLetters b_W_hasLetters 3 (some .boolean) ∈ G0 := G0_of (i := 157) (by rfl) (by rfl)
theorem ml_L_36 : Cond.methodLink R_L 36 y_B_end ∈ G0 := G0_of (i := 158) (by rfl) (by rfl)
theorem im_B_end : Cond.instanceMethod y_B_end ∈ G0 := G0_of (i := 159) (by rfl) (by rfl)
theorem se_B_end : Cond.selects R_B y_B_end y_B_end ∈ G0 := G0_of (i := 160) (by rfl) (by rfl)
theorem co_B_end : Cond.code y_B_end b_B_end 3 (some .int) ∈ G0 := G0_of (i := 161) (by rfl) (by rfl)
theorem ml_B_66 : Cond.methodLink R_B 66 y_W_hasPlace ∈ G0 := G0_of (i := 162) (by rfl) (by rfl)
theorem im_W_hasPlace : Cond.instanceMethod y_W_hasPlace ∈ G0 := G0_of (i := 163) (by rfl) (by rfl)
theorem se_W_hasPlace : Cond.selects R_W y_W_hasPlace y_W_hasPlace ∈ G0 := G0_of (i := 164) (by rfl) (by rfl)
theorem co_W_hasPlace : Cond.code y_W_hasPlace b_W_hasPlace 2 (some .boolean) ∈ G0 := G0_of (i := 165) (by rfl) (by rfl)
theorem ml_B_69 : Cond.methodLink R_B 69 y_W_endOf ∈ G0 := G0_of (i := 166) (by rfl) (by rfl)
theorem ml_L_40 : Cond.methodLink R_L 40 y_B_reduce ∈ G0 := G0_of (i := 167) (by rfl) (by rfl)
theorem im_B_reduce : Cond.instanceMethod y_B_reduce ∈ G0 := G0_of (i := 168) (by rfl) (by rfl)
theorem se_B_reduce : Cond.selects R_B y_B_reduce y_B_reduce ∈ G0 := G0_of (i := 169) (by rfl) (by rfl)
theorem co_B_reduce : Cond.code y_B_reduce b_B_reduce 5 (some .int) ∈ G0 := G0_of (i := 170) (by rfl) (by rfl)
theorem ml_B_73 : Cond.methodLink R_B 73 y_W_cancelNeighbours ∈ G0 := G0_of (i := 171) (by rfl) (by rfl)
theorem im_W_cancelNeighbours : Cond.instanceMethod y_W_cancelNeighbours ∈ G0 := G0_of (i := 172) (by rfl) (by rfl)
theorem se_W_cancelNeighbours : Cond.selects R_W y_W_cancelNeighbours y_W_cancelNeighbours ∈ G0 := G0_of (i := 173) (by rfl) (by rfl)
theorem co_W_cancelNeighbours : Cond.code y_W_cancelNeighbours b_W_cancelNeighbours 3 (none) ∈ G0 := G0_of (i := 174) (by rfl) (by rfl)
theorem ml_B_76 : Cond.methodLink R_B 76 y_W_cancelEnds ∈ G0 := G0_of (i := 175) (by rfl) (by rfl)
theorem im_W_cancelEnds : Cond.instanceMethod y_W_cancelEnds ∈ G0 := G0_of (i := 176) (by rfl) (by rfl)
theorem se_W_cancelEnds : Cond.selects R_W y_W_cancelEnds y_W_cancelEnds ∈ G0 := G0_of (i := 177) (by rfl) (by rfl)
theorem co_W_cancelEnds : Cond.code y_W_cancelEnds b_W_cancelEnds 2 (none) ∈ G0 := G0_of (i := 178) (by rfl) (by rfl)
theorem ml_L_45 : Cond.methodLink R_L 45 y_B_round ∈ G0 := G0_of (i := 179) (by rfl) (by rfl)
theorem im_B_round : Cond.instanceMethod y_B_round ∈ G0 := G0_of (i := 180) (by rfl) (by rfl)
theorem se_B_round : Cond.selects R_B y_B_round y_B_round ∈ G0 := G0_of (i := 181) (by rfl) (by rfl)
theorem co_B_round : Cond.code y_B_round b_B_round 3 (some .boolean) ∈ G0 := G0_of (i := 182) (by rfl) (by rfl)
theorem ml_B_79 : Cond.methodLink R_B 79 y_W_lastToFront ∈ G0 := G0_of (i := 183) (by rfl) (by rfl)
theorem im_W_lastToFront : Cond.instanceMethod y_W_lastToFront ∈ G0 := G0_of (i := 184) (by rfl) (by rfl)
theorem se_W_lastToFront : Cond.selects R_W y_W_lastToFront y_W_lastToFront ∈ G0 := G0_of (i := 185) (by rfl) (by rfl)
theorem co_W_lastToFront : Cond.code y_W_lastToFront b_W_lastToFront 2 (some .boolean) ∈ G0 := G0_of (i := 186) (by rfl) (by rfl)
theorem ml_B_83 : Cond.methodLink R_B 83 y_W_firstToBack ∈ G0 := G0_of (i := 187) (by rfl) (by rfl)
theorem im_W_firstToBack : Cond.instanceMethod y_W_firstToBack ∈ G0 := G0_of (i := 188) (by rfl) (by rfl)
theorem se_W_firstToBack : Cond.selects R_W y_W_firstToBack y_W_firstToBack ∈ G0 := G0_of (i := 189) (by rfl) (by rfl)
theorem co_W_firstToBack : Cond.code y_W_firstToBack b_W_firstToBack 2 (some .boolean) ∈ G0 := G0_of (i := 190) (by rfl) (by rfl)
theorem ml_L_50 : Cond.methodLink R_L 50 y_B_exchange ∈ G0 := G0_of (i := 191) (by rfl) (by rfl)
theorem im_B_exchange : Cond.instanceMethod y_B_exchange ∈ G0 := G0_of (i := 192) (by rfl) (by rfl)
theorem se_B_exchange : Cond.selects R_B y_B_exchange y_B_exchange ∈ G0 := G0_of (i := 193) (by rfl) (by rfl)
theorem co_B_exchange : Cond.code y_B_exchange b_B_exchange 3 (some .boolean) ∈ G0 := G0_of (i := 194) (by rfl) (by rfl)
theorem ml_B_86 : Cond.methodLink R_B 86 y_W_swapFar ∈ G0 := G0_of (i := 195) (by rfl) (by rfl)
theorem im_W_swapFar : Cond.instanceMethod y_W_swapFar ∈ G0 := G0_of (i := 196) (by rfl) (by rfl)
theorem se_W_swapFar : Cond.selects R_W y_W_swapFar y_W_swapFar ∈ G0 := G0_of (i := 197) (by rfl) (by rfl)
theorem co_W_swapFar : Cond.code y_W_swapFar b_W_swapFar 2 (some .boolean) ∈ G0 := G0_of (i := 198) (by rfl) (by rfl)
theorem ml_W_56 : Cond.methodLink R_W 56 y_W_hasLetters ∈ G0 := G0_of (i := 199) (by rfl) (by rfl)
theorem st_B_swapAt : Cond.static y_B_swapAt ∈ G0 := G0_of (i := 201) (by rfl) (by rfl)
theorem co_B_swapAt : Cond.code y_B_swapAt b_B_swapAt 3 (none) ∈ G0 := G0_of (i := 202) (by rfl) (by rfl)
theorem ml_L_54 : Cond.methodLink R_L 54 y_B_pass ∈ G0 := G0_of (i := 203) (by rfl) (by rfl)
theorem im_B_pass : Cond.instanceMethod y_B_pass ∈ G0 := G0_of (i := 204) (by rfl) (by rfl)
theorem se_B_pass : Cond.selects R_B y_B_pass y_B_pass ∈ G0 := G0_of (i := 205) (by rfl) (by rfl)
theorem co_B_pass : Cond.code y_B_pass b_B_pass 3 (some .boolean) ∈ G0 := G0_of (i := 206) (by rfl) (by rfl)
theorem ml_B_89 : Cond.methodLink R_B 89 y_W_passOver ∈ G0 := G0_of (i := 207) (by rfl) (by rfl)
theorem im_W_passOver : Cond.instanceMethod y_W_passOver ∈ G0 := G0_of (i := 208) (by rfl) (by rfl)
theorem se_W_passOver : Cond.selects R_W y_W_passOver y_W_passOver ∈ G0 := G0_of (i := 209) (by rfl) (by rfl)
theorem co_W_passOver : Cond.code y_W_passOver b_W_passOver 7 (some .boolean) ∈ G0 := G0_of (i := 210) (by rfl) (by rfl)
theorem ml_W_63 : Cond.methodLink R_W 63 y_W_canPass ∈ G0 := G0_of (i := 211) (by rfl) (by rfl)
theorem im_W_canPass : Cond.instanceMethod y_W_canPass ∈ G0 := G0_of (i := 213) (by rfl) (by rfl)
theorem co_W_canPass : Cond.code y_W_canPass b_W_canPass 4 (some .boolean) ∈ G0 := G0_of (i := 214) (by rfl) (by rfl)
theorem ml_L_58 : Cond.methodLink R_L 58 y_B_grow ∈ G0 := G0_of (i := 215) (by rfl) (by rfl)
theorem im_B_grow : Cond.instanceMethod y_B_grow ∈ G0 := G0_of (i := 216) (by rfl) (by rfl)
theorem se_B_grow : Cond.selects R_B y_B_grow y_B_grow ∈ G0 := G0_of (i := 217) (by rfl) (by rfl)
theorem co_B_grow : Cond.code y_B_grow b_B_grow 3 (some .boolean) ∈ G0 := G0_of (i := 218) (by rfl) (by rfl)
theorem ml_B_92 : Cond.methodLink R_B 92 y_W_addStrand ∈ G0 := G0_of (i := 219) (by rfl) (by rfl)
theorem im_W_addStrand : Cond.instanceMethod y_W_addStrand ∈ G0 := G0_of (i := 220) (by rfl) (by rfl)
theorem se_W_addStrand : Cond.selects R_W y_W_addStrand y_W_addStrand ∈ G0 := G0_of (i := 221) (by rfl) (by rfl)
theorem co_W_addStrand : Cond.code y_W_addStrand b_W_addStrand 2 (some .boolean) ∈ G0 := G0_of (i := 222) (by rfl) (by rfl)
theorem ml_L_62 : Cond.methodLink R_L 62 y_B_shrink ∈ G0 := G0_of (i := 223) (by rfl) (by rfl)
theorem im_B_shrink : Cond.instanceMethod y_B_shrink ∈ G0 := G0_of (i := 224) (by rfl) (by rfl)
theorem se_B_shrink : Cond.selects R_B y_B_shrink y_B_shrink ∈ G0 := G0_of (i := 225) (by rfl) (by rfl)
theorem co_B_shrink : Cond.code y_B_shrink b_B_shrink 2 (some .boolean) ∈ G0 := G0_of (i := 226) (by rfl) (by rfl)
theorem ml_B_95 : Cond.methodLink R_B 95 y_W_dropStrand ∈ G0 := G0_of (i := 227) (by rfl) (by rfl)
theorem im_W_dropStrand : Cond.instanceMethod y_W_dropStrand ∈ G0 := G0_of (i := 228) (by rfl) (by rfl)
theorem se_W_dropStrand : Cond.selects R_W y_W_dropStrand y_W_dropStrand ∈ G0 := G0_of (i := 229) (by rfl) (by rfl)
theorem co_W_dropStrand : Cond.code y_W_dropStrand b_W_dropStrand 2 (some .boolean) ∈ G0 := G0_of (i := 230) (by rfl) (by rfl)
theorem ml_L_67 : Cond.methodLink R_L 67 y_B_same ∈ G0 := G0_of (i := 231) (by rfl) (by rfl)
theorem im_B_same : Cond.instanceMethod y_B_same ∈ G0 := G0_of (i := 232) (by rfl) (by rfl)
theorem se_B_same : Cond.selects R_B y_B_same y_B_same ∈ G0 := G0_of (i := 233) (by rfl) (by rfl)
theorem co_B_same : Cond.code y_B_same b_B_same 3 (some .boolean) ∈ G0 := G0_of (i := 234) (by rfl) (by rfl)
theorem ml_B_98 : Cond.methodLink R_B 98 y_B_formOf ∈ G0 := G0_of (i := 235) (by rfl) (by rfl)
theorem im_B_formOf : Cond.instanceMethod y_B_formOf ∈ G0 := G0_of (i := 237) (by rfl) (by rfl)
theorem co_B_formOf : Cond.code y_B_formOf b_B_formOf 2 (some (.object "BraidWords$NormalForm")) ∈ G0 := G0_of (i := 238) (by rfl) (by rfl)
theorem ml_B_124 : Cond.methodLink R_B 124 y_N_follow ∈ G0 := G0_of (i := 239) (by rfl) (by rfl)
theorem im_N_follow : Cond.instanceMethod y_N_follow ∈ G0 := G0_of (i := 240) (by rfl) (by rfl)
theorem se_N_follow : Cond.selects R_N y_N_follow y_N_follow ∈ G0 := G0_of (i := 241) (by rfl) (by rfl)
theorem co_N_follow : Cond.code y_N_follow b_N_follow 5 (none) ∈ G0 := G0_of (i := 242) (by rfl) (by rfl)
theorem ml_N_37 : Cond.methodLink R_N 37 y_W_equalTo ∈ G0 := G0_of (i := 243) (by rfl) (by rfl)
theorem im_W_equalTo : Cond.instanceMethod y_W_equalTo ∈ G0 := G0_of (i := 244) (by rfl) (by rfl)
theorem se_W_equalTo : Cond.selects R_W y_W_equalTo y_W_equalTo ∈ G0 := G0_of (i := 245) (by rfl) (by rfl)
theorem co_W_equalTo : Cond.code y_W_equalTo b_W_equalTo 3 (some .boolean) ∈ G0 := G0_of (i := 246) (by rfl) (by rfl)
theorem ml_N_41 : Cond.methodLink R_N 41 y_W_take ∈ G0 := G0_of (i := 247) (by rfl) (by rfl)
theorem ml_N_45 : Cond.methodLink R_N 45 y_W_negatives ∈ G0 := G0_of (i := 248) (by rfl) (by rfl)
theorem im_W_negatives : Cond.instanceMethod y_W_negatives ∈ G0 := G0_of (i := 249) (by rfl) (by rfl)
theorem se_W_negatives : Cond.selects R_W y_W_negatives y_W_negatives ∈ G0 := G0_of (i := 250) (by rfl) (by rfl)
theorem co_W_negatives : Cond.code y_W_negatives b_W_negatives 1 (some .int) ∈ G0 := G0_of (i := 251) (by rfl) (by rfl)
theorem ml_W_39 : Cond.methodLink R_W 39 y_W_signSum ∈ G0 := G0_of (i := 252) (by rfl) (by rfl)
theorem ml_N_58 : Cond.methodLink R_N 58 y_W_value ∈ G0 := G0_of (i := 253) (by rfl) (by rfl)
theorem ml_N_62 : Cond.methodLink R_N 62 y_N_appendSimple ∈ G0 := G0_of (i := 254) (by rfl) (by rfl)
theorem im_N_appendSimple : Cond.instanceMethod y_N_appendSimple ∈ G0 := G0_of (i := 256) (by rfl) (by rfl)
theorem co_N_appendSimple : Cond.code y_N_appendSimple b_N_appendSimple 6 (none) ∈ G0 := G0_of (i := 257) (by rfl) (by rfl)
theorem ml_N_66 : Cond.methodLink R_N 66 y_N_settle ∈ G0 := G0_of (i := 259) (by rfl) (by rfl)
theorem im_N_settle : Cond.instanceMethod y_N_settle ∈ G0 := G0_of (i := 261) (by rfl) (by rfl)
theorem co_N_settle : Cond.code y_N_settle b_N_settle 2 (none) ∈ G0 := G0_of (i := 262) (by rfl) (by rfl)
theorem ml_N_84 : Cond.methodLink R_N 84 y_N_moveOver ∈ G0 := G0_of (i := 263) (by rfl) (by rfl)
theorem im_N_moveOver : Cond.instanceMethod y_N_moveOver ∈ G0 := G0_of (i := 265) (by rfl) (by rfl)
theorem co_N_moveOver : Cond.code y_N_moveOver b_N_moveOver 7 (some .boolean) ∈ G0 := G0_of (i := 266) (by rfl) (by rfl)
theorem ml_N_95 : Cond.methodLink R_N 95 y_N_sweepOver ∈ G0 := G0_of (i := 267) (by rfl) (by rfl)
theorem im_N_sweepOver : Cond.instanceMethod y_N_sweepOver ∈ G0 := G0_of (i := 269) (by rfl) (by rfl)
theorem co_N_sweepOver : Cond.code y_N_sweepOver b_N_sweepOver 4 (some .boolean) ∈ G0 := G0_of (i := 270) (by rfl) (by rfl)
theorem ml_N_88 : Cond.methodLink R_N 88 y_N_isTurn ∈ G0 := G0_of (i := 271) (by rfl) (by rfl)
theorem im_N_isTurn : Cond.instanceMethod y_N_isTurn ∈ G0 := G0_of (i := 273) (by rfl) (by rfl)
theorem co_N_isTurn : Cond.code y_N_isTurn b_N_isTurn 3 (some .boolean) ∈ G0 := G0_of (i := 274) (by rfl) (by rfl)
theorem ml_N_92 : Cond.methodLink R_N 92 y_N_isNone ∈ G0 := G0_of (i := 275) (by rfl) (by rfl)
theorem im_N_isNone : Cond.instanceMethod y_N_isNone ∈ G0 := G0_of (i := 277) (by rfl) (by rfl)
theorem co_N_isNone : Cond.code y_N_isNone b_N_isNone 3 (some .boolean) ∈ G0 := G0_of (i := 278) (by rfl) (by rfl)
theorem ml_B_102 : Cond.methodLink R_B 102 y_N_equalTo ∈ G0 := G0_of (i := 279) (by rfl) (by rfl)
theorem im_N_equalTo : Cond.instanceMethod y_N_equalTo ∈ G0 := G0_of (i := 280) (by rfl) (by rfl)
theorem se_N_equalTo : Cond.selects R_N y_N_equalTo y_N_equalTo ∈ G0 := G0_of (i := 281) (by rfl) (by rfl)
theorem co_N_equalTo : Cond.code y_N_equalTo b_N_equalTo 4 (some .boolean) ∈ G0 := G0_of (i := 282) (by rfl) (by rfl)
theorem ml_N_69 : Cond.methodLink R_N 69 y_N_size ∈ G0 := G0_of (i := 283) (by rfl) (by rfl)
theorem im_N_size : Cond.instanceMethod y_N_size ∈ G0 := G0_of (i := 284) (by rfl) (by rfl)
theorem se_N_size : Cond.selects R_N y_N_size y_N_size ∈ G0 := G0_of (i := 285) (by rfl) (by rfl)
theorem co_N_size : Cond.code y_N_size b_N_size 1 (some .int) ∈ G0 := G0_of (i := 286) (by rfl) (by rfl)
theorem ml_N_76 : Cond.methodLink R_N 76 y_N_image ∈ G0 := G0_of (i := 287) (by rfl) (by rfl)
theorem im_N_image : Cond.instanceMethod y_N_image ∈ G0 := G0_of (i := 288) (by rfl) (by rfl)
theorem se_N_image : Cond.selects R_N y_N_image y_N_image ∈ G0 := G0_of (i := 289) (by rfl) (by rfl)
theorem co_N_image : Cond.code y_N_image b_N_image 3 (some .int) ∈ G0 := G0_of (i := 290) (by rfl) (by rfl)
theorem ml_N_72 : Cond.methodLink R_N 72 y_W_hasPlace ∈ G0 := G0_of (i := 291) (by rfl) (by rfl)
theorem ml_L_71 : Cond.methodLink R_L 71 y_B_form ∈ G0 := G0_of (i := 292) (by rfl) (by rfl)
theorem im_B_form : Cond.instanceMethod y_B_form ∈ G0 := G0_of (i := 293) (by rfl) (by rfl)
theorem se_B_form : Cond.selects R_B y_B_form y_B_form ∈ G0 := G0_of (i := 294) (by rfl) (by rfl)
theorem co_B_form : Cond.code y_B_form b_B_form 5 (some .int) ∈ G0 := G0_of (i := 295) (by rfl) (by rfl)
theorem ml_B_109 : Cond.methodLink R_B 109 y_N_image ∈ G0 := G0_of (i := 296) (by rfl) (by rfl)
theorem ml_L_76 : Cond.methodLink R_L 76 y_B_length ∈ G0 := G0_of (i := 297) (by rfl) (by rfl)
theorem im_B_length : Cond.instanceMethod y_B_length ∈ G0 := G0_of (i := 298) (by rfl) (by rfl)
theorem se_B_length : Cond.selects R_B y_B_length y_B_length ∈ G0 := G0_of (i := 299) (by rfl) (by rfl)
theorem co_B_length : Cond.code y_B_length b_B_length 2 (some .int) ∈ G0 := G0_of (i := 300) (by rfl) (by rfl)
theorem ml_B_113 : Cond.methodLink R_B 113 y_N_size ∈ G0 := G0_of (i := 301) (by rfl) (by rfl)
theorem ml_L_81 : Cond.methodLink R_L 81 y_B_crossing ∈ G0 := G0_of (i := 302) (by rfl) (by rfl)
theorem im_B_crossing : Cond.instanceMethod y_B_crossing ∈ G0 := G0_of (i := 303) (by rfl) (by rfl)
theorem se_B_crossing : Cond.selects R_B y_B_crossing y_B_crossing ∈ G0 := G0_of (i := 304) (by rfl) (by rfl)
theorem co_B_crossing : Cond.code y_B_crossing b_B_crossing 4 (some .int) ∈ G0 := G0_of (i := 305) (by rfl) (by rfl)
theorem ml_B_116 : Cond.methodLink R_B 116 y_JI_signum ∈ G0 := G0_of (i := 306) (by rfl) (by rfl)
theorem ml_B_121 : Cond.methodLink R_B 121 y_W_cornerLabel ∈ G0 := G0_of (i := 307) (by rfl) (by rfl)
theorem im_W_cornerLabel : Cond.instanceMethod y_W_cornerLabel ∈ G0 := G0_of (i := 308) (by rfl) (by rfl)
theorem se_W_cornerLabel : Cond.selects R_W y_W_cornerLabel y_W_cornerLabel ∈ G0 := G0_of (i := 309) (by rfl) (by rfl)
theorem co_W_cornerLabel : Cond.code y_W_cornerLabel b_W_cornerLabel 5 (some .int) ∈ G0 := G0_of (i := 310) (by rfl) (by rfl)
theorem ml_W_67 : Cond.methodLink R_W 67 y_W_labelAbove ∈ G0 := G0_of (i := 311) (by rfl) (by rfl)
theorem im_W_labelAbove : Cond.instanceMethod y_W_labelAbove ∈ G0 := G0_of (i := 313) (by rfl) (by rfl)
theorem co_W_labelAbove : Cond.code y_W_labelAbove b_W_labelAbove 4 (some .int) ∈ G0 := G0_of (i := 314) (by rfl) (by rfl)
theorem ml_W_74 : Cond.methodLink R_W 74 y_W_madeLabel ∈ G0 := G0_of (i := 315) (by rfl) (by rfl)
theorem im_W_madeLabel : Cond.instanceMethod y_W_madeLabel ∈ G0 := G0_of (i := 317) (by rfl) (by rfl)
theorem co_W_madeLabel : Cond.code y_W_madeLabel b_W_madeLabel 3 (some .int) ∈ G0 := G0_of (i := 318) (by rfl) (by rfl)
theorem ml_W_71 : Cond.methodLink R_W 71 y_W_labelBelow ∈ G0 := G0_of (i := 319) (by rfl) (by rfl)
theorem im_W_labelBelow : Cond.instanceMethod y_W_labelBelow ∈ G0 := G0_of (i := 321) (by rfl) (by rfl)
theorem co_W_labelBelow : Cond.code y_W_labelBelow b_W_labelBelow 3 (some .int) ∈ G0 := G0_of (i := 322) (by rfl) (by rfl)
theorem cl_L_10 : Cond.classLink R_L 10 R_M ∈ G0 := G0_of (i := 323) (by rfl) (by rfl)
theorem ia_M : Cond.instantiable R_M 19 ∈ G0 := G0_of (i := 324) (by rfl) (by rfl)
theorem ml_L_12 : Cond.methodLink R_L 12 y_M_init ∈ G0 := G0_of (i := 325) (by rfl) (by rfl)
theorem im_M_init : Cond.instanceMethod y_M_init ∈ G0 := G0_of (i := 326) (by rfl) (by rfl)
theorem co_M_init : Cond.code y_M_init b_M_init 1 (none) ∈ G0 := G0_of (i := 327) (by rfl) (by rfl)
theorem ml_M_1 : Cond.methodLink R_M 1 objectInit ∈ G0 := G0_of (i := 328) (by rfl) (by rfl)
theorem fl_M_7 : Cond.fieldLink R_M 7 R_M "strands" "[I" ∈ G0 := G0_of (i := 329) (by rfl) (by rfl)
theorem fl_M_13 : Cond.fieldLink R_M 13 R_M "size" "[I" ∈ G0 := G0_of (i := 330) (by rfl) (by rfl)
theorem fl_M_16 : Cond.fieldLink R_M 16 R_M "word" "[I" ∈ G0 := G0_of (i := 331) (by rfl) (by rfl)
theorem fl_M_19 : Cond.fieldLink R_M 19 R_M "letterOf" "[I" ∈ G0 := G0_of (i := 332) (by rfl) (by rfl)
theorem fl_M_22 : Cond.fieldLink R_M 22 R_M "next" "[I" ∈ G0 := G0_of (i := 333) (by rfl) (by rfl)
theorem fl_M_25 : Cond.fieldLink R_M 25 R_M "before" "[I" ∈ G0 := G0_of (i := 334) (by rfl) (by rfl)
theorem fl_M_88 : Cond.fieldLink R_M 88 R_M "made" "I" ∈ G0 := G0_of (i := 335) (by rfl) (by rfl)
theorem fl_M_91 : Cond.fieldLink R_M 91 R_M "free" "I" ∈ G0 := G0_of (i := 336) (by rfl) (by rfl)
theorem fl_M_105 : Cond.fieldLink R_M 105 R_M "positives" "I" ∈ G0 := G0_of (i := 337) (by rfl) (by rfl)
theorem fl_M_28 : Cond.fieldLink R_M 28 R_M "positive" "[I" ∈ G0 := G0_of (i := 338) (by rfl) (by rfl)
theorem fl_M_31 : Cond.fieldLink R_M 31 R_M "target" "[I" ∈ G0 := G0_of (i := 339) (by rfl) (by rfl)
theorem fl_M_34 : Cond.fieldLink R_M 34 R_M "ended" "[I" ∈ G0 := G0_of (i := 340) (by rfl) (by rfl)
theorem fl_M_37 : Cond.fieldLink R_M 37 R_M "known" "[Z" ∈ G0 := G0_of (i := 341) (by rfl) (by rfl)
theorem fl_M_41 : Cond.fieldLink R_M 41 R_M "turns" "[I" ∈ G0 := G0_of (i := 342) (by rfl) (by rfl)
theorem fl_M_44 : Cond.fieldLink R_M 44 R_M "simples" "[I" ∈ G0 := G0_of (i := 343) (by rfl) (by rfl)
theorem fl_M_47 : Cond.fieldLink R_M 47 R_M "simple" "[I" ∈ G0 := G0_of (i := 344) (by rfl) (by rfl)
theorem fl_M_50 : Cond.fieldLink R_M 50 R_M "label" "[I" ∈ G0 := G0_of (i := 345) (by rfl) (by rfl)
theorem fl_M_53 : Cond.fieldLink R_M 53 R_M "corner" "[I" ∈ G0 := G0_of (i := 346) (by rfl) (by rfl)
theorem ac_boolean : Cond.arrayClass .boolean ∈ G0 := G0_of (i := 386) (by rfl) (by rfl)
theorem ml_L_17 : Cond.methodLink R_L 17 y_M_strands ∈ G0 := G0_of (i := 387) (by rfl) (by rfl)
theorem im_M_strands : Cond.instanceMethod y_M_strands ∈ G0 := G0_of (i := 388) (by rfl) (by rfl)
theorem se_M_strands : Cond.selects R_M y_M_strands y_M_strands ∈ G0 := G0_of (i := 389) (by rfl) (by rfl)
theorem co_M_strands : Cond.code y_M_strands b_M_strands 3 (some .boolean) ∈ G0 := G0_of (i := 390) (by rfl) (by rfl)
theorem ml_M_60 : Cond.methodLink R_M 60 y_M_isSlot ∈ G0 := G0_of (i := 391) (by rfl) (by rfl)
theorem st_M_isSlot : Cond.static y_M_isSlot ∈ G0 := G0_of (i := 392) (by rfl) (by rfl)
theorem co_M_isSlot : Cond.code y_M_isSlot b_M_isSlot 1 (some .boolean) ∈ G0 := G0_of (i := 393) (by rfl) (by rfl)
theorem ml_L_22 : Cond.methodLink R_L 22 y_M_letter ∈ G0 := G0_of (i := 394) (by rfl) (by rfl)
theorem im_M_letter : Cond.instanceMethod y_M_letter ∈ G0 := G0_of (i := 395) (by rfl) (by rfl)
theorem se_M_letter : Cond.selects R_M y_M_letter y_M_letter ∈ G0 := G0_of (i := 396) (by rfl) (by rfl)
theorem co_M_letter : Cond.code y_M_letter b_M_letter 3 (some .int) ∈ G0 := G0_of (i := 397) (by rfl) (by rfl)
theorem ml_L_27 : Cond.methodLink R_L 27 y_M_copy ∈ G0 := G0_of (i := 398) (by rfl) (by rfl)
theorem im_M_copy : Cond.instanceMethod y_M_copy ∈ G0 := G0_of (i := 399) (by rfl) (by rfl)
theorem se_M_copy : Cond.selects R_M y_M_copy y_M_copy ∈ G0 := G0_of (i := 400) (by rfl) (by rfl)
set_option maxRecDepth 20000 in
theorem co_M_copy : Cond.code y_M_copy b_M_copy 6 (some .boolean) ∈ G0 := G0_of (i := 401) (by rfl) (by rfl)
set_option maxRecDepth 20000 in
theorem ml_M_64 : Cond.methodLink R_M 64 y_M_letterAt ∈ G0 := G0_of (i := 402) (by rfl) (by rfl)
set_option maxRecDepth 20000 in
theorem im_M_letterAt : Cond.instanceMethod y_M_letterAt ∈ G0 := G0_of (i := 404) (by rfl) (by rfl)
set_option maxRecDepth 20000 in
theorem co_M_letterAt : Cond.code y_M_letterAt b_M_letterAt 3 (some .int) ∈ G0 := G0_of (i := 405) (by rfl) (by rfl)
set_option maxRecDepth 20000 in
theorem ml_L_39 : Cond.methodLink R_L 39 y_M_end ∈ G0 := G0_of (i := 406) (by rfl) (by rfl)
set_option maxRecDepth 20000 in
theorem im_M_end : Cond.instanceMethod y_M_end ∈ G0 := G0_of (i := 407) (by rfl) (by rfl)
set_option maxRecDepth 20000 in
theorem se_M_end : Cond.selects R_M y_M_end y_M_end ∈ G0 := G0_of (i := 408) (by rfl) (by rfl)
set_option maxRecDepth 20000 in
theorem co_M_end : Cond.code y_M_end b_M_end 3 (some .int) ∈ G0 := G0_of (i := 409) (by rfl) (by rfl)
set_option maxRecDepth 20000 in
theorem ml_M_72 : Cond.methodLink R_M 72 y_M_endOf ∈ G0 := G0_of (i := 410) (by rfl) (by rfl)
set_option maxRecDepth 20000 in
theorem im_M_endOf : Cond.instanceMethod y_M_endOf ∈ G0 := G0_of (i := 412) (by rfl) (by rfl)
set_option maxRecDepth 20000 in
theorem co_M_endOf : Cond.code y_M_endOf b_M_endOf 6 (some .int) ∈ G0 := G0_of (i := 413) (by rfl) (by rfl)
set_option maxRecDepth 20000 in
theorem ml_M_68 : Cond.methodLink R_M 68 y_M_value ∈ G0 := G0_of (i := 414) (by rfl) (by rfl)
set_option maxRecDepth 20000 in
theorem st_M_value : Cond.static y_M_value ∈ G0 := G0_of (i := 415) (by rfl) (by rfl)
set_option maxRecDepth 20000 in
theorem co_M_value : Cond.code y_M_value b_M_value 1 (some .int) ∈ G0 := G0_of (i := 416) (by rfl) (by rfl)
set_option maxRecDepth 20000 in
theorem ml_L_31 : Cond.methodLink R_L 31 y_M_many ∈ G0 := G0_of (i := 417) (by rfl) (by rfl)
set_option maxRecDepth 20000 in
theorem im_M_many : Cond.instanceMethod y_M_many ∈ G0 := G0_of (i := 418) (by rfl) (by rfl)
set_option maxRecDepth 20000 in
theorem se_M_many : Cond.selects R_M y_M_many y_M_many ∈ G0 := G0_of (i := 419) (by rfl) (by rfl)
set_option maxRecDepth 20000 in
theorem co_M_many : Cond.code y_M_many b_M_many 3 (some .int) ∈ G0 := G0_of (i := 420) (by rfl) (by rfl)
set_option maxRecDepth 20000 in
theorem ml_M_75 : Cond.methodLink R_M 75 y_M_signs ∈ G0 := G0_of (i := 421) (by rfl) (by rfl)
set_option maxRecDepth 20000 in
theorem im_M_signs : Cond.instanceMethod y_M_signs ∈ G0 := G0_of (i := 423) (by rfl) (by rfl)
set_option maxRecDepth 20000 in
theorem co_M_signs : Cond.code y_M_signs b_M_signs 4 (some .int) ∈ G0 := G0_of (i := 424) (by rfl) (by rfl)
set_option maxRecDepth 20000 in
theorem ml_M_78 : Cond.methodLink R_M 78 y_M_rounds ∈ G0 := G0_of (i := 425) (by rfl) (by rfl)
set_option maxRecDepth 20000 in
theorem im_M_rounds : Cond.instanceMethod y_M_rounds ∈ G0 := G0_of (i := 427) (by rfl) (by rfl)
set_option maxRecDepth 20000 in
theorem co_M_rounds : Cond.code y_M_rounds b_M_rounds 6 (some .int) ∈ G0 := G0_of (i := 428) (by rfl) (by rfl)
set_option maxRecDepth 20000 in
theorem ml_M_81 : Cond.methodLink R_M 81 y_M_untouched ∈ G0 := G0_of (i := 429) (by rfl) (by rfl)
set_option maxRecDepth 20000 in
theorem im_M_untouched : Cond.instanceMethod y_M_untouched ∈ G0 := G0_of (i := 431) (by rfl) (by rfl)
set_option maxRecDepth 20000 in
theorem co_M_untouched : Cond.code y_M_untouched b_M_untouched 6 (some .int) ∈ G0 := G0_of (i := 432) (by rfl) (by rfl)
set_option maxRecDepth 20000 in
theorem ml_L_35 : Cond.methodLink R_L 35 y_M_at ∈ G0 := G0_of (i := 433) (by rfl) (by rfl)
set_option maxRecDepth 20000 in
theorem im_M_at : Cond.instanceMethod y_M_at ∈ G0 := G0_of (i := 434) (by rfl) (by rfl)
set_option maxRecDepth 20000 in
theorem se_M_at : Cond.selects R_M y_M_at y_M_at ∈ G0 := G0_of (i := 435) (by rfl) (by rfl)
set_option maxRecDepth 20000 in
theorem co_M_at : Cond.code y_M_at b_M_at 3 (some .int) ∈ G0 := G0_of (i := 436) (by rfl) (by rfl)
set_option maxRecDepth 20000 in
theorem ml_L_44 : Cond.methodLink R_L 44 y_M_reduce ∈ G0 := G0_of (i := 437) (by rfl) (by rfl)
set_option maxRecDepth 20000 in
theorem im_M_reduce : Cond.instanceMethod y_M_reduce ∈ G0 := G0_of (i := 438) (by rfl) (by rfl)
set_option maxRecDepth 20000 in
theorem se_M_reduce : Cond.selects R_M y_M_reduce y_M_reduce ∈ G0 := G0_of (i := 439) (by rfl) (by rfl)
set_option maxRecDepth 20000 in
theorem co_M_reduce : Cond.code y_M_reduce b_M_reduce 5 (some .int) ∈ G0 := G0_of (i := 440) (by rfl) (by rfl)
set_option maxRecDepth 20000 in
theorem ml_M_84 : Cond.methodLink R_M 84 y_M_remove ∈ G0 := G0_of (i := 441) (by rfl) (by rfl)
set_option maxRecDepth 20000 in
theorem im_M_remove : Cond.instanceMethod y_M_remove ∈ G0 := G0_of (i := 443) (by rfl) (by rfl)
set_option maxRecDepth 20000 in
theorem co_M_remove : Cond.code y_M_remove b_M_remove 4 (none) ∈ G0 := G0_of (i := 444) (by rfl) (by rfl)
set_option maxRecDepth 20000 in
theorem ml_L_49 : Cond.methodLink R_L 49 y_M_round ∈ G0 := G0_of (i := 445) (by rfl) (by rfl)
set_option maxRecDepth 20000 in
theorem im_M_round : Cond.instanceMethod y_M_round ∈ G0 := G0_of (i := 446) (by rfl) (by rfl)
set_option maxRecDepth 20000 in
theorem se_M_round : Cond.selects R_M y_M_round y_M_round ∈ G0 := G0_of (i := 447) (by rfl) (by rfl)
set_option maxRecDepth 20000 in
theorem co_M_round : Cond.code y_M_round b_M_round 6 (some .boolean) ∈ G0 := G0_of (i := 448) (by rfl) (by rfl)
set_option maxRecDepth 20000 in
theorem ml_L_53 : Cond.methodLink R_L 53 y_M_exchange ∈ G0 := G0_of (i := 449) (by rfl) (by rfl)
set_option maxRecDepth 20000 in
theorem im_M_exchange : Cond.instanceMethod y_M_exchange ∈ G0 := G0_of (i := 450) (by rfl) (by rfl)
set_option maxRecDepth 20000 in
theorem se_M_exchange : Cond.selects R_M y_M_exchange y_M_exchange ∈ G0 := G0_of (i := 451) (by rfl) (by rfl)
set_option maxRecDepth 20000 in
theorem co_M_exchange : Cond.code y_M_exchange b_M_exchange 6 (some .boolean) ∈ G0 := G0_of (i := 452) (by rfl) (by rfl)
set_option maxRecDepth 20000 in
theorem ml_L_57 : Cond.methodLink R_L 57 y_M_pass ∈ G0 := G0_of (i := 453) (by rfl) (by rfl)
set_option maxRecDepth 20000 in
theorem im_M_pass : Cond.instanceMethod y_M_pass ∈ G0 := G0_of (i := 454) (by rfl) (by rfl)
set_option maxRecDepth 20000 in
theorem se_M_pass : Cond.selects R_M y_M_pass y_M_pass ∈ G0 := G0_of (i := 455) (by rfl) (by rfl)
set_option maxRecDepth 20000 in
theorem co_M_pass : Cond.code y_M_pass b_M_pass 10 (some .boolean) ∈ G0 := G0_of (i := 456) (by rfl) (by rfl)
set_option maxRecDepth 20000 in
theorem ml_L_61 : Cond.methodLink R_L 61 y_M_grow ∈ G0 := G0_of (i := 457) (by rfl) (by rfl)
set_option maxRecDepth 20000 in
theorem im_M_grow : Cond.instanceMethod y_M_grow ∈ G0 := G0_of (i := 458) (by rfl) (by rfl)
set_option maxRecDepth 20000 in
theorem se_M_grow : Cond.selects R_M y_M_grow y_M_grow ∈ G0 := G0_of (i := 459) (by rfl) (by rfl)
set_option maxRecDepth 20000 in
theorem co_M_grow : Cond.code y_M_grow b_M_grow 3 (some .boolean) ∈ G0 := G0_of (i := 460) (by rfl) (by rfl)
set_option maxRecDepth 20000 in
theorem ml_L_66 : Cond.methodLink R_L 66 y_M_shrink ∈ G0 := G0_of (i := 461) (by rfl) (by rfl)
set_option maxRecDepth 20000 in
theorem im_M_shrink : Cond.instanceMethod y_M_shrink ∈ G0 := G0_of (i := 462) (by rfl) (by rfl)
set_option maxRecDepth 20000 in
theorem se_M_shrink : Cond.selects R_M y_M_shrink y_M_shrink ∈ G0 := G0_of (i := 463) (by rfl) (by rfl)
set_option maxRecDepth 20000 in
theorem co_M_shrink : Cond.code y_M_shrink b_M_shrink 4 (some .boolean) ∈ G0 := G0_of (i := 464) (by rfl) (by rfl)
set_option maxRecDepth 20000 in
theorem ml_L_70 : Cond.methodLink R_L 70 y_M_same ∈ G0 := G0_of (i := 465) (by rfl) (by rfl)
set_option maxRecDepth 20000 in
theorem im_M_same : Cond.instanceMethod y_M_same ∈ G0 := G0_of (i := 466) (by rfl) (by rfl)
set_option maxRecDepth 20000 in
theorem se_M_same : Cond.selects R_M y_M_same y_M_same ∈ G0 := G0_of (i := 467) (by rfl) (by rfl)
set_option maxRecDepth 20000 in
theorem co_M_same : Cond.code y_M_same b_M_same 5 (some .boolean) ∈ G0 := G0_of (i := 468) (by rfl) (by rfl)
set_option maxRecDepth 20000 in
theorem ml_M_129 : Cond.methodLink R_M 129 y_M_know ∈ G0 := G0_of (i := 469) (by rfl) (by rfl)
set_option maxRecDepth 20000 in
theorem im_M_know : Cond.instanceMethod y_M_know ∈ G0 := G0_of (i := 471) (by rfl) (by rfl)
set_option maxRecDepth 20000 in
theorem co_M_know : Cond.code y_M_know b_M_know 5 (none) ∈ G0 := G0_of (i := 472) (by rfl) (by rfl)
set_option maxRecDepth 20000 in
theorem ml_M_123 : Cond.methodLink R_M 123 y_M_makePositive ∈ G0 := G0_of (i := 473) (by rfl) (by rfl)
set_option maxRecDepth 20000 in
theorem im_M_makePositive : Cond.instanceMethod y_M_makePositive ∈ G0 := G0_of (i := 475) (by rfl) (by rfl)
set_option maxRecDepth 20000 in
theorem co_M_makePositive : Cond.code y_M_makePositive b_M_makePositive 7 (none) ∈ G0 := G0_of (i := 476) (by rfl) (by rfl)
set_option maxRecDepth 20000 in
theorem ml_M_108 : Cond.methodLink R_M 108 y_M_writeSimple ∈ G0 := G0_of (i := 477) (by rfl) (by rfl)
set_option maxRecDepth 20000 in
theorem im_M_writeSimple : Cond.instanceMethod y_M_writeSimple ∈ G0 := G0_of (i := 479) (by rfl) (by rfl)
set_option maxRecDepth 20000 in
theorem co_M_writeSimple : Cond.code y_M_writeSimple b_M_writeSimple 5 (none) ∈ G0 := G0_of (i := 480) (by rfl) (by rfl)
set_option maxRecDepth 20000 in
theorem ml_M_126 : Cond.methodLink R_M 126 y_M_takeSimple ∈ G0 := G0_of (i := 481) (by rfl) (by rfl)
set_option maxRecDepth 20000 in
theorem im_M_takeSimple : Cond.instanceMethod y_M_takeSimple ∈ G0 := G0_of (i := 483) (by rfl) (by rfl)
set_option maxRecDepth 20000 in
theorem co_M_takeSimple : Cond.code y_M_takeSimple b_M_takeSimple 7 (none) ∈ G0 := G0_of (i := 484) (by rfl) (by rfl)
set_option maxRecDepth 20000 in
theorem ml_M_111 : Cond.methodLink R_M 111 y_M_clearChain ∈ G0 := G0_of (i := 485) (by rfl) (by rfl)
set_option maxRecDepth 20000 in
theorem im_M_clearChain : Cond.instanceMethod y_M_clearChain ∈ G0 := G0_of (i := 487) (by rfl) (by rfl)
set_option maxRecDepth 20000 in
theorem co_M_clearChain : Cond.code y_M_clearChain b_M_clearChain 2 (none) ∈ G0 := G0_of (i := 488) (by rfl) (by rfl)
set_option maxRecDepth 20000 in
theorem ml_M_114 : Cond.methodLink R_M 114 y_M_writeTurn ∈ G0 := G0_of (i := 489) (by rfl) (by rfl)
set_option maxRecDepth 20000 in
theorem im_M_writeTurn : Cond.instanceMethod y_M_writeTurn ∈ G0 := G0_of (i := 491) (by rfl) (by rfl)
set_option maxRecDepth 20000 in
theorem co_M_writeTurn : Cond.code y_M_writeTurn b_M_writeTurn 3 (none) ∈ G0 := G0_of (i := 492) (by rfl) (by rfl)
set_option maxRecDepth 20000 in
theorem ml_M_98 : Cond.methodLink R_M 98 y_M_insert ∈ G0 := G0_of (i := 493) (by rfl) (by rfl)
set_option maxRecDepth 20000 in
theorem im_M_insert : Cond.instanceMethod y_M_insert ∈ G0 := G0_of (i := 495) (by rfl) (by rfl)
set_option maxRecDepth 20000 in
theorem co_M_insert : Cond.code y_M_insert b_M_insert 4 (some .int) ∈ G0 := G0_of (i := 496) (by rfl) (by rfl)
set_option maxRecDepth 20000 in
theorem ml_M_117 : Cond.methodLink R_M 117 y_M_turnRight ∈ G0 := G0_of (i := 497) (by rfl) (by rfl)
set_option maxRecDepth 20000 in
theorem im_M_turnRight : Cond.instanceMethod y_M_turnRight ∈ G0 := G0_of (i := 499) (by rfl) (by rfl)
set_option maxRecDepth 20000 in
theorem co_M_turnRight : Cond.code y_M_turnRight b_M_turnRight 7 (none) ∈ G0 := G0_of (i := 500) (by rfl) (by rfl)
set_option maxRecDepth 20000 in
theorem ml_M_94 : Cond.methodLink R_M 94 y_M_take ∈ G0 := G0_of (i := 501) (by rfl) (by rfl)
set_option maxRecDepth 20000 in
theorem im_M_take : Cond.instanceMethod y_M_take ∈ G0 := G0_of (i := 503) (by rfl) (by rfl)
set_option maxRecDepth 20000 in
theorem co_M_take : Cond.code y_M_take b_M_take 2 (none) ∈ G0 := G0_of (i := 504) (by rfl) (by rfl)
set_option maxRecDepth 20000 in
theorem ml_M_101 : Cond.methodLink R_M 101 y_M_isNear ∈ G0 := G0_of (i := 505) (by rfl) (by rfl)
set_option maxRecDepth 20000 in
theorem st_M_isNear : Cond.static y_M_isNear ∈ G0 := G0_of (i := 506) (by rfl) (by rfl)
set_option maxRecDepth 20000 in
theorem co_M_isNear : Cond.code y_M_isNear b_M_isNear 2 (some .boolean) ∈ G0 := G0_of (i := 507) (by rfl) (by rfl)
set_option maxRecDepth 20000 in
theorem ml_M_120 : Cond.methodLink R_M 120 y_M_turnLeft ∈ G0 := G0_of (i := 508) (by rfl) (by rfl)
set_option maxRecDepth 20000 in
theorem im_M_turnLeft : Cond.instanceMethod y_M_turnLeft ∈ G0 := G0_of (i := 510) (by rfl) (by rfl)
set_option maxRecDepth 20000 in
theorem co_M_turnLeft : Cond.code y_M_turnLeft b_M_turnLeft 7 (none) ∈ G0 := G0_of (i := 511) (by rfl) (by rfl)
set_option maxRecDepth 20000 in
theorem ml_L_75 : Cond.methodLink R_L 75 y_M_form ∈ G0 := G0_of (i := 512) (by rfl) (by rfl)
set_option maxRecDepth 20000 in
theorem im_M_form : Cond.instanceMethod y_M_form ∈ G0 := G0_of (i := 513) (by rfl) (by rfl)
set_option maxRecDepth 20000 in
theorem se_M_form : Cond.selects R_M y_M_form y_M_form ∈ G0 := G0_of (i := 514) (by rfl) (by rfl)
set_option maxRecDepth 20000 in
theorem co_M_form : Cond.code y_M_form b_M_form 4 (some .int) ∈ G0 := G0_of (i := 515) (by rfl) (by rfl)
set_option maxRecDepth 20000 in
theorem ml_L_80 : Cond.methodLink R_L 80 y_M_length ∈ G0 := G0_of (i := 516) (by rfl) (by rfl)
set_option maxRecDepth 20000 in
theorem im_M_length : Cond.instanceMethod y_M_length ∈ G0 := G0_of (i := 517) (by rfl) (by rfl)
set_option maxRecDepth 20000 in
theorem se_M_length : Cond.selects R_M y_M_length y_M_length ∈ G0 := G0_of (i := 518) (by rfl) (by rfl)
set_option maxRecDepth 20000 in
theorem co_M_length : Cond.code y_M_length b_M_length 2 (some .int) ∈ G0 := G0_of (i := 519) (by rfl) (by rfl)
set_option maxRecDepth 20000 in
theorem ml_L_84 : Cond.methodLink R_L 84 y_M_crossing ∈ G0 := G0_of (i := 520) (by rfl) (by rfl)
set_option maxRecDepth 20000 in
theorem im_M_crossing : Cond.instanceMethod y_M_crossing ∈ G0 := G0_of (i := 521) (by rfl) (by rfl)
set_option maxRecDepth 20000 in
theorem se_M_crossing : Cond.selects R_M y_M_crossing y_M_crossing ∈ G0 := G0_of (i := 522) (by rfl) (by rfl)
set_option maxRecDepth 20000 in
theorem co_M_crossing : Cond.code y_M_crossing b_M_crossing 4 (some .int) ∈ G0 := G0_of (i := 523) (by rfl) (by rfl)
set_option maxRecDepth 20000 in
theorem ml_M_132 : Cond.methodLink R_M 132 y_M_close ∈ G0 := G0_of (i := 524) (by rfl) (by rfl)
set_option maxRecDepth 20000 in
theorem im_M_close : Cond.instanceMethod y_M_close ∈ G0 := G0_of (i := 526) (by rfl) (by rfl)
set_option maxRecDepth 20000 in
theorem co_M_close : Cond.code y_M_close b_M_close 8 (none) ∈ G0 := G0_of (i := 527) (by rfl) (by rfl)
theorem la_W : ∀ w ∈ u_ws R_W F_W 3, w ∈ G0 := by decide +kernel
theorem la_N : ∀ w ∈ u_ws R_N F_N 6, w ∈ G0 := by decide +kernel
theorem la_B : ∀ w ∈ u_ws R_B F_B 2, w ∈ G0 := by decide +kernel
theorem la_M : ∀ w ∈ u_ws R_M F_M 19, w ∈ G0 := by decide +kernel
theorem hd_B_init : y_B_init.cls = R_B ∧ y_B_init.cls ≠ "java/lang/invoke/MethodHandle" ∧ y_B_init.cls ≠ "java/lang/invoke/VarHandle" ∧ (parseMethodDescriptor y_B_init.desc).map (fun d => d.parameters.length) = some 0 := by decide +kernel
theorem hd_W_init : y_W_init.cls = R_W ∧ y_W_init.cls ≠ "java/lang/invoke/MethodHandle" ∧ y_W_init.cls ≠ "java/lang/invoke/VarHandle" ∧ (parseMethodDescriptor y_W_init.desc).map (fun d => d.parameters.length) = some 0 := by decide +kernel
theorem hd_N_init : y_N_init.cls = R_N ∧ y_N_init.cls ≠ "java/lang/invoke/MethodHandle" ∧ y_N_init.cls ≠ "java/lang/invoke/VarHandle" ∧ (parseMethodDescriptor y_N_init.desc).map (fun d => d.parameters.length) = some 0 := by decide +kernel
theorem hd_B_strands : y_B_strands.cls = R_B ∧ y_B_strands.cls ≠ "java/lang/invoke/MethodHandle" ∧ y_B_strands.cls ≠ "java/lang/invoke/VarHandle" ∧ (parseMethodDescriptor y_B_strands.desc).map (fun d => d.parameters.length) = some 2 := by decide +kernel
theorem hd_B_isSlot : y_B_isSlot.cls = R_B ∧ y_B_isSlot.cls ≠ "java/lang/invoke/MethodHandle" ∧ y_B_isSlot.cls ≠ "java/lang/invoke/VarHandle" ∧ (parseMethodDescriptor y_B_isSlot.desc).map (fun d => d.parameters.length) = some 1 := by decide +kernel
theorem hd_W_clear : y_W_clear.cls = R_W ∧ y_W_clear.cls ≠ "java/lang/invoke/MethodHandle" ∧ y_W_clear.cls ≠ "java/lang/invoke/VarHandle" ∧ (parseMethodDescriptor y_W_clear.desc).map (fun d => d.parameters.length) = some 1 := by decide +kernel
theorem hd_B_letter : y_B_letter.cls = R_B ∧ y_B_letter.cls ≠ "java/lang/invoke/MethodHandle" ∧ y_B_letter.cls ≠ "java/lang/invoke/VarHandle" ∧ (parseMethodDescriptor y_B_letter.desc).map (fun d => d.parameters.length) = some 2 := by decide +kernel
theorem hd_W_append : y_W_append.cls = R_W ∧ y_W_append.cls ≠ "java/lang/invoke/MethodHandle" ∧ y_W_append.cls ≠ "java/lang/invoke/VarHandle" ∧ (parseMethodDescriptor y_W_append.desc).map (fun d => d.parameters.length) = some 1 := by decide +kernel
theorem hd_B_copy : y_B_copy.cls = R_B ∧ y_B_copy.cls ≠ "java/lang/invoke/MethodHandle" ∧ y_B_copy.cls ≠ "java/lang/invoke/VarHandle" ∧ (parseMethodDescriptor y_B_copy.desc).map (fun d => d.parameters.length) = some 3 := by decide +kernel
theorem hd_W_take : y_W_take.cls = R_W ∧ y_W_take.cls ≠ "java/lang/invoke/MethodHandle" ∧ y_W_take.cls ≠ "java/lang/invoke/VarHandle" ∧ (parseMethodDescriptor y_W_take.desc).map (fun d => d.parameters.length) = some 1 := by decide +kernel
theorem hd_W_invert : y_W_invert.cls = R_W ∧ y_W_invert.cls ≠ "java/lang/invoke/MethodHandle" ∧ y_W_invert.cls ≠ "java/lang/invoke/VarHandle" ∧ (parseMethodDescriptor y_W_invert.desc).map (fun d => d.parameters.length) = some 0 := by decide +kernel
theorem hd_B_many : y_B_many.cls = R_B ∧ y_B_many.cls ≠ "java/lang/invoke/MethodHandle" ∧ y_B_many.cls ≠ "java/lang/invoke/VarHandle" ∧ (parseMethodDescriptor y_B_many.desc).map (fun d => d.parameters.length) = some 2 := by decide +kernel
theorem hd_W_signSum : y_W_signSum.cls = R_W ∧ y_W_signSum.cls ≠ "java/lang/invoke/MethodHandle" ∧ y_W_signSum.cls ≠ "java/lang/invoke/VarHandle" ∧ (parseMethodDescriptor y_W_signSum.desc).map (fun d => d.parameters.length) = some 0 := by decide +kernel
theorem hd_JI_signum : y_JI_signum.cls = R_JI ∧ y_JI_signum.cls ≠ "java/lang/invoke/MethodHandle" ∧ y_JI_signum.cls ≠ "java/lang/invoke/VarHandle" ∧ (parseMethodDescriptor y_JI_signum.desc).map (fun d => d.parameters.length) = some 1 := by decide +kernel
theorem hd_W_components : y_W_components.cls = R_W ∧ y_W_components.cls ≠ "java/lang/invoke/MethodHandle" ∧ y_W_components.cls ≠ "java/lang/invoke/VarHandle" ∧ (parseMethodDescriptor y_W_components.desc).map (fun d => d.parameters.length) = some 0 := by decide +kernel
theorem hd_W_endOf : y_W_endOf.cls = R_W ∧ y_W_endOf.cls ≠ "java/lang/invoke/MethodHandle" ∧ y_W_endOf.cls ≠ "java/lang/invoke/VarHandle" ∧ (parseMethodDescriptor y_W_endOf.desc).map (fun d => d.parameters.length) = some 1 := by decide +kernel
theorem hd_W_value : y_W_value.cls = R_W ∧ y_W_value.cls ≠ "java/lang/invoke/MethodHandle" ∧ y_W_value.cls ≠ "java/lang/invoke/VarHandle" ∧ (parseMethodDescriptor y_W_value.desc).map (fun d => d.parameters.length) = some 1 := by decide +kernel
theorem hd_JM_abs : y_JM_abs.cls = R_JM ∧ y_JM_abs.cls ≠ "java/lang/invoke/MethodHandle" ∧ y_JM_abs.cls ≠ "java/lang/invoke/VarHandle" ∧ (parseMethodDescriptor y_JM_abs.desc).map (fun d => d.parameters.length) = some 1 := by decide +kernel
theorem hd_W_circles : y_W_circles.cls = R_W ∧ y_W_circles.cls ≠ "java/lang/invoke/MethodHandle" ∧ y_W_circles.cls ≠ "java/lang/invoke/VarHandle" ∧ (parseMethodDescriptor y_W_circles.desc).map (fun d => d.parameters.length) = some 0 := by decide +kernel
theorem hd_W_touchedFrom : y_W_touchedFrom.cls = R_W ∧ y_W_touchedFrom.cls ≠ "java/lang/invoke/MethodHandle" ∧ y_W_touchedFrom.cls ≠ "java/lang/invoke/VarHandle" ∧ (parseMethodDescriptor y_W_touchedFrom.desc).map (fun d => d.parameters.length) = some 2 := by decide +kernel
theorem hd_W_touches : y_W_touches.cls = R_W ∧ y_W_touches.cls ≠ "java/lang/invoke/MethodHandle" ∧ y_W_touches.cls ≠ "java/lang/invoke/VarHandle" ∧ (parseMethodDescriptor y_W_touches.desc).map (fun d => d.parameters.length) = some 2 := by decide +kernel
theorem hd_B_at : y_B_at.cls = R_B ∧ y_B_at.cls ≠ "java/lang/invoke/MethodHandle" ∧ y_B_at.cls ≠ "java/lang/invoke/VarHandle" ∧ (parseMethodDescriptor y_B_at.desc).map (fun d => d.parameters.length) = some 2 := by decide +kernel
theorem hd_W_hasLetters : y_W_hasLetters.cls = R_W ∧ y_W_hasLetters.cls ≠ "java/lang/invoke/MethodHandle" ∧ y_W_hasLetters.cls ≠ "java/lang/invoke/VarHandle" ∧ (parseMethodDescriptor y_W_hasLetters.desc).map (fun d => d.parameters.length) = some 2 := by decide +kernel
theorem hd_B_end : y_B_end.cls = R_B ∧ y_B_end.cls ≠ "java/lang/invoke/MethodHandle" ∧ y_B_end.cls ≠ "java/lang/invoke/VarHandle" ∧ (parseMethodDescriptor y_B_end.desc).map (fun d => d.parameters.length) = some 2 := by decide +kernel
theorem hd_W_hasPlace : y_W_hasPlace.cls = R_W ∧ y_W_hasPlace.cls ≠ "java/lang/invoke/MethodHandle" ∧ y_W_hasPlace.cls ≠ "java/lang/invoke/VarHandle" ∧ (parseMethodDescriptor y_W_hasPlace.desc).map (fun d => d.parameters.length) = some 1 := by decide +kernel
theorem hd_B_reduce : y_B_reduce.cls = R_B ∧ y_B_reduce.cls ≠ "java/lang/invoke/MethodHandle" ∧ y_B_reduce.cls ≠ "java/lang/invoke/VarHandle" ∧ (parseMethodDescriptor y_B_reduce.desc).map (fun d => d.parameters.length) = some 2 := by decide +kernel
theorem hd_W_cancelNeighbours : y_W_cancelNeighbours.cls = R_W ∧ y_W_cancelNeighbours.cls ≠ "java/lang/invoke/MethodHandle" ∧ y_W_cancelNeighbours.cls ≠ "java/lang/invoke/VarHandle" ∧ (parseMethodDescriptor y_W_cancelNeighbours.desc).map (fun d => d.parameters.length) = some 0 := by decide +kernel
theorem hd_W_cancelEnds : y_W_cancelEnds.cls = R_W ∧ y_W_cancelEnds.cls ≠ "java/lang/invoke/MethodHandle" ∧ y_W_cancelEnds.cls ≠ "java/lang/invoke/VarHandle" ∧ (parseMethodDescriptor y_W_cancelEnds.desc).map (fun d => d.parameters.length) = some 0 := by decide +kernel
theorem hd_B_round : y_B_round.cls = R_B ∧ y_B_round.cls ≠ "java/lang/invoke/MethodHandle" ∧ y_B_round.cls ≠ "java/lang/invoke/VarHandle" ∧ (parseMethodDescriptor y_B_round.desc).map (fun d => d.parameters.length) = some 2 := by decide +kernel
theorem hd_W_lastToFront : y_W_lastToFront.cls = R_W ∧ y_W_lastToFront.cls ≠ "java/lang/invoke/MethodHandle" ∧ y_W_lastToFront.cls ≠ "java/lang/invoke/VarHandle" ∧ (parseMethodDescriptor y_W_lastToFront.desc).map (fun d => d.parameters.length) = some 0 := by decide +kernel
theorem hd_W_firstToBack : y_W_firstToBack.cls = R_W ∧ y_W_firstToBack.cls ≠ "java/lang/invoke/MethodHandle" ∧ y_W_firstToBack.cls ≠ "java/lang/invoke/VarHandle" ∧ (parseMethodDescriptor y_W_firstToBack.desc).map (fun d => d.parameters.length) = some 0 := by decide +kernel
theorem hd_B_exchange : y_B_exchange.cls = R_B ∧ y_B_exchange.cls ≠ "java/lang/invoke/MethodHandle" ∧ y_B_exchange.cls ≠ "java/lang/invoke/VarHandle" ∧ (parseMethodDescriptor y_B_exchange.desc).map (fun d => d.parameters.length) = some 2 := by decide +kernel
theorem hd_W_swapFar : y_W_swapFar.cls = R_W ∧ y_W_swapFar.cls ≠ "java/lang/invoke/MethodHandle" ∧ y_W_swapFar.cls ≠ "java/lang/invoke/VarHandle" ∧ (parseMethodDescriptor y_W_swapFar.desc).map (fun d => d.parameters.length) = some 1 := by decide +kernel
theorem hd_B_swapAt : y_B_swapAt.cls = R_B ∧ y_B_swapAt.cls ≠ "java/lang/invoke/MethodHandle" ∧ y_B_swapAt.cls ≠ "java/lang/invoke/VarHandle" ∧ (parseMethodDescriptor y_B_swapAt.desc).map (fun d => d.parameters.length) = some 2 := by decide +kernel
theorem hd_B_pass : y_B_pass.cls = R_B ∧ y_B_pass.cls ≠ "java/lang/invoke/MethodHandle" ∧ y_B_pass.cls ≠ "java/lang/invoke/VarHandle" ∧ (parseMethodDescriptor y_B_pass.desc).map (fun d => d.parameters.length) = some 2 := by decide +kernel
theorem hd_W_passOver : y_W_passOver.cls = R_W ∧ y_W_passOver.cls ≠ "java/lang/invoke/MethodHandle" ∧ y_W_passOver.cls ≠ "java/lang/invoke/VarHandle" ∧ (parseMethodDescriptor y_W_passOver.desc).map (fun d => d.parameters.length) = some 1 := by decide +kernel
theorem hd_W_canPass : y_W_canPass.cls = R_W ∧ y_W_canPass.cls ≠ "java/lang/invoke/MethodHandle" ∧ y_W_canPass.cls ≠ "java/lang/invoke/VarHandle" ∧ (parseMethodDescriptor y_W_canPass.desc).map (fun d => d.parameters.length) = some 1 := by decide +kernel
theorem hd_B_grow : y_B_grow.cls = R_B ∧ y_B_grow.cls ≠ "java/lang/invoke/MethodHandle" ∧ y_B_grow.cls ≠ "java/lang/invoke/VarHandle" ∧ (parseMethodDescriptor y_B_grow.desc).map (fun d => d.parameters.length) = some 2 := by decide +kernel
theorem hd_W_addStrand : y_W_addStrand.cls = R_W ∧ y_W_addStrand.cls ≠ "java/lang/invoke/MethodHandle" ∧ y_W_addStrand.cls ≠ "java/lang/invoke/VarHandle" ∧ (parseMethodDescriptor y_W_addStrand.desc).map (fun d => d.parameters.length) = some 1 := by decide +kernel
theorem hd_B_shrink : y_B_shrink.cls = R_B ∧ y_B_shrink.cls ≠ "java/lang/invoke/MethodHandle" ∧ y_B_shrink.cls ≠ "java/lang/invoke/VarHandle" ∧ (parseMethodDescriptor y_B_shrink.desc).map (fun d => d.parameters.length) = some 1 := by decide +kernel
theorem hd_W_dropStrand : y_W_dropStrand.cls = R_W ∧ y_W_dropStrand.cls ≠ "java/lang/invoke/MethodHandle" ∧ y_W_dropStrand.cls ≠ "java/lang/invoke/VarHandle" ∧ (parseMethodDescriptor y_W_dropStrand.desc).map (fun d => d.parameters.length) = some 0 := by decide +kernel
theorem hd_B_same : y_B_same.cls = R_B ∧ y_B_same.cls ≠ "java/lang/invoke/MethodHandle" ∧ y_B_same.cls ≠ "java/lang/invoke/VarHandle" ∧ (parseMethodDescriptor y_B_same.desc).map (fun d => d.parameters.length) = some 2 := by decide +kernel
theorem hd_B_formOf : y_B_formOf.cls = R_B ∧ y_B_formOf.cls ≠ "java/lang/invoke/MethodHandle" ∧ y_B_formOf.cls ≠ "java/lang/invoke/VarHandle" ∧ (parseMethodDescriptor y_B_formOf.desc).map (fun d => d.parameters.length) = some 1 := by decide +kernel
theorem hd_N_follow : y_N_follow.cls = R_N ∧ y_N_follow.cls ≠ "java/lang/invoke/MethodHandle" ∧ y_N_follow.cls ≠ "java/lang/invoke/VarHandle" ∧ (parseMethodDescriptor y_N_follow.desc).map (fun d => d.parameters.length) = some 1 := by decide +kernel
theorem hd_W_equalTo : y_W_equalTo.cls = R_W ∧ y_W_equalTo.cls ≠ "java/lang/invoke/MethodHandle" ∧ y_W_equalTo.cls ≠ "java/lang/invoke/VarHandle" ∧ (parseMethodDescriptor y_W_equalTo.desc).map (fun d => d.parameters.length) = some 1 := by decide +kernel
theorem hd_W_negatives : y_W_negatives.cls = R_W ∧ y_W_negatives.cls ≠ "java/lang/invoke/MethodHandle" ∧ y_W_negatives.cls ≠ "java/lang/invoke/VarHandle" ∧ (parseMethodDescriptor y_W_negatives.desc).map (fun d => d.parameters.length) = some 0 := by decide +kernel
theorem hd_N_appendSimple : y_N_appendSimple.cls = R_N ∧ y_N_appendSimple.cls ≠ "java/lang/invoke/MethodHandle" ∧ y_N_appendSimple.cls ≠ "java/lang/invoke/VarHandle" ∧ (parseMethodDescriptor y_N_appendSimple.desc).map (fun d => d.parameters.length) = some 2 := by decide +kernel
theorem hd_N_settle : y_N_settle.cls = R_N ∧ y_N_settle.cls ≠ "java/lang/invoke/MethodHandle" ∧ y_N_settle.cls ≠ "java/lang/invoke/VarHandle" ∧ (parseMethodDescriptor y_N_settle.desc).map (fun d => d.parameters.length) = some 0 := by decide +kernel
theorem hd_N_moveOver : y_N_moveOver.cls = R_N ∧ y_N_moveOver.cls ≠ "java/lang/invoke/MethodHandle" ∧ y_N_moveOver.cls ≠ "java/lang/invoke/VarHandle" ∧ (parseMethodDescriptor y_N_moveOver.desc).map (fun d => d.parameters.length) = some 2 := by decide +kernel
theorem hd_N_sweepOver : y_N_sweepOver.cls = R_N ∧ y_N_sweepOver.cls ≠ "java/lang/invoke/MethodHandle" ∧ y_N_sweepOver.cls ≠ "java/lang/invoke/VarHandle" ∧ (parseMethodDescriptor y_N_sweepOver.desc).map (fun d => d.parameters.length) = some 1 := by decide +kernel
theorem hd_N_isTurn : y_N_isTurn.cls = R_N ∧ y_N_isTurn.cls ≠ "java/lang/invoke/MethodHandle" ∧ y_N_isTurn.cls ≠ "java/lang/invoke/VarHandle" ∧ (parseMethodDescriptor y_N_isTurn.desc).map (fun d => d.parameters.length) = some 1 := by decide +kernel
theorem hd_N_isNone : y_N_isNone.cls = R_N ∧ y_N_isNone.cls ≠ "java/lang/invoke/MethodHandle" ∧ y_N_isNone.cls ≠ "java/lang/invoke/VarHandle" ∧ (parseMethodDescriptor y_N_isNone.desc).map (fun d => d.parameters.length) = some 1 := by decide +kernel
theorem hd_N_equalTo : y_N_equalTo.cls = R_N ∧ y_N_equalTo.cls ≠ "java/lang/invoke/MethodHandle" ∧ y_N_equalTo.cls ≠ "java/lang/invoke/VarHandle" ∧ (parseMethodDescriptor y_N_equalTo.desc).map (fun d => d.parameters.length) = some 1 := by decide +kernel
theorem hd_N_size : y_N_size.cls = R_N ∧ y_N_size.cls ≠ "java/lang/invoke/MethodHandle" ∧ y_N_size.cls ≠ "java/lang/invoke/VarHandle" ∧ (parseMethodDescriptor y_N_size.desc).map (fun d => d.parameters.length) = some 0 := by decide +kernel
theorem hd_N_image : y_N_image.cls = R_N ∧ y_N_image.cls ≠ "java/lang/invoke/MethodHandle" ∧ y_N_image.cls ≠ "java/lang/invoke/VarHandle" ∧ (parseMethodDescriptor y_N_image.desc).map (fun d => d.parameters.length) = some 2 := by decide +kernel
theorem hd_B_form : y_B_form.cls = R_B ∧ y_B_form.cls ≠ "java/lang/invoke/MethodHandle" ∧ y_B_form.cls ≠ "java/lang/invoke/VarHandle" ∧ (parseMethodDescriptor y_B_form.desc).map (fun d => d.parameters.length) = some 3 := by decide +kernel
theorem hd_B_length : y_B_length.cls = R_B ∧ y_B_length.cls ≠ "java/lang/invoke/MethodHandle" ∧ y_B_length.cls ≠ "java/lang/invoke/VarHandle" ∧ (parseMethodDescriptor y_B_length.desc).map (fun d => d.parameters.length) = some 1 := by decide +kernel
theorem hd_B_crossing : y_B_crossing.cls = R_B ∧ y_B_crossing.cls ≠ "java/lang/invoke/MethodHandle" ∧ y_B_crossing.cls ≠ "java/lang/invoke/VarHandle" ∧ (parseMethodDescriptor y_B_crossing.desc).map (fun d => d.parameters.length) = some 3 := by decide +kernel
theorem hd_W_cornerLabel : y_W_cornerLabel.cls = R_W ∧ y_W_cornerLabel.cls ≠ "java/lang/invoke/MethodHandle" ∧ y_W_cornerLabel.cls ≠ "java/lang/invoke/VarHandle" ∧ (parseMethodDescriptor y_W_cornerLabel.desc).map (fun d => d.parameters.length) = some 2 := by decide +kernel
theorem hd_W_labelAbove : y_W_labelAbove.cls = R_W ∧ y_W_labelAbove.cls ≠ "java/lang/invoke/MethodHandle" ∧ y_W_labelAbove.cls ≠ "java/lang/invoke/VarHandle" ∧ (parseMethodDescriptor y_W_labelAbove.desc).map (fun d => d.parameters.length) = some 2 := by decide +kernel
theorem hd_W_madeLabel : y_W_madeLabel.cls = R_W ∧ y_W_madeLabel.cls ≠ "java/lang/invoke/MethodHandle" ∧ y_W_madeLabel.cls ≠ "java/lang/invoke/VarHandle" ∧ (parseMethodDescriptor y_W_madeLabel.desc).map (fun d => d.parameters.length) = some 2 := by decide +kernel
theorem hd_W_labelBelow : y_W_labelBelow.cls = R_W ∧ y_W_labelBelow.cls ≠ "java/lang/invoke/MethodHandle" ∧ y_W_labelBelow.cls ≠ "java/lang/invoke/VarHandle" ∧ (parseMethodDescriptor y_W_labelBelow.desc).map (fun d => d.parameters.length) = some 2 := by decide +kernel
theorem hd_M_init : y_M_init.cls = R_M ∧ y_M_init.cls ≠ "java/lang/invoke/MethodHandle" ∧ y_M_init.cls ≠ "java/lang/invoke/VarHandle" ∧ (parseMethodDescriptor y_M_init.desc).map (fun d => d.parameters.length) = some 0 := by decide +kernel
theorem hd_M_strands : y_M_strands.cls = R_M ∧ y_M_strands.cls ≠ "java/lang/invoke/MethodHandle" ∧ y_M_strands.cls ≠ "java/lang/invoke/VarHandle" ∧ (parseMethodDescriptor y_M_strands.desc).map (fun d => d.parameters.length) = some 2 := by decide +kernel
theorem hd_M_isSlot : y_M_isSlot.cls = R_M ∧ y_M_isSlot.cls ≠ "java/lang/invoke/MethodHandle" ∧ y_M_isSlot.cls ≠ "java/lang/invoke/VarHandle" ∧ (parseMethodDescriptor y_M_isSlot.desc).map (fun d => d.parameters.length) = some 1 := by decide +kernel
theorem hd_M_letter : y_M_letter.cls = R_M ∧ y_M_letter.cls ≠ "java/lang/invoke/MethodHandle" ∧ y_M_letter.cls ≠ "java/lang/invoke/VarHandle" ∧ (parseMethodDescriptor y_M_letter.desc).map (fun d => d.parameters.length) = some 2 := by decide +kernel
theorem hd_M_copy : y_M_copy.cls = R_M ∧ y_M_copy.cls ≠ "java/lang/invoke/MethodHandle" ∧ y_M_copy.cls ≠ "java/lang/invoke/VarHandle" ∧ (parseMethodDescriptor y_M_copy.desc).map (fun d => d.parameters.length) = some 3 := by decide +kernel
theorem hd_M_letterAt : y_M_letterAt.cls = R_M ∧ y_M_letterAt.cls ≠ "java/lang/invoke/MethodHandle" ∧ y_M_letterAt.cls ≠ "java/lang/invoke/VarHandle" ∧ (parseMethodDescriptor y_M_letterAt.desc).map (fun d => d.parameters.length) = some 2 := by decide +kernel
theorem hd_M_end : y_M_end.cls = R_M ∧ y_M_end.cls ≠ "java/lang/invoke/MethodHandle" ∧ y_M_end.cls ≠ "java/lang/invoke/VarHandle" ∧ (parseMethodDescriptor y_M_end.desc).map (fun d => d.parameters.length) = some 2 := by decide +kernel
theorem hd_M_endOf : y_M_endOf.cls = R_M ∧ y_M_endOf.cls ≠ "java/lang/invoke/MethodHandle" ∧ y_M_endOf.cls ≠ "java/lang/invoke/VarHandle" ∧ (parseMethodDescriptor y_M_endOf.desc).map (fun d => d.parameters.length) = some 2 := by decide +kernel
theorem hd_M_value : y_M_value.cls = R_M ∧ y_M_value.cls ≠ "java/lang/invoke/MethodHandle" ∧ y_M_value.cls ≠ "java/lang/invoke/VarHandle" ∧ (parseMethodDescriptor y_M_value.desc).map (fun d => d.parameters.length) = some 1 := by decide +kernel
theorem hd_M_many : y_M_many.cls = R_M ∧ y_M_many.cls ≠ "java/lang/invoke/MethodHandle" ∧ y_M_many.cls ≠ "java/lang/invoke/VarHandle" ∧ (parseMethodDescriptor y_M_many.desc).map (fun d => d.parameters.length) = some 2 := by decide +kernel
theorem hd_M_signs : y_M_signs.cls = R_M ∧ y_M_signs.cls ≠ "java/lang/invoke/MethodHandle" ∧ y_M_signs.cls ≠ "java/lang/invoke/VarHandle" ∧ (parseMethodDescriptor y_M_signs.desc).map (fun d => d.parameters.length) = some 1 := by decide +kernel
theorem hd_M_rounds : y_M_rounds.cls = R_M ∧ y_M_rounds.cls ≠ "java/lang/invoke/MethodHandle" ∧ y_M_rounds.cls ≠ "java/lang/invoke/VarHandle" ∧ (parseMethodDescriptor y_M_rounds.desc).map (fun d => d.parameters.length) = some 1 := by decide +kernel
theorem hd_M_untouched : y_M_untouched.cls = R_M ∧ y_M_untouched.cls ≠ "java/lang/invoke/MethodHandle" ∧ y_M_untouched.cls ≠ "java/lang/invoke/VarHandle" ∧ (parseMethodDescriptor y_M_untouched.desc).map (fun d => d.parameters.length) = some 1 := by decide +kernel
theorem hd_M_at : y_M_at.cls = R_M ∧ y_M_at.cls ≠ "java/lang/invoke/MethodHandle" ∧ y_M_at.cls ≠ "java/lang/invoke/VarHandle" ∧ (parseMethodDescriptor y_M_at.desc).map (fun d => d.parameters.length) = some 2 := by decide +kernel
theorem hd_M_reduce : y_M_reduce.cls = R_M ∧ y_M_reduce.cls ≠ "java/lang/invoke/MethodHandle" ∧ y_M_reduce.cls ≠ "java/lang/invoke/VarHandle" ∧ (parseMethodDescriptor y_M_reduce.desc).map (fun d => d.parameters.length) = some 2 := by decide +kernel
theorem hd_M_remove : y_M_remove.cls = R_M ∧ y_M_remove.cls ≠ "java/lang/invoke/MethodHandle" ∧ y_M_remove.cls ≠ "java/lang/invoke/VarHandle" ∧ (parseMethodDescriptor y_M_remove.desc).map (fun d => d.parameters.length) = some 2 := by decide +kernel
theorem hd_M_round : y_M_round.cls = R_M ∧ y_M_round.cls ≠ "java/lang/invoke/MethodHandle" ∧ y_M_round.cls ≠ "java/lang/invoke/VarHandle" ∧ (parseMethodDescriptor y_M_round.desc).map (fun d => d.parameters.length) = some 2 := by decide +kernel
theorem hd_M_exchange : y_M_exchange.cls = R_M ∧ y_M_exchange.cls ≠ "java/lang/invoke/MethodHandle" ∧ y_M_exchange.cls ≠ "java/lang/invoke/VarHandle" ∧ (parseMethodDescriptor y_M_exchange.desc).map (fun d => d.parameters.length) = some 2 := by decide +kernel
theorem hd_M_pass : y_M_pass.cls = R_M ∧ y_M_pass.cls ≠ "java/lang/invoke/MethodHandle" ∧ y_M_pass.cls ≠ "java/lang/invoke/VarHandle" ∧ (parseMethodDescriptor y_M_pass.desc).map (fun d => d.parameters.length) = some 2 := by decide +kernel
theorem hd_M_grow : y_M_grow.cls = R_M ∧ y_M_grow.cls ≠ "java/lang/invoke/MethodHandle" ∧ y_M_grow.cls ≠ "java/lang/invoke/VarHandle" ∧ (parseMethodDescriptor y_M_grow.desc).map (fun d => d.parameters.length) = some 2 := by decide +kernel
theorem hd_M_shrink : y_M_shrink.cls = R_M ∧ y_M_shrink.cls ≠ "java/lang/invoke/MethodHandle" ∧ y_M_shrink.cls ≠ "java/lang/invoke/VarHandle" ∧ (parseMethodDescriptor y_M_shrink.desc).map (fun d => d.parameters.length) = some 1 := by decide +kernel
theorem hd_M_same : y_M_same.cls = R_M ∧ y_M_same.cls ≠ "java/lang/invoke/MethodHandle" ∧ y_M_same.cls ≠ "java/lang/invoke/VarHandle" ∧ (parseMethodDescriptor y_M_same.desc).map (fun d => d.parameters.length) = some 2 := by decide +kernel
theorem hd_M_know : y_M_know.cls = R_M ∧ y_M_know.cls ≠ "java/lang/invoke/MethodHandle" ∧ y_M_know.cls ≠ "java/lang/invoke/VarHandle" ∧ (parseMethodDescriptor y_M_know.desc).map (fun d => d.parameters.length) = some 1 := by decide +kernel
theorem hd_M_makePositive : y_M_makePositive.cls = R_M ∧ y_M_makePositive.cls ≠ "java/lang/invoke/MethodHandle" ∧ y_M_makePositive.cls ≠ "java/lang/invoke/VarHandle" ∧ (parseMethodDescriptor y_M_makePositive.desc).map (fun d => d.parameters.length) = some 1 := by decide +kernel
theorem hd_M_writeSimple : y_M_writeSimple.cls = R_M ∧ y_M_writeSimple.cls ≠ "java/lang/invoke/MethodHandle" ∧ y_M_writeSimple.cls ≠ "java/lang/invoke/VarHandle" ∧ (parseMethodDescriptor y_M_writeSimple.desc).map (fun d => d.parameters.length) = some 1 := by decide +kernel
theorem hd_M_takeSimple : y_M_takeSimple.cls = R_M ∧ y_M_takeSimple.cls ≠ "java/lang/invoke/MethodHandle" ∧ y_M_takeSimple.cls ≠ "java/lang/invoke/VarHandle" ∧ (parseMethodDescriptor y_M_takeSimple.desc).map (fun d => d.parameters.length) = some 1 := by decide +kernel
theorem hd_M_clearChain : y_M_clearChain.cls = R_M ∧ y_M_clearChain.cls ≠ "java/lang/invoke/MethodHandle" ∧ y_M_clearChain.cls ≠ "java/lang/invoke/VarHandle" ∧ (parseMethodDescriptor y_M_clearChain.desc).map (fun d => d.parameters.length) = some 0 := by decide +kernel
theorem hd_M_writeTurn : y_M_writeTurn.cls = R_M ∧ y_M_writeTurn.cls ≠ "java/lang/invoke/MethodHandle" ∧ y_M_writeTurn.cls ≠ "java/lang/invoke/VarHandle" ∧ (parseMethodDescriptor y_M_writeTurn.desc).map (fun d => d.parameters.length) = some 1 := by decide +kernel
theorem hd_M_insert : y_M_insert.cls = R_M ∧ y_M_insert.cls ≠ "java/lang/invoke/MethodHandle" ∧ y_M_insert.cls ≠ "java/lang/invoke/VarHandle" ∧ (parseMethodDescriptor y_M_insert.desc).map (fun d => d.parameters.length) = some 2 := by decide +kernel
theorem hd_M_turnRight : y_M_turnRight.cls = R_M ∧ y_M_turnRight.cls ≠ "java/lang/invoke/MethodHandle" ∧ y_M_turnRight.cls ≠ "java/lang/invoke/VarHandle" ∧ (parseMethodDescriptor y_M_turnRight.desc).map (fun d => d.parameters.length) = some 0 := by decide +kernel
theorem hd_M_take : y_M_take.cls = R_M ∧ y_M_take.cls ≠ "java/lang/invoke/MethodHandle" ∧ y_M_take.cls ≠ "java/lang/invoke/VarHandle" ∧ (parseMethodDescriptor y_M_take.desc).map (fun d => d.parameters.length) = some 1 := by decide +kernel
theorem hd_M_isNear : y_M_isNear.cls = R_M ∧ y_M_isNear.cls ≠ "java/lang/invoke/MethodHandle" ∧ y_M_isNear.cls ≠ "java/lang/invoke/VarHandle" ∧ (parseMethodDescriptor y_M_isNear.desc).map (fun d => d.parameters.length) = some 2 := by decide +kernel
theorem hd_M_turnLeft : y_M_turnLeft.cls = R_M ∧ y_M_turnLeft.cls ≠ "java/lang/invoke/MethodHandle" ∧ y_M_turnLeft.cls ≠ "java/lang/invoke/VarHandle" ∧ (parseMethodDescriptor y_M_turnLeft.desc).map (fun d => d.parameters.length) = some 0 := by decide +kernel
theorem hd_M_form : y_M_form.cls = R_M ∧ y_M_form.cls ≠ "java/lang/invoke/MethodHandle" ∧ y_M_form.cls ≠ "java/lang/invoke/VarHandle" ∧ (parseMethodDescriptor y_M_form.desc).map (fun d => d.parameters.length) = some 3 := by decide +kernel
theorem hd_M_length : y_M_length.cls = R_M ∧ y_M_length.cls ≠ "java/lang/invoke/MethodHandle" ∧ y_M_length.cls ≠ "java/lang/invoke/VarHandle" ∧ (parseMethodDescriptor y_M_length.desc).map (fun d => d.parameters.length) = some 1 := by decide +kernel
theorem hd_M_crossing : y_M_crossing.cls = R_M ∧ y_M_crossing.cls ≠ "java/lang/invoke/MethodHandle" ∧ y_M_crossing.cls ≠ "java/lang/invoke/VarHandle" ∧ (parseMethodDescriptor y_M_crossing.desc).map (fun d => d.parameters.length) = some 3 := by decide +kernel
theorem hd_M_close : y_M_close.cls = R_M ∧ y_M_close.cls ≠ "java/lang/invoke/MethodHandle" ∧ y_M_close.cls ≠ "java/lang/invoke/VarHandle" ∧ (parseMethodDescriptor y_M_close.desc).map (fun d => d.parameters.length) = some 1 := by decide +kernel
theorem se_W_canPass : Cond.selects R_W y_W_canPass y_W_canPass ∈ G0 := by decide +kernel
theorem se_B_formOf : Cond.selects R_B y_B_formOf y_B_formOf ∈ G0 := by decide +kernel
theorem se_N_appendSimple : Cond.selects R_N y_N_appendSimple y_N_appendSimple ∈ G0 := by decide +kernel
theorem se_N_settle : Cond.selects R_N y_N_settle y_N_settle ∈ G0 := by decide +kernel
theorem se_N_moveOver : Cond.selects R_N y_N_moveOver y_N_moveOver ∈ G0 := by decide +kernel
theorem se_N_sweepOver : Cond.selects R_N y_N_sweepOver y_N_sweepOver ∈ G0 := by decide +kernel
theorem se_N_isTurn : Cond.selects R_N y_N_isTurn y_N_isTurn ∈ G0 := by decide +kernel
theorem se_N_isNone : Cond.selects R_N y_N_isNone y_N_isNone ∈ G0 := by decide +kernel
theorem se_W_labelAbove : Cond.selects R_W y_W_labelAbove y_W_labelAbove ∈ G0 := by decide +kernel
theorem se_W_madeLabel : Cond.selects R_W y_W_madeLabel y_W_madeLabel ∈ G0 := by decide +kernel
theorem se_W_labelBelow : Cond.selects R_W y_W_labelBelow y_W_labelBelow ∈ G0 := by decide +kernel
theorem se_M_letterAt : Cond.selects R_M y_M_letterAt y_M_letterAt ∈ G0 := by decide +kernel
theorem se_M_endOf : Cond.selects R_M y_M_endOf y_M_endOf ∈ G0 := by decide +kernel
theorem se_M_signs : Cond.selects R_M y_M_signs y_M_signs ∈ G0 := by decide +kernel
theorem se_M_rounds : Cond.selects R_M y_M_rounds y_M_rounds ∈ G0 := by decide +kernel
theorem se_M_untouched : Cond.selects R_M y_M_untouched y_M_untouched ∈ G0 := by decide +kernel
theorem se_M_remove : Cond.selects R_M y_M_remove y_M_remove ∈ G0 := by decide +kernel
theorem se_M_know : Cond.selects R_M y_M_know y_M_know ∈ G0 := by decide +kernel
theorem se_M_makePositive : Cond.selects R_M y_M_makePositive y_M_makePositive ∈ G0 := by decide +kernel
theorem se_M_writeSimple : Cond.selects R_M y_M_writeSimple y_M_writeSimple ∈ G0 := by decide +kernel
theorem se_M_takeSimple : Cond.selects R_M y_M_takeSimple y_M_takeSimple ∈ G0 := by decide +kernel
theorem se_M_clearChain : Cond.selects R_M y_M_clearChain y_M_clearChain ∈ G0 := by decide +kernel
theorem se_M_writeTurn : Cond.selects R_M y_M_writeTurn y_M_writeTurn ∈ G0 := by decide +kernel
theorem se_M_insert : Cond.selects R_M y_M_insert y_M_insert ∈ G0 := by decide +kernel
theorem se_M_turnRight : Cond.selects R_M y_M_turnRight y_M_turnRight ∈ G0 := by decide +kernel
theorem se_M_take : Cond.selects R_M y_M_take y_M_take ∈ G0 := by decide +kernel
theorem se_M_turnLeft : Cond.selects R_M y_M_turnLeft y_M_turnLeft ∈ G0 := by decide +kernel
theorem se_M_close : Cond.selects R_M y_M_close y_M_close ∈ G0 := by decide +kernel
end
section
theorem d_W_init_0 : decode b_W_init 0 = .ok (.aload_n 0, 1) := by decide +kernel
theorem d_W_init_1 : decode b_W_init 1 = .ok (.invokespecial 3, 3) := by decide +kernel
theorem d_W_init_4 : decode b_W_init 4 = .ok (.aload_n 0, 1) := by decide +kernel
theorem d_W_init_5 : decode b_W_init 5 = .ok (.bipush 32, 2) := by decide +kernel
theorem d_W_init_7 : decode b_W_init 7 = .ok (.newarray .int, 2) := by decide +kernel
theorem d_W_init_9 : decode b_W_init 9 = .ok (.putfield 9, 3) := by decide +kernel
theorem d_W_init_12 : decode b_W_init 12 = .ok (.aload_n 0, 1) := by decide +kernel
theorem d_W_init_13 : decode b_W_init 13 = .ok (.iconst 1, 1) := by decide +kernel
theorem d_W_init_14 : decode b_W_init 14 = .ok (.putfield 15, 3) := by decide +kernel
theorem d_W_init_17 : decode b_W_init 17 = .ok (.aload_n 0, 1) := by decide +kernel
theorem d_W_init_18 : decode b_W_init 18 = .ok (.iconst 0, 1) := by decide +kernel
theorem d_W_init_19 : decode b_W_init 19 = .ok (.putfield 19, 3) := by decide +kernel
theorem d_W_init_22 : decode b_W_init 22 = .ok (.return_, 1) := by decide +kernel
theorem d_W_clear_0 : decode b_W_clear 0 = .ok (.aload_n 0, 1) := by decide +kernel
theorem d_W_clear_1 : decode b_W_clear 1 = .ok (.iload_n 1, 1) := by decide +kernel
theorem d_W_clear_2 : decode b_W_clear 2 = .ok (.putfield 15, 3) := by decide +kernel
theorem d_W_clear_5 : decode b_W_clear 5 = .ok (.aload_n 0, 1) := by decide +kernel
theorem d_W_clear_6 : decode b_W_clear 6 = .ok (.iconst 0, 1) := by decide +kernel
theorem d_W_clear_7 : decode b_W_clear 7 = .ok (.putfield 19, 3) := by decide +kernel
theorem d_W_clear_10 : decode b_W_clear 10 = .ok (.return_, 1) := by decide +kernel
theorem d_W_append_0 : decode b_W_append 0 = .ok (.iload_n 1, 1) := by decide +kernel
theorem d_W_append_1 : decode b_W_append 1 = .ok (.ifCond .eq 29, 3) := by decide +kernel
theorem d_W_append_4 : decode b_W_append 4 = .ok (.iload_n 1, 1) := by decide +kernel
theorem d_W_append_5 : decode b_W_append 5 = .ok (.aload_n 0, 1) := by decide +kernel
theorem d_W_append_6 : decode b_W_append 6 = .ok (.getfield 15, 3) := by decide +kernel
theorem d_W_append_9 : decode b_W_append 9 = .ok (.ineg, 1) := by decide +kernel
theorem d_W_append_10 : decode b_W_append 10 = .ok (.if_icmp .le 20, 3) := by decide +kernel
theorem d_W_append_13 : decode b_W_append 13 = .ok (.iload_n 1, 1) := by decide +kernel
theorem d_W_append_14 : decode b_W_append 14 = .ok (.aload_n 0, 1) := by decide +kernel
theorem d_W_append_15 : decode b_W_append 15 = .ok (.getfield 15, 3) := by decide +kernel
theorem d_W_append_18 : decode b_W_append 18 = .ok (.if_icmp .ge 12, 3) := by decide +kernel
theorem d_W_append_21 : decode b_W_append 21 = .ok (.aload_n 0, 1) := by decide +kernel
theorem d_W_append_22 : decode b_W_append 22 = .ok (.getfield 19, 3) := by decide +kernel
theorem d_W_append_25 : decode b_W_append 25 = .ok (.bipush 32, 2) := by decide +kernel
theorem d_W_append_27 : decode b_W_append 27 = .ok (.if_icmp .lt 5, 3) := by decide +kernel
theorem d_W_append_30 : decode b_W_append 30 = .ok (.iconst 0, 1) := by decide +kernel
theorem d_W_append_31 : decode b_W_append 31 = .ok (.ireturn, 1) := by decide +kernel
theorem d_W_append_32 : decode b_W_append 32 = .ok (.aload_n 0, 1) := by decide +kernel
theorem d_W_append_33 : decode b_W_append 33 = .ok (.getfield 9, 3) := by decide +kernel
theorem d_W_append_36 : decode b_W_append 36 = .ok (.aload_n 0, 1) := by decide +kernel
theorem d_W_append_37 : decode b_W_append 37 = .ok (.getfield 19, 3) := by decide +kernel
theorem d_W_append_40 : decode b_W_append 40 = .ok (.iload_n 1, 1) := by decide +kernel
theorem d_W_append_41 : decode b_W_append 41 = .ok (.iastore, 1) := by decide +kernel
theorem d_W_append_42 : decode b_W_append 42 = .ok (.aload_n 0, 1) := by decide +kernel
theorem d_W_append_43 : decode b_W_append 43 = .ok (.dup, 1) := by decide +kernel
theorem d_W_append_44 : decode b_W_append 44 = .ok (.getfield 19, 3) := by decide +kernel
theorem d_W_append_47 : decode b_W_append 47 = .ok (.iconst 1, 1) := by decide +kernel
theorem d_W_append_48 : decode b_W_append 48 = .ok (.iadd, 1) := by decide +kernel
theorem d_W_append_49 : decode b_W_append 49 = .ok (.putfield 19, 3) := by decide +kernel
theorem d_W_append_52 : decode b_W_append 52 = .ok (.iconst 1, 1) := by decide +kernel
theorem d_W_append_53 : decode b_W_append 53 = .ok (.ireturn, 1) := by decide +kernel
theorem d_W_take_0 : decode b_W_take 0 = .ok (.aload_n 0, 1) := by decide +kernel
theorem d_W_take_1 : decode b_W_take 1 = .ok (.aload_n 1, 1) := by decide +kernel
theorem d_W_take_2 : decode b_W_take 2 = .ok (.getfield 15, 3) := by decide +kernel
theorem d_W_take_5 : decode b_W_take 5 = .ok (.putfield 15, 3) := by decide +kernel
theorem d_W_take_8 : decode b_W_take 8 = .ok (.aload_n 0, 1) := by decide +kernel
theorem d_W_take_9 : decode b_W_take 9 = .ok (.aload_n 1, 1) := by decide +kernel
theorem d_W_take_10 : decode b_W_take 10 = .ok (.getfield 19, 3) := by decide +kernel
theorem d_W_take_13 : decode b_W_take 13 = .ok (.putfield 19, 3) := by decide +kernel
theorem d_W_take_16 : decode b_W_take 16 = .ok (.aload_n 1, 1) := by decide +kernel
theorem d_W_take_17 : decode b_W_take 17 = .ok (.getfield 9, 3) := by decide +kernel
theorem d_W_take_20 : decode b_W_take 20 = .ok (.iconst 0, 1) := by decide +kernel
theorem d_W_take_21 : decode b_W_take 21 = .ok (.aload_n 0, 1) := by decide +kernel
theorem d_W_take_22 : decode b_W_take 22 = .ok (.getfield 9, 3) := by decide +kernel
theorem d_W_take_25 : decode b_W_take 25 = .ok (.iconst 0, 1) := by decide +kernel
theorem d_W_take_26 : decode b_W_take 26 = .ok (.aload_n 0, 1) := by decide +kernel
theorem d_W_take_27 : decode b_W_take 27 = .ok (.getfield 19, 3) := by decide +kernel
theorem d_W_take_30 : decode b_W_take 30 = .ok (.invokestatic 22, 3) := by decide +kernel
theorem d_W_take_33 : decode b_W_take 33 = .ok (.return_, 1) := by decide +kernel
theorem d_W_equalTo_0 : decode b_W_equalTo 0 = .ok (.aload_n 0, 1) := by decide +kernel
theorem d_W_equalTo_1 : decode b_W_equalTo 1 = .ok (.getfield 15, 3) := by decide +kernel
theorem d_W_equalTo_4 : decode b_W_equalTo 4 = .ok (.aload_n 1, 1) := by decide +kernel
theorem d_W_equalTo_5 : decode b_W_equalTo 5 = .ok (.getfield 15, 3) := by decide +kernel
theorem d_W_equalTo_8 : decode b_W_equalTo 8 = .ok (.if_icmp .ne 14, 3) := by decide +kernel
theorem d_W_equalTo_11 : decode b_W_equalTo 11 = .ok (.aload_n 0, 1) := by decide +kernel
theorem d_W_equalTo_12 : decode b_W_equalTo 12 = .ok (.getfield 19, 3) := by decide +kernel
theorem d_W_equalTo_15 : decode b_W_equalTo 15 = .ok (.aload_n 1, 1) := by decide +kernel
theorem d_W_equalTo_16 : decode b_W_equalTo 16 = .ok (.getfield 19, 3) := by decide +kernel
theorem d_W_equalTo_19 : decode b_W_equalTo 19 = .ok (.if_icmp .eq 5, 3) := by decide +kernel
theorem d_W_equalTo_22 : decode b_W_equalTo 22 = .ok (.iconst 0, 1) := by decide +kernel
theorem d_W_equalTo_23 : decode b_W_equalTo 23 = .ok (.ireturn, 1) := by decide +kernel
theorem d_W_equalTo_24 : decode b_W_equalTo 24 = .ok (.iconst 0, 1) := by decide +kernel
theorem d_W_equalTo_25 : decode b_W_equalTo 25 = .ok (.istore_n 2, 1) := by decide +kernel
theorem d_W_equalTo_26 : decode b_W_equalTo 26 = .ok (.iload_n 2, 1) := by decide +kernel
theorem d_W_equalTo_27 : decode b_W_equalTo 27 = .ok (.aload_n 0, 1) := by decide +kernel
theorem d_W_equalTo_28 : decode b_W_equalTo 28 = .ok (.getfield 19, 3) := by decide +kernel
theorem d_W_equalTo_31 : decode b_W_equalTo 31 = .ok (.if_icmp .ge 26, 3) := by decide +kernel
theorem d_W_equalTo_34 : decode b_W_equalTo 34 = .ok (.aload_n 0, 1) := by decide +kernel
theorem d_W_equalTo_35 : decode b_W_equalTo 35 = .ok (.getfield 9, 3) := by decide +kernel
theorem d_W_equalTo_38 : decode b_W_equalTo 38 = .ok (.iload_n 2, 1) := by decide +kernel
theorem d_W_equalTo_39 : decode b_W_equalTo 39 = .ok (.iaload, 1) := by decide +kernel
theorem d_W_equalTo_40 : decode b_W_equalTo 40 = .ok (.aload_n 1, 1) := by decide +kernel
theorem d_W_equalTo_41 : decode b_W_equalTo 41 = .ok (.getfield 9, 3) := by decide +kernel
theorem d_W_equalTo_44 : decode b_W_equalTo 44 = .ok (.iload_n 2, 1) := by decide +kernel
theorem d_W_equalTo_45 : decode b_W_equalTo 45 = .ok (.iaload, 1) := by decide +kernel
theorem d_W_equalTo_46 : decode b_W_equalTo 46 = .ok (.if_icmp .eq 5, 3) := by decide +kernel
theorem d_W_equalTo_49 : decode b_W_equalTo 49 = .ok (.iconst 0, 1) := by decide +kernel
theorem d_W_equalTo_50 : decode b_W_equalTo 50 = .ok (.ireturn, 1) := by decide +kernel
theorem d_W_equalTo_51 : decode b_W_equalTo 51 = .ok (.iinc 2 1, 3) := by decide +kernel
theorem d_W_equalTo_54 : decode b_W_equalTo 54 = .ok (.goto (-28), 3) := by decide +kernel
theorem d_W_equalTo_57 : decode b_W_equalTo 57 = .ok (.iconst 1, 1) := by decide +kernel
theorem d_W_equalTo_58 : decode b_W_equalTo 58 = .ok (.ireturn, 1) := by decide +kernel
theorem d_W_invert_0 : decode b_W_invert 0 = .ok (.iconst 0, 1) := by decide +kernel
theorem d_W_invert_1 : decode b_W_invert 1 = .ok (.istore_n 1, 1) := by decide +kernel
theorem d_W_invert_2 : decode b_W_invert 2 = .ok (.aload_n 0, 1) := by decide +kernel
theorem d_W_invert_3 : decode b_W_invert 3 = .ok (.getfield 19, 3) := by decide +kernel
theorem d_W_invert_6 : decode b_W_invert 6 = .ok (.iconst 1, 1) := by decide +kernel
theorem d_W_invert_7 : decode b_W_invert 7 = .ok (.isub, 1) := by decide +kernel
theorem d_W_invert_8 : decode b_W_invert 8 = .ok (.istore_n 2, 1) := by decide +kernel
theorem d_W_invert_9 : decode b_W_invert 9 = .ok (.iload_n 1, 1) := by decide +kernel
theorem d_W_invert_10 : decode b_W_invert 10 = .ok (.iload_n 2, 1) := by decide +kernel
theorem d_W_invert_11 : decode b_W_invert 11 = .ok (.if_icmp .gt 40, 3) := by decide +kernel
theorem d_W_invert_14 : decode b_W_invert 14 = .ok (.aload_n 0, 1) := by decide +kernel
theorem d_W_invert_15 : decode b_W_invert 15 = .ok (.getfield 9, 3) := by decide +kernel
theorem d_W_invert_18 : decode b_W_invert 18 = .ok (.iload_n 1, 1) := by decide +kernel
theorem d_W_invert_19 : decode b_W_invert 19 = .ok (.iaload, 1) := by decide +kernel
theorem d_W_invert_20 : decode b_W_invert 20 = .ok (.istore_n 3, 1) := by decide +kernel
theorem d_W_invert_21 : decode b_W_invert 21 = .ok (.aload_n 0, 1) := by decide +kernel
theorem d_W_invert_22 : decode b_W_invert 22 = .ok (.getfield 9, 3) := by decide +kernel
theorem d_W_invert_25 : decode b_W_invert 25 = .ok (.iload_n 1, 1) := by decide +kernel
theorem d_W_invert_26 : decode b_W_invert 26 = .ok (.aload_n 0, 1) := by decide +kernel
theorem d_W_invert_27 : decode b_W_invert 27 = .ok (.getfield 9, 3) := by decide +kernel
theorem d_W_invert_30 : decode b_W_invert 30 = .ok (.iload_n 2, 1) := by decide +kernel
theorem d_W_invert_31 : decode b_W_invert 31 = .ok (.iaload, 1) := by decide +kernel
theorem d_W_invert_32 : decode b_W_invert 32 = .ok (.ineg, 1) := by decide +kernel
theorem d_W_invert_33 : decode b_W_invert 33 = .ok (.iastore, 1) := by decide +kernel
theorem d_W_invert_34 : decode b_W_invert 34 = .ok (.aload_n 0, 1) := by decide +kernel
theorem d_W_invert_35 : decode b_W_invert 35 = .ok (.getfield 9, 3) := by decide +kernel
theorem d_W_invert_38 : decode b_W_invert 38 = .ok (.iload_n 2, 1) := by decide +kernel
theorem d_W_invert_39 : decode b_W_invert 39 = .ok (.iload_n 3, 1) := by decide +kernel
theorem d_W_invert_40 : decode b_W_invert 40 = .ok (.ineg, 1) := by decide +kernel
theorem d_W_invert_41 : decode b_W_invert 41 = .ok (.iastore, 1) := by decide +kernel
theorem d_W_invert_42 : decode b_W_invert 42 = .ok (.iinc 1 1, 3) := by decide +kernel
theorem d_W_invert_45 : decode b_W_invert 45 = .ok (.iinc 2 (-1), 3) := by decide +kernel
theorem d_W_invert_48 : decode b_W_invert 48 = .ok (.goto (-39), 3) := by decide +kernel
theorem d_W_invert_51 : decode b_W_invert 51 = .ok (.return_, 1) := by decide +kernel
theorem d_W_hasPlace_0 : decode b_W_hasPlace 0 = .ok (.iload_n 1, 1) := by decide +kernel
theorem d_W_hasPlace_1 : decode b_W_hasPlace 1 = .ok (.iconst 1, 1) := by decide +kernel
theorem d_W_hasPlace_2 : decode b_W_hasPlace 2 = .ok (.if_icmp .lt 15, 3) := by decide +kernel
theorem d_W_hasPlace_5 : decode b_W_hasPlace 5 = .ok (.iload_n 1, 1) := by decide +kernel
theorem d_W_hasPlace_6 : decode b_W_hasPlace 6 = .ok (.aload_n 0, 1) := by decide +kernel
theorem d_W_hasPlace_7 : decode b_W_hasPlace 7 = .ok (.getfield 15, 3) := by decide +kernel
theorem d_W_hasPlace_10 : decode b_W_hasPlace 10 = .ok (.if_icmp .gt 7, 3) := by decide +kernel
theorem d_W_hasPlace_13 : decode b_W_hasPlace 13 = .ok (.iconst 1, 1) := by decide +kernel
theorem d_W_hasPlace_14 : decode b_W_hasPlace 14 = .ok (.goto 4, 3) := by decide +kernel
theorem d_W_hasPlace_17 : decode b_W_hasPlace 17 = .ok (.iconst 0, 1) := by decide +kernel
theorem d_W_hasPlace_18 : decode b_W_hasPlace 18 = .ok (.ireturn, 1) := by decide +kernel
theorem d_W_hasLetters_0 : decode b_W_hasLetters 0 = .ok (.iload_n 1, 1) := by decide +kernel
theorem d_W_hasLetters_1 : decode b_W_hasLetters 1 = .ok (.ifCond .lt 17, 3) := by decide +kernel
theorem d_W_hasLetters_4 : decode b_W_hasLetters 4 = .ok (.iload_n 1, 1) := by decide +kernel
theorem d_W_hasLetters_5 : decode b_W_hasLetters 5 = .ok (.aload_n 0, 1) := by decide +kernel
theorem d_W_hasLetters_6 : decode b_W_hasLetters 6 = .ok (.getfield 19, 3) := by decide +kernel
theorem d_W_hasLetters_9 : decode b_W_hasLetters 9 = .ok (.iload_n 2, 1) := by decide +kernel
theorem d_W_hasLetters_10 : decode b_W_hasLetters 10 = .ok (.isub, 1) := by decide +kernel
theorem d_W_hasLetters_11 : decode b_W_hasLetters 11 = .ok (.if_icmp .gt 7, 3) := by decide +kernel
theorem d_W_hasLetters_14 : decode b_W_hasLetters 14 = .ok (.iconst 1, 1) := by decide +kernel
theorem d_W_hasLetters_15 : decode b_W_hasLetters 15 = .ok (.goto 4, 3) := by decide +kernel
theorem d_W_hasLetters_18 : decode b_W_hasLetters 18 = .ok (.iconst 0, 1) := by decide +kernel
theorem d_W_hasLetters_19 : decode b_W_hasLetters 19 = .ok (.ireturn, 1) := by decide +kernel
theorem d_W_value_0 : decode b_W_value 0 = .ok (.aload_n 0, 1) := by decide +kernel
theorem d_W_value_1 : decode b_W_value 1 = .ok (.getfield 9, 3) := by decide +kernel
theorem d_W_value_4 : decode b_W_value 4 = .ok (.iload_n 1, 1) := by decide +kernel
theorem d_W_value_5 : decode b_W_value 5 = .ok (.iaload, 1) := by decide +kernel
theorem d_W_value_6 : decode b_W_value 6 = .ok (.invokestatic 28, 3) := by decide +kernel
theorem d_W_value_9 : decode b_W_value 9 = .ok (.ireturn, 1) := by decide +kernel
theorem d_W_signSum_0 : decode b_W_signSum 0 = .ok (.iconst 0, 1) := by decide +kernel
theorem d_W_signSum_1 : decode b_W_signSum 1 = .ok (.istore_n 1, 1) := by decide +kernel
theorem d_W_signSum_2 : decode b_W_signSum 2 = .ok (.iconst 0, 1) := by decide +kernel
theorem d_W_signSum_3 : decode b_W_signSum 3 = .ok (.istore_n 2, 1) := by decide +kernel
theorem d_W_signSum_4 : decode b_W_signSum 4 = .ok (.iload_n 2, 1) := by decide +kernel
theorem d_W_signSum_5 : decode b_W_signSum 5 = .ok (.aload_n 0, 1) := by decide +kernel
theorem d_W_signSum_6 : decode b_W_signSum 6 = .ok (.getfield 19, 3) := by decide +kernel
theorem d_W_signSum_9 : decode b_W_signSum 9 = .ok (.if_icmp .ge 21, 3) := by decide +kernel
theorem d_W_signSum_12 : decode b_W_signSum 12 = .ok (.iload_n 1, 1) := by decide +kernel
theorem d_W_signSum_13 : decode b_W_signSum 13 = .ok (.aload_n 0, 1) := by decide +kernel
theorem d_W_signSum_14 : decode b_W_signSum 14 = .ok (.getfield 9, 3) := by decide +kernel
theorem d_W_signSum_17 : decode b_W_signSum 17 = .ok (.iload_n 2, 1) := by decide +kernel
theorem d_W_signSum_18 : decode b_W_signSum 18 = .ok (.iaload, 1) := by decide +kernel
theorem d_W_signSum_19 : decode b_W_signSum 19 = .ok (.invokestatic 34, 3) := by decide +kernel
theorem d_W_signSum_22 : decode b_W_signSum 22 = .ok (.iadd, 1) := by decide +kernel
theorem d_W_signSum_23 : decode b_W_signSum 23 = .ok (.istore_n 1, 1) := by decide +kernel
theorem d_W_signSum_24 : decode b_W_signSum 24 = .ok (.iinc 2 1, 3) := by decide +kernel
theorem d_W_signSum_27 : decode b_W_signSum 27 = .ok (.goto (-23), 3) := by decide +kernel
theorem d_W_signSum_30 : decode b_W_signSum 30 = .ok (.iload_n 1, 1) := by decide +kernel
theorem d_W_signSum_31 : decode b_W_signSum 31 = .ok (.ireturn, 1) := by decide +kernel
theorem d_W_negatives_0 : decode b_W_negatives 0 = .ok (.aload_n 0, 1) := by decide +kernel
theorem d_W_negatives_1 : decode b_W_negatives 1 = .ok (.getfield 19, 3) := by decide +kernel
theorem d_W_negatives_4 : decode b_W_negatives 4 = .ok (.aload_n 0, 1) := by decide +kernel
theorem d_W_negatives_5 : decode b_W_negatives 5 = .ok (.invokevirtual 39, 3) := by decide +kernel
theorem d_W_negatives_8 : decode b_W_negatives 8 = .ok (.isub, 1) := by decide +kernel
theorem d_W_negatives_9 : decode b_W_negatives 9 = .ok (.iconst 2, 1) := by decide +kernel
theorem d_W_negatives_10 : decode b_W_negatives 10 = .ok (.idiv, 1) := by decide +kernel
theorem d_W_negatives_11 : decode b_W_negatives 11 = .ok (.ireturn, 1) := by decide +kernel
theorem d_W_endOf_0 : decode b_W_endOf 0 = .ok (.iload_n 1, 1) := by decide +kernel
theorem d_W_endOf_1 : decode b_W_endOf 1 = .ok (.istore_n 2, 1) := by decide +kernel
theorem d_W_endOf_2 : decode b_W_endOf 2 = .ok (.iconst 0, 1) := by decide +kernel
theorem d_W_endOf_3 : decode b_W_endOf 3 = .ok (.istore_n 3, 1) := by decide +kernel
theorem d_W_endOf_4 : decode b_W_endOf 4 = .ok (.iload_n 3, 1) := by decide +kernel
theorem d_W_endOf_5 : decode b_W_endOf 5 = .ok (.aload_n 0, 1) := by decide +kernel
theorem d_W_endOf_6 : decode b_W_endOf 6 = .ok (.getfield 19, 3) := by decide +kernel
theorem d_W_endOf_9 : decode b_W_endOf 9 = .ok (.if_icmp .ge 38, 3) := by decide +kernel
theorem d_W_endOf_12 : decode b_W_endOf 12 = .ok (.iload_n 2, 1) := by decide +kernel
theorem d_W_endOf_13 : decode b_W_endOf 13 = .ok (.aload_n 0, 1) := by decide +kernel
theorem d_W_endOf_14 : decode b_W_endOf 14 = .ok (.iload_n 3, 1) := by decide +kernel
theorem d_W_endOf_15 : decode b_W_endOf 15 = .ok (.invokevirtual 43, 3) := by decide +kernel
theorem d_W_endOf_18 : decode b_W_endOf 18 = .ok (.if_icmp .ne 9, 3) := by decide +kernel
theorem d_W_endOf_21 : decode b_W_endOf 21 = .ok (.iinc 2 1, 3) := by decide +kernel
theorem d_W_endOf_24 : decode b_W_endOf 24 = .ok (.goto 17, 3) := by decide +kernel
theorem d_W_endOf_27 : decode b_W_endOf 27 = .ok (.iload_n 2, 1) := by decide +kernel
theorem d_W_endOf_28 : decode b_W_endOf 28 = .ok (.aload_n 0, 1) := by decide +kernel
theorem d_W_endOf_29 : decode b_W_endOf 29 = .ok (.iload_n 3, 1) := by decide +kernel
theorem d_W_endOf_30 : decode b_W_endOf 30 = .ok (.invokevirtual 43, 3) := by decide +kernel
theorem d_W_endOf_33 : decode b_W_endOf 33 = .ok (.iconst 1, 1) := by decide +kernel
theorem d_W_endOf_34 : decode b_W_endOf 34 = .ok (.iadd, 1) := by decide +kernel
theorem d_W_endOf_35 : decode b_W_endOf 35 = .ok (.if_icmp .ne 6, 3) := by decide +kernel
theorem d_W_endOf_38 : decode b_W_endOf 38 = .ok (.iinc 2 (-1), 3) := by decide +kernel
theorem d_W_endOf_41 : decode b_W_endOf 41 = .ok (.iinc 3 1, 3) := by decide +kernel
theorem d_W_endOf_44 : decode b_W_endOf 44 = .ok (.goto (-40), 3) := by decide +kernel
theorem d_W_endOf_47 : decode b_W_endOf 47 = .ok (.iload_n 2, 1) := by decide +kernel
theorem d_W_endOf_48 : decode b_W_endOf 48 = .ok (.ireturn, 1) := by decide +kernel
theorem d_W_components_0 : decode b_W_components 0 = .ok (.iconst 0, 1) := by decide +kernel
theorem d_W_components_1 : decode b_W_components 1 = .ok (.istore_n 1, 1) := by decide +kernel
theorem d_W_components_2 : decode b_W_components 2 = .ok (.iconst 0, 1) := by decide +kernel
theorem d_W_components_3 : decode b_W_components 3 = .ok (.istore_n 2, 1) := by decide +kernel
theorem d_W_components_4 : decode b_W_components 4 = .ok (.iconst 1, 1) := by decide +kernel
theorem d_W_components_5 : decode b_W_components 5 = .ok (.istore_n 3, 1) := by decide +kernel
theorem d_W_components_6 : decode b_W_components 6 = .ok (.iload_n 3, 1) := by decide +kernel
theorem d_W_components_7 : decode b_W_components 7 = .ok (.aload_n 0, 1) := by decide +kernel
theorem d_W_components_8 : decode b_W_components 8 = .ok (.getfield 15, 3) := by decide +kernel
theorem d_W_components_11 : decode b_W_components 11 = .ok (.if_icmp .gt 65, 3) := by decide +kernel
theorem d_W_components_14 : decode b_W_components 14 = .ok (.iload_n 2, 1) := by decide +kernel
theorem d_W_components_15 : decode b_W_components 15 = .ok (.iload_n 3, 1) := by decide +kernel
theorem d_W_components_16 : decode b_W_components 16 = .ok (.ishr, 1) := by decide +kernel
theorem d_W_components_17 : decode b_W_components 17 = .ok (.iconst 1, 1) := by decide +kernel
theorem d_W_components_18 : decode b_W_components 18 = .ok (.iand, 1) := by decide +kernel
theorem d_W_components_19 : decode b_W_components 19 = .ok (.ifCond .ne 6, 3) := by decide +kernel
theorem d_W_components_22 : decode b_W_components 22 = .ok (.iinc 1 1, 3) := by decide +kernel
theorem d_W_components_25 : decode b_W_components 25 = .ok (.iload_n 3, 1) := by decide +kernel
theorem d_W_components_26 : decode b_W_components 26 = .ok (.istore 4, 2) := by decide +kernel
theorem d_W_components_28 : decode b_W_components 28 = .ok (.iconst 0, 1) := by decide +kernel
theorem d_W_components_29 : decode b_W_components 29 = .ok (.istore 5, 2) := by decide +kernel
theorem d_W_components_31 : decode b_W_components 31 = .ok (.iload 5, 2) := by decide +kernel
theorem d_W_components_33 : decode b_W_components 33 = .ok (.aload_n 0, 1) := by decide +kernel
theorem d_W_components_34 : decode b_W_components 34 = .ok (.getfield 15, 3) := by decide +kernel
theorem d_W_components_37 : decode b_W_components 37 = .ok (.if_icmp .ge 33, 3) := by decide +kernel
theorem d_W_components_40 : decode b_W_components 40 = .ok (.iload_n 2, 1) := by decide +kernel
theorem d_W_components_41 : decode b_W_components 41 = .ok (.iload 4, 2) := by decide +kernel
theorem d_W_components_43 : decode b_W_components 43 = .ok (.ishr, 1) := by decide +kernel
theorem d_W_components_44 : decode b_W_components 44 = .ok (.iconst 1, 1) := by decide +kernel
theorem d_W_components_45 : decode b_W_components 45 = .ok (.iand, 1) := by decide +kernel
theorem d_W_components_46 : decode b_W_components 46 = .ok (.ifCond .ne 24, 3) := by decide +kernel
theorem d_W_components_49 : decode b_W_components 49 = .ok (.iload_n 2, 1) := by decide +kernel
theorem d_W_components_50 : decode b_W_components 50 = .ok (.iconst 1, 1) := by decide +kernel
theorem d_W_components_51 : decode b_W_components 51 = .ok (.iload 4, 2) := by decide +kernel
theorem d_W_components_53 : decode b_W_components 53 = .ok (.ishl, 1) := by decide +kernel
theorem d_W_components_54 : decode b_W_components 54 = .ok (.ior, 1) := by decide +kernel
theorem d_W_components_55 : decode b_W_components 55 = .ok (.istore_n 2, 1) := by decide +kernel
theorem d_W_components_56 : decode b_W_components 56 = .ok (.aload_n 0, 1) := by decide +kernel
theorem d_W_components_57 : decode b_W_components 57 = .ok (.iload 4, 2) := by decide +kernel
theorem d_W_components_59 : decode b_W_components 59 = .ok (.invokevirtual 46, 3) := by decide +kernel
theorem d_W_components_62 : decode b_W_components 62 = .ok (.istore 4, 2) := by decide +kernel
theorem d_W_components_64 : decode b_W_components 64 = .ok (.iinc 5 1, 3) := by decide +kernel
theorem d_W_components_67 : decode b_W_components 67 = .ok (.goto (-36), 3) := by decide +kernel
theorem d_W_components_70 : decode b_W_components 70 = .ok (.iinc 3 1, 3) := by decide +kernel
theorem d_W_components_73 : decode b_W_components 73 = .ok (.goto (-67), 3) := by decide +kernel
theorem d_W_components_76 : decode b_W_components 76 = .ok (.iload_n 1, 1) := by decide +kernel
theorem d_W_components_77 : decode b_W_components 77 = .ok (.ireturn, 1) := by decide +kernel
theorem d_W_circles_0 : decode b_W_circles 0 = .ok (.iconst 0, 1) := by decide +kernel
theorem d_W_circles_1 : decode b_W_circles 1 = .ok (.istore_n 1, 1) := by decide +kernel
theorem d_W_circles_2 : decode b_W_circles 2 = .ok (.iconst 1, 1) := by decide +kernel
theorem d_W_circles_3 : decode b_W_circles 3 = .ok (.istore_n 2, 1) := by decide +kernel
theorem d_W_circles_4 : decode b_W_circles 4 = .ok (.iload_n 2, 1) := by decide +kernel
theorem d_W_circles_5 : decode b_W_circles 5 = .ok (.aload_n 0, 1) := by decide +kernel
theorem d_W_circles_6 : decode b_W_circles 6 = .ok (.getfield 15, 3) := by decide +kernel
theorem d_W_circles_9 : decode b_W_circles 9 = .ok (.if_icmp .gt 21, 3) := by decide +kernel
theorem d_W_circles_12 : decode b_W_circles 12 = .ok (.aload_n 0, 1) := by decide +kernel
theorem d_W_circles_13 : decode b_W_circles 13 = .ok (.iconst 0, 1) := by decide +kernel
theorem d_W_circles_14 : decode b_W_circles 14 = .ok (.iload_n 2, 1) := by decide +kernel
theorem d_W_circles_15 : decode b_W_circles 15 = .ok (.invokevirtual 49, 3) := by decide +kernel
theorem d_W_circles_18 : decode b_W_circles 18 = .ok (.ifCond .ne 6, 3) := by decide +kernel
theorem d_W_circles_21 : decode b_W_circles 21 = .ok (.iinc 1 1, 3) := by decide +kernel
theorem d_W_circles_24 : decode b_W_circles 24 = .ok (.iinc 2 1, 3) := by decide +kernel
theorem d_W_circles_27 : decode b_W_circles 27 = .ok (.goto (-23), 3) := by decide +kernel
theorem d_W_circles_30 : decode b_W_circles 30 = .ok (.iload_n 1, 1) := by decide +kernel
theorem d_W_circles_31 : decode b_W_circles 31 = .ok (.ireturn, 1) := by decide +kernel
theorem d_W_touches_0 : decode b_W_touches 0 = .ok (.iload_n 2, 1) := by decide +kernel
theorem d_W_touches_1 : decode b_W_touches 1 = .ok (.aload_n 0, 1) := by decide +kernel
theorem d_W_touches_2 : decode b_W_touches 2 = .ok (.iload_n 1, 1) := by decide +kernel
theorem d_W_touches_3 : decode b_W_touches 3 = .ok (.invokevirtual 43, 3) := by decide +kernel
theorem d_W_touches_6 : decode b_W_touches 6 = .ok (.if_icmp .eq 14, 3) := by decide +kernel
theorem d_W_touches_9 : decode b_W_touches 9 = .ok (.iload_n 2, 1) := by decide +kernel
theorem d_W_touches_10 : decode b_W_touches 10 = .ok (.aload_n 0, 1) := by decide +kernel
theorem d_W_touches_11 : decode b_W_touches 11 = .ok (.iload_n 1, 1) := by decide +kernel
theorem d_W_touches_12 : decode b_W_touches 12 = .ok (.invokevirtual 43, 3) := by decide +kernel
theorem d_W_touches_15 : decode b_W_touches 15 = .ok (.iconst 1, 1) := by decide +kernel
theorem d_W_touches_16 : decode b_W_touches 16 = .ok (.iadd, 1) := by decide +kernel
theorem d_W_touches_17 : decode b_W_touches 17 = .ok (.if_icmp .ne 7, 3) := by decide +kernel
theorem d_W_touches_20 : decode b_W_touches 20 = .ok (.iconst 1, 1) := by decide +kernel
theorem d_W_touches_21 : decode b_W_touches 21 = .ok (.goto 4, 3) := by decide +kernel
theorem d_W_touches_24 : decode b_W_touches 24 = .ok (.iconst 0, 1) := by decide +kernel
theorem d_W_touches_25 : decode b_W_touches 25 = .ok (.ireturn, 1) := by decide +kernel
theorem d_W_touchedFrom_0 : decode b_W_touchedFrom 0 = .ok (.iload_n 1, 1) := by decide +kernel
theorem d_W_touchedFrom_1 : decode b_W_touchedFrom 1 = .ok (.istore_n 3, 1) := by decide +kernel
theorem d_W_touchedFrom_2 : decode b_W_touchedFrom 2 = .ok (.iload_n 3, 1) := by decide +kernel
theorem d_W_touchedFrom_3 : decode b_W_touchedFrom 3 = .ok (.aload_n 0, 1) := by decide +kernel
theorem d_W_touchedFrom_4 : decode b_W_touchedFrom 4 = .ok (.getfield 19, 3) := by decide +kernel
theorem d_W_touchedFrom_7 : decode b_W_touchedFrom 7 = .ok (.if_icmp .ge 20, 3) := by decide +kernel
theorem d_W_touchedFrom_10 : decode b_W_touchedFrom 10 = .ok (.aload_n 0, 1) := by decide +kernel
theorem d_W_touchedFrom_11 : decode b_W_touchedFrom 11 = .ok (.iload_n 3, 1) := by decide +kernel
theorem d_W_touchedFrom_12 : decode b_W_touchedFrom 12 = .ok (.iload_n 2, 1) := by decide +kernel
theorem d_W_touchedFrom_13 : decode b_W_touchedFrom 13 = .ok (.invokevirtual 53, 3) := by decide +kernel
theorem d_W_touchedFrom_16 : decode b_W_touchedFrom 16 = .ok (.ifCond .eq 5, 3) := by decide +kernel
theorem d_W_touchedFrom_19 : decode b_W_touchedFrom 19 = .ok (.iconst 1, 1) := by decide +kernel
theorem d_W_touchedFrom_20 : decode b_W_touchedFrom 20 = .ok (.ireturn, 1) := by decide +kernel
theorem d_W_touchedFrom_21 : decode b_W_touchedFrom 21 = .ok (.iinc 3 1, 3) := by decide +kernel
theorem d_W_touchedFrom_24 : decode b_W_touchedFrom 24 = .ok (.goto (-22), 3) := by decide +kernel
theorem d_W_touchedFrom_27 : decode b_W_touchedFrom 27 = .ok (.iconst 0, 1) := by decide +kernel
theorem d_W_touchedFrom_28 : decode b_W_touchedFrom 28 = .ok (.ireturn, 1) := by decide +kernel
theorem d_W_cancelNeighbours_0 : decode b_W_cancelNeighbours 0 = .ok (.iconst 0, 1) := by decide +kernel
theorem d_W_cancelNeighbours_1 : decode b_W_cancelNeighbours 1 = .ok (.istore_n 1, 1) := by decide +kernel
theorem d_W_cancelNeighbours_2 : decode b_W_cancelNeighbours 2 = .ok (.iconst 0, 1) := by decide +kernel
theorem d_W_cancelNeighbours_3 : decode b_W_cancelNeighbours 3 = .ok (.istore_n 2, 1) := by decide +kernel
theorem d_W_cancelNeighbours_4 : decode b_W_cancelNeighbours 4 = .ok (.iload_n 2, 1) := by decide +kernel
theorem d_W_cancelNeighbours_5 : decode b_W_cancelNeighbours 5 = .ok (.aload_n 0, 1) := by decide +kernel
theorem d_W_cancelNeighbours_6 : decode b_W_cancelNeighbours 6 = .ok (.getfield 19, 3) := by decide +kernel
theorem d_W_cancelNeighbours_9 : decode b_W_cancelNeighbours 9 = .ok (.if_icmp .ge 52, 3) := by decide +kernel
theorem d_W_cancelNeighbours_12 : decode b_W_cancelNeighbours 12 = .ok (.iload_n 1, 1) := by decide +kernel
theorem d_W_cancelNeighbours_13 : decode b_W_cancelNeighbours 13 = .ok (.ifCond .le 27, 3) := by decide +kernel
theorem d_W_cancelNeighbours_16 : decode b_W_cancelNeighbours 16 = .ok (.aload_n 0, 1) := by decide +kernel
theorem d_W_cancelNeighbours_17 : decode b_W_cancelNeighbours 17 = .ok (.getfield 9, 3) := by decide +kernel
theorem d_W_cancelNeighbours_20 : decode b_W_cancelNeighbours 20 = .ok (.iload_n 1, 1) := by decide +kernel
theorem d_W_cancelNeighbours_21 : decode b_W_cancelNeighbours 21 = .ok (.iconst 1, 1) := by decide +kernel
theorem d_W_cancelNeighbours_22 : decode b_W_cancelNeighbours 22 = .ok (.isub, 1) := by decide +kernel
theorem d_W_cancelNeighbours_23 : decode b_W_cancelNeighbours 23 = .ok (.iaload, 1) := by decide +kernel
theorem d_W_cancelNeighbours_24 : decode b_W_cancelNeighbours 24 = .ok (.aload_n 0, 1) := by decide +kernel
theorem d_W_cancelNeighbours_25 : decode b_W_cancelNeighbours 25 = .ok (.getfield 9, 3) := by decide +kernel
theorem d_W_cancelNeighbours_28 : decode b_W_cancelNeighbours 28 = .ok (.iload_n 2, 1) := by decide +kernel
theorem d_W_cancelNeighbours_29 : decode b_W_cancelNeighbours 29 = .ok (.iaload, 1) := by decide +kernel
theorem d_W_cancelNeighbours_30 : decode b_W_cancelNeighbours 30 = .ok (.ineg, 1) := by decide +kernel
theorem d_W_cancelNeighbours_31 : decode b_W_cancelNeighbours 31 = .ok (.if_icmp .ne 9, 3) := by decide +kernel
theorem d_W_cancelNeighbours_34 : decode b_W_cancelNeighbours 34 = .ok (.iinc 1 (-1), 3) := by decide +kernel
theorem d_W_cancelNeighbours_37 : decode b_W_cancelNeighbours 37 = .ok (.goto 18, 3) := by decide +kernel
theorem d_W_cancelNeighbours_40 : decode b_W_cancelNeighbours 40 = .ok (.aload_n 0, 1) := by decide +kernel
theorem d_W_cancelNeighbours_41 : decode b_W_cancelNeighbours 41 = .ok (.getfield 9, 3) := by decide +kernel
theorem d_W_cancelNeighbours_44 : decode b_W_cancelNeighbours 44 = .ok (.iload_n 1, 1) := by decide +kernel
theorem d_W_cancelNeighbours_45 : decode b_W_cancelNeighbours 45 = .ok (.aload_n 0, 1) := by decide +kernel
theorem d_W_cancelNeighbours_46 : decode b_W_cancelNeighbours 46 = .ok (.getfield 9, 3) := by decide +kernel
theorem d_W_cancelNeighbours_49 : decode b_W_cancelNeighbours 49 = .ok (.iload_n 2, 1) := by decide +kernel
theorem d_W_cancelNeighbours_50 : decode b_W_cancelNeighbours 50 = .ok (.iaload, 1) := by decide +kernel
theorem d_W_cancelNeighbours_51 : decode b_W_cancelNeighbours 51 = .ok (.iastore, 1) := by decide +kernel
theorem d_W_cancelNeighbours_52 : decode b_W_cancelNeighbours 52 = .ok (.iinc 1 1, 3) := by decide +kernel
theorem d_W_cancelNeighbours_55 : decode b_W_cancelNeighbours 55 = .ok (.iinc 2 1, 3) := by decide +kernel
theorem d_W_cancelNeighbours_58 : decode b_W_cancelNeighbours 58 = .ok (.goto (-54), 3) := by decide +kernel
theorem d_W_cancelNeighbours_61 : decode b_W_cancelNeighbours 61 = .ok (.aload_n 0, 1) := by decide +kernel
theorem d_W_cancelNeighbours_62 : decode b_W_cancelNeighbours 62 = .ok (.iload_n 1, 1) := by decide +kernel
theorem d_W_cancelNeighbours_63 : decode b_W_cancelNeighbours 63 = .ok (.putfield 19, 3) := by decide +kernel
theorem d_W_cancelNeighbours_66 : decode b_W_cancelNeighbours 66 = .ok (.return_, 1) := by decide +kernel
theorem d_W_cancelEnds_0 : decode b_W_cancelEnds 0 = .ok (.iconst 0, 1) := by decide +kernel
theorem d_W_cancelEnds_1 : decode b_W_cancelEnds 1 = .ok (.istore_n 1, 1) := by decide +kernel
theorem d_W_cancelEnds_2 : decode b_W_cancelEnds 2 = .ok (.iload_n 1, 1) := by decide +kernel
theorem d_W_cancelEnds_3 : decode b_W_cancelEnds 3 = .ok (.aload_n 0, 1) := by decide +kernel
theorem d_W_cancelEnds_4 : decode b_W_cancelEnds 4 = .ok (.getfield 19, 3) := by decide +kernel
theorem d_W_cancelEnds_7 : decode b_W_cancelEnds 7 = .ok (.iconst 1, 1) := by decide +kernel
theorem d_W_cancelEnds_8 : decode b_W_cancelEnds 8 = .ok (.isub, 1) := by decide +kernel
theorem d_W_cancelEnds_9 : decode b_W_cancelEnds 9 = .ok (.iload_n 1, 1) := by decide +kernel
theorem d_W_cancelEnds_10 : decode b_W_cancelEnds 10 = .ok (.isub, 1) := by decide +kernel
theorem d_W_cancelEnds_11 : decode b_W_cancelEnds 11 = .ok (.if_icmp .ge 32, 3) := by decide +kernel
theorem d_W_cancelEnds_14 : decode b_W_cancelEnds 14 = .ok (.aload_n 0, 1) := by decide +kernel
theorem d_W_cancelEnds_15 : decode b_W_cancelEnds 15 = .ok (.getfield 9, 3) := by decide +kernel
theorem d_W_cancelEnds_18 : decode b_W_cancelEnds 18 = .ok (.iload_n 1, 1) := by decide +kernel
theorem d_W_cancelEnds_19 : decode b_W_cancelEnds 19 = .ok (.iaload, 1) := by decide +kernel
theorem d_W_cancelEnds_20 : decode b_W_cancelEnds 20 = .ok (.aload_n 0, 1) := by decide +kernel
theorem d_W_cancelEnds_21 : decode b_W_cancelEnds 21 = .ok (.getfield 9, 3) := by decide +kernel
theorem d_W_cancelEnds_24 : decode b_W_cancelEnds 24 = .ok (.aload_n 0, 1) := by decide +kernel
theorem d_W_cancelEnds_25 : decode b_W_cancelEnds 25 = .ok (.getfield 19, 3) := by decide +kernel
theorem d_W_cancelEnds_28 : decode b_W_cancelEnds 28 = .ok (.iconst 1, 1) := by decide +kernel
theorem d_W_cancelEnds_29 : decode b_W_cancelEnds 29 = .ok (.isub, 1) := by decide +kernel
theorem d_W_cancelEnds_30 : decode b_W_cancelEnds 30 = .ok (.iload_n 1, 1) := by decide +kernel
theorem d_W_cancelEnds_31 : decode b_W_cancelEnds 31 = .ok (.isub, 1) := by decide +kernel
theorem d_W_cancelEnds_32 : decode b_W_cancelEnds 32 = .ok (.iaload, 1) := by decide +kernel
theorem d_W_cancelEnds_33 : decode b_W_cancelEnds 33 = .ok (.ineg, 1) := by decide +kernel
theorem d_W_cancelEnds_34 : decode b_W_cancelEnds 34 = .ok (.if_icmp .ne 9, 3) := by decide +kernel
theorem d_W_cancelEnds_37 : decode b_W_cancelEnds 37 = .ok (.iinc 1 1, 3) := by decide +kernel
theorem d_W_cancelEnds_40 : decode b_W_cancelEnds 40 = .ok (.goto (-38), 3) := by decide +kernel
theorem d_W_cancelEnds_43 : decode b_W_cancelEnds 43 = .ok (.aload_n 0, 1) := by decide +kernel
theorem d_W_cancelEnds_44 : decode b_W_cancelEnds 44 = .ok (.dup, 1) := by decide +kernel
theorem d_W_cancelEnds_45 : decode b_W_cancelEnds 45 = .ok (.getfield 19, 3) := by decide +kernel
theorem d_W_cancelEnds_48 : decode b_W_cancelEnds 48 = .ok (.iconst 2, 1) := by decide +kernel
theorem d_W_cancelEnds_49 : decode b_W_cancelEnds 49 = .ok (.iload_n 1, 1) := by decide +kernel
theorem d_W_cancelEnds_50 : decode b_W_cancelEnds 50 = .ok (.imul, 1) := by decide +kernel
theorem d_W_cancelEnds_51 : decode b_W_cancelEnds 51 = .ok (.isub, 1) := by decide +kernel
theorem d_W_cancelEnds_52 : decode b_W_cancelEnds 52 = .ok (.putfield 19, 3) := by decide +kernel
theorem d_W_cancelEnds_55 : decode b_W_cancelEnds 55 = .ok (.aload_n 0, 1) := by decide +kernel
theorem d_W_cancelEnds_56 : decode b_W_cancelEnds 56 = .ok (.getfield 9, 3) := by decide +kernel
theorem d_W_cancelEnds_59 : decode b_W_cancelEnds 59 = .ok (.iload_n 1, 1) := by decide +kernel
theorem d_W_cancelEnds_60 : decode b_W_cancelEnds 60 = .ok (.aload_n 0, 1) := by decide +kernel
theorem d_W_cancelEnds_61 : decode b_W_cancelEnds 61 = .ok (.getfield 9, 3) := by decide +kernel
theorem d_W_cancelEnds_64 : decode b_W_cancelEnds 64 = .ok (.iconst 0, 1) := by decide +kernel
theorem d_W_cancelEnds_65 : decode b_W_cancelEnds 65 = .ok (.aload_n 0, 1) := by decide +kernel
theorem d_W_cancelEnds_66 : decode b_W_cancelEnds 66 = .ok (.getfield 19, 3) := by decide +kernel
theorem d_W_cancelEnds_69 : decode b_W_cancelEnds 69 = .ok (.invokestatic 22, 3) := by decide +kernel
theorem d_W_cancelEnds_72 : decode b_W_cancelEnds 72 = .ok (.return_, 1) := by decide +kernel
theorem d_W_firstToBack_0 : decode b_W_firstToBack 0 = .ok (.aload_n 0, 1) := by decide +kernel
theorem d_W_firstToBack_1 : decode b_W_firstToBack 1 = .ok (.getfield 19, 3) := by decide +kernel
theorem d_W_firstToBack_4 : decode b_W_firstToBack 4 = .ok (.ifCond .ne 5, 3) := by decide +kernel
theorem d_W_firstToBack_7 : decode b_W_firstToBack 7 = .ok (.iconst 0, 1) := by decide +kernel
theorem d_W_firstToBack_8 : decode b_W_firstToBack 8 = .ok (.ireturn, 1) := by decide +kernel
theorem d_W_firstToBack_9 : decode b_W_firstToBack 9 = .ok (.aload_n 0, 1) := by decide +kernel
theorem d_W_firstToBack_10 : decode b_W_firstToBack 10 = .ok (.getfield 9, 3) := by decide +kernel
theorem d_W_firstToBack_13 : decode b_W_firstToBack 13 = .ok (.iconst 0, 1) := by decide +kernel
theorem d_W_firstToBack_14 : decode b_W_firstToBack 14 = .ok (.iaload, 1) := by decide +kernel
theorem d_W_firstToBack_15 : decode b_W_firstToBack 15 = .ok (.istore_n 1, 1) := by decide +kernel
theorem d_W_firstToBack_16 : decode b_W_firstToBack 16 = .ok (.aload_n 0, 1) := by decide +kernel
theorem d_W_firstToBack_17 : decode b_W_firstToBack 17 = .ok (.getfield 9, 3) := by decide +kernel
theorem d_W_firstToBack_20 : decode b_W_firstToBack 20 = .ok (.iconst 1, 1) := by decide +kernel
theorem d_W_firstToBack_21 : decode b_W_firstToBack 21 = .ok (.aload_n 0, 1) := by decide +kernel
theorem d_W_firstToBack_22 : decode b_W_firstToBack 22 = .ok (.getfield 9, 3) := by decide +kernel
theorem d_W_firstToBack_25 : decode b_W_firstToBack 25 = .ok (.iconst 0, 1) := by decide +kernel
theorem d_W_firstToBack_26 : decode b_W_firstToBack 26 = .ok (.aload_n 0, 1) := by decide +kernel
theorem d_W_firstToBack_27 : decode b_W_firstToBack 27 = .ok (.getfield 19, 3) := by decide +kernel
theorem d_W_firstToBack_30 : decode b_W_firstToBack 30 = .ok (.iconst 1, 1) := by decide +kernel
theorem d_W_firstToBack_31 : decode b_W_firstToBack 31 = .ok (.isub, 1) := by decide +kernel
theorem d_W_firstToBack_32 : decode b_W_firstToBack 32 = .ok (.invokestatic 22, 3) := by decide +kernel
theorem d_W_firstToBack_35 : decode b_W_firstToBack 35 = .ok (.aload_n 0, 1) := by decide +kernel
theorem d_W_firstToBack_36 : decode b_W_firstToBack 36 = .ok (.getfield 9, 3) := by decide +kernel
theorem d_W_firstToBack_39 : decode b_W_firstToBack 39 = .ok (.aload_n 0, 1) := by decide +kernel
theorem d_W_firstToBack_40 : decode b_W_firstToBack 40 = .ok (.getfield 19, 3) := by decide +kernel
theorem d_W_firstToBack_43 : decode b_W_firstToBack 43 = .ok (.iconst 1, 1) := by decide +kernel
theorem d_W_firstToBack_44 : decode b_W_firstToBack 44 = .ok (.isub, 1) := by decide +kernel
theorem d_W_firstToBack_45 : decode b_W_firstToBack 45 = .ok (.iload_n 1, 1) := by decide +kernel
theorem d_W_firstToBack_46 : decode b_W_firstToBack 46 = .ok (.iastore, 1) := by decide +kernel
theorem d_W_firstToBack_47 : decode b_W_firstToBack 47 = .ok (.iconst 1, 1) := by decide +kernel
theorem d_W_firstToBack_48 : decode b_W_firstToBack 48 = .ok (.ireturn, 1) := by decide +kernel
theorem d_W_lastToFront_0 : decode b_W_lastToFront 0 = .ok (.aload_n 0, 1) := by decide +kernel
theorem d_W_lastToFront_1 : decode b_W_lastToFront 1 = .ok (.getfield 19, 3) := by decide +kernel
theorem d_W_lastToFront_4 : decode b_W_lastToFront 4 = .ok (.ifCond .ne 5, 3) := by decide +kernel
theorem d_W_lastToFront_7 : decode b_W_lastToFront 7 = .ok (.iconst 0, 1) := by decide +kernel
theorem d_W_lastToFront_8 : decode b_W_lastToFront 8 = .ok (.ireturn, 1) := by decide +kernel
theorem d_W_lastToFront_9 : decode b_W_lastToFront 9 = .ok (.aload_n 0, 1) := by decide +kernel
theorem d_W_lastToFront_10 : decode b_W_lastToFront 10 = .ok (.getfield 9, 3) := by decide +kernel
theorem d_W_lastToFront_13 : decode b_W_lastToFront 13 = .ok (.aload_n 0, 1) := by decide +kernel
theorem d_W_lastToFront_14 : decode b_W_lastToFront 14 = .ok (.getfield 19, 3) := by decide +kernel
theorem d_W_lastToFront_17 : decode b_W_lastToFront 17 = .ok (.iconst 1, 1) := by decide +kernel
theorem d_W_lastToFront_18 : decode b_W_lastToFront 18 = .ok (.isub, 1) := by decide +kernel
theorem d_W_lastToFront_19 : decode b_W_lastToFront 19 = .ok (.iaload, 1) := by decide +kernel
theorem d_W_lastToFront_20 : decode b_W_lastToFront 20 = .ok (.istore_n 1, 1) := by decide +kernel
theorem d_W_lastToFront_21 : decode b_W_lastToFront 21 = .ok (.aload_n 0, 1) := by decide +kernel
theorem d_W_lastToFront_22 : decode b_W_lastToFront 22 = .ok (.getfield 9, 3) := by decide +kernel
theorem d_W_lastToFront_25 : decode b_W_lastToFront 25 = .ok (.iconst 0, 1) := by decide +kernel
theorem d_W_lastToFront_26 : decode b_W_lastToFront 26 = .ok (.aload_n 0, 1) := by decide +kernel
theorem d_W_lastToFront_27 : decode b_W_lastToFront 27 = .ok (.getfield 9, 3) := by decide +kernel
theorem d_W_lastToFront_30 : decode b_W_lastToFront 30 = .ok (.iconst 1, 1) := by decide +kernel
theorem d_W_lastToFront_31 : decode b_W_lastToFront 31 = .ok (.aload_n 0, 1) := by decide +kernel
theorem d_W_lastToFront_32 : decode b_W_lastToFront 32 = .ok (.getfield 19, 3) := by decide +kernel
theorem d_W_lastToFront_35 : decode b_W_lastToFront 35 = .ok (.iconst 1, 1) := by decide +kernel
theorem d_W_lastToFront_36 : decode b_W_lastToFront 36 = .ok (.isub, 1) := by decide +kernel
theorem d_W_lastToFront_37 : decode b_W_lastToFront 37 = .ok (.invokestatic 22, 3) := by decide +kernel
theorem d_W_lastToFront_40 : decode b_W_lastToFront 40 = .ok (.aload_n 0, 1) := by decide +kernel
theorem d_W_lastToFront_41 : decode b_W_lastToFront 41 = .ok (.getfield 9, 3) := by decide +kernel
theorem d_W_lastToFront_44 : decode b_W_lastToFront 44 = .ok (.iconst 0, 1) := by decide +kernel
theorem d_W_lastToFront_45 : decode b_W_lastToFront 45 = .ok (.iload_n 1, 1) := by decide +kernel
theorem d_W_lastToFront_46 : decode b_W_lastToFront 46 = .ok (.iastore, 1) := by decide +kernel
theorem d_W_lastToFront_47 : decode b_W_lastToFront 47 = .ok (.iconst 1, 1) := by decide +kernel
theorem d_W_lastToFront_48 : decode b_W_lastToFront 48 = .ok (.ireturn, 1) := by decide +kernel
theorem d_W_swapFar_0 : decode b_W_swapFar 0 = .ok (.aload_n 0, 1) := by decide +kernel
theorem d_W_swapFar_1 : decode b_W_swapFar 1 = .ok (.iload_n 1, 1) := by decide +kernel
theorem d_W_swapFar_2 : decode b_W_swapFar 2 = .ok (.iconst 2, 1) := by decide +kernel
theorem d_W_swapFar_3 : decode b_W_swapFar 3 = .ok (.invokevirtual 56, 3) := by decide +kernel
theorem d_W_swapFar_6 : decode b_W_swapFar 6 = .ok (.ifCond .eq 23, 3) := by decide +kernel
theorem d_W_swapFar_9 : decode b_W_swapFar 9 = .ok (.aload_n 0, 1) := by decide +kernel
theorem d_W_swapFar_10 : decode b_W_swapFar 10 = .ok (.iload_n 1, 1) := by decide +kernel
theorem d_W_swapFar_11 : decode b_W_swapFar 11 = .ok (.invokevirtual 43, 3) := by decide +kernel
theorem d_W_swapFar_14 : decode b_W_swapFar 14 = .ok (.aload_n 0, 1) := by decide +kernel
theorem d_W_swapFar_15 : decode b_W_swapFar 15 = .ok (.iload_n 1, 1) := by decide +kernel
theorem d_W_swapFar_16 : decode b_W_swapFar 16 = .ok (.iconst 1, 1) := by decide +kernel
theorem d_W_swapFar_17 : decode b_W_swapFar 17 = .ok (.iadd, 1) := by decide +kernel
theorem d_W_swapFar_18 : decode b_W_swapFar 18 = .ok (.invokevirtual 43, 3) := by decide +kernel
theorem d_W_swapFar_21 : decode b_W_swapFar 21 = .ok (.isub, 1) := by decide +kernel
theorem d_W_swapFar_22 : decode b_W_swapFar 22 = .ok (.invokestatic 28, 3) := by decide +kernel
theorem d_W_swapFar_25 : decode b_W_swapFar 25 = .ok (.iconst 1, 1) := by decide +kernel
theorem d_W_swapFar_26 : decode b_W_swapFar 26 = .ok (.if_icmp .gt 5, 3) := by decide +kernel
theorem d_W_swapFar_29 : decode b_W_swapFar 29 = .ok (.iconst 0, 1) := by decide +kernel
theorem d_W_swapFar_30 : decode b_W_swapFar 30 = .ok (.ireturn, 1) := by decide +kernel
theorem d_W_swapFar_31 : decode b_W_swapFar 31 = .ok (.aload_n 0, 1) := by decide +kernel
theorem d_W_swapFar_32 : decode b_W_swapFar 32 = .ok (.getfield 9, 3) := by decide +kernel
theorem d_W_swapFar_35 : decode b_W_swapFar 35 = .ok (.iload_n 1, 1) := by decide +kernel
theorem d_W_swapFar_36 : decode b_W_swapFar 36 = .ok (.invokestatic 59, 3) := by decide +kernel
theorem d_W_swapFar_39 : decode b_W_swapFar 39 = .ok (.iconst 1, 1) := by decide +kernel
theorem d_W_swapFar_40 : decode b_W_swapFar 40 = .ok (.ireturn, 1) := by decide +kernel
theorem d_W_passOver_0 : decode b_W_passOver 0 = .ok (.aload_n 0, 1) := by decide +kernel
theorem d_W_passOver_1 : decode b_W_passOver 1 = .ok (.iload_n 1, 1) := by decide +kernel
theorem d_W_passOver_2 : decode b_W_passOver 2 = .ok (.iconst 3, 1) := by decide +kernel
theorem d_W_passOver_3 : decode b_W_passOver 3 = .ok (.invokevirtual 56, 3) := by decide +kernel
theorem d_W_passOver_6 : decode b_W_passOver 6 = .ok (.ifCond .eq 11, 3) := by decide +kernel
theorem d_W_passOver_9 : decode b_W_passOver 9 = .ok (.aload_n 0, 1) := by decide +kernel
theorem d_W_passOver_10 : decode b_W_passOver 10 = .ok (.iload_n 1, 1) := by decide +kernel
theorem d_W_passOver_11 : decode b_W_passOver 11 = .ok (.invokevirtual 63, 3) := by decide +kernel
theorem d_W_passOver_14 : decode b_W_passOver 14 = .ok (.ifCond .ne 5, 3) := by decide +kernel
theorem d_W_passOver_17 : decode b_W_passOver 17 = .ok (.iconst 0, 1) := by decide +kernel
theorem d_W_passOver_18 : decode b_W_passOver 18 = .ok (.ireturn, 1) := by decide +kernel
theorem d_W_passOver_19 : decode b_W_passOver 19 = .ok (.aload_n 0, 1) := by decide +kernel
theorem d_W_passOver_20 : decode b_W_passOver 20 = .ok (.iload_n 1, 1) := by decide +kernel
theorem d_W_passOver_21 : decode b_W_passOver 21 = .ok (.invokevirtual 43, 3) := by decide +kernel
theorem d_W_passOver_24 : decode b_W_passOver 24 = .ok (.istore_n 2, 1) := by decide +kernel
theorem d_W_passOver_25 : decode b_W_passOver 25 = .ok (.aload_n 0, 1) := by decide +kernel
theorem d_W_passOver_26 : decode b_W_passOver 26 = .ok (.iload_n 1, 1) := by decide +kernel
theorem d_W_passOver_27 : decode b_W_passOver 27 = .ok (.iconst 1, 1) := by decide +kernel
theorem d_W_passOver_28 : decode b_W_passOver 28 = .ok (.iadd, 1) := by decide +kernel
theorem d_W_passOver_29 : decode b_W_passOver 29 = .ok (.invokevirtual 43, 3) := by decide +kernel
theorem d_W_passOver_32 : decode b_W_passOver 32 = .ok (.istore_n 3, 1) := by decide +kernel
theorem d_W_passOver_33 : decode b_W_passOver 33 = .ok (.aload_n 0, 1) := by decide +kernel
theorem d_W_passOver_34 : decode b_W_passOver 34 = .ok (.getfield 9, 3) := by decide +kernel
theorem d_W_passOver_37 : decode b_W_passOver 37 = .ok (.iload_n 1, 1) := by decide +kernel
theorem d_W_passOver_38 : decode b_W_passOver 38 = .ok (.iaload, 1) := by decide +kernel
theorem d_W_passOver_39 : decode b_W_passOver 39 = .ok (.invokestatic 34, 3) := by decide +kernel
theorem d_W_passOver_42 : decode b_W_passOver 42 = .ok (.istore 4, 2) := by decide +kernel
theorem d_W_passOver_44 : decode b_W_passOver 44 = .ok (.aload_n 0, 1) := by decide +kernel
theorem d_W_passOver_45 : decode b_W_passOver 45 = .ok (.getfield 9, 3) := by decide +kernel
theorem d_W_passOver_48 : decode b_W_passOver 48 = .ok (.iload_n 1, 1) := by decide +kernel
theorem d_W_passOver_49 : decode b_W_passOver 49 = .ok (.iconst 1, 1) := by decide +kernel
theorem d_W_passOver_50 : decode b_W_passOver 50 = .ok (.iadd, 1) := by decide +kernel
theorem d_W_passOver_51 : decode b_W_passOver 51 = .ok (.iaload, 1) := by decide +kernel
theorem d_W_passOver_52 : decode b_W_passOver 52 = .ok (.invokestatic 34, 3) := by decide +kernel
theorem d_W_passOver_55 : decode b_W_passOver 55 = .ok (.istore 5, 2) := by decide +kernel
theorem d_W_passOver_57 : decode b_W_passOver 57 = .ok (.aload_n 0, 1) := by decide +kernel
theorem d_W_passOver_58 : decode b_W_passOver 58 = .ok (.getfield 9, 3) := by decide +kernel
theorem d_W_passOver_61 : decode b_W_passOver 61 = .ok (.iload_n 1, 1) := by decide +kernel
theorem d_W_passOver_62 : decode b_W_passOver 62 = .ok (.iconst 2, 1) := by decide +kernel
theorem d_W_passOver_63 : decode b_W_passOver 63 = .ok (.iadd, 1) := by decide +kernel
theorem d_W_passOver_64 : decode b_W_passOver 64 = .ok (.iaload, 1) := by decide +kernel
theorem d_W_passOver_65 : decode b_W_passOver 65 = .ok (.invokestatic 34, 3) := by decide +kernel
theorem d_W_passOver_68 : decode b_W_passOver 68 = .ok (.istore 6, 2) := by decide +kernel
theorem d_W_passOver_70 : decode b_W_passOver 70 = .ok (.aload_n 0, 1) := by decide +kernel
theorem d_W_passOver_71 : decode b_W_passOver 71 = .ok (.getfield 9, 3) := by decide +kernel
theorem d_W_passOver_74 : decode b_W_passOver 74 = .ok (.iload_n 1, 1) := by decide +kernel
theorem d_W_passOver_75 : decode b_W_passOver 75 = .ok (.iload 6, 2) := by decide +kernel
theorem d_W_passOver_77 : decode b_W_passOver 77 = .ok (.iload_n 3, 1) := by decide +kernel
theorem d_W_passOver_78 : decode b_W_passOver 78 = .ok (.imul, 1) := by decide +kernel
theorem d_W_passOver_79 : decode b_W_passOver 79 = .ok (.iastore, 1) := by decide +kernel
theorem d_W_passOver_80 : decode b_W_passOver 80 = .ok (.aload_n 0, 1) := by decide +kernel
theorem d_W_passOver_81 : decode b_W_passOver 81 = .ok (.getfield 9, 3) := by decide +kernel
theorem d_W_passOver_84 : decode b_W_passOver 84 = .ok (.iload_n 1, 1) := by decide +kernel
theorem d_W_passOver_85 : decode b_W_passOver 85 = .ok (.iconst 1, 1) := by decide +kernel
theorem d_W_passOver_86 : decode b_W_passOver 86 = .ok (.iadd, 1) := by decide +kernel
theorem d_W_passOver_87 : decode b_W_passOver 87 = .ok (.iload 5, 2) := by decide +kernel
theorem d_W_passOver_89 : decode b_W_passOver 89 = .ok (.iload_n 2, 1) := by decide +kernel
theorem d_W_passOver_90 : decode b_W_passOver 90 = .ok (.imul, 1) := by decide +kernel
theorem d_W_passOver_91 : decode b_W_passOver 91 = .ok (.iastore, 1) := by decide +kernel
theorem d_W_passOver_92 : decode b_W_passOver 92 = .ok (.aload_n 0, 1) := by decide +kernel
theorem d_W_passOver_93 : decode b_W_passOver 93 = .ok (.getfield 9, 3) := by decide +kernel
theorem d_W_passOver_96 : decode b_W_passOver 96 = .ok (.iload_n 1, 1) := by decide +kernel
theorem d_W_passOver_97 : decode b_W_passOver 97 = .ok (.iconst 2, 1) := by decide +kernel
theorem d_W_passOver_98 : decode b_W_passOver 98 = .ok (.iadd, 1) := by decide +kernel
theorem d_W_passOver_99 : decode b_W_passOver 99 = .ok (.iload 4, 2) := by decide +kernel
theorem d_W_passOver_101 : decode b_W_passOver 101 = .ok (.iload_n 3, 1) := by decide +kernel
theorem d_W_passOver_102 : decode b_W_passOver 102 = .ok (.imul, 1) := by decide +kernel
theorem d_W_passOver_103 : decode b_W_passOver 103 = .ok (.iastore, 1) := by decide +kernel
theorem d_W_passOver_104 : decode b_W_passOver 104 = .ok (.iconst 1, 1) := by decide +kernel
theorem d_W_passOver_105 : decode b_W_passOver 105 = .ok (.ireturn, 1) := by decide +kernel
theorem d_W_canPass_0 : decode b_W_canPass 0 = .ok (.aload_n 0, 1) := by decide +kernel
theorem d_W_canPass_1 : decode b_W_canPass 1 = .ok (.iload_n 1, 1) := by decide +kernel
theorem d_W_canPass_2 : decode b_W_canPass 2 = .ok (.invokevirtual 43, 3) := by decide +kernel
theorem d_W_canPass_5 : decode b_W_canPass 5 = .ok (.aload_n 0, 1) := by decide +kernel
theorem d_W_canPass_6 : decode b_W_canPass 6 = .ok (.iload_n 1, 1) := by decide +kernel
theorem d_W_canPass_7 : decode b_W_canPass 7 = .ok (.iconst 2, 1) := by decide +kernel
theorem d_W_canPass_8 : decode b_W_canPass 8 = .ok (.iadd, 1) := by decide +kernel
theorem d_W_canPass_9 : decode b_W_canPass 9 = .ok (.invokevirtual 43, 3) := by decide +kernel
theorem d_W_canPass_12 : decode b_W_canPass 12 = .ok (.if_icmp .ne 23, 3) := by decide +kernel
theorem d_W_canPass_15 : decode b_W_canPass 15 = .ok (.aload_n 0, 1) := by decide +kernel
theorem d_W_canPass_16 : decode b_W_canPass 16 = .ok (.iload_n 1, 1) := by decide +kernel
theorem d_W_canPass_17 : decode b_W_canPass 17 = .ok (.invokevirtual 43, 3) := by decide +kernel
theorem d_W_canPass_20 : decode b_W_canPass 20 = .ok (.aload_n 0, 1) := by decide +kernel
theorem d_W_canPass_21 : decode b_W_canPass 21 = .ok (.iload_n 1, 1) := by decide +kernel
theorem d_W_canPass_22 : decode b_W_canPass 22 = .ok (.iconst 1, 1) := by decide +kernel
theorem d_W_canPass_23 : decode b_W_canPass 23 = .ok (.iadd, 1) := by decide +kernel
theorem d_W_canPass_24 : decode b_W_canPass 24 = .ok (.invokevirtual 43, 3) := by decide +kernel
theorem d_W_canPass_27 : decode b_W_canPass 27 = .ok (.isub, 1) := by decide +kernel
theorem d_W_canPass_28 : decode b_W_canPass 28 = .ok (.invokestatic 28, 3) := by decide +kernel
theorem d_W_canPass_31 : decode b_W_canPass 31 = .ok (.iconst 1, 1) := by decide +kernel
theorem d_W_canPass_32 : decode b_W_canPass 32 = .ok (.if_icmp .eq 5, 3) := by decide +kernel
theorem d_W_canPass_35 : decode b_W_canPass 35 = .ok (.iconst 0, 1) := by decide +kernel
theorem d_W_canPass_36 : decode b_W_canPass 36 = .ok (.ireturn, 1) := by decide +kernel
theorem d_W_canPass_37 : decode b_W_canPass 37 = .ok (.aload_n 0, 1) := by decide +kernel
theorem d_W_canPass_38 : decode b_W_canPass 38 = .ok (.getfield 9, 3) := by decide +kernel
theorem d_W_canPass_41 : decode b_W_canPass 41 = .ok (.iload_n 1, 1) := by decide +kernel
theorem d_W_canPass_42 : decode b_W_canPass 42 = .ok (.iaload, 1) := by decide +kernel
theorem d_W_canPass_43 : decode b_W_canPass 43 = .ok (.aload_n 0, 1) := by decide +kernel
theorem d_W_canPass_44 : decode b_W_canPass 44 = .ok (.getfield 9, 3) := by decide +kernel
theorem d_W_canPass_47 : decode b_W_canPass 47 = .ok (.iload_n 1, 1) := by decide +kernel
theorem d_W_canPass_48 : decode b_W_canPass 48 = .ok (.iconst 2, 1) := by decide +kernel
theorem d_W_canPass_49 : decode b_W_canPass 49 = .ok (.iadd, 1) := by decide +kernel
theorem d_W_canPass_50 : decode b_W_canPass 50 = .ok (.iaload, 1) := by decide +kernel
theorem d_W_canPass_51 : decode b_W_canPass 51 = .ok (.if_icmp .ne 7, 3) := by decide +kernel
theorem d_W_canPass_54 : decode b_W_canPass 54 = .ok (.iconst 1, 1) := by decide +kernel
theorem d_W_canPass_55 : decode b_W_canPass 55 = .ok (.goto 4, 3) := by decide +kernel
theorem d_W_canPass_58 : decode b_W_canPass 58 = .ok (.iconst 0, 1) := by decide +kernel
theorem d_W_canPass_59 : decode b_W_canPass 59 = .ok (.istore_n 2, 1) := by decide +kernel
theorem d_W_canPass_60 : decode b_W_canPass 60 = .ok (.aload_n 0, 1) := by decide +kernel
theorem d_W_canPass_61 : decode b_W_canPass 61 = .ok (.getfield 9, 3) := by decide +kernel
theorem d_W_canPass_64 : decode b_W_canPass 64 = .ok (.iload_n 1, 1) := by decide +kernel
theorem d_W_canPass_65 : decode b_W_canPass 65 = .ok (.iaload, 1) := by decide +kernel
theorem d_W_canPass_66 : decode b_W_canPass 66 = .ok (.invokestatic 34, 3) := by decide +kernel
theorem d_W_canPass_69 : decode b_W_canPass 69 = .ok (.aload_n 0, 1) := by decide +kernel
theorem d_W_canPass_70 : decode b_W_canPass 70 = .ok (.getfield 9, 3) := by decide +kernel
theorem d_W_canPass_73 : decode b_W_canPass 73 = .ok (.iload_n 1, 1) := by decide +kernel
theorem d_W_canPass_74 : decode b_W_canPass 74 = .ok (.iconst 1, 1) := by decide +kernel
theorem d_W_canPass_75 : decode b_W_canPass 75 = .ok (.iadd, 1) := by decide +kernel
theorem d_W_canPass_76 : decode b_W_canPass 76 = .ok (.iaload, 1) := by decide +kernel
theorem d_W_canPass_77 : decode b_W_canPass 77 = .ok (.invokestatic 34, 3) := by decide +kernel
theorem d_W_canPass_80 : decode b_W_canPass 80 = .ok (.if_icmp .ne 7, 3) := by decide +kernel
theorem d_W_canPass_83 : decode b_W_canPass 83 = .ok (.iconst 1, 1) := by decide +kernel
theorem d_W_canPass_84 : decode b_W_canPass 84 = .ok (.goto 4, 3) := by decide +kernel
theorem d_W_canPass_87 : decode b_W_canPass 87 = .ok (.iconst 0, 1) := by decide +kernel
theorem d_W_canPass_88 : decode b_W_canPass 88 = .ok (.istore_n 3, 1) := by decide +kernel
theorem d_W_canPass_89 : decode b_W_canPass 89 = .ok (.iload_n 2, 1) := by decide +kernel
theorem d_W_canPass_90 : decode b_W_canPass 90 = .ok (.ifCond .eq 7, 3) := by decide +kernel
theorem d_W_canPass_93 : decode b_W_canPass 93 = .ok (.iload_n 3, 1) := by decide +kernel
theorem d_W_canPass_94 : decode b_W_canPass 94 = .ok (.ifCond .eq 7, 3) := by decide +kernel
theorem d_W_canPass_97 : decode b_W_canPass 97 = .ok (.iconst 1, 1) := by decide +kernel
theorem d_W_canPass_98 : decode b_W_canPass 98 = .ok (.goto 4, 3) := by decide +kernel
theorem d_W_canPass_101 : decode b_W_canPass 101 = .ok (.iconst 0, 1) := by decide +kernel
theorem d_W_canPass_102 : decode b_W_canPass 102 = .ok (.ireturn, 1) := by decide +kernel
theorem d_W_addStrand_0 : decode b_W_addStrand 0 = .ok (.iload_n 1, 1) := by decide +kernel
theorem d_W_addStrand_1 : decode b_W_addStrand 1 = .ok (.iconst 1, 1) := by decide +kernel
theorem d_W_addStrand_2 : decode b_W_addStrand 2 = .ok (.if_icmp .eq 8, 3) := by decide +kernel
theorem d_W_addStrand_5 : decode b_W_addStrand 5 = .ok (.iload_n 1, 1) := by decide +kernel
theorem d_W_addStrand_6 : decode b_W_addStrand 6 = .ok (.iconst (-1), 1) := by decide +kernel
theorem d_W_addStrand_7 : decode b_W_addStrand 7 = .ok (.if_icmp .ne 21, 3) := by decide +kernel
theorem d_W_addStrand_10 : decode b_W_addStrand 10 = .ok (.aload_n 0, 1) := by decide +kernel
theorem d_W_addStrand_11 : decode b_W_addStrand 11 = .ok (.getfield 15, 3) := by decide +kernel
theorem d_W_addStrand_14 : decode b_W_addStrand 14 = .ok (.bipush 8, 2) := by decide +kernel
theorem d_W_addStrand_16 : decode b_W_addStrand 16 = .ok (.if_icmp .ge 12, 3) := by decide +kernel
theorem d_W_addStrand_19 : decode b_W_addStrand 19 = .ok (.aload_n 0, 1) := by decide +kernel
theorem d_W_addStrand_20 : decode b_W_addStrand 20 = .ok (.getfield 19, 3) := by decide +kernel
theorem d_W_addStrand_23 : decode b_W_addStrand 23 = .ok (.bipush 32, 2) := by decide +kernel
theorem d_W_addStrand_25 : decode b_W_addStrand 25 = .ok (.if_icmp .lt 5, 3) := by decide +kernel
theorem d_W_addStrand_28 : decode b_W_addStrand 28 = .ok (.iconst 0, 1) := by decide +kernel
theorem d_W_addStrand_29 : decode b_W_addStrand 29 = .ok (.ireturn, 1) := by decide +kernel
theorem d_W_addStrand_30 : decode b_W_addStrand 30 = .ok (.aload_n 0, 1) := by decide +kernel
theorem d_W_addStrand_31 : decode b_W_addStrand 31 = .ok (.getfield 9, 3) := by decide +kernel
theorem d_W_addStrand_34 : decode b_W_addStrand 34 = .ok (.aload_n 0, 1) := by decide +kernel
theorem d_W_addStrand_35 : decode b_W_addStrand 35 = .ok (.getfield 19, 3) := by decide +kernel
theorem d_W_addStrand_38 : decode b_W_addStrand 38 = .ok (.iload_n 1, 1) := by decide +kernel
theorem d_W_addStrand_39 : decode b_W_addStrand 39 = .ok (.aload_n 0, 1) := by decide +kernel
theorem d_W_addStrand_40 : decode b_W_addStrand 40 = .ok (.getfield 15, 3) := by decide +kernel
theorem d_W_addStrand_43 : decode b_W_addStrand 43 = .ok (.imul, 1) := by decide +kernel
theorem d_W_addStrand_44 : decode b_W_addStrand 44 = .ok (.iastore, 1) := by decide +kernel
theorem d_W_addStrand_45 : decode b_W_addStrand 45 = .ok (.aload_n 0, 1) := by decide +kernel
theorem d_W_addStrand_46 : decode b_W_addStrand 46 = .ok (.dup, 1) := by decide +kernel
theorem d_W_addStrand_47 : decode b_W_addStrand 47 = .ok (.getfield 19, 3) := by decide +kernel
theorem d_W_addStrand_50 : decode b_W_addStrand 50 = .ok (.iconst 1, 1) := by decide +kernel
theorem d_W_addStrand_51 : decode b_W_addStrand 51 = .ok (.iadd, 1) := by decide +kernel
theorem d_W_addStrand_52 : decode b_W_addStrand 52 = .ok (.putfield 19, 3) := by decide +kernel
theorem d_W_addStrand_55 : decode b_W_addStrand 55 = .ok (.aload_n 0, 1) := by decide +kernel
theorem d_W_addStrand_56 : decode b_W_addStrand 56 = .ok (.dup, 1) := by decide +kernel
theorem d_W_addStrand_57 : decode b_W_addStrand 57 = .ok (.getfield 15, 3) := by decide +kernel
theorem d_W_addStrand_60 : decode b_W_addStrand 60 = .ok (.iconst 1, 1) := by decide +kernel
theorem d_W_addStrand_61 : decode b_W_addStrand 61 = .ok (.iadd, 1) := by decide +kernel
theorem d_W_addStrand_62 : decode b_W_addStrand 62 = .ok (.putfield 15, 3) := by decide +kernel
theorem d_W_addStrand_65 : decode b_W_addStrand 65 = .ok (.iconst 1, 1) := by decide +kernel
theorem d_W_addStrand_66 : decode b_W_addStrand 66 = .ok (.ireturn, 1) := by decide +kernel
theorem d_W_dropStrand_0 : decode b_W_dropStrand 0 = .ok (.aload_n 0, 1) := by decide +kernel
theorem d_W_dropStrand_1 : decode b_W_dropStrand 1 = .ok (.getfield 19, 3) := by decide +kernel
theorem d_W_dropStrand_4 : decode b_W_dropStrand 4 = .ok (.ifCond .eq 22, 3) := by decide +kernel
theorem d_W_dropStrand_7 : decode b_W_dropStrand 7 = .ok (.aload_n 0, 1) := by decide +kernel
theorem d_W_dropStrand_8 : decode b_W_dropStrand 8 = .ok (.aload_n 0, 1) := by decide +kernel
theorem d_W_dropStrand_9 : decode b_W_dropStrand 9 = .ok (.getfield 19, 3) := by decide +kernel
theorem d_W_dropStrand_12 : decode b_W_dropStrand 12 = .ok (.iconst 1, 1) := by decide +kernel
theorem d_W_dropStrand_13 : decode b_W_dropStrand 13 = .ok (.isub, 1) := by decide +kernel
theorem d_W_dropStrand_14 : decode b_W_dropStrand 14 = .ok (.invokevirtual 43, 3) := by decide +kernel
theorem d_W_dropStrand_17 : decode b_W_dropStrand 17 = .ok (.aload_n 0, 1) := by decide +kernel
theorem d_W_dropStrand_18 : decode b_W_dropStrand 18 = .ok (.getfield 15, 3) := by decide +kernel
theorem d_W_dropStrand_21 : decode b_W_dropStrand 21 = .ok (.iconst 1, 1) := by decide +kernel
theorem d_W_dropStrand_22 : decode b_W_dropStrand 22 = .ok (.isub, 1) := by decide +kernel
theorem d_W_dropStrand_23 : decode b_W_dropStrand 23 = .ok (.if_icmp .eq 5, 3) := by decide +kernel
theorem d_W_dropStrand_26 : decode b_W_dropStrand 26 = .ok (.iconst 0, 1) := by decide +kernel
theorem d_W_dropStrand_27 : decode b_W_dropStrand 27 = .ok (.ireturn, 1) := by decide +kernel
theorem d_W_dropStrand_28 : decode b_W_dropStrand 28 = .ok (.iconst 0, 1) := by decide +kernel
theorem d_W_dropStrand_29 : decode b_W_dropStrand 29 = .ok (.istore_n 1, 1) := by decide +kernel
theorem d_W_dropStrand_30 : decode b_W_dropStrand 30 = .ok (.iload_n 1, 1) := by decide +kernel
theorem d_W_dropStrand_31 : decode b_W_dropStrand 31 = .ok (.aload_n 0, 1) := by decide +kernel
theorem d_W_dropStrand_32 : decode b_W_dropStrand 32 = .ok (.getfield 19, 3) := by decide +kernel
theorem d_W_dropStrand_35 : decode b_W_dropStrand 35 = .ok (.iconst 1, 1) := by decide +kernel
theorem d_W_dropStrand_36 : decode b_W_dropStrand 36 = .ok (.isub, 1) := by decide +kernel
theorem d_W_dropStrand_37 : decode b_W_dropStrand 37 = .ok (.if_icmp .ge 25, 3) := by decide +kernel
theorem d_W_dropStrand_40 : decode b_W_dropStrand 40 = .ok (.aload_n 0, 1) := by decide +kernel
theorem d_W_dropStrand_41 : decode b_W_dropStrand 41 = .ok (.iload_n 1, 1) := by decide +kernel
theorem d_W_dropStrand_42 : decode b_W_dropStrand 42 = .ok (.invokevirtual 43, 3) := by decide +kernel
theorem d_W_dropStrand_45 : decode b_W_dropStrand 45 = .ok (.aload_n 0, 1) := by decide +kernel
theorem d_W_dropStrand_46 : decode b_W_dropStrand 46 = .ok (.getfield 15, 3) := by decide +kernel
theorem d_W_dropStrand_49 : decode b_W_dropStrand 49 = .ok (.iconst 1, 1) := by decide +kernel
theorem d_W_dropStrand_50 : decode b_W_dropStrand 50 = .ok (.isub, 1) := by decide +kernel
theorem d_W_dropStrand_51 : decode b_W_dropStrand 51 = .ok (.if_icmp .ne 5, 3) := by decide +kernel
theorem d_W_dropStrand_54 : decode b_W_dropStrand 54 = .ok (.iconst 0, 1) := by decide +kernel
theorem d_W_dropStrand_55 : decode b_W_dropStrand 55 = .ok (.ireturn, 1) := by decide +kernel
theorem d_W_dropStrand_56 : decode b_W_dropStrand 56 = .ok (.iinc 1 1, 3) := by decide +kernel
theorem d_W_dropStrand_59 : decode b_W_dropStrand 59 = .ok (.goto (-29), 3) := by decide +kernel
theorem d_W_dropStrand_62 : decode b_W_dropStrand 62 = .ok (.aload_n 0, 1) := by decide +kernel
theorem d_W_dropStrand_63 : decode b_W_dropStrand 63 = .ok (.dup, 1) := by decide +kernel
theorem d_W_dropStrand_64 : decode b_W_dropStrand 64 = .ok (.getfield 19, 3) := by decide +kernel
theorem d_W_dropStrand_67 : decode b_W_dropStrand 67 = .ok (.iconst 1, 1) := by decide +kernel
theorem d_W_dropStrand_68 : decode b_W_dropStrand 68 = .ok (.isub, 1) := by decide +kernel
theorem d_W_dropStrand_69 : decode b_W_dropStrand 69 = .ok (.putfield 19, 3) := by decide +kernel
theorem d_W_dropStrand_72 : decode b_W_dropStrand 72 = .ok (.aload_n 0, 1) := by decide +kernel
theorem d_W_dropStrand_73 : decode b_W_dropStrand 73 = .ok (.dup, 1) := by decide +kernel
theorem d_W_dropStrand_74 : decode b_W_dropStrand 74 = .ok (.getfield 15, 3) := by decide +kernel
theorem d_W_dropStrand_77 : decode b_W_dropStrand 77 = .ok (.iconst 1, 1) := by decide +kernel
theorem d_W_dropStrand_78 : decode b_W_dropStrand 78 = .ok (.isub, 1) := by decide +kernel
theorem d_W_dropStrand_79 : decode b_W_dropStrand 79 = .ok (.putfield 15, 3) := by decide +kernel
theorem d_W_dropStrand_82 : decode b_W_dropStrand 82 = .ok (.iconst 1, 1) := by decide +kernel
theorem d_W_dropStrand_83 : decode b_W_dropStrand 83 = .ok (.ireturn, 1) := by decide +kernel
theorem d_W_cornerLabel_0 : decode b_W_cornerLabel 0 = .ok (.aload_n 0, 1) := by decide +kernel
theorem d_W_cornerLabel_1 : decode b_W_cornerLabel 1 = .ok (.iload_n 1, 1) := by decide +kernel
theorem d_W_cornerLabel_2 : decode b_W_cornerLabel 2 = .ok (.invokevirtual 43, 3) := by decide +kernel
theorem d_W_cornerLabel_5 : decode b_W_cornerLabel 5 = .ok (.istore_n 3, 1) := by decide +kernel
theorem d_W_cornerLabel_6 : decode b_W_cornerLabel 6 = .ok (.aload_n 0, 1) := by decide +kernel
theorem d_W_cornerLabel_7 : decode b_W_cornerLabel 7 = .ok (.getfield 9, 3) := by decide +kernel
theorem d_W_cornerLabel_10 : decode b_W_cornerLabel 10 = .ok (.iload_n 1, 1) := by decide +kernel
theorem d_W_cornerLabel_11 : decode b_W_cornerLabel 11 = .ok (.iaload, 1) := by decide +kernel
theorem d_W_cornerLabel_12 : decode b_W_cornerLabel 12 = .ok (.ifCond .le 7, 3) := by decide +kernel
theorem d_W_cornerLabel_15 : decode b_W_cornerLabel 15 = .ok (.iload_n 2, 1) := by decide +kernel
theorem d_W_cornerLabel_16 : decode b_W_cornerLabel 16 = .ok (.goto 8, 3) := by decide +kernel
theorem d_W_cornerLabel_19 : decode b_W_cornerLabel 19 = .ok (.iload_n 2, 1) := by decide +kernel
theorem d_W_cornerLabel_20 : decode b_W_cornerLabel 20 = .ok (.iconst 3, 1) := by decide +kernel
theorem d_W_cornerLabel_21 : decode b_W_cornerLabel 21 = .ok (.iadd, 1) := by decide +kernel
theorem d_W_cornerLabel_22 : decode b_W_cornerLabel 22 = .ok (.iconst 4, 1) := by decide +kernel
theorem d_W_cornerLabel_23 : decode b_W_cornerLabel 23 = .ok (.irem, 1) := by decide +kernel
theorem d_W_cornerLabel_24 : decode b_W_cornerLabel 24 = .ok (.istore 4, 2) := by decide +kernel
theorem d_W_cornerLabel_26 : decode b_W_cornerLabel 26 = .ok (.iload 4, 2) := by decide +kernel
theorem d_W_cornerLabel_28 : decode b_W_cornerLabel 28 = .ok (.tableswitch 51 0 2 #[28, 35, 42], 28) := by decide +kernel
theorem d_W_cornerLabel_56 : decode b_W_cornerLabel 56 = .ok (.aload_n 0, 1) := by decide +kernel
theorem d_W_cornerLabel_57 : decode b_W_cornerLabel 57 = .ok (.iload_n 1, 1) := by decide +kernel
theorem d_W_cornerLabel_58 : decode b_W_cornerLabel 58 = .ok (.iload_n 3, 1) := by decide +kernel
theorem d_W_cornerLabel_59 : decode b_W_cornerLabel 59 = .ok (.invokevirtual 67, 3) := by decide +kernel
theorem d_W_cornerLabel_62 : decode b_W_cornerLabel 62 = .ok (.ireturn, 1) := by decide +kernel
theorem d_W_cornerLabel_63 : decode b_W_cornerLabel 63 = .ok (.aload_n 0, 1) := by decide +kernel
theorem d_W_cornerLabel_64 : decode b_W_cornerLabel 64 = .ok (.iload_n 1, 1) := by decide +kernel
theorem d_W_cornerLabel_65 : decode b_W_cornerLabel 65 = .ok (.iload_n 3, 1) := by decide +kernel
theorem d_W_cornerLabel_66 : decode b_W_cornerLabel 66 = .ok (.invokevirtual 71, 3) := by decide +kernel
theorem d_W_cornerLabel_69 : decode b_W_cornerLabel 69 = .ok (.ireturn, 1) := by decide +kernel
theorem d_W_cornerLabel_70 : decode b_W_cornerLabel 70 = .ok (.aload_n 0, 1) := by decide +kernel
theorem d_W_cornerLabel_71 : decode b_W_cornerLabel 71 = .ok (.iload_n 1, 1) := by decide +kernel
theorem d_W_cornerLabel_72 : decode b_W_cornerLabel 72 = .ok (.iload_n 3, 1) := by decide +kernel
theorem d_W_cornerLabel_73 : decode b_W_cornerLabel 73 = .ok (.iconst 1, 1) := by decide +kernel
theorem d_W_cornerLabel_74 : decode b_W_cornerLabel 74 = .ok (.iadd, 1) := by decide +kernel
theorem d_W_cornerLabel_75 : decode b_W_cornerLabel 75 = .ok (.invokevirtual 71, 3) := by decide +kernel
theorem d_W_cornerLabel_78 : decode b_W_cornerLabel 78 = .ok (.ireturn, 1) := by decide +kernel
theorem d_W_cornerLabel_79 : decode b_W_cornerLabel 79 = .ok (.aload_n 0, 1) := by decide +kernel
theorem d_W_cornerLabel_80 : decode b_W_cornerLabel 80 = .ok (.iload_n 1, 1) := by decide +kernel
theorem d_W_cornerLabel_81 : decode b_W_cornerLabel 81 = .ok (.iload_n 3, 1) := by decide +kernel
theorem d_W_cornerLabel_82 : decode b_W_cornerLabel 82 = .ok (.iconst 1, 1) := by decide +kernel
theorem d_W_cornerLabel_83 : decode b_W_cornerLabel 83 = .ok (.iadd, 1) := by decide +kernel
theorem d_W_cornerLabel_84 : decode b_W_cornerLabel 84 = .ok (.invokevirtual 67, 3) := by decide +kernel
theorem d_W_cornerLabel_87 : decode b_W_cornerLabel 87 = .ok (.ireturn, 1) := by decide +kernel
theorem d_W_labelAbove_0 : decode b_W_labelAbove 0 = .ok (.iload_n 1, 1) := by decide +kernel
theorem d_W_labelAbove_1 : decode b_W_labelAbove 1 = .ok (.iconst 1, 1) := by decide +kernel
theorem d_W_labelAbove_2 : decode b_W_labelAbove 2 = .ok (.isub, 1) := by decide +kernel
theorem d_W_labelAbove_3 : decode b_W_labelAbove 3 = .ok (.istore_n 3, 1) := by decide +kernel
theorem d_W_labelAbove_4 : decode b_W_labelAbove 4 = .ok (.iload_n 3, 1) := by decide +kernel
theorem d_W_labelAbove_5 : decode b_W_labelAbove 5 = .ok (.ifCond .lt 25, 3) := by decide +kernel
theorem d_W_labelAbove_8 : decode b_W_labelAbove 8 = .ok (.aload_n 0, 1) := by decide +kernel
theorem d_W_labelAbove_9 : decode b_W_labelAbove 9 = .ok (.iload_n 3, 1) := by decide +kernel
theorem d_W_labelAbove_10 : decode b_W_labelAbove 10 = .ok (.iload_n 2, 1) := by decide +kernel
theorem d_W_labelAbove_11 : decode b_W_labelAbove 11 = .ok (.invokevirtual 53, 3) := by decide +kernel
theorem d_W_labelAbove_14 : decode b_W_labelAbove 14 = .ok (.ifCond .eq 10, 3) := by decide +kernel
theorem d_W_labelAbove_17 : decode b_W_labelAbove 17 = .ok (.aload_n 0, 1) := by decide +kernel
theorem d_W_labelAbove_18 : decode b_W_labelAbove 18 = .ok (.iload_n 3, 1) := by decide +kernel
theorem d_W_labelAbove_19 : decode b_W_labelAbove 19 = .ok (.iload_n 2, 1) := by decide +kernel
theorem d_W_labelAbove_20 : decode b_W_labelAbove 20 = .ok (.invokevirtual 74, 3) := by decide +kernel
theorem d_W_labelAbove_23 : decode b_W_labelAbove 23 = .ok (.ireturn, 1) := by decide +kernel
theorem d_W_labelAbove_24 : decode b_W_labelAbove 24 = .ok (.iinc 3 (-1), 3) := by decide +kernel
theorem d_W_labelAbove_27 : decode b_W_labelAbove 27 = .ok (.goto (-23), 3) := by decide +kernel
theorem d_W_labelAbove_30 : decode b_W_labelAbove 30 = .ok (.iload_n 2, 1) := by decide +kernel
theorem d_W_labelAbove_31 : decode b_W_labelAbove 31 = .ok (.ireturn, 1) := by decide +kernel
theorem d_W_labelBelow_0 : decode b_W_labelBelow 0 = .ok (.aload_n 0, 1) := by decide +kernel
theorem d_W_labelBelow_1 : decode b_W_labelBelow 1 = .ok (.iload_n 1, 1) := by decide +kernel
theorem d_W_labelBelow_2 : decode b_W_labelBelow 2 = .ok (.iconst 1, 1) := by decide +kernel
theorem d_W_labelBelow_3 : decode b_W_labelBelow 3 = .ok (.iadd, 1) := by decide +kernel
theorem d_W_labelBelow_4 : decode b_W_labelBelow 4 = .ok (.iload_n 2, 1) := by decide +kernel
theorem d_W_labelBelow_5 : decode b_W_labelBelow 5 = .ok (.invokevirtual 49, 3) := by decide +kernel
theorem d_W_labelBelow_8 : decode b_W_labelBelow 8 = .ok (.ifCond .eq 12, 3) := by decide +kernel
theorem d_W_labelBelow_11 : decode b_W_labelBelow 11 = .ok (.aload_n 0, 1) := by decide +kernel
theorem d_W_labelBelow_12 : decode b_W_labelBelow 12 = .ok (.iload_n 1, 1) := by decide +kernel
theorem d_W_labelBelow_13 : decode b_W_labelBelow 13 = .ok (.iload_n 2, 1) := by decide +kernel
theorem d_W_labelBelow_14 : decode b_W_labelBelow 14 = .ok (.invokevirtual 74, 3) := by decide +kernel
theorem d_W_labelBelow_17 : decode b_W_labelBelow 17 = .ok (.goto 4, 3) := by decide +kernel
theorem d_W_labelBelow_20 : decode b_W_labelBelow 20 = .ok (.iload_n 2, 1) := by decide +kernel
theorem d_W_labelBelow_21 : decode b_W_labelBelow 21 = .ok (.ireturn, 1) := by decide +kernel
theorem d_W_madeLabel_0 : decode b_W_madeLabel 0 = .ok (.aload_n 0, 1) := by decide +kernel
theorem d_W_madeLabel_1 : decode b_W_madeLabel 1 = .ok (.getfield 15, 3) := by decide +kernel
theorem d_W_madeLabel_4 : decode b_W_madeLabel 4 = .ok (.iconst 1, 1) := by decide +kernel
theorem d_W_madeLabel_5 : decode b_W_madeLabel 5 = .ok (.iadd, 1) := by decide +kernel
theorem d_W_madeLabel_6 : decode b_W_madeLabel 6 = .ok (.iconst 2, 1) := by decide +kernel
theorem d_W_madeLabel_7 : decode b_W_madeLabel 7 = .ok (.iload_n 1, 1) := by decide +kernel
theorem d_W_madeLabel_8 : decode b_W_madeLabel 8 = .ok (.imul, 1) := by decide +kernel
theorem d_W_madeLabel_9 : decode b_W_madeLabel 9 = .ok (.iadd, 1) := by decide +kernel
theorem d_W_madeLabel_10 : decode b_W_madeLabel 10 = .ok (.iload_n 2, 1) := by decide +kernel
theorem d_W_madeLabel_11 : decode b_W_madeLabel 11 = .ok (.aload_n 0, 1) := by decide +kernel
theorem d_W_madeLabel_12 : decode b_W_madeLabel 12 = .ok (.iload_n 1, 1) := by decide +kernel
theorem d_W_madeLabel_13 : decode b_W_madeLabel 13 = .ok (.invokevirtual 43, 3) := by decide +kernel
theorem d_W_madeLabel_16 : decode b_W_madeLabel 16 = .ok (.isub, 1) := by decide +kernel
theorem d_W_madeLabel_17 : decode b_W_madeLabel 17 = .ok (.iadd, 1) := by decide +kernel
theorem d_W_madeLabel_18 : decode b_W_madeLabel 18 = .ok (.ireturn, 1) := by decide +kernel
end
section
theorem d_N_init_0 : decode b_N_init 0 = .ok (.aload_n 0, 1) := by decide +kernel
theorem d_N_init_1 : decode b_N_init 1 = .ok (.invokespecial 3, 3) := by decide +kernel
theorem d_N_init_4 : decode b_N_init 4 = .ok (.aload_n 0, 1) := by decide +kernel
theorem d_N_init_5 : decode b_N_init 5 = .ok (.new 9, 3) := by decide +kernel
theorem d_N_init_8 : decode b_N_init 8 = .ok (.dup, 1) := by decide +kernel
theorem d_N_init_9 : decode b_N_init 9 = .ok (.invokespecial 11, 3) := by decide +kernel
theorem d_N_init_12 : decode b_N_init 12 = .ok (.putfield 12, 3) := by decide +kernel
theorem d_N_init_15 : decode b_N_init 15 = .ok (.aload_n 0, 1) := by decide +kernel
theorem d_N_init_16 : decode b_N_init 16 = .ok (.bipush 32, 2) := by decide +kernel
theorem d_N_init_18 : decode b_N_init 18 = .ok (.bipush 9, 2) := by decide +kernel
theorem d_N_init_20 : decode b_N_init 20 = .ok (.multianewarray 18 2, 4) := by decide +kernel
theorem d_N_init_24 : decode b_N_init 24 = .ok (.putfield 20, 3) := by decide +kernel
theorem d_N_init_27 : decode b_N_init 27 = .ok (.aload_n 0, 1) := by decide +kernel
theorem d_N_init_28 : decode b_N_init 28 = .ok (.bipush 9, 2) := by decide +kernel
theorem d_N_init_30 : decode b_N_init 30 = .ok (.newarray .int, 2) := by decide +kernel
theorem d_N_init_32 : decode b_N_init 32 = .ok (.putfield 23, 3) := by decide +kernel
theorem d_N_init_35 : decode b_N_init 35 = .ok (.aload_n 0, 1) := by decide +kernel
theorem d_N_init_36 : decode b_N_init 36 = .ok (.iconst 0, 1) := by decide +kernel
theorem d_N_init_37 : decode b_N_init 37 = .ok (.putfield 27, 3) := by decide +kernel
theorem d_N_init_40 : decode b_N_init 40 = .ok (.aload_n 0, 1) := by decide +kernel
theorem d_N_init_41 : decode b_N_init 41 = .ok (.iconst 0, 1) := by decide +kernel
theorem d_N_init_42 : decode b_N_init 42 = .ok (.putfield 31, 3) := by decide +kernel
theorem d_N_init_45 : decode b_N_init 45 = .ok (.aload_n 0, 1) := by decide +kernel
theorem d_N_init_46 : decode b_N_init 46 = .ok (.iconst 0, 1) := by decide +kernel
theorem d_N_init_47 : decode b_N_init 47 = .ok (.putfield 34, 3) := by decide +kernel
theorem d_N_init_50 : decode b_N_init 50 = .ok (.return_, 1) := by decide +kernel
theorem d_N_follow_0 : decode b_N_follow 0 = .ok (.aload_n 0, 1) := by decide +kernel
theorem d_N_follow_1 : decode b_N_follow 1 = .ok (.getfield 12, 3) := by decide +kernel
theorem d_N_follow_4 : decode b_N_follow 4 = .ok (.aload_n 1, 1) := by decide +kernel
theorem d_N_follow_5 : decode b_N_follow 5 = .ok (.invokevirtual 37, 3) := by decide +kernel
theorem d_N_follow_8 : decode b_N_follow 8 = .ok (.ifCond .eq 4, 3) := by decide +kernel
theorem d_N_follow_11 : decode b_N_follow 11 = .ok (.return_, 1) := by decide +kernel
theorem d_N_follow_12 : decode b_N_follow 12 = .ok (.aload_n 0, 1) := by decide +kernel
theorem d_N_follow_13 : decode b_N_follow 13 = .ok (.getfield 12, 3) := by decide +kernel
theorem d_N_follow_16 : decode b_N_follow 16 = .ok (.aload_n 1, 1) := by decide +kernel
theorem d_N_follow_17 : decode b_N_follow 17 = .ok (.invokevirtual 41, 3) := by decide +kernel
theorem d_N_follow_20 : decode b_N_follow 20 = .ok (.aload_n 0, 1) := by decide +kernel
theorem d_N_follow_21 : decode b_N_follow 21 = .ok (.iconst 0, 1) := by decide +kernel
theorem d_N_follow_22 : decode b_N_follow 22 = .ok (.putfield 27, 3) := by decide +kernel
theorem d_N_follow_25 : decode b_N_follow 25 = .ok (.aload_n 0, 1) := by decide +kernel
theorem d_N_follow_26 : decode b_N_follow 26 = .ok (.iconst 0, 1) := by decide +kernel
theorem d_N_follow_27 : decode b_N_follow 27 = .ok (.putfield 31, 3) := by decide +kernel
theorem d_N_follow_30 : decode b_N_follow 30 = .ok (.aload_n 0, 1) := by decide +kernel
theorem d_N_follow_31 : decode b_N_follow 31 = .ok (.aload_n 0, 1) := by decide +kernel
theorem d_N_follow_32 : decode b_N_follow 32 = .ok (.getfield 12, 3) := by decide +kernel
theorem d_N_follow_35 : decode b_N_follow 35 = .ok (.invokevirtual 45, 3) := by decide +kernel
theorem d_N_follow_38 : decode b_N_follow 38 = .ok (.ineg, 1) := by decide +kernel
theorem d_N_follow_39 : decode b_N_follow 39 = .ok (.putfield 34, 3) := by decide +kernel
theorem d_N_follow_42 : decode b_N_follow 42 = .ok (.aload_n 0, 1) := by decide +kernel
theorem d_N_follow_43 : decode b_N_follow 43 = .ok (.getfield 12, 3) := by decide +kernel
theorem d_N_follow_46 : decode b_N_follow 46 = .ok (.invokevirtual 45, 3) := by decide +kernel
theorem d_N_follow_49 : decode b_N_follow 49 = .ok (.iconst 2, 1) := by decide +kernel
theorem d_N_follow_50 : decode b_N_follow 50 = .ok (.irem, 1) := by decide +kernel
theorem d_N_follow_51 : decode b_N_follow 51 = .ok (.iconst 1, 1) := by decide +kernel
theorem d_N_follow_52 : decode b_N_follow 52 = .ok (.if_icmp .ne 7, 3) := by decide +kernel
theorem d_N_follow_55 : decode b_N_follow 55 = .ok (.iconst 1, 1) := by decide +kernel
theorem d_N_follow_56 : decode b_N_follow 56 = .ok (.goto 4, 3) := by decide +kernel
theorem d_N_follow_59 : decode b_N_follow 59 = .ok (.iconst 0, 1) := by decide +kernel
theorem d_N_follow_60 : decode b_N_follow 60 = .ok (.istore_n 2, 1) := by decide +kernel
theorem d_N_follow_61 : decode b_N_follow 61 = .ok (.iconst 0, 1) := by decide +kernel
theorem d_N_follow_62 : decode b_N_follow 62 = .ok (.istore_n 3, 1) := by decide +kernel
theorem d_N_follow_63 : decode b_N_follow 63 = .ok (.iload_n 3, 1) := by decide +kernel
theorem d_N_follow_64 : decode b_N_follow 64 = .ok (.aload_n 0, 1) := by decide +kernel
theorem d_N_follow_65 : decode b_N_follow 65 = .ok (.getfield 12, 3) := by decide +kernel
theorem d_N_follow_68 : decode b_N_follow 68 = .ok (.getfield 49, 3) := by decide +kernel
theorem d_N_follow_71 : decode b_N_follow 71 = .ok (.if_icmp .ge 84, 3) := by decide +kernel
theorem d_N_follow_74 : decode b_N_follow 74 = .ok (.aload_n 0, 1) := by decide +kernel
theorem d_N_follow_75 : decode b_N_follow 75 = .ok (.getfield 12, 3) := by decide +kernel
theorem d_N_follow_78 : decode b_N_follow 78 = .ok (.getfield 52, 3) := by decide +kernel
theorem d_N_follow_81 : decode b_N_follow 81 = .ok (.iload_n 3, 1) := by decide +kernel
theorem d_N_follow_82 : decode b_N_follow 82 = .ok (.iaload, 1) := by decide +kernel
theorem d_N_follow_83 : decode b_N_follow 83 = .ok (.ifCond .ge 7, 3) := by decide +kernel
theorem d_N_follow_86 : decode b_N_follow 86 = .ok (.iconst 1, 1) := by decide +kernel
theorem d_N_follow_87 : decode b_N_follow 87 = .ok (.goto 4, 3) := by decide +kernel
theorem d_N_follow_90 : decode b_N_follow 90 = .ok (.iconst 0, 1) := by decide +kernel
theorem d_N_follow_91 : decode b_N_follow 91 = .ok (.istore 4, 2) := by decide +kernel
theorem d_N_follow_93 : decode b_N_follow 93 = .ok (.iload 4, 2) := by decide +kernel
theorem d_N_follow_95 : decode b_N_follow 95 = .ok (.ifCond .eq 13, 3) := by decide +kernel
theorem d_N_follow_98 : decode b_N_follow 98 = .ok (.iload_n 2, 1) := by decide +kernel
theorem d_N_follow_99 : decode b_N_follow 99 = .ok (.ifCond .ne 7, 3) := by decide +kernel
theorem d_N_follow_102 : decode b_N_follow 102 = .ok (.iconst 1, 1) := by decide +kernel
theorem d_N_follow_103 : decode b_N_follow 103 = .ok (.goto 4, 3) := by decide +kernel
theorem d_N_follow_106 : decode b_N_follow 106 = .ok (.iconst 0, 1) := by decide +kernel
theorem d_N_follow_107 : decode b_N_follow 107 = .ok (.istore_n 2, 1) := by decide +kernel
theorem d_N_follow_108 : decode b_N_follow 108 = .ok (.aload_n 0, 1) := by decide +kernel
theorem d_N_follow_109 : decode b_N_follow 109 = .ok (.iload_n 2, 1) := by decide +kernel
theorem d_N_follow_110 : decode b_N_follow 110 = .ok (.ifCond .eq 22, 3) := by decide +kernel
theorem d_N_follow_113 : decode b_N_follow 113 = .ok (.aload_n 0, 1) := by decide +kernel
theorem d_N_follow_114 : decode b_N_follow 114 = .ok (.getfield 12, 3) := by decide +kernel
theorem d_N_follow_117 : decode b_N_follow 117 = .ok (.getfield 55, 3) := by decide +kernel
theorem d_N_follow_120 : decode b_N_follow 120 = .ok (.aload_n 0, 1) := by decide +kernel
theorem d_N_follow_121 : decode b_N_follow 121 = .ok (.getfield 12, 3) := by decide +kernel
theorem d_N_follow_124 : decode b_N_follow 124 = .ok (.iload_n 3, 1) := by decide +kernel
theorem d_N_follow_125 : decode b_N_follow 125 = .ok (.invokevirtual 58, 3) := by decide +kernel
theorem d_N_follow_128 : decode b_N_follow 128 = .ok (.isub, 1) := by decide +kernel
theorem d_N_follow_129 : decode b_N_follow 129 = .ok (.goto 11, 3) := by decide +kernel
theorem d_N_follow_132 : decode b_N_follow 132 = .ok (.aload_n 0, 1) := by decide +kernel
theorem d_N_follow_133 : decode b_N_follow 133 = .ok (.getfield 12, 3) := by decide +kernel
theorem d_N_follow_136 : decode b_N_follow 136 = .ok (.iload_n 3, 1) := by decide +kernel
theorem d_N_follow_137 : decode b_N_follow 137 = .ok (.invokevirtual 58, 3) := by decide +kernel
theorem d_N_follow_140 : decode b_N_follow 140 = .ok (.iload 4, 2) := by decide +kernel
theorem d_N_follow_142 : decode b_N_follow 142 = .ok (.invokevirtual 62, 3) := by decide +kernel
theorem d_N_follow_145 : decode b_N_follow 145 = .ok (.aload_n 0, 1) := by decide +kernel
theorem d_N_follow_146 : decode b_N_follow 146 = .ok (.invokevirtual 66, 3) := by decide +kernel
theorem d_N_follow_149 : decode b_N_follow 149 = .ok (.iinc 3 1, 3) := by decide +kernel
theorem d_N_follow_152 : decode b_N_follow 152 = .ok (.goto (-89), 3) := by decide +kernel
theorem d_N_follow_155 : decode b_N_follow 155 = .ok (.return_, 1) := by decide +kernel
theorem d_N_size_0 : decode b_N_size 0 = .ok (.aload_n 0, 1) := by decide +kernel
theorem d_N_size_1 : decode b_N_size 1 = .ok (.getfield 31, 3) := by decide +kernel
theorem d_N_size_4 : decode b_N_size 4 = .ok (.aload_n 0, 1) := by decide +kernel
theorem d_N_size_5 : decode b_N_size 5 = .ok (.getfield 27, 3) := by decide +kernel
theorem d_N_size_8 : decode b_N_size 8 = .ok (.isub, 1) := by decide +kernel
theorem d_N_size_9 : decode b_N_size 9 = .ok (.ireturn, 1) := by decide +kernel
theorem d_N_image_0 : decode b_N_image 0 = .ok (.iload_n 1, 1) := by decide +kernel
theorem d_N_image_1 : decode b_N_image 1 = .ok (.iconst 1, 1) := by decide +kernel
theorem d_N_image_2 : decode b_N_image 2 = .ok (.if_icmp .lt 40, 3) := by decide +kernel
theorem d_N_image_5 : decode b_N_image 5 = .ok (.iload_n 1, 1) := by decide +kernel
theorem d_N_image_6 : decode b_N_image 6 = .ok (.aload_n 0, 1) := by decide +kernel
theorem d_N_image_7 : decode b_N_image 7 = .ok (.invokevirtual 69, 3) := by decide +kernel
theorem d_N_image_10 : decode b_N_image 10 = .ok (.if_icmp .gt 32, 3) := by decide +kernel
theorem d_N_image_13 : decode b_N_image 13 = .ok (.aload_n 0, 1) := by decide +kernel
theorem d_N_image_14 : decode b_N_image 14 = .ok (.getfield 12, 3) := by decide +kernel
theorem d_N_image_17 : decode b_N_image 17 = .ok (.iload_n 2, 1) := by decide +kernel
theorem d_N_image_18 : decode b_N_image 18 = .ok (.invokevirtual 72, 3) := by decide +kernel
theorem d_N_image_21 : decode b_N_image 21 = .ok (.ifCond .eq 21, 3) := by decide +kernel
theorem d_N_image_24 : decode b_N_image 24 = .ok (.aload_n 0, 1) := by decide +kernel
theorem d_N_image_25 : decode b_N_image 25 = .ok (.getfield 20, 3) := by decide +kernel
theorem d_N_image_28 : decode b_N_image 28 = .ok (.aload_n 0, 1) := by decide +kernel
theorem d_N_image_29 : decode b_N_image 29 = .ok (.getfield 27, 3) := by decide +kernel
theorem d_N_image_32 : decode b_N_image 32 = .ok (.iload_n 1, 1) := by decide +kernel
theorem d_N_image_33 : decode b_N_image 33 = .ok (.iadd, 1) := by decide +kernel
theorem d_N_image_34 : decode b_N_image 34 = .ok (.iconst 1, 1) := by decide +kernel
theorem d_N_image_35 : decode b_N_image 35 = .ok (.isub, 1) := by decide +kernel
theorem d_N_image_36 : decode b_N_image 36 = .ok (.aaload, 1) := by decide +kernel
theorem d_N_image_37 : decode b_N_image 37 = .ok (.iload_n 2, 1) := by decide +kernel
theorem d_N_image_38 : decode b_N_image 38 = .ok (.iaload, 1) := by decide +kernel
theorem d_N_image_39 : decode b_N_image 39 = .ok (.goto 4, 3) := by decide +kernel
theorem d_N_image_42 : decode b_N_image 42 = .ok (.iconst 0, 1) := by decide +kernel
theorem d_N_image_43 : decode b_N_image 43 = .ok (.ireturn, 1) := by decide +kernel
theorem d_N_equalTo_0 : decode b_N_equalTo 0 = .ok (.aload_n 0, 1) := by decide +kernel
theorem d_N_equalTo_1 : decode b_N_equalTo 1 = .ok (.getfield 12, 3) := by decide +kernel
theorem d_N_equalTo_4 : decode b_N_equalTo 4 = .ok (.getfield 55, 3) := by decide +kernel
theorem d_N_equalTo_7 : decode b_N_equalTo 7 = .ok (.aload_n 1, 1) := by decide +kernel
theorem d_N_equalTo_8 : decode b_N_equalTo 8 = .ok (.getfield 12, 3) := by decide +kernel
theorem d_N_equalTo_11 : decode b_N_equalTo 11 = .ok (.getfield 55, 3) := by decide +kernel
theorem d_N_equalTo_14 : decode b_N_equalTo 14 = .ok (.if_icmp .ne 25, 3) := by decide +kernel
theorem d_N_equalTo_17 : decode b_N_equalTo 17 = .ok (.aload_n 0, 1) := by decide +kernel
theorem d_N_equalTo_18 : decode b_N_equalTo 18 = .ok (.getfield 34, 3) := by decide +kernel
theorem d_N_equalTo_21 : decode b_N_equalTo 21 = .ok (.aload_n 1, 1) := by decide +kernel
theorem d_N_equalTo_22 : decode b_N_equalTo 22 = .ok (.getfield 34, 3) := by decide +kernel
theorem d_N_equalTo_25 : decode b_N_equalTo 25 = .ok (.if_icmp .ne 14, 3) := by decide +kernel
theorem d_N_equalTo_28 : decode b_N_equalTo 28 = .ok (.aload_n 0, 1) := by decide +kernel
theorem d_N_equalTo_29 : decode b_N_equalTo 29 = .ok (.invokevirtual 69, 3) := by decide +kernel
theorem d_N_equalTo_32 : decode b_N_equalTo 32 = .ok (.aload_n 1, 1) := by decide +kernel
theorem d_N_equalTo_33 : decode b_N_equalTo 33 = .ok (.invokevirtual 69, 3) := by decide +kernel
theorem d_N_equalTo_36 : decode b_N_equalTo 36 = .ok (.if_icmp .eq 5, 3) := by decide +kernel
theorem d_N_equalTo_39 : decode b_N_equalTo 39 = .ok (.iconst 0, 1) := by decide +kernel
theorem d_N_equalTo_40 : decode b_N_equalTo 40 = .ok (.ireturn, 1) := by decide +kernel
theorem d_N_equalTo_41 : decode b_N_equalTo 41 = .ok (.iconst 1, 1) := by decide +kernel
theorem d_N_equalTo_42 : decode b_N_equalTo 42 = .ok (.istore_n 2, 1) := by decide +kernel
theorem d_N_equalTo_43 : decode b_N_equalTo 43 = .ok (.iload_n 2, 1) := by decide +kernel
theorem d_N_equalTo_44 : decode b_N_equalTo 44 = .ok (.aload_n 0, 1) := by decide +kernel
theorem d_N_equalTo_45 : decode b_N_equalTo 45 = .ok (.invokevirtual 69, 3) := by decide +kernel
theorem d_N_equalTo_48 : decode b_N_equalTo 48 = .ok (.if_icmp .gt 45, 3) := by decide +kernel
theorem d_N_equalTo_51 : decode b_N_equalTo 51 = .ok (.iconst 1, 1) := by decide +kernel
theorem d_N_equalTo_52 : decode b_N_equalTo 52 = .ok (.istore_n 3, 1) := by decide +kernel
theorem d_N_equalTo_53 : decode b_N_equalTo 53 = .ok (.iload_n 3, 1) := by decide +kernel
theorem d_N_equalTo_54 : decode b_N_equalTo 54 = .ok (.aload_n 0, 1) := by decide +kernel
theorem d_N_equalTo_55 : decode b_N_equalTo 55 = .ok (.getfield 12, 3) := by decide +kernel
theorem d_N_equalTo_58 : decode b_N_equalTo 58 = .ok (.getfield 55, 3) := by decide +kernel
theorem d_N_equalTo_61 : decode b_N_equalTo 61 = .ok (.if_icmp .gt 26, 3) := by decide +kernel
theorem d_N_equalTo_64 : decode b_N_equalTo 64 = .ok (.aload_n 0, 1) := by decide +kernel
theorem d_N_equalTo_65 : decode b_N_equalTo 65 = .ok (.iload_n 2, 1) := by decide +kernel
theorem d_N_equalTo_66 : decode b_N_equalTo 66 = .ok (.iload_n 3, 1) := by decide +kernel
theorem d_N_equalTo_67 : decode b_N_equalTo 67 = .ok (.invokevirtual 76, 3) := by decide +kernel
theorem d_N_equalTo_70 : decode b_N_equalTo 70 = .ok (.aload_n 1, 1) := by decide +kernel
theorem d_N_equalTo_71 : decode b_N_equalTo 71 = .ok (.iload_n 2, 1) := by decide +kernel
theorem d_N_equalTo_72 : decode b_N_equalTo 72 = .ok (.iload_n 3, 1) := by decide +kernel
theorem d_N_equalTo_73 : decode b_N_equalTo 73 = .ok (.invokevirtual 76, 3) := by decide +kernel
theorem d_N_equalTo_76 : decode b_N_equalTo 76 = .ok (.if_icmp .eq 5, 3) := by decide +kernel
theorem d_N_equalTo_79 : decode b_N_equalTo 79 = .ok (.iconst 0, 1) := by decide +kernel
theorem d_N_equalTo_80 : decode b_N_equalTo 80 = .ok (.ireturn, 1) := by decide +kernel
theorem d_N_equalTo_81 : decode b_N_equalTo 81 = .ok (.iinc 3 1, 3) := by decide +kernel
theorem d_N_equalTo_84 : decode b_N_equalTo 84 = .ok (.goto (-31), 3) := by decide +kernel
theorem d_N_equalTo_87 : decode b_N_equalTo 87 = .ok (.iinc 2 1, 3) := by decide +kernel
theorem d_N_equalTo_90 : decode b_N_equalTo 90 = .ok (.goto (-47), 3) := by decide +kernel
theorem d_N_equalTo_93 : decode b_N_equalTo 93 = .ok (.iconst 1, 1) := by decide +kernel
theorem d_N_equalTo_94 : decode b_N_equalTo 94 = .ok (.ireturn, 1) := by decide +kernel
theorem d_N_appendSimple_0 : decode b_N_appendSimple 0 = .ok (.aload_n 0, 1) := by decide +kernel
theorem d_N_appendSimple_1 : decode b_N_appendSimple 1 = .ok (.getfield 12, 3) := by decide +kernel
theorem d_N_appendSimple_4 : decode b_N_appendSimple 4 = .ok (.getfield 55, 3) := by decide +kernel
theorem d_N_appendSimple_7 : decode b_N_appendSimple 7 = .ok (.istore_n 3, 1) := by decide +kernel
theorem d_N_appendSimple_8 : decode b_N_appendSimple 8 = .ok (.aload_n 0, 1) := by decide +kernel
theorem d_N_appendSimple_9 : decode b_N_appendSimple 9 = .ok (.getfield 20, 3) := by decide +kernel
theorem d_N_appendSimple_12 : decode b_N_appendSimple 12 = .ok (.aload_n 0, 1) := by decide +kernel
theorem d_N_appendSimple_13 : decode b_N_appendSimple 13 = .ok (.getfield 31, 3) := by decide +kernel
theorem d_N_appendSimple_16 : decode b_N_appendSimple 16 = .ok (.aaload, 1) := by decide +kernel
theorem d_N_appendSimple_17 : decode b_N_appendSimple 17 = .ok (.astore 4, 2) := by decide +kernel
theorem d_N_appendSimple_19 : decode b_N_appendSimple 19 = .ok (.iconst 1, 1) := by decide +kernel
theorem d_N_appendSimple_20 : decode b_N_appendSimple 20 = .ok (.istore 5, 2) := by decide +kernel
theorem d_N_appendSimple_22 : decode b_N_appendSimple 22 = .ok (.iload 5, 2) := by decide +kernel
theorem d_N_appendSimple_24 : decode b_N_appendSimple 24 = .ok (.iload_n 3, 1) := by decide +kernel
theorem d_N_appendSimple_25 : decode b_N_appendSimple 25 = .ok (.if_icmp .gt 29, 3) := by decide +kernel
theorem d_N_appendSimple_28 : decode b_N_appendSimple 28 = .ok (.aload 4, 2) := by decide +kernel
theorem d_N_appendSimple_30 : decode b_N_appendSimple 30 = .ok (.iload 5, 2) := by decide +kernel
theorem d_N_appendSimple_32 : decode b_N_appendSimple 32 = .ok (.iload_n 2, 1) := by decide +kernel
theorem d_N_appendSimple_33 : decode b_N_appendSimple 33 = .ok (.ifCond .eq 12, 3) := by decide +kernel
theorem d_N_appendSimple_36 : decode b_N_appendSimple 36 = .ok (.iload_n 3, 1) := by decide +kernel
theorem d_N_appendSimple_37 : decode b_N_appendSimple 37 = .ok (.iconst 1, 1) := by decide +kernel
theorem d_N_appendSimple_38 : decode b_N_appendSimple 38 = .ok (.iadd, 1) := by decide +kernel
theorem d_N_appendSimple_39 : decode b_N_appendSimple 39 = .ok (.iload 5, 2) := by decide +kernel
theorem d_N_appendSimple_41 : decode b_N_appendSimple 41 = .ok (.isub, 1) := by decide +kernel
theorem d_N_appendSimple_42 : decode b_N_appendSimple 42 = .ok (.goto 5, 3) := by decide +kernel
theorem d_N_appendSimple_45 : decode b_N_appendSimple 45 = .ok (.iload 5, 2) := by decide +kernel
theorem d_N_appendSimple_47 : decode b_N_appendSimple 47 = .ok (.iastore, 1) := by decide +kernel
theorem d_N_appendSimple_48 : decode b_N_appendSimple 48 = .ok (.iinc 5 1, 3) := by decide +kernel
theorem d_N_appendSimple_51 : decode b_N_appendSimple 51 = .ok (.goto (-29), 3) := by decide +kernel
theorem d_N_appendSimple_54 : decode b_N_appendSimple 54 = .ok (.aload 4, 2) := by decide +kernel
theorem d_N_appendSimple_56 : decode b_N_appendSimple 56 = .ok (.iload_n 2, 1) := by decide +kernel
theorem d_N_appendSimple_57 : decode b_N_appendSimple 57 = .ok (.ifCond .eq 9, 3) := by decide +kernel
theorem d_N_appendSimple_60 : decode b_N_appendSimple 60 = .ok (.iload_n 3, 1) := by decide +kernel
theorem d_N_appendSimple_61 : decode b_N_appendSimple 61 = .ok (.iload_n 1, 1) := by decide +kernel
theorem d_N_appendSimple_62 : decode b_N_appendSimple 62 = .ok (.isub, 1) := by decide +kernel
theorem d_N_appendSimple_63 : decode b_N_appendSimple 63 = .ok (.goto 4, 3) := by decide +kernel
theorem d_N_appendSimple_66 : decode b_N_appendSimple 66 = .ok (.iload_n 1, 1) := by decide +kernel
theorem d_N_appendSimple_67 : decode b_N_appendSimple 67 = .ok (.invokestatic 80, 3) := by decide +kernel
theorem d_N_appendSimple_70 : decode b_N_appendSimple 70 = .ok (.aload_n 0, 1) := by decide +kernel
theorem d_N_appendSimple_71 : decode b_N_appendSimple 71 = .ok (.dup, 1) := by decide +kernel
theorem d_N_appendSimple_72 : decode b_N_appendSimple 72 = .ok (.getfield 31, 3) := by decide +kernel
theorem d_N_appendSimple_75 : decode b_N_appendSimple 75 = .ok (.iconst 1, 1) := by decide +kernel
theorem d_N_appendSimple_76 : decode b_N_appendSimple 76 = .ok (.iadd, 1) := by decide +kernel
theorem d_N_appendSimple_77 : decode b_N_appendSimple 77 = .ok (.putfield 31, 3) := by decide +kernel
theorem d_N_appendSimple_80 : decode b_N_appendSimple 80 = .ok (.return_, 1) := by decide +kernel
theorem d_N_settle_0 : decode b_N_settle 0 = .ok (.aload_n 0, 1) := by decide +kernel
theorem d_N_settle_1 : decode b_N_settle 1 = .ok (.getfield 31, 3) := by decide +kernel
theorem d_N_settle_4 : decode b_N_settle 4 = .ok (.iconst 1, 1) := by decide +kernel
theorem d_N_settle_5 : decode b_N_settle 5 = .ok (.isub, 1) := by decide +kernel
theorem d_N_settle_6 : decode b_N_settle 6 = .ok (.istore_n 1, 1) := by decide +kernel
theorem d_N_settle_7 : decode b_N_settle 7 = .ok (.iload_n 1, 1) := by decide +kernel
theorem d_N_settle_8 : decode b_N_settle 8 = .ok (.aload_n 0, 1) := by decide +kernel
theorem d_N_settle_9 : decode b_N_settle 9 = .ok (.getfield 27, 3) := by decide +kernel
theorem d_N_settle_12 : decode b_N_settle 12 = .ok (.if_icmp .le 33, 3) := by decide +kernel
theorem d_N_settle_15 : decode b_N_settle 15 = .ok (.aload_n 0, 1) := by decide +kernel
theorem d_N_settle_16 : decode b_N_settle 16 = .ok (.aload_n 0, 1) := by decide +kernel
theorem d_N_settle_17 : decode b_N_settle 17 = .ok (.getfield 20, 3) := by decide +kernel
theorem d_N_settle_20 : decode b_N_settle 20 = .ok (.iload_n 1, 1) := by decide +kernel
theorem d_N_settle_21 : decode b_N_settle 21 = .ok (.iconst 1, 1) := by decide +kernel
theorem d_N_settle_22 : decode b_N_settle 22 = .ok (.isub, 1) := by decide +kernel
theorem d_N_settle_23 : decode b_N_settle 23 = .ok (.aaload, 1) := by decide +kernel
theorem d_N_settle_24 : decode b_N_settle 24 = .ok (.aload_n 0, 1) := by decide +kernel
theorem d_N_settle_25 : decode b_N_settle 25 = .ok (.getfield 20, 3) := by decide +kernel
theorem d_N_settle_28 : decode b_N_settle 28 = .ok (.iload_n 1, 1) := by decide +kernel
theorem d_N_settle_29 : decode b_N_settle 29 = .ok (.aaload, 1) := by decide +kernel
theorem d_N_settle_30 : decode b_N_settle 30 = .ok (.invokevirtual 84, 3) := by decide +kernel
theorem d_N_settle_33 : decode b_N_settle 33 = .ok (.ifCond .ne 6, 3) := by decide +kernel
theorem d_N_settle_36 : decode b_N_settle 36 = .ok (.goto 9, 3) := by decide +kernel
theorem d_N_settle_39 : decode b_N_settle 39 = .ok (.iinc 1 (-1), 3) := by decide +kernel
theorem d_N_settle_42 : decode b_N_settle 42 = .ok (.goto (-35), 3) := by decide +kernel
theorem d_N_settle_45 : decode b_N_settle 45 = .ok (.aload_n 0, 1) := by decide +kernel
theorem d_N_settle_46 : decode b_N_settle 46 = .ok (.getfield 27, 3) := by decide +kernel
theorem d_N_settle_49 : decode b_N_settle 49 = .ok (.aload_n 0, 1) := by decide +kernel
theorem d_N_settle_50 : decode b_N_settle 50 = .ok (.getfield 31, 3) := by decide +kernel
theorem d_N_settle_53 : decode b_N_settle 53 = .ok (.if_icmp .ge 42, 3) := by decide +kernel
theorem d_N_settle_56 : decode b_N_settle 56 = .ok (.aload_n 0, 1) := by decide +kernel
theorem d_N_settle_57 : decode b_N_settle 57 = .ok (.aload_n 0, 1) := by decide +kernel
theorem d_N_settle_58 : decode b_N_settle 58 = .ok (.getfield 20, 3) := by decide +kernel
theorem d_N_settle_61 : decode b_N_settle 61 = .ok (.aload_n 0, 1) := by decide +kernel
theorem d_N_settle_62 : decode b_N_settle 62 = .ok (.getfield 27, 3) := by decide +kernel
theorem d_N_settle_65 : decode b_N_settle 65 = .ok (.aaload, 1) := by decide +kernel
theorem d_N_settle_66 : decode b_N_settle 66 = .ok (.invokevirtual 88, 3) := by decide +kernel
theorem d_N_settle_69 : decode b_N_settle 69 = .ok (.ifCond .eq 26, 3) := by decide +kernel
theorem d_N_settle_72 : decode b_N_settle 72 = .ok (.aload_n 0, 1) := by decide +kernel
theorem d_N_settle_73 : decode b_N_settle 73 = .ok (.dup, 1) := by decide +kernel
theorem d_N_settle_74 : decode b_N_settle 74 = .ok (.getfield 27, 3) := by decide +kernel
theorem d_N_settle_77 : decode b_N_settle 77 = .ok (.iconst 1, 1) := by decide +kernel
theorem d_N_settle_78 : decode b_N_settle 78 = .ok (.iadd, 1) := by decide +kernel
theorem d_N_settle_79 : decode b_N_settle 79 = .ok (.putfield 27, 3) := by decide +kernel
theorem d_N_settle_82 : decode b_N_settle 82 = .ok (.aload_n 0, 1) := by decide +kernel
theorem d_N_settle_83 : decode b_N_settle 83 = .ok (.dup, 1) := by decide +kernel
theorem d_N_settle_84 : decode b_N_settle 84 = .ok (.getfield 34, 3) := by decide +kernel
theorem d_N_settle_87 : decode b_N_settle 87 = .ok (.iconst 1, 1) := by decide +kernel
theorem d_N_settle_88 : decode b_N_settle 88 = .ok (.iadd, 1) := by decide +kernel
theorem d_N_settle_89 : decode b_N_settle 89 = .ok (.putfield 34, 3) := by decide +kernel
theorem d_N_settle_92 : decode b_N_settle 92 = .ok (.goto (-47), 3) := by decide +kernel
theorem d_N_settle_95 : decode b_N_settle 95 = .ok (.aload_n 0, 1) := by decide +kernel
theorem d_N_settle_96 : decode b_N_settle 96 = .ok (.getfield 27, 3) := by decide +kernel
theorem d_N_settle_99 : decode b_N_settle 99 = .ok (.aload_n 0, 1) := by decide +kernel
theorem d_N_settle_100 : decode b_N_settle 100 = .ok (.getfield 31, 3) := by decide +kernel
theorem d_N_settle_103 : decode b_N_settle 103 = .ok (.if_icmp .ge 34, 3) := by decide +kernel
theorem d_N_settle_106 : decode b_N_settle 106 = .ok (.aload_n 0, 1) := by decide +kernel
theorem d_N_settle_107 : decode b_N_settle 107 = .ok (.aload_n 0, 1) := by decide +kernel
theorem d_N_settle_108 : decode b_N_settle 108 = .ok (.getfield 20, 3) := by decide +kernel
theorem d_N_settle_111 : decode b_N_settle 111 = .ok (.aload_n 0, 1) := by decide +kernel
theorem d_N_settle_112 : decode b_N_settle 112 = .ok (.getfield 31, 3) := by decide +kernel
theorem d_N_settle_115 : decode b_N_settle 115 = .ok (.iconst 1, 1) := by decide +kernel
theorem d_N_settle_116 : decode b_N_settle 116 = .ok (.isub, 1) := by decide +kernel
theorem d_N_settle_117 : decode b_N_settle 117 = .ok (.aaload, 1) := by decide +kernel
theorem d_N_settle_118 : decode b_N_settle 118 = .ok (.invokevirtual 92, 3) := by decide +kernel
theorem d_N_settle_121 : decode b_N_settle 121 = .ok (.ifCond .eq 16, 3) := by decide +kernel
theorem d_N_settle_124 : decode b_N_settle 124 = .ok (.aload_n 0, 1) := by decide +kernel
theorem d_N_settle_125 : decode b_N_settle 125 = .ok (.dup, 1) := by decide +kernel
theorem d_N_settle_126 : decode b_N_settle 126 = .ok (.getfield 31, 3) := by decide +kernel
theorem d_N_settle_129 : decode b_N_settle 129 = .ok (.iconst 1, 1) := by decide +kernel
theorem d_N_settle_130 : decode b_N_settle 130 = .ok (.isub, 1) := by decide +kernel
theorem d_N_settle_131 : decode b_N_settle 131 = .ok (.putfield 31, 3) := by decide +kernel
theorem d_N_settle_134 : decode b_N_settle 134 = .ok (.goto (-39), 3) := by decide +kernel
theorem d_N_settle_137 : decode b_N_settle 137 = .ok (.return_, 1) := by decide +kernel
theorem d_N_moveOver_0 : decode b_N_moveOver 0 = .ok (.aload_n 0, 1) := by decide +kernel
theorem d_N_moveOver_1 : decode b_N_moveOver 1 = .ok (.getfield 12, 3) := by decide +kernel
theorem d_N_moveOver_4 : decode b_N_moveOver 4 = .ok (.getfield 55, 3) := by decide +kernel
theorem d_N_moveOver_7 : decode b_N_moveOver 7 = .ok (.istore_n 3, 1) := by decide +kernel
theorem d_N_moveOver_8 : decode b_N_moveOver 8 = .ok (.iconst 1, 1) := by decide +kernel
theorem d_N_moveOver_9 : decode b_N_moveOver 9 = .ok (.istore 4, 2) := by decide +kernel
theorem d_N_moveOver_11 : decode b_N_moveOver 11 = .ok (.iload 4, 2) := by decide +kernel
theorem d_N_moveOver_13 : decode b_N_moveOver 13 = .ok (.iload_n 3, 1) := by decide +kernel
theorem d_N_moveOver_14 : decode b_N_moveOver 14 = .ok (.if_icmp .gt 20, 3) := by decide +kernel
theorem d_N_moveOver_17 : decode b_N_moveOver 17 = .ok (.aload_n 0, 1) := by decide +kernel
theorem d_N_moveOver_18 : decode b_N_moveOver 18 = .ok (.getfield 23, 3) := by decide +kernel
theorem d_N_moveOver_21 : decode b_N_moveOver 21 = .ok (.aload_n 1, 1) := by decide +kernel
theorem d_N_moveOver_22 : decode b_N_moveOver 22 = .ok (.iload 4, 2) := by decide +kernel
theorem d_N_moveOver_24 : decode b_N_moveOver 24 = .ok (.iaload, 1) := by decide +kernel
theorem d_N_moveOver_25 : decode b_N_moveOver 25 = .ok (.iload 4, 2) := by decide +kernel
theorem d_N_moveOver_27 : decode b_N_moveOver 27 = .ok (.iastore, 1) := by decide +kernel
theorem d_N_moveOver_28 : decode b_N_moveOver 28 = .ok (.iinc 4 1, 3) := by decide +kernel
theorem d_N_moveOver_31 : decode b_N_moveOver 31 = .ok (.goto (-20), 3) := by decide +kernel
theorem d_N_moveOver_34 : decode b_N_moveOver 34 = .ok (.iconst 0, 1) := by decide +kernel
theorem d_N_moveOver_35 : decode b_N_moveOver 35 = .ok (.istore 4, 2) := by decide +kernel
theorem d_N_moveOver_37 : decode b_N_moveOver 37 = .ok (.iconst 1, 1) := by decide +kernel
theorem d_N_moveOver_38 : decode b_N_moveOver 38 = .ok (.istore 5, 2) := by decide +kernel
theorem d_N_moveOver_40 : decode b_N_moveOver 40 = .ok (.iconst 0, 1) := by decide +kernel
theorem d_N_moveOver_41 : decode b_N_moveOver 41 = .ok (.istore 6, 2) := by decide +kernel
theorem d_N_moveOver_43 : decode b_N_moveOver 43 = .ok (.iload 6, 2) := by decide +kernel
theorem d_N_moveOver_45 : decode b_N_moveOver 45 = .ok (.bipush 28, 2) := by decide +kernel
theorem d_N_moveOver_47 : decode b_N_moveOver 47 = .ok (.if_icmp .gt 38, 3) := by decide +kernel
theorem d_N_moveOver_50 : decode b_N_moveOver 50 = .ok (.iload 5, 2) := by decide +kernel
theorem d_N_moveOver_52 : decode b_N_moveOver 52 = .ok (.ifCond .eq 33, 3) := by decide +kernel
theorem d_N_moveOver_55 : decode b_N_moveOver 55 = .ok (.aload_n 0, 1) := by decide +kernel
theorem d_N_moveOver_56 : decode b_N_moveOver 56 = .ok (.aload_n 2, 1) := by decide +kernel
theorem d_N_moveOver_57 : decode b_N_moveOver 57 = .ok (.invokevirtual 95, 3) := by decide +kernel
theorem d_N_moveOver_60 : decode b_N_moveOver 60 = .ok (.istore 5, 2) := by decide +kernel
theorem d_N_moveOver_62 : decode b_N_moveOver 62 = .ok (.iload 4, 2) := by decide +kernel
theorem d_N_moveOver_64 : decode b_N_moveOver 64 = .ok (.ifCond .ne 8, 3) := by decide +kernel
theorem d_N_moveOver_67 : decode b_N_moveOver 67 = .ok (.iload 5, 2) := by decide +kernel
theorem d_N_moveOver_69 : decode b_N_moveOver 69 = .ok (.ifCond .eq 7, 3) := by decide +kernel
theorem d_N_moveOver_72 : decode b_N_moveOver 72 = .ok (.iconst 1, 1) := by decide +kernel
theorem d_N_moveOver_73 : decode b_N_moveOver 73 = .ok (.goto 4, 3) := by decide +kernel
theorem d_N_moveOver_76 : decode b_N_moveOver 76 = .ok (.iconst 0, 1) := by decide +kernel
theorem d_N_moveOver_77 : decode b_N_moveOver 77 = .ok (.istore 4, 2) := by decide +kernel
theorem d_N_moveOver_79 : decode b_N_moveOver 79 = .ok (.iinc 6 1, 3) := by decide +kernel
theorem d_N_moveOver_82 : decode b_N_moveOver 82 = .ok (.goto (-39), 3) := by decide +kernel
theorem d_N_moveOver_85 : decode b_N_moveOver 85 = .ok (.iconst 1, 1) := by decide +kernel
theorem d_N_moveOver_86 : decode b_N_moveOver 86 = .ok (.istore 6, 2) := by decide +kernel
theorem d_N_moveOver_88 : decode b_N_moveOver 88 = .ok (.iload 6, 2) := by decide +kernel
theorem d_N_moveOver_90 : decode b_N_moveOver 90 = .ok (.iload_n 3, 1) := by decide +kernel
theorem d_N_moveOver_91 : decode b_N_moveOver 91 = .ok (.if_icmp .gt 20, 3) := by decide +kernel
theorem d_N_moveOver_94 : decode b_N_moveOver 94 = .ok (.aload_n 1, 1) := by decide +kernel
theorem d_N_moveOver_95 : decode b_N_moveOver 95 = .ok (.aload_n 0, 1) := by decide +kernel
theorem d_N_moveOver_96 : decode b_N_moveOver 96 = .ok (.getfield 23, 3) := by decide +kernel
theorem d_N_moveOver_99 : decode b_N_moveOver 99 = .ok (.iload 6, 2) := by decide +kernel
theorem d_N_moveOver_101 : decode b_N_moveOver 101 = .ok (.iaload, 1) := by decide +kernel
theorem d_N_moveOver_102 : decode b_N_moveOver 102 = .ok (.iload 6, 2) := by decide +kernel
theorem d_N_moveOver_104 : decode b_N_moveOver 104 = .ok (.iastore, 1) := by decide +kernel
theorem d_N_moveOver_105 : decode b_N_moveOver 105 = .ok (.iinc 6 1, 3) := by decide +kernel
theorem d_N_moveOver_108 : decode b_N_moveOver 108 = .ok (.goto (-20), 3) := by decide +kernel
theorem d_N_moveOver_111 : decode b_N_moveOver 111 = .ok (.iload 4, 2) := by decide +kernel
theorem d_N_moveOver_113 : decode b_N_moveOver 113 = .ok (.ireturn, 1) := by decide +kernel
theorem d_N_sweepOver_0 : decode b_N_sweepOver 0 = .ok (.iconst 0, 1) := by decide +kernel
theorem d_N_sweepOver_1 : decode b_N_sweepOver 1 = .ok (.istore_n 2, 1) := by decide +kernel
theorem d_N_sweepOver_2 : decode b_N_sweepOver 2 = .ok (.iconst 1, 1) := by decide +kernel
theorem d_N_sweepOver_3 : decode b_N_sweepOver 3 = .ok (.istore_n 3, 1) := by decide +kernel
theorem d_N_sweepOver_4 : decode b_N_sweepOver 4 = .ok (.iload_n 3, 1) := by decide +kernel
theorem d_N_sweepOver_5 : decode b_N_sweepOver 5 = .ok (.aload_n 0, 1) := by decide +kernel
theorem d_N_sweepOver_6 : decode b_N_sweepOver 6 = .ok (.getfield 12, 3) := by decide +kernel
theorem d_N_sweepOver_9 : decode b_N_sweepOver 9 = .ok (.getfield 55, 3) := by decide +kernel
theorem d_N_sweepOver_12 : decode b_N_sweepOver 12 = .ok (.if_icmp .ge 52, 3) := by decide +kernel
theorem d_N_sweepOver_15 : decode b_N_sweepOver 15 = .ok (.aload_n 1, 1) := by decide +kernel
theorem d_N_sweepOver_16 : decode b_N_sweepOver 16 = .ok (.iload_n 3, 1) := by decide +kernel
theorem d_N_sweepOver_17 : decode b_N_sweepOver 17 = .ok (.iaload, 1) := by decide +kernel
theorem d_N_sweepOver_18 : decode b_N_sweepOver 18 = .ok (.aload_n 1, 1) := by decide +kernel
theorem d_N_sweepOver_19 : decode b_N_sweepOver 19 = .ok (.iload_n 3, 1) := by decide +kernel
theorem d_N_sweepOver_20 : decode b_N_sweepOver 20 = .ok (.iconst 1, 1) := by decide +kernel
theorem d_N_sweepOver_21 : decode b_N_sweepOver 21 = .ok (.iadd, 1) := by decide +kernel
theorem d_N_sweepOver_22 : decode b_N_sweepOver 22 = .ok (.iaload, 1) := by decide +kernel
theorem d_N_sweepOver_23 : decode b_N_sweepOver 23 = .ok (.if_icmp .le 35, 3) := by decide +kernel
theorem d_N_sweepOver_26 : decode b_N_sweepOver 26 = .ok (.aload_n 0, 1) := by decide +kernel
theorem d_N_sweepOver_27 : decode b_N_sweepOver 27 = .ok (.getfield 23, 3) := by decide +kernel
theorem d_N_sweepOver_30 : decode b_N_sweepOver 30 = .ok (.iload_n 3, 1) := by decide +kernel
theorem d_N_sweepOver_31 : decode b_N_sweepOver 31 = .ok (.iaload, 1) := by decide +kernel
theorem d_N_sweepOver_32 : decode b_N_sweepOver 32 = .ok (.aload_n 0, 1) := by decide +kernel
theorem d_N_sweepOver_33 : decode b_N_sweepOver 33 = .ok (.getfield 23, 3) := by decide +kernel
theorem d_N_sweepOver_36 : decode b_N_sweepOver 36 = .ok (.iload_n 3, 1) := by decide +kernel
theorem d_N_sweepOver_37 : decode b_N_sweepOver 37 = .ok (.iconst 1, 1) := by decide +kernel
theorem d_N_sweepOver_38 : decode b_N_sweepOver 38 = .ok (.iadd, 1) := by decide +kernel
theorem d_N_sweepOver_39 : decode b_N_sweepOver 39 = .ok (.iaload, 1) := by decide +kernel
theorem d_N_sweepOver_40 : decode b_N_sweepOver 40 = .ok (.if_icmp .ge 18, 3) := by decide +kernel
theorem d_N_sweepOver_43 : decode b_N_sweepOver 43 = .ok (.aload_n 1, 1) := by decide +kernel
theorem d_N_sweepOver_44 : decode b_N_sweepOver 44 = .ok (.iload_n 3, 1) := by decide +kernel
theorem d_N_sweepOver_45 : decode b_N_sweepOver 45 = .ok (.invokestatic 80, 3) := by decide +kernel
theorem d_N_sweepOver_48 : decode b_N_sweepOver 48 = .ok (.aload_n 0, 1) := by decide +kernel
theorem d_N_sweepOver_49 : decode b_N_sweepOver 49 = .ok (.getfield 23, 3) := by decide +kernel
theorem d_N_sweepOver_52 : decode b_N_sweepOver 52 = .ok (.iload_n 3, 1) := by decide +kernel
theorem d_N_sweepOver_53 : decode b_N_sweepOver 53 = .ok (.invokestatic 80, 3) := by decide +kernel
theorem d_N_sweepOver_56 : decode b_N_sweepOver 56 = .ok (.iconst 1, 1) := by decide +kernel
theorem d_N_sweepOver_57 : decode b_N_sweepOver 57 = .ok (.istore_n 2, 1) := by decide +kernel
theorem d_N_sweepOver_58 : decode b_N_sweepOver 58 = .ok (.iinc 3 1, 3) := by decide +kernel
theorem d_N_sweepOver_61 : decode b_N_sweepOver 61 = .ok (.goto (-57), 3) := by decide +kernel
theorem d_N_sweepOver_64 : decode b_N_sweepOver 64 = .ok (.iload_n 2, 1) := by decide +kernel
theorem d_N_sweepOver_65 : decode b_N_sweepOver 65 = .ok (.ireturn, 1) := by decide +kernel
theorem d_N_isTurn_0 : decode b_N_isTurn 0 = .ok (.iconst 1, 1) := by decide +kernel
theorem d_N_isTurn_1 : decode b_N_isTurn 1 = .ok (.istore_n 2, 1) := by decide +kernel
theorem d_N_isTurn_2 : decode b_N_isTurn 2 = .ok (.iload_n 2, 1) := by decide +kernel
theorem d_N_isTurn_3 : decode b_N_isTurn 3 = .ok (.aload_n 0, 1) := by decide +kernel
theorem d_N_isTurn_4 : decode b_N_isTurn 4 = .ok (.getfield 12, 3) := by decide +kernel
theorem d_N_isTurn_7 : decode b_N_isTurn 7 = .ok (.getfield 55, 3) := by decide +kernel
theorem d_N_isTurn_10 : decode b_N_isTurn 10 = .ok (.if_icmp .gt 28, 3) := by decide +kernel
theorem d_N_isTurn_13 : decode b_N_isTurn 13 = .ok (.aload_n 1, 1) := by decide +kernel
theorem d_N_isTurn_14 : decode b_N_isTurn 14 = .ok (.iload_n 2, 1) := by decide +kernel
theorem d_N_isTurn_15 : decode b_N_isTurn 15 = .ok (.iaload, 1) := by decide +kernel
theorem d_N_isTurn_16 : decode b_N_isTurn 16 = .ok (.aload_n 0, 1) := by decide +kernel
theorem d_N_isTurn_17 : decode b_N_isTurn 17 = .ok (.getfield 12, 3) := by decide +kernel
theorem d_N_isTurn_20 : decode b_N_isTurn 20 = .ok (.getfield 55, 3) := by decide +kernel
theorem d_N_isTurn_23 : decode b_N_isTurn 23 = .ok (.iconst 1, 1) := by decide +kernel
theorem d_N_isTurn_24 : decode b_N_isTurn 24 = .ok (.iadd, 1) := by decide +kernel
theorem d_N_isTurn_25 : decode b_N_isTurn 25 = .ok (.iload_n 2, 1) := by decide +kernel
theorem d_N_isTurn_26 : decode b_N_isTurn 26 = .ok (.isub, 1) := by decide +kernel
theorem d_N_isTurn_27 : decode b_N_isTurn 27 = .ok (.if_icmp .eq 5, 3) := by decide +kernel
theorem d_N_isTurn_30 : decode b_N_isTurn 30 = .ok (.iconst 0, 1) := by decide +kernel
theorem d_N_isTurn_31 : decode b_N_isTurn 31 = .ok (.ireturn, 1) := by decide +kernel
theorem d_N_isTurn_32 : decode b_N_isTurn 32 = .ok (.iinc 2 1, 3) := by decide +kernel
theorem d_N_isTurn_35 : decode b_N_isTurn 35 = .ok (.goto (-33), 3) := by decide +kernel
theorem d_N_isTurn_38 : decode b_N_isTurn 38 = .ok (.iconst 1, 1) := by decide +kernel
theorem d_N_isTurn_39 : decode b_N_isTurn 39 = .ok (.ireturn, 1) := by decide +kernel
theorem d_N_isNone_0 : decode b_N_isNone 0 = .ok (.iconst 1, 1) := by decide +kernel
theorem d_N_isNone_1 : decode b_N_isNone 1 = .ok (.istore_n 2, 1) := by decide +kernel
theorem d_N_isNone_2 : decode b_N_isNone 2 = .ok (.iload_n 2, 1) := by decide +kernel
theorem d_N_isNone_3 : decode b_N_isNone 3 = .ok (.aload_n 0, 1) := by decide +kernel
theorem d_N_isNone_4 : decode b_N_isNone 4 = .ok (.getfield 12, 3) := by decide +kernel
theorem d_N_isNone_7 : decode b_N_isNone 7 = .ok (.getfield 55, 3) := by decide +kernel
theorem d_N_isNone_10 : decode b_N_isNone 10 = .ok (.if_icmp .gt 18, 3) := by decide +kernel
theorem d_N_isNone_13 : decode b_N_isNone 13 = .ok (.aload_n 1, 1) := by decide +kernel
theorem d_N_isNone_14 : decode b_N_isNone 14 = .ok (.iload_n 2, 1) := by decide +kernel
theorem d_N_isNone_15 : decode b_N_isNone 15 = .ok (.iaload, 1) := by decide +kernel
theorem d_N_isNone_16 : decode b_N_isNone 16 = .ok (.iload_n 2, 1) := by decide +kernel
theorem d_N_isNone_17 : decode b_N_isNone 17 = .ok (.if_icmp .eq 5, 3) := by decide +kernel
theorem d_N_isNone_20 : decode b_N_isNone 20 = .ok (.iconst 0, 1) := by decide +kernel
theorem d_N_isNone_21 : decode b_N_isNone 21 = .ok (.ireturn, 1) := by decide +kernel
theorem d_N_isNone_22 : decode b_N_isNone 22 = .ok (.iinc 2 1, 3) := by decide +kernel
theorem d_N_isNone_25 : decode b_N_isNone 25 = .ok (.goto (-23), 3) := by decide +kernel
theorem d_N_isNone_28 : decode b_N_isNone 28 = .ok (.iconst 1, 1) := by decide +kernel
theorem d_N_isNone_29 : decode b_N_isNone 29 = .ok (.ireturn, 1) := by decide +kernel
end
section
theorem d_B_init_0 : decode b_B_init 0 = .ok (.aload_n 0, 1) := by decide +kernel
theorem d_B_init_1 : decode b_B_init 1 = .ok (.invokespecial 3, 3) := by decide +kernel
theorem d_B_init_4 : decode b_B_init 4 = .ok (.aload_n 0, 1) := by decide +kernel
theorem d_B_init_5 : decode b_B_init 5 = .ok (.iconst 4, 1) := by decide +kernel
theorem d_B_init_6 : decode b_B_init 6 = .ok (.anewarray 9, 3) := by decide +kernel
theorem d_B_init_9 : decode b_B_init 9 = .ok (.putfield 11, 3) := by decide +kernel
theorem d_B_init_12 : decode b_B_init 12 = .ok (.aload_n 0, 1) := by decide +kernel
theorem d_B_init_13 : decode b_B_init 13 = .ok (.iconst 4, 1) := by decide +kernel
theorem d_B_init_14 : decode b_B_init 14 = .ok (.anewarray 15, 3) := by decide +kernel
theorem d_B_init_17 : decode b_B_init 17 = .ok (.putfield 17, 3) := by decide +kernel
theorem d_B_init_20 : decode b_B_init 20 = .ok (.iconst 0, 1) := by decide +kernel
theorem d_B_init_21 : decode b_B_init 21 = .ok (.istore_n 1, 1) := by decide +kernel
theorem d_B_init_22 : decode b_B_init 22 = .ok (.iload_n 1, 1) := by decide +kernel
theorem d_B_init_23 : decode b_B_init 23 = .ok (.iconst 4, 1) := by decide +kernel
theorem d_B_init_24 : decode b_B_init 24 = .ok (.if_icmp .ge 35, 3) := by decide +kernel
theorem d_B_init_27 : decode b_B_init 27 = .ok (.aload_n 0, 1) := by decide +kernel
theorem d_B_init_28 : decode b_B_init 28 = .ok (.getfield 11, 3) := by decide +kernel
theorem d_B_init_31 : decode b_B_init 31 = .ok (.iload_n 1, 1) := by decide +kernel
theorem d_B_init_32 : decode b_B_init 32 = .ok (.new 9, 3) := by decide +kernel
theorem d_B_init_35 : decode b_B_init 35 = .ok (.dup, 1) := by decide +kernel
theorem d_B_init_36 : decode b_B_init 36 = .ok (.invokespecial 21, 3) := by decide +kernel
theorem d_B_init_39 : decode b_B_init 39 = .ok (.aastore, 1) := by decide +kernel
theorem d_B_init_40 : decode b_B_init 40 = .ok (.aload_n 0, 1) := by decide +kernel
theorem d_B_init_41 : decode b_B_init 41 = .ok (.getfield 17, 3) := by decide +kernel
theorem d_B_init_44 : decode b_B_init 44 = .ok (.iload_n 1, 1) := by decide +kernel
theorem d_B_init_45 : decode b_B_init 45 = .ok (.new 15, 3) := by decide +kernel
theorem d_B_init_48 : decode b_B_init 48 = .ok (.dup, 1) := by decide +kernel
theorem d_B_init_49 : decode b_B_init 49 = .ok (.invokespecial 22, 3) := by decide +kernel
theorem d_B_init_52 : decode b_B_init 52 = .ok (.aastore, 1) := by decide +kernel
theorem d_B_init_53 : decode b_B_init 53 = .ok (.iinc 1 1, 3) := by decide +kernel
theorem d_B_init_56 : decode b_B_init 56 = .ok (.goto (-34), 3) := by decide +kernel
theorem d_B_init_59 : decode b_B_init 59 = .ok (.return_, 1) := by decide +kernel
theorem d_B_strands_0 : decode b_B_strands 0 = .ok (.iload_n 1, 1) := by decide +kernel
theorem d_B_strands_1 : decode b_B_strands 1 = .ok (.invokestatic 23, 3) := by decide +kernel
theorem d_B_strands_4 : decode b_B_strands 4 = .ok (.ifCond .eq 14, 3) := by decide +kernel
theorem d_B_strands_7 : decode b_B_strands 7 = .ok (.iload_n 2, 1) := by decide +kernel
theorem d_B_strands_8 : decode b_B_strands 8 = .ok (.iconst 1, 1) := by decide +kernel
theorem d_B_strands_9 : decode b_B_strands 9 = .ok (.if_icmp .lt 9, 3) := by decide +kernel
theorem d_B_strands_12 : decode b_B_strands 12 = .ok (.iload_n 2, 1) := by decide +kernel
theorem d_B_strands_13 : decode b_B_strands 13 = .ok (.bipush 8, 2) := by decide +kernel
theorem d_B_strands_15 : decode b_B_strands 15 = .ok (.if_icmp .le 5, 3) := by decide +kernel
theorem d_B_strands_18 : decode b_B_strands 18 = .ok (.iconst 0, 1) := by decide +kernel
theorem d_B_strands_19 : decode b_B_strands 19 = .ok (.ireturn, 1) := by decide +kernel
theorem d_B_strands_20 : decode b_B_strands 20 = .ok (.aload_n 0, 1) := by decide +kernel
theorem d_B_strands_21 : decode b_B_strands 21 = .ok (.getfield 11, 3) := by decide +kernel
theorem d_B_strands_24 : decode b_B_strands 24 = .ok (.iload_n 1, 1) := by decide +kernel
theorem d_B_strands_25 : decode b_B_strands 25 = .ok (.aaload, 1) := by decide +kernel
theorem d_B_strands_26 : decode b_B_strands 26 = .ok (.iload_n 2, 1) := by decide +kernel
theorem d_B_strands_27 : decode b_B_strands 27 = .ok (.invokevirtual 27, 3) := by decide +kernel
theorem d_B_strands_30 : decode b_B_strands 30 = .ok (.iconst 1, 1) := by decide +kernel
theorem d_B_strands_31 : decode b_B_strands 31 = .ok (.ireturn, 1) := by decide +kernel
theorem d_B_letter_0 : decode b_B_letter 0 = .ok (.iload_n 1, 1) := by decide +kernel
theorem d_B_letter_1 : decode b_B_letter 1 = .ok (.invokestatic 23, 3) := by decide +kernel
theorem d_B_letter_4 : decode b_B_letter 4 = .ok (.ifCond .eq 16, 3) := by decide +kernel
theorem d_B_letter_7 : decode b_B_letter 7 = .ok (.aload_n 0, 1) := by decide +kernel
theorem d_B_letter_8 : decode b_B_letter 8 = .ok (.getfield 11, 3) := by decide +kernel
theorem d_B_letter_11 : decode b_B_letter 11 = .ok (.iload_n 1, 1) := by decide +kernel
theorem d_B_letter_12 : decode b_B_letter 12 = .ok (.aaload, 1) := by decide +kernel
theorem d_B_letter_13 : decode b_B_letter 13 = .ok (.iload_n 2, 1) := by decide +kernel
theorem d_B_letter_14 : decode b_B_letter 14 = .ok (.invokevirtual 31, 3) := by decide +kernel
theorem d_B_letter_17 : decode b_B_letter 17 = .ok (.ifCond .ne 5, 3) := by decide +kernel
theorem d_B_letter_20 : decode b_B_letter 20 = .ok (.iconst (-1), 1) := by decide +kernel
theorem d_B_letter_21 : decode b_B_letter 21 = .ok (.ireturn, 1) := by decide +kernel
theorem d_B_letter_22 : decode b_B_letter 22 = .ok (.aload_n 0, 1) := by decide +kernel
theorem d_B_letter_23 : decode b_B_letter 23 = .ok (.getfield 11, 3) := by decide +kernel
theorem d_B_letter_26 : decode b_B_letter 26 = .ok (.iload_n 1, 1) := by decide +kernel
theorem d_B_letter_27 : decode b_B_letter 27 = .ok (.aaload, 1) := by decide +kernel
theorem d_B_letter_28 : decode b_B_letter 28 = .ok (.getfield 34, 3) := by decide +kernel
theorem d_B_letter_31 : decode b_B_letter 31 = .ok (.ireturn, 1) := by decide +kernel
theorem d_B_copy_0 : decode b_B_copy 0 = .ok (.iload_n 1, 1) := by decide +kernel
theorem d_B_copy_1 : decode b_B_copy 1 = .ok (.invokestatic 23, 3) := by decide +kernel
theorem d_B_copy_4 : decode b_B_copy 4 = .ok (.ifCond .eq 10, 3) := by decide +kernel
theorem d_B_copy_7 : decode b_B_copy 7 = .ok (.iload_n 2, 1) := by decide +kernel
theorem d_B_copy_8 : decode b_B_copy 8 = .ok (.invokestatic 23, 3) := by decide +kernel
theorem d_B_copy_11 : decode b_B_copy 11 = .ok (.ifCond .ne 5, 3) := by decide +kernel
theorem d_B_copy_14 : decode b_B_copy 14 = .ok (.iconst 0, 1) := by decide +kernel
theorem d_B_copy_15 : decode b_B_copy 15 = .ok (.ireturn, 1) := by decide +kernel
theorem d_B_copy_16 : decode b_B_copy 16 = .ok (.aload_n 0, 1) := by decide +kernel
theorem d_B_copy_17 : decode b_B_copy 17 = .ok (.getfield 11, 3) := by decide +kernel
theorem d_B_copy_20 : decode b_B_copy 20 = .ok (.iload_n 1, 1) := by decide +kernel
theorem d_B_copy_21 : decode b_B_copy 21 = .ok (.aaload, 1) := by decide +kernel
theorem d_B_copy_22 : decode b_B_copy 22 = .ok (.aload_n 0, 1) := by decide +kernel
theorem d_B_copy_23 : decode b_B_copy 23 = .ok (.getfield 11, 3) := by decide +kernel
theorem d_B_copy_26 : decode b_B_copy 26 = .ok (.iload_n 2, 1) := by decide +kernel
theorem d_B_copy_27 : decode b_B_copy 27 = .ok (.aaload, 1) := by decide +kernel
theorem d_B_copy_28 : decode b_B_copy 28 = .ok (.invokevirtual 38, 3) := by decide +kernel
theorem d_B_copy_31 : decode b_B_copy 31 = .ok (.iload_n 3, 1) := by decide +kernel
theorem d_B_copy_32 : decode b_B_copy 32 = .ok (.ifCond .eq 12, 3) := by decide +kernel
theorem d_B_copy_35 : decode b_B_copy 35 = .ok (.aload_n 0, 1) := by decide +kernel
theorem d_B_copy_36 : decode b_B_copy 36 = .ok (.getfield 11, 3) := by decide +kernel
theorem d_B_copy_39 : decode b_B_copy 39 = .ok (.iload_n 1, 1) := by decide +kernel
theorem d_B_copy_40 : decode b_B_copy 40 = .ok (.aaload, 1) := by decide +kernel
theorem d_B_copy_41 : decode b_B_copy 41 = .ok (.invokevirtual 42, 3) := by decide +kernel
theorem d_B_copy_44 : decode b_B_copy 44 = .ok (.iconst 1, 1) := by decide +kernel
theorem d_B_copy_45 : decode b_B_copy 45 = .ok (.ireturn, 1) := by decide +kernel
theorem d_B_many_0 : decode b_B_many 0 = .ok (.iload_n 1, 1) := by decide +kernel
theorem d_B_many_1 : decode b_B_many 1 = .ok (.invokestatic 23, 3) := by decide +kernel
theorem d_B_many_4 : decode b_B_many 4 = .ok (.ifCond .ne 7, 3) := by decide +kernel
theorem d_B_many_7 : decode b_B_many 7 = .ok (.sipush (-1000), 3) := by decide +kernel
theorem d_B_many_10 : decode b_B_many 10 = .ok (.ireturn, 1) := by decide +kernel
theorem d_B_many_11 : decode b_B_many 11 = .ok (.aload_n 0, 1) := by decide +kernel
theorem d_B_many_12 : decode b_B_many 12 = .ok (.getfield 11, 3) := by decide +kernel
theorem d_B_many_15 : decode b_B_many 15 = .ok (.iload_n 1, 1) := by decide +kernel
theorem d_B_many_16 : decode b_B_many 16 = .ok (.aaload, 1) := by decide +kernel
theorem d_B_many_17 : decode b_B_many 17 = .ok (.astore_n 3, 1) := by decide +kernel
theorem d_B_many_18 : decode b_B_many 18 = .ok (.iload_n 2, 1) := by decide +kernel
theorem d_B_many_19 : decode b_B_many 19 = .ok (.tableswitch 58 0 4 #[33, 38, 43, 48, 53], 33) := by decide +kernel
theorem d_B_many_52 : decode b_B_many 52 = .ok (.aload_n 3, 1) := by decide +kernel
theorem d_B_many_53 : decode b_B_many 53 = .ok (.getfield 45, 3) := by decide +kernel
theorem d_B_many_56 : decode b_B_many 56 = .ok (.ireturn, 1) := by decide +kernel
theorem d_B_many_57 : decode b_B_many 57 = .ok (.aload_n 3, 1) := by decide +kernel
theorem d_B_many_58 : decode b_B_many 58 = .ok (.getfield 34, 3) := by decide +kernel
theorem d_B_many_61 : decode b_B_many 61 = .ok (.ireturn, 1) := by decide +kernel
theorem d_B_many_62 : decode b_B_many 62 = .ok (.aload_n 3, 1) := by decide +kernel
theorem d_B_many_63 : decode b_B_many 63 = .ok (.invokevirtual 48, 3) := by decide +kernel
theorem d_B_many_66 : decode b_B_many 66 = .ok (.ireturn, 1) := by decide +kernel
theorem d_B_many_67 : decode b_B_many 67 = .ok (.aload_n 3, 1) := by decide +kernel
theorem d_B_many_68 : decode b_B_many 68 = .ok (.invokevirtual 52, 3) := by decide +kernel
theorem d_B_many_71 : decode b_B_many 71 = .ok (.ireturn, 1) := by decide +kernel
theorem d_B_many_72 : decode b_B_many 72 = .ok (.aload_n 3, 1) := by decide +kernel
theorem d_B_many_73 : decode b_B_many 73 = .ok (.invokevirtual 55, 3) := by decide +kernel
theorem d_B_many_76 : decode b_B_many 76 = .ok (.ireturn, 1) := by decide +kernel
theorem d_B_many_77 : decode b_B_many 77 = .ok (.sipush (-1000), 3) := by decide +kernel
theorem d_B_many_80 : decode b_B_many 80 = .ok (.ireturn, 1) := by decide +kernel
theorem d_B_at_0 : decode b_B_at 0 = .ok (.iload_n 1, 1) := by decide +kernel
theorem d_B_at_1 : decode b_B_at 1 = .ok (.invokestatic 23, 3) := by decide +kernel
theorem d_B_at_4 : decode b_B_at 4 = .ok (.ifCond .eq 31, 3) := by decide +kernel
theorem d_B_at_7 : decode b_B_at 7 = .ok (.aload_n 0, 1) := by decide +kernel
theorem d_B_at_8 : decode b_B_at 8 = .ok (.getfield 11, 3) := by decide +kernel
theorem d_B_at_11 : decode b_B_at 11 = .ok (.iload_n 1, 1) := by decide +kernel
theorem d_B_at_12 : decode b_B_at 12 = .ok (.aaload, 1) := by decide +kernel
theorem d_B_at_13 : decode b_B_at 13 = .ok (.iload_n 2, 1) := by decide +kernel
theorem d_B_at_14 : decode b_B_at 14 = .ok (.iconst 1, 1) := by decide +kernel
theorem d_B_at_15 : decode b_B_at 15 = .ok (.invokevirtual 58, 3) := by decide +kernel
theorem d_B_at_18 : decode b_B_at 18 = .ok (.ifCond .eq 17, 3) := by decide +kernel
theorem d_B_at_21 : decode b_B_at 21 = .ok (.aload_n 0, 1) := by decide +kernel
theorem d_B_at_22 : decode b_B_at 22 = .ok (.getfield 11, 3) := by decide +kernel
theorem d_B_at_25 : decode b_B_at 25 = .ok (.iload_n 1, 1) := by decide +kernel
theorem d_B_at_26 : decode b_B_at 26 = .ok (.aaload, 1) := by decide +kernel
theorem d_B_at_27 : decode b_B_at 27 = .ok (.getfield 62, 3) := by decide +kernel
theorem d_B_at_30 : decode b_B_at 30 = .ok (.iload_n 2, 1) := by decide +kernel
theorem d_B_at_31 : decode b_B_at 31 = .ok (.iaload, 1) := by decide +kernel
theorem d_B_at_32 : decode b_B_at 32 = .ok (.goto 4, 3) := by decide +kernel
theorem d_B_at_35 : decode b_B_at 35 = .ok (.iconst 0, 1) := by decide +kernel
theorem d_B_at_36 : decode b_B_at 36 = .ok (.ireturn, 1) := by decide +kernel
theorem d_B_end_0 : decode b_B_end 0 = .ok (.iload_n 1, 1) := by decide +kernel
theorem d_B_end_1 : decode b_B_end 1 = .ok (.invokestatic 23, 3) := by decide +kernel
theorem d_B_end_4 : decode b_B_end 4 = .ok (.ifCond .eq 29, 3) := by decide +kernel
theorem d_B_end_7 : decode b_B_end 7 = .ok (.aload_n 0, 1) := by decide +kernel
theorem d_B_end_8 : decode b_B_end 8 = .ok (.getfield 11, 3) := by decide +kernel
theorem d_B_end_11 : decode b_B_end 11 = .ok (.iload_n 1, 1) := by decide +kernel
theorem d_B_end_12 : decode b_B_end 12 = .ok (.aaload, 1) := by decide +kernel
theorem d_B_end_13 : decode b_B_end 13 = .ok (.iload_n 2, 1) := by decide +kernel
theorem d_B_end_14 : decode b_B_end 14 = .ok (.invokevirtual 66, 3) := by decide +kernel
theorem d_B_end_17 : decode b_B_end 17 = .ok (.ifCond .eq 16, 3) := by decide +kernel
theorem d_B_end_20 : decode b_B_end 20 = .ok (.aload_n 0, 1) := by decide +kernel
theorem d_B_end_21 : decode b_B_end 21 = .ok (.getfield 11, 3) := by decide +kernel
theorem d_B_end_24 : decode b_B_end 24 = .ok (.iload_n 1, 1) := by decide +kernel
theorem d_B_end_25 : decode b_B_end 25 = .ok (.aaload, 1) := by decide +kernel
theorem d_B_end_26 : decode b_B_end 26 = .ok (.iload_n 2, 1) := by decide +kernel
theorem d_B_end_27 : decode b_B_end 27 = .ok (.invokevirtual 69, 3) := by decide +kernel
theorem d_B_end_30 : decode b_B_end 30 = .ok (.goto 4, 3) := by decide +kernel
theorem d_B_end_33 : decode b_B_end 33 = .ok (.iconst 0, 1) := by decide +kernel
theorem d_B_end_34 : decode b_B_end 34 = .ok (.ireturn, 1) := by decide +kernel
theorem d_B_reduce_0 : decode b_B_reduce 0 = .ok (.iload_n 1, 1) := by decide +kernel
theorem d_B_reduce_1 : decode b_B_reduce 1 = .ok (.invokestatic 23, 3) := by decide +kernel
theorem d_B_reduce_4 : decode b_B_reduce 4 = .ok (.ifCond .ne 5, 3) := by decide +kernel
theorem d_B_reduce_7 : decode b_B_reduce 7 = .ok (.iconst 0, 1) := by decide +kernel
theorem d_B_reduce_8 : decode b_B_reduce 8 = .ok (.ireturn, 1) := by decide +kernel
theorem d_B_reduce_9 : decode b_B_reduce 9 = .ok (.aload_n 0, 1) := by decide +kernel
theorem d_B_reduce_10 : decode b_B_reduce 10 = .ok (.getfield 11, 3) := by decide +kernel
theorem d_B_reduce_13 : decode b_B_reduce 13 = .ok (.iload_n 1, 1) := by decide +kernel
theorem d_B_reduce_14 : decode b_B_reduce 14 = .ok (.aaload, 1) := by decide +kernel
theorem d_B_reduce_15 : decode b_B_reduce 15 = .ok (.astore_n 3, 1) := by decide +kernel
theorem d_B_reduce_16 : decode b_B_reduce 16 = .ok (.aload_n 3, 1) := by decide +kernel
theorem d_B_reduce_17 : decode b_B_reduce 17 = .ok (.getfield 34, 3) := by decide +kernel
theorem d_B_reduce_20 : decode b_B_reduce 20 = .ok (.istore 4, 2) := by decide +kernel
theorem d_B_reduce_22 : decode b_B_reduce 22 = .ok (.aload_n 3, 1) := by decide +kernel
theorem d_B_reduce_23 : decode b_B_reduce 23 = .ok (.invokevirtual 73, 3) := by decide +kernel
theorem d_B_reduce_26 : decode b_B_reduce 26 = .ok (.iload_n 2, 1) := by decide +kernel
theorem d_B_reduce_27 : decode b_B_reduce 27 = .ok (.ifCond .eq 7, 3) := by decide +kernel
theorem d_B_reduce_30 : decode b_B_reduce 30 = .ok (.aload_n 3, 1) := by decide +kernel
theorem d_B_reduce_31 : decode b_B_reduce 31 = .ok (.invokevirtual 76, 3) := by decide +kernel
theorem d_B_reduce_34 : decode b_B_reduce 34 = .ok (.iload 4, 2) := by decide +kernel
theorem d_B_reduce_36 : decode b_B_reduce 36 = .ok (.aload_n 3, 1) := by decide +kernel
theorem d_B_reduce_37 : decode b_B_reduce 37 = .ok (.getfield 34, 3) := by decide +kernel
theorem d_B_reduce_40 : decode b_B_reduce 40 = .ok (.isub, 1) := by decide +kernel
theorem d_B_reduce_41 : decode b_B_reduce 41 = .ok (.ireturn, 1) := by decide +kernel
theorem d_B_round_0 : decode b_B_round 0 = .ok (.iload_n 1, 1) := by decide +kernel
theorem d_B_round_1 : decode b_B_round 1 = .ok (.invokestatic 23, 3) := by decide +kernel
theorem d_B_round_4 : decode b_B_round 4 = .ok (.ifCond .eq 38, 3) := by decide +kernel
theorem d_B_round_7 : decode b_B_round 7 = .ok (.iload_n 2, 1) := by decide +kernel
theorem d_B_round_8 : decode b_B_round 8 = .ok (.ifCond .eq 18, 3) := by decide +kernel
theorem d_B_round_11 : decode b_B_round 11 = .ok (.aload_n 0, 1) := by decide +kernel
theorem d_B_round_12 : decode b_B_round 12 = .ok (.getfield 11, 3) := by decide +kernel
theorem d_B_round_15 : decode b_B_round 15 = .ok (.iload_n 1, 1) := by decide +kernel
theorem d_B_round_16 : decode b_B_round 16 = .ok (.aaload, 1) := by decide +kernel
theorem d_B_round_17 : decode b_B_round 17 = .ok (.invokevirtual 79, 3) := by decide +kernel
theorem d_B_round_20 : decode b_B_round 20 = .ok (.ifCond .eq 22, 3) := by decide +kernel
theorem d_B_round_23 : decode b_B_round 23 = .ok (.goto 15, 3) := by decide +kernel
theorem d_B_round_26 : decode b_B_round 26 = .ok (.aload_n 0, 1) := by decide +kernel
theorem d_B_round_27 : decode b_B_round 27 = .ok (.getfield 11, 3) := by decide +kernel
theorem d_B_round_30 : decode b_B_round 30 = .ok (.iload_n 1, 1) := by decide +kernel
theorem d_B_round_31 : decode b_B_round 31 = .ok (.aaload, 1) := by decide +kernel
theorem d_B_round_32 : decode b_B_round 32 = .ok (.invokevirtual 83, 3) := by decide +kernel
theorem d_B_round_35 : decode b_B_round 35 = .ok (.ifCond .eq 7, 3) := by decide +kernel
theorem d_B_round_38 : decode b_B_round 38 = .ok (.iconst 1, 1) := by decide +kernel
theorem d_B_round_39 : decode b_B_round 39 = .ok (.goto 4, 3) := by decide +kernel
theorem d_B_round_42 : decode b_B_round 42 = .ok (.iconst 0, 1) := by decide +kernel
theorem d_B_round_43 : decode b_B_round 43 = .ok (.ireturn, 1) := by decide +kernel
theorem d_B_exchange_0 : decode b_B_exchange 0 = .ok (.iload_n 1, 1) := by decide +kernel
theorem d_B_exchange_1 : decode b_B_exchange 1 = .ok (.invokestatic 23, 3) := by decide +kernel
theorem d_B_exchange_4 : decode b_B_exchange 4 = .ok (.ifCond .eq 20, 3) := by decide +kernel
theorem d_B_exchange_7 : decode b_B_exchange 7 = .ok (.aload_n 0, 1) := by decide +kernel
theorem d_B_exchange_8 : decode b_B_exchange 8 = .ok (.getfield 11, 3) := by decide +kernel
theorem d_B_exchange_11 : decode b_B_exchange 11 = .ok (.iload_n 1, 1) := by decide +kernel
theorem d_B_exchange_12 : decode b_B_exchange 12 = .ok (.aaload, 1) := by decide +kernel
theorem d_B_exchange_13 : decode b_B_exchange 13 = .ok (.iload_n 2, 1) := by decide +kernel
theorem d_B_exchange_14 : decode b_B_exchange 14 = .ok (.invokevirtual 86, 3) := by decide +kernel
theorem d_B_exchange_17 : decode b_B_exchange 17 = .ok (.ifCond .eq 7, 3) := by decide +kernel
theorem d_B_exchange_20 : decode b_B_exchange 20 = .ok (.iconst 1, 1) := by decide +kernel
theorem d_B_exchange_21 : decode b_B_exchange 21 = .ok (.goto 4, 3) := by decide +kernel
theorem d_B_exchange_24 : decode b_B_exchange 24 = .ok (.iconst 0, 1) := by decide +kernel
theorem d_B_exchange_25 : decode b_B_exchange 25 = .ok (.ireturn, 1) := by decide +kernel
theorem d_B_pass_0 : decode b_B_pass 0 = .ok (.iload_n 1, 1) := by decide +kernel
theorem d_B_pass_1 : decode b_B_pass 1 = .ok (.invokestatic 23, 3) := by decide +kernel
theorem d_B_pass_4 : decode b_B_pass 4 = .ok (.ifCond .eq 20, 3) := by decide +kernel
theorem d_B_pass_7 : decode b_B_pass 7 = .ok (.aload_n 0, 1) := by decide +kernel
theorem d_B_pass_8 : decode b_B_pass 8 = .ok (.getfield 11, 3) := by decide +kernel
theorem d_B_pass_11 : decode b_B_pass 11 = .ok (.iload_n 1, 1) := by decide +kernel
theorem d_B_pass_12 : decode b_B_pass 12 = .ok (.aaload, 1) := by decide +kernel
theorem d_B_pass_13 : decode b_B_pass 13 = .ok (.iload_n 2, 1) := by decide +kernel
theorem d_B_pass_14 : decode b_B_pass 14 = .ok (.invokevirtual 89, 3) := by decide +kernel
theorem d_B_pass_17 : decode b_B_pass 17 = .ok (.ifCond .eq 7, 3) := by decide +kernel
theorem d_B_pass_20 : decode b_B_pass 20 = .ok (.iconst 1, 1) := by decide +kernel
theorem d_B_pass_21 : decode b_B_pass 21 = .ok (.goto 4, 3) := by decide +kernel
theorem d_B_pass_24 : decode b_B_pass 24 = .ok (.iconst 0, 1) := by decide +kernel
theorem d_B_pass_25 : decode b_B_pass 25 = .ok (.ireturn, 1) := by decide +kernel
theorem d_B_grow_0 : decode b_B_grow 0 = .ok (.iload_n 1, 1) := by decide +kernel
theorem d_B_grow_1 : decode b_B_grow 1 = .ok (.invokestatic 23, 3) := by decide +kernel
theorem d_B_grow_4 : decode b_B_grow 4 = .ok (.ifCond .eq 20, 3) := by decide +kernel
theorem d_B_grow_7 : decode b_B_grow 7 = .ok (.aload_n 0, 1) := by decide +kernel
theorem d_B_grow_8 : decode b_B_grow 8 = .ok (.getfield 11, 3) := by decide +kernel
theorem d_B_grow_11 : decode b_B_grow 11 = .ok (.iload_n 1, 1) := by decide +kernel
theorem d_B_grow_12 : decode b_B_grow 12 = .ok (.aaload, 1) := by decide +kernel
theorem d_B_grow_13 : decode b_B_grow 13 = .ok (.iload_n 2, 1) := by decide +kernel
theorem d_B_grow_14 : decode b_B_grow 14 = .ok (.invokevirtual 92, 3) := by decide +kernel
theorem d_B_grow_17 : decode b_B_grow 17 = .ok (.ifCond .eq 7, 3) := by decide +kernel
theorem d_B_grow_20 : decode b_B_grow 20 = .ok (.iconst 1, 1) := by decide +kernel
theorem d_B_grow_21 : decode b_B_grow 21 = .ok (.goto 4, 3) := by decide +kernel
theorem d_B_grow_24 : decode b_B_grow 24 = .ok (.iconst 0, 1) := by decide +kernel
theorem d_B_grow_25 : decode b_B_grow 25 = .ok (.ireturn, 1) := by decide +kernel
theorem d_B_shrink_0 : decode b_B_shrink 0 = .ok (.iload_n 1, 1) := by decide +kernel
theorem d_B_shrink_1 : decode b_B_shrink 1 = .ok (.invokestatic 23, 3) := by decide +kernel
theorem d_B_shrink_4 : decode b_B_shrink 4 = .ok (.ifCond .eq 19, 3) := by decide +kernel
theorem d_B_shrink_7 : decode b_B_shrink 7 = .ok (.aload_n 0, 1) := by decide +kernel
theorem d_B_shrink_8 : decode b_B_shrink 8 = .ok (.getfield 11, 3) := by decide +kernel
theorem d_B_shrink_11 : decode b_B_shrink 11 = .ok (.iload_n 1, 1) := by decide +kernel
theorem d_B_shrink_12 : decode b_B_shrink 12 = .ok (.aaload, 1) := by decide +kernel
theorem d_B_shrink_13 : decode b_B_shrink 13 = .ok (.invokevirtual 95, 3) := by decide +kernel
theorem d_B_shrink_16 : decode b_B_shrink 16 = .ok (.ifCond .eq 7, 3) := by decide +kernel
theorem d_B_shrink_19 : decode b_B_shrink 19 = .ok (.iconst 1, 1) := by decide +kernel
theorem d_B_shrink_20 : decode b_B_shrink 20 = .ok (.goto 4, 3) := by decide +kernel
theorem d_B_shrink_23 : decode b_B_shrink 23 = .ok (.iconst 0, 1) := by decide +kernel
theorem d_B_shrink_24 : decode b_B_shrink 24 = .ok (.ireturn, 1) := by decide +kernel
theorem d_B_same_0 : decode b_B_same 0 = .ok (.iload_n 1, 1) := by decide +kernel
theorem d_B_same_1 : decode b_B_same 1 = .ok (.invokestatic 23, 3) := by decide +kernel
theorem d_B_same_4 : decode b_B_same 4 = .ok (.ifCond .eq 30, 3) := by decide +kernel
theorem d_B_same_7 : decode b_B_same 7 = .ok (.iload_n 2, 1) := by decide +kernel
theorem d_B_same_8 : decode b_B_same 8 = .ok (.invokestatic 23, 3) := by decide +kernel
theorem d_B_same_11 : decode b_B_same 11 = .ok (.ifCond .eq 23, 3) := by decide +kernel
theorem d_B_same_14 : decode b_B_same 14 = .ok (.aload_n 0, 1) := by decide +kernel
theorem d_B_same_15 : decode b_B_same 15 = .ok (.iload_n 1, 1) := by decide +kernel
theorem d_B_same_16 : decode b_B_same 16 = .ok (.invokevirtual 98, 3) := by decide +kernel
theorem d_B_same_19 : decode b_B_same 19 = .ok (.aload_n 0, 1) := by decide +kernel
theorem d_B_same_20 : decode b_B_same 20 = .ok (.iload_n 2, 1) := by decide +kernel
theorem d_B_same_21 : decode b_B_same 21 = .ok (.invokevirtual 98, 3) := by decide +kernel
theorem d_B_same_24 : decode b_B_same 24 = .ok (.invokevirtual 102, 3) := by decide +kernel
theorem d_B_same_27 : decode b_B_same 27 = .ok (.ifCond .eq 7, 3) := by decide +kernel
theorem d_B_same_30 : decode b_B_same 30 = .ok (.iconst 1, 1) := by decide +kernel
theorem d_B_same_31 : decode b_B_same 31 = .ok (.goto 4, 3) := by decide +kernel
theorem d_B_same_34 : decode b_B_same 34 = .ok (.iconst 0, 1) := by decide +kernel
theorem d_B_same_35 : decode b_B_same 35 = .ok (.ireturn, 1) := by decide +kernel
theorem d_B_form_0 : decode b_B_form 0 = .ok (.iload_n 1, 1) := by decide +kernel
theorem d_B_form_1 : decode b_B_form 1 = .ok (.invokestatic 23, 3) := by decide +kernel
theorem d_B_form_4 : decode b_B_form 4 = .ok (.ifCond .ne 5, 3) := by decide +kernel
theorem d_B_form_7 : decode b_B_form 7 = .ok (.iconst 0, 1) := by decide +kernel
theorem d_B_form_8 : decode b_B_form 8 = .ok (.ireturn, 1) := by decide +kernel
theorem d_B_form_9 : decode b_B_form 9 = .ok (.aload_n 0, 1) := by decide +kernel
theorem d_B_form_10 : decode b_B_form 10 = .ok (.iload_n 1, 1) := by decide +kernel
theorem d_B_form_11 : decode b_B_form 11 = .ok (.invokevirtual 98, 3) := by decide +kernel
theorem d_B_form_14 : decode b_B_form 14 = .ok (.astore 4, 2) := by decide +kernel
theorem d_B_form_16 : decode b_B_form 16 = .ok (.iload_n 2, 1) := by decide +kernel
theorem d_B_form_17 : decode b_B_form 17 = .ok (.ifCond .ne 11, 3) := by decide +kernel
theorem d_B_form_20 : decode b_B_form 20 = .ok (.aload 4, 2) := by decide +kernel
theorem d_B_form_22 : decode b_B_form 22 = .ok (.getfield 106, 3) := by decide +kernel
theorem d_B_form_25 : decode b_B_form 25 = .ok (.goto 10, 3) := by decide +kernel
theorem d_B_form_28 : decode b_B_form 28 = .ok (.aload 4, 2) := by decide +kernel
theorem d_B_form_30 : decode b_B_form 30 = .ok (.iload_n 2, 1) := by decide +kernel
theorem d_B_form_31 : decode b_B_form 31 = .ok (.iload_n 3, 1) := by decide +kernel
theorem d_B_form_32 : decode b_B_form 32 = .ok (.invokevirtual 109, 3) := by decide +kernel
theorem d_B_form_35 : decode b_B_form 35 = .ok (.ireturn, 1) := by decide +kernel
theorem d_B_length_0 : decode b_B_length 0 = .ok (.iload_n 1, 1) := by decide +kernel
theorem d_B_length_1 : decode b_B_length 1 = .ok (.invokestatic 23, 3) := by decide +kernel
theorem d_B_length_4 : decode b_B_length 4 = .ok (.ifCond .eq 14, 3) := by decide +kernel
theorem d_B_length_7 : decode b_B_length 7 = .ok (.aload_n 0, 1) := by decide +kernel
theorem d_B_length_8 : decode b_B_length 8 = .ok (.iload_n 1, 1) := by decide +kernel
theorem d_B_length_9 : decode b_B_length 9 = .ok (.invokevirtual 98, 3) := by decide +kernel
theorem d_B_length_12 : decode b_B_length 12 = .ok (.invokevirtual 113, 3) := by decide +kernel
theorem d_B_length_15 : decode b_B_length 15 = .ok (.goto 4, 3) := by decide +kernel
theorem d_B_length_18 : decode b_B_length 18 = .ok (.iconst (-1), 1) := by decide +kernel
theorem d_B_length_19 : decode b_B_length 19 = .ok (.ireturn, 1) := by decide +kernel
theorem d_B_crossing_0 : decode b_B_crossing 0 = .ok (.iload_n 1, 1) := by decide +kernel
theorem d_B_crossing_1 : decode b_B_crossing 1 = .ok (.invokestatic 23, 3) := by decide +kernel
theorem d_B_crossing_4 : decode b_B_crossing 4 = .ok (.ifCond .eq 17, 3) := by decide +kernel
theorem d_B_crossing_7 : decode b_B_crossing 7 = .ok (.aload_n 0, 1) := by decide +kernel
theorem d_B_crossing_8 : decode b_B_crossing 8 = .ok (.getfield 11, 3) := by decide +kernel
theorem d_B_crossing_11 : decode b_B_crossing 11 = .ok (.iload_n 1, 1) := by decide +kernel
theorem d_B_crossing_12 : decode b_B_crossing 12 = .ok (.aaload, 1) := by decide +kernel
theorem d_B_crossing_13 : decode b_B_crossing 13 = .ok (.iload_n 2, 1) := by decide +kernel
theorem d_B_crossing_14 : decode b_B_crossing 14 = .ok (.iconst 1, 1) := by decide +kernel
theorem d_B_crossing_15 : decode b_B_crossing 15 = .ok (.invokevirtual 58, 3) := by decide +kernel
theorem d_B_crossing_18 : decode b_B_crossing 18 = .ok (.ifCond .ne 5, 3) := by decide +kernel
theorem d_B_crossing_21 : decode b_B_crossing 21 = .ok (.iconst 0, 1) := by decide +kernel
theorem d_B_crossing_22 : decode b_B_crossing 22 = .ok (.ireturn, 1) := by decide +kernel
theorem d_B_crossing_23 : decode b_B_crossing 23 = .ok (.iload_n 3, 1) := by decide +kernel
theorem d_B_crossing_24 : decode b_B_crossing 24 = .ok (.iconst 4, 1) := by decide +kernel
theorem d_B_crossing_25 : decode b_B_crossing 25 = .ok (.if_icmp .ne 18, 3) := by decide +kernel
theorem d_B_crossing_28 : decode b_B_crossing 28 = .ok (.aload_n 0, 1) := by decide +kernel
theorem d_B_crossing_29 : decode b_B_crossing 29 = .ok (.getfield 11, 3) := by decide +kernel
theorem d_B_crossing_32 : decode b_B_crossing 32 = .ok (.iload_n 1, 1) := by decide +kernel
theorem d_B_crossing_33 : decode b_B_crossing 33 = .ok (.aaload, 1) := by decide +kernel
theorem d_B_crossing_34 : decode b_B_crossing 34 = .ok (.getfield 62, 3) := by decide +kernel
theorem d_B_crossing_37 : decode b_B_crossing 37 = .ok (.iload_n 2, 1) := by decide +kernel
theorem d_B_crossing_38 : decode b_B_crossing 38 = .ok (.iaload, 1) := by decide +kernel
theorem d_B_crossing_39 : decode b_B_crossing 39 = .ok (.invokestatic 116, 3) := by decide +kernel
theorem d_B_crossing_42 : decode b_B_crossing 42 = .ok (.ireturn, 1) := by decide +kernel
theorem d_B_crossing_43 : decode b_B_crossing 43 = .ok (.iload_n 3, 1) := by decide +kernel
theorem d_B_crossing_44 : decode b_B_crossing 44 = .ok (.ifCond .lt 22, 3) := by decide +kernel
theorem d_B_crossing_47 : decode b_B_crossing 47 = .ok (.iload_n 3, 1) := by decide +kernel
theorem d_B_crossing_48 : decode b_B_crossing 48 = .ok (.iconst 4, 1) := by decide +kernel
theorem d_B_crossing_49 : decode b_B_crossing 49 = .ok (.if_icmp .ge 17, 3) := by decide +kernel
theorem d_B_crossing_52 : decode b_B_crossing 52 = .ok (.aload_n 0, 1) := by decide +kernel
theorem d_B_crossing_53 : decode b_B_crossing 53 = .ok (.getfield 11, 3) := by decide +kernel
theorem d_B_crossing_56 : decode b_B_crossing 56 = .ok (.iload_n 1, 1) := by decide +kernel
theorem d_B_crossing_57 : decode b_B_crossing 57 = .ok (.aaload, 1) := by decide +kernel
theorem d_B_crossing_58 : decode b_B_crossing 58 = .ok (.iload_n 2, 1) := by decide +kernel
theorem d_B_crossing_59 : decode b_B_crossing 59 = .ok (.iload_n 3, 1) := by decide +kernel
theorem d_B_crossing_60 : decode b_B_crossing 60 = .ok (.invokevirtual 121, 3) := by decide +kernel
theorem d_B_crossing_63 : decode b_B_crossing 63 = .ok (.goto 4, 3) := by decide +kernel
theorem d_B_crossing_66 : decode b_B_crossing 66 = .ok (.iconst 0, 1) := by decide +kernel
theorem d_B_crossing_67 : decode b_B_crossing 67 = .ok (.ireturn, 1) := by decide +kernel
theorem d_B_isSlot_0 : decode b_B_isSlot 0 = .ok (.iload_n 0, 1) := by decide +kernel
theorem d_B_isSlot_1 : decode b_B_isSlot 1 = .ok (.ifCond .lt 12, 3) := by decide +kernel
theorem d_B_isSlot_4 : decode b_B_isSlot 4 = .ok (.iload_n 0, 1) := by decide +kernel
theorem d_B_isSlot_5 : decode b_B_isSlot 5 = .ok (.iconst 4, 1) := by decide +kernel
theorem d_B_isSlot_6 : decode b_B_isSlot 6 = .ok (.if_icmp .ge 7, 3) := by decide +kernel
theorem d_B_isSlot_9 : decode b_B_isSlot 9 = .ok (.iconst 1, 1) := by decide +kernel
theorem d_B_isSlot_10 : decode b_B_isSlot 10 = .ok (.goto 4, 3) := by decide +kernel
theorem d_B_isSlot_13 : decode b_B_isSlot 13 = .ok (.iconst 0, 1) := by decide +kernel
theorem d_B_isSlot_14 : decode b_B_isSlot 14 = .ok (.ireturn, 1) := by decide +kernel
theorem d_B_formOf_0 : decode b_B_formOf 0 = .ok (.aload_n 0, 1) := by decide +kernel
theorem d_B_formOf_1 : decode b_B_formOf 1 = .ok (.getfield 17, 3) := by decide +kernel
theorem d_B_formOf_4 : decode b_B_formOf 4 = .ok (.iload_n 1, 1) := by decide +kernel
theorem d_B_formOf_5 : decode b_B_formOf 5 = .ok (.aaload, 1) := by decide +kernel
theorem d_B_formOf_6 : decode b_B_formOf 6 = .ok (.aload_n 0, 1) := by decide +kernel
theorem d_B_formOf_7 : decode b_B_formOf 7 = .ok (.getfield 11, 3) := by decide +kernel
theorem d_B_formOf_10 : decode b_B_formOf 10 = .ok (.iload_n 1, 1) := by decide +kernel
theorem d_B_formOf_11 : decode b_B_formOf 11 = .ok (.aaload, 1) := by decide +kernel
theorem d_B_formOf_12 : decode b_B_formOf 12 = .ok (.invokevirtual 124, 3) := by decide +kernel
theorem d_B_formOf_15 : decode b_B_formOf 15 = .ok (.aload_n 0, 1) := by decide +kernel
theorem d_B_formOf_16 : decode b_B_formOf 16 = .ok (.getfield 17, 3) := by decide +kernel
theorem d_B_formOf_19 : decode b_B_formOf 19 = .ok (.iload_n 1, 1) := by decide +kernel
theorem d_B_formOf_20 : decode b_B_formOf 20 = .ok (.aaload, 1) := by decide +kernel
theorem d_B_formOf_21 : decode b_B_formOf 21 = .ok (.areturn, 1) := by decide +kernel
theorem d_B_swapAt_0 : decode b_B_swapAt 0 = .ok (.aload_n 0, 1) := by decide +kernel
theorem d_B_swapAt_1 : decode b_B_swapAt 1 = .ok (.iload_n 1, 1) := by decide +kernel
theorem d_B_swapAt_2 : decode b_B_swapAt 2 = .ok (.iaload, 1) := by decide +kernel
theorem d_B_swapAt_3 : decode b_B_swapAt 3 = .ok (.istore_n 2, 1) := by decide +kernel
theorem d_B_swapAt_4 : decode b_B_swapAt 4 = .ok (.aload_n 0, 1) := by decide +kernel
theorem d_B_swapAt_5 : decode b_B_swapAt 5 = .ok (.iload_n 1, 1) := by decide +kernel
theorem d_B_swapAt_6 : decode b_B_swapAt 6 = .ok (.aload_n 0, 1) := by decide +kernel
theorem d_B_swapAt_7 : decode b_B_swapAt 7 = .ok (.iload_n 1, 1) := by decide +kernel
theorem d_B_swapAt_8 : decode b_B_swapAt 8 = .ok (.iconst 1, 1) := by decide +kernel
theorem d_B_swapAt_9 : decode b_B_swapAt 9 = .ok (.iadd, 1) := by decide +kernel
theorem d_B_swapAt_10 : decode b_B_swapAt 10 = .ok (.iaload, 1) := by decide +kernel
theorem d_B_swapAt_11 : decode b_B_swapAt 11 = .ok (.iastore, 1) := by decide +kernel
theorem d_B_swapAt_12 : decode b_B_swapAt 12 = .ok (.aload_n 0, 1) := by decide +kernel
theorem d_B_swapAt_13 : decode b_B_swapAt 13 = .ok (.iload_n 1, 1) := by decide +kernel
theorem d_B_swapAt_14 : decode b_B_swapAt 14 = .ok (.iconst 1, 1) := by decide +kernel
theorem d_B_swapAt_15 : decode b_B_swapAt 15 = .ok (.iadd, 1) := by decide +kernel
theorem d_B_swapAt_16 : decode b_B_swapAt 16 = .ok (.iload_n 2, 1) := by decide +kernel
theorem d_B_swapAt_17 : decode b_B_swapAt 17 = .ok (.iastore, 1) := by decide +kernel
theorem d_B_swapAt_18 : decode b_B_swapAt 18 = .ok (.return_, 1) := by decide +kernel
end
section
theorem d_M_init_0 : decode b_M_init 0 = .ok (.aload_n 0, 1) := by decide +kernel
theorem d_M_init_1 : decode b_M_init 1 = .ok (.invokespecial 1, 3) := by decide +kernel
theorem d_M_init_4 : decode b_M_init 4 = .ok (.aload_n 0, 1) := by decide +kernel
theorem d_M_init_5 : decode b_M_init 5 = .ok (.iconst 4, 1) := by decide +kernel
theorem d_M_init_6 : decode b_M_init 6 = .ok (.newarray .int, 2) := by decide +kernel
theorem d_M_init_8 : decode b_M_init 8 = .ok (.dup, 1) := by decide +kernel
theorem d_M_init_9 : decode b_M_init 9 = .ok (.iconst 0, 1) := by decide +kernel
theorem d_M_init_10 : decode b_M_init 10 = .ok (.iconst 1, 1) := by decide +kernel
theorem d_M_init_11 : decode b_M_init 11 = .ok (.iastore, 1) := by decide +kernel
theorem d_M_init_12 : decode b_M_init 12 = .ok (.dup, 1) := by decide +kernel
theorem d_M_init_13 : decode b_M_init 13 = .ok (.iconst 1, 1) := by decide +kernel
theorem d_M_init_14 : decode b_M_init 14 = .ok (.iconst 1, 1) := by decide +kernel
theorem d_M_init_15 : decode b_M_init 15 = .ok (.iastore, 1) := by decide +kernel
theorem d_M_init_16 : decode b_M_init 16 = .ok (.dup, 1) := by decide +kernel
theorem d_M_init_17 : decode b_M_init 17 = .ok (.iconst 2, 1) := by decide +kernel
theorem d_M_init_18 : decode b_M_init 18 = .ok (.iconst 1, 1) := by decide +kernel
theorem d_M_init_19 : decode b_M_init 19 = .ok (.iastore, 1) := by decide +kernel
theorem d_M_init_20 : decode b_M_init 20 = .ok (.dup, 1) := by decide +kernel
theorem d_M_init_21 : decode b_M_init 21 = .ok (.iconst 3, 1) := by decide +kernel
theorem d_M_init_22 : decode b_M_init 22 = .ok (.iconst 1, 1) := by decide +kernel
theorem d_M_init_23 : decode b_M_init 23 = .ok (.iastore, 1) := by decide +kernel
theorem d_M_init_24 : decode b_M_init 24 = .ok (.putfield 7, 3) := by decide +kernel
theorem d_M_init_27 : decode b_M_init 27 = .ok (.aload_n 0, 1) := by decide +kernel
theorem d_M_init_28 : decode b_M_init 28 = .ok (.iconst 4, 1) := by decide +kernel
theorem d_M_init_29 : decode b_M_init 29 = .ok (.newarray .int, 2) := by decide +kernel
theorem d_M_init_31 : decode b_M_init 31 = .ok (.putfield 13, 3) := by decide +kernel
theorem d_M_init_34 : decode b_M_init 34 = .ok (.aload_n 0, 1) := by decide +kernel
theorem d_M_init_35 : decode b_M_init 35 = .ok (.sipush 128, 3) := by decide +kernel
theorem d_M_init_38 : decode b_M_init 38 = .ok (.newarray .int, 2) := by decide +kernel
theorem d_M_init_40 : decode b_M_init 40 = .ok (.putfield 16, 3) := by decide +kernel
theorem d_M_init_43 : decode b_M_init 43 = .ok (.aload_n 0, 1) := by decide +kernel
theorem d_M_init_44 : decode b_M_init 44 = .ok (.sipush 8192, 3) := by decide +kernel
theorem d_M_init_47 : decode b_M_init 47 = .ok (.newarray .int, 2) := by decide +kernel
theorem d_M_init_49 : decode b_M_init 49 = .ok (.putfield 19, 3) := by decide +kernel
theorem d_M_init_52 : decode b_M_init 52 = .ok (.aload_n 0, 1) := by decide +kernel
theorem d_M_init_53 : decode b_M_init 53 = .ok (.sipush 8192, 3) := by decide +kernel
theorem d_M_init_56 : decode b_M_init 56 = .ok (.newarray .int, 2) := by decide +kernel
theorem d_M_init_58 : decode b_M_init 58 = .ok (.putfield 22, 3) := by decide +kernel
theorem d_M_init_61 : decode b_M_init 61 = .ok (.aload_n 0, 1) := by decide +kernel
theorem d_M_init_62 : decode b_M_init 62 = .ok (.sipush 8192, 3) := by decide +kernel
theorem d_M_init_65 : decode b_M_init 65 = .ok (.newarray .int, 2) := by decide +kernel
theorem d_M_init_67 : decode b_M_init 67 = .ok (.putfield 25, 3) := by decide +kernel
theorem d_M_init_70 : decode b_M_init 70 = .ok (.aload_n 0, 1) := by decide +kernel
theorem d_M_init_71 : decode b_M_init 71 = .ok (.sipush 4096, 3) := by decide +kernel
theorem d_M_init_74 : decode b_M_init 74 = .ok (.newarray .int, 2) := by decide +kernel
theorem d_M_init_76 : decode b_M_init 76 = .ok (.putfield 28, 3) := by decide +kernel
theorem d_M_init_79 : decode b_M_init 79 = .ok (.aload_n 0, 1) := by decide +kernel
theorem d_M_init_80 : decode b_M_init 80 = .ok (.bipush 9, 2) := by decide +kernel
theorem d_M_init_82 : decode b_M_init 82 = .ok (.newarray .int, 2) := by decide +kernel
theorem d_M_init_84 : decode b_M_init 84 = .ok (.putfield 31, 3) := by decide +kernel
theorem d_M_init_87 : decode b_M_init 87 = .ok (.aload_n 0, 1) := by decide +kernel
theorem d_M_init_88 : decode b_M_init 88 = .ok (.bipush 9, 2) := by decide +kernel
theorem d_M_init_90 : decode b_M_init 90 = .ok (.newarray .int, 2) := by decide +kernel
theorem d_M_init_92 : decode b_M_init 92 = .ok (.putfield 34, 3) := by decide +kernel
theorem d_M_init_95 : decode b_M_init 95 = .ok (.aload_n 0, 1) := by decide +kernel
theorem d_M_init_96 : decode b_M_init 96 = .ok (.iconst 4, 1) := by decide +kernel
theorem d_M_init_97 : decode b_M_init 97 = .ok (.newarray .boolean, 2) := by decide +kernel
theorem d_M_init_99 : decode b_M_init 99 = .ok (.putfield 37, 3) := by decide +kernel
theorem d_M_init_102 : decode b_M_init 102 = .ok (.aload_n 0, 1) := by decide +kernel
theorem d_M_init_103 : decode b_M_init 103 = .ok (.iconst 4, 1) := by decide +kernel
theorem d_M_init_104 : decode b_M_init 104 = .ok (.newarray .int, 2) := by decide +kernel
theorem d_M_init_106 : decode b_M_init 106 = .ok (.putfield 41, 3) := by decide +kernel
theorem d_M_init_109 : decode b_M_init 109 = .ok (.aload_n 0, 1) := by decide +kernel
theorem d_M_init_110 : decode b_M_init 110 = .ok (.iconst 4, 1) := by decide +kernel
theorem d_M_init_111 : decode b_M_init 111 = .ok (.newarray .int, 2) := by decide +kernel
theorem d_M_init_113 : decode b_M_init 113 = .ok (.putfield 44, 3) := by decide +kernel
theorem d_M_init_116 : decode b_M_init 116 = .ok (.aload_n 0, 1) := by decide +kernel
theorem d_M_init_117 : decode b_M_init 117 = .ok (.sipush 2304, 3) := by decide +kernel
theorem d_M_init_120 : decode b_M_init 120 = .ok (.newarray .int, 2) := by decide +kernel
theorem d_M_init_122 : decode b_M_init 122 = .ok (.putfield 47, 3) := by decide +kernel
theorem d_M_init_125 : decode b_M_init 125 = .ok (.aload_n 0, 1) := by decide +kernel
theorem d_M_init_126 : decode b_M_init 126 = .ok (.bipush 9, 2) := by decide +kernel
theorem d_M_init_128 : decode b_M_init 128 = .ok (.newarray .int, 2) := by decide +kernel
theorem d_M_init_130 : decode b_M_init 130 = .ok (.putfield 50, 3) := by decide +kernel
theorem d_M_init_133 : decode b_M_init 133 = .ok (.aload_n 0, 1) := by decide +kernel
theorem d_M_init_134 : decode b_M_init 134 = .ok (.sipush 160, 3) := by decide +kernel
theorem d_M_init_137 : decode b_M_init 137 = .ok (.newarray .int, 2) := by decide +kernel
theorem d_M_init_139 : decode b_M_init 139 = .ok (.putfield 53, 3) := by decide +kernel
theorem d_M_init_142 : decode b_M_init 142 = .ok (.return_, 1) := by decide +kernel
theorem d_M_isSlot_0 : decode b_M_isSlot 0 = .ok (.iload_n 0, 1) := by decide +kernel
theorem d_M_isSlot_1 : decode b_M_isSlot 1 = .ok (.ifCond .lt 12, 3) := by decide +kernel
theorem d_M_isSlot_4 : decode b_M_isSlot 4 = .ok (.iload_n 0, 1) := by decide +kernel
theorem d_M_isSlot_5 : decode b_M_isSlot 5 = .ok (.iconst 4, 1) := by decide +kernel
theorem d_M_isSlot_6 : decode b_M_isSlot 6 = .ok (.if_icmp .ge 7, 3) := by decide +kernel
theorem d_M_isSlot_9 : decode b_M_isSlot 9 = .ok (.iconst 1, 1) := by decide +kernel
theorem d_M_isSlot_10 : decode b_M_isSlot 10 = .ok (.goto 4, 3) := by decide +kernel
theorem d_M_isSlot_13 : decode b_M_isSlot 13 = .ok (.iconst 0, 1) := by decide +kernel
theorem d_M_isSlot_14 : decode b_M_isSlot 14 = .ok (.ireturn, 1) := by decide +kernel
theorem d_M_value_0 : decode b_M_value 0 = .ok (.iload_n 0, 1) := by decide +kernel
theorem d_M_value_1 : decode b_M_value 1 = .ok (.ifCond .ge 8, 3) := by decide +kernel
theorem d_M_value_4 : decode b_M_value 4 = .ok (.iload_n 0, 1) := by decide +kernel
theorem d_M_value_5 : decode b_M_value 5 = .ok (.ineg, 1) := by decide +kernel
theorem d_M_value_6 : decode b_M_value 6 = .ok (.goto 4, 3) := by decide +kernel
theorem d_M_value_9 : decode b_M_value 9 = .ok (.iload_n 0, 1) := by decide +kernel
theorem d_M_value_10 : decode b_M_value 10 = .ok (.ireturn, 1) := by decide +kernel
theorem d_M_letterAt_0 : decode b_M_letterAt 0 = .ok (.aload_n 0, 1) := by decide +kernel
theorem d_M_letterAt_1 : decode b_M_letterAt 1 = .ok (.getfield 16, 3) := by decide +kernel
theorem d_M_letterAt_4 : decode b_M_letterAt 4 = .ok (.bipush 32, 2) := by decide +kernel
theorem d_M_letterAt_6 : decode b_M_letterAt 6 = .ok (.iload_n 1, 1) := by decide +kernel
theorem d_M_letterAt_7 : decode b_M_letterAt 7 = .ok (.imul, 1) := by decide +kernel
theorem d_M_letterAt_8 : decode b_M_letterAt 8 = .ok (.iload_n 2, 1) := by decide +kernel
theorem d_M_letterAt_9 : decode b_M_letterAt 9 = .ok (.iadd, 1) := by decide +kernel
theorem d_M_letterAt_10 : decode b_M_letterAt 10 = .ok (.iaload, 1) := by decide +kernel
theorem d_M_letterAt_11 : decode b_M_letterAt 11 = .ok (.ireturn, 1) := by decide +kernel
theorem d_M_strands_0 : decode b_M_strands 0 = .ok (.iload_n 1, 1) := by decide +kernel
theorem d_M_strands_1 : decode b_M_strands 1 = .ok (.invokestatic 60, 3) := by decide +kernel
theorem d_M_strands_4 : decode b_M_strands 4 = .ok (.ifCond .eq 14, 3) := by decide +kernel
theorem d_M_strands_7 : decode b_M_strands 7 = .ok (.iload_n 2, 1) := by decide +kernel
theorem d_M_strands_8 : decode b_M_strands 8 = .ok (.iconst 1, 1) := by decide +kernel
theorem d_M_strands_9 : decode b_M_strands 9 = .ok (.if_icmp .lt 9, 3) := by decide +kernel
theorem d_M_strands_12 : decode b_M_strands 12 = .ok (.iload_n 2, 1) := by decide +kernel
theorem d_M_strands_13 : decode b_M_strands 13 = .ok (.bipush 8, 2) := by decide +kernel
theorem d_M_strands_15 : decode b_M_strands 15 = .ok (.if_icmp .le 5, 3) := by decide +kernel
theorem d_M_strands_18 : decode b_M_strands 18 = .ok (.iconst 0, 1) := by decide +kernel
theorem d_M_strands_19 : decode b_M_strands 19 = .ok (.ireturn, 1) := by decide +kernel
theorem d_M_strands_20 : decode b_M_strands 20 = .ok (.aload_n 0, 1) := by decide +kernel
theorem d_M_strands_21 : decode b_M_strands 21 = .ok (.getfield 7, 3) := by decide +kernel
theorem d_M_strands_24 : decode b_M_strands 24 = .ok (.iload_n 1, 1) := by decide +kernel
theorem d_M_strands_25 : decode b_M_strands 25 = .ok (.iload_n 2, 1) := by decide +kernel
theorem d_M_strands_26 : decode b_M_strands 26 = .ok (.iastore, 1) := by decide +kernel
theorem d_M_strands_27 : decode b_M_strands 27 = .ok (.aload_n 0, 1) := by decide +kernel
theorem d_M_strands_28 : decode b_M_strands 28 = .ok (.getfield 13, 3) := by decide +kernel
theorem d_M_strands_31 : decode b_M_strands 31 = .ok (.iload_n 1, 1) := by decide +kernel
theorem d_M_strands_32 : decode b_M_strands 32 = .ok (.iconst 0, 1) := by decide +kernel
theorem d_M_strands_33 : decode b_M_strands 33 = .ok (.iastore, 1) := by decide +kernel
theorem d_M_strands_34 : decode b_M_strands 34 = .ok (.aload_n 0, 1) := by decide +kernel
theorem d_M_strands_35 : decode b_M_strands 35 = .ok (.getfield 37, 3) := by decide +kernel
theorem d_M_strands_38 : decode b_M_strands 38 = .ok (.iload_n 1, 1) := by decide +kernel
theorem d_M_strands_39 : decode b_M_strands 39 = .ok (.iconst 0, 1) := by decide +kernel
theorem d_M_strands_40 : decode b_M_strands 40 = .ok (.bastore, 1) := by decide +kernel
theorem d_M_strands_41 : decode b_M_strands 41 = .ok (.iconst 1, 1) := by decide +kernel
theorem d_M_strands_42 : decode b_M_strands 42 = .ok (.ireturn, 1) := by decide +kernel
theorem d_M_letter_0 : decode b_M_letter 0 = .ok (.iload_n 1, 1) := by decide +kernel
theorem d_M_letter_1 : decode b_M_letter 1 = .ok (.invokestatic 60, 3) := by decide +kernel
theorem d_M_letter_4 : decode b_M_letter 4 = .ok (.ifCond .eq 39, 3) := by decide +kernel
theorem d_M_letter_7 : decode b_M_letter 7 = .ok (.iload_n 2, 1) := by decide +kernel
theorem d_M_letter_8 : decode b_M_letter 8 = .ok (.ifCond .eq 35, 3) := by decide +kernel
theorem d_M_letter_11 : decode b_M_letter 11 = .ok (.iload_n 2, 1) := by decide +kernel
theorem d_M_letter_12 : decode b_M_letter 12 = .ok (.aload_n 0, 1) := by decide +kernel
theorem d_M_letter_13 : decode b_M_letter 13 = .ok (.getfield 7, 3) := by decide +kernel
theorem d_M_letter_16 : decode b_M_letter 16 = .ok (.iload_n 1, 1) := by decide +kernel
theorem d_M_letter_17 : decode b_M_letter 17 = .ok (.iaload, 1) := by decide +kernel
theorem d_M_letter_18 : decode b_M_letter 18 = .ok (.if_icmp .ge 25, 3) := by decide +kernel
theorem d_M_letter_21 : decode b_M_letter 21 = .ok (.iload_n 2, 1) := by decide +kernel
theorem d_M_letter_22 : decode b_M_letter 22 = .ok (.aload_n 0, 1) := by decide +kernel
theorem d_M_letter_23 : decode b_M_letter 23 = .ok (.getfield 7, 3) := by decide +kernel
theorem d_M_letter_26 : decode b_M_letter 26 = .ok (.iload_n 1, 1) := by decide +kernel
theorem d_M_letter_27 : decode b_M_letter 27 = .ok (.iaload, 1) := by decide +kernel
theorem d_M_letter_28 : decode b_M_letter 28 = .ok (.ineg, 1) := by decide +kernel
theorem d_M_letter_29 : decode b_M_letter 29 = .ok (.if_icmp .le 14, 3) := by decide +kernel
theorem d_M_letter_32 : decode b_M_letter 32 = .ok (.aload_n 0, 1) := by decide +kernel
theorem d_M_letter_33 : decode b_M_letter 33 = .ok (.getfield 13, 3) := by decide +kernel
theorem d_M_letter_36 : decode b_M_letter 36 = .ok (.iload_n 1, 1) := by decide +kernel
theorem d_M_letter_37 : decode b_M_letter 37 = .ok (.iaload, 1) := by decide +kernel
theorem d_M_letter_38 : decode b_M_letter 38 = .ok (.bipush 32, 2) := by decide +kernel
theorem d_M_letter_40 : decode b_M_letter 40 = .ok (.if_icmp .ne 5, 3) := by decide +kernel
theorem d_M_letter_43 : decode b_M_letter 43 = .ok (.iconst (-1), 1) := by decide +kernel
theorem d_M_letter_44 : decode b_M_letter 44 = .ok (.ireturn, 1) := by decide +kernel
theorem d_M_letter_45 : decode b_M_letter 45 = .ok (.aload_n 0, 1) := by decide +kernel
theorem d_M_letter_46 : decode b_M_letter 46 = .ok (.getfield 16, 3) := by decide +kernel
theorem d_M_letter_49 : decode b_M_letter 49 = .ok (.bipush 32, 2) := by decide +kernel
theorem d_M_letter_51 : decode b_M_letter 51 = .ok (.iload_n 1, 1) := by decide +kernel
theorem d_M_letter_52 : decode b_M_letter 52 = .ok (.imul, 1) := by decide +kernel
theorem d_M_letter_53 : decode b_M_letter 53 = .ok (.aload_n 0, 1) := by decide +kernel
theorem d_M_letter_54 : decode b_M_letter 54 = .ok (.getfield 13, 3) := by decide +kernel
theorem d_M_letter_57 : decode b_M_letter 57 = .ok (.iload_n 1, 1) := by decide +kernel
theorem d_M_letter_58 : decode b_M_letter 58 = .ok (.iaload, 1) := by decide +kernel
theorem d_M_letter_59 : decode b_M_letter 59 = .ok (.iadd, 1) := by decide +kernel
theorem d_M_letter_60 : decode b_M_letter 60 = .ok (.iload_n 2, 1) := by decide +kernel
theorem d_M_letter_61 : decode b_M_letter 61 = .ok (.iastore, 1) := by decide +kernel
theorem d_M_letter_62 : decode b_M_letter 62 = .ok (.aload_n 0, 1) := by decide +kernel
theorem d_M_letter_63 : decode b_M_letter 63 = .ok (.getfield 13, 3) := by decide +kernel
theorem d_M_letter_66 : decode b_M_letter 66 = .ok (.iload_n 1, 1) := by decide +kernel
theorem d_M_letter_67 : decode b_M_letter 67 = .ok (.dup2, 1) := by decide +kernel
theorem d_M_letter_68 : decode b_M_letter 68 = .ok (.iaload, 1) := by decide +kernel
theorem d_M_letter_69 : decode b_M_letter 69 = .ok (.iconst 1, 1) := by decide +kernel
theorem d_M_letter_70 : decode b_M_letter 70 = .ok (.iadd, 1) := by decide +kernel
theorem d_M_letter_71 : decode b_M_letter 71 = .ok (.iastore, 1) := by decide +kernel
theorem d_M_letter_72 : decode b_M_letter 72 = .ok (.aload_n 0, 1) := by decide +kernel
theorem d_M_letter_73 : decode b_M_letter 73 = .ok (.getfield 37, 3) := by decide +kernel
theorem d_M_letter_76 : decode b_M_letter 76 = .ok (.iload_n 1, 1) := by decide +kernel
theorem d_M_letter_77 : decode b_M_letter 77 = .ok (.iconst 0, 1) := by decide +kernel
theorem d_M_letter_78 : decode b_M_letter 78 = .ok (.bastore, 1) := by decide +kernel
theorem d_M_letter_79 : decode b_M_letter 79 = .ok (.aload_n 0, 1) := by decide +kernel
theorem d_M_letter_80 : decode b_M_letter 80 = .ok (.getfield 13, 3) := by decide +kernel
theorem d_M_letter_83 : decode b_M_letter 83 = .ok (.iload_n 1, 1) := by decide +kernel
theorem d_M_letter_84 : decode b_M_letter 84 = .ok (.iaload, 1) := by decide +kernel
theorem d_M_letter_85 : decode b_M_letter 85 = .ok (.ireturn, 1) := by decide +kernel
theorem d_M_copy_0 : decode b_M_copy 0 = .ok (.iload_n 1, 1) := by decide +kernel
theorem d_M_copy_1 : decode b_M_copy 1 = .ok (.invokestatic 60, 3) := by decide +kernel
theorem d_M_copy_4 : decode b_M_copy 4 = .ok (.ifCond .eq 10, 3) := by decide +kernel
theorem d_M_copy_7 : decode b_M_copy 7 = .ok (.iload_n 2, 1) := by decide +kernel
theorem d_M_copy_8 : decode b_M_copy 8 = .ok (.invokestatic 60, 3) := by decide +kernel
theorem d_M_copy_11 : decode b_M_copy 11 = .ok (.ifCond .ne 5, 3) := by decide +kernel
theorem d_M_copy_14 : decode b_M_copy 14 = .ok (.iconst 0, 1) := by decide +kernel
theorem d_M_copy_15 : decode b_M_copy 15 = .ok (.ireturn, 1) := by decide +kernel
theorem d_M_copy_16 : decode b_M_copy 16 = .ok (.aload_n 0, 1) := by decide +kernel
theorem d_M_copy_17 : decode b_M_copy 17 = .ok (.getfield 13, 3) := by decide +kernel
theorem d_M_copy_20 : decode b_M_copy 20 = .ok (.iload_n 2, 1) := by decide +kernel
theorem d_M_copy_21 : decode b_M_copy 21 = .ok (.iaload, 1) := by decide +kernel
theorem d_M_copy_22 : decode b_M_copy 22 = .ok (.istore 4, 2) := by decide +kernel
theorem d_M_copy_24 : decode b_M_copy 24 = .ok (.iconst 0, 1) := by decide +kernel
theorem d_M_copy_25 : decode b_M_copy 25 = .ok (.istore 5, 2) := by decide +kernel
theorem d_M_copy_27 : decode b_M_copy 27 = .ok (.iload 5, 2) := by decide +kernel
theorem d_M_copy_29 : decode b_M_copy 29 = .ok (.iload 4, 2) := by decide +kernel
theorem d_M_copy_31 : decode b_M_copy 31 = .ok (.if_icmp .ge 43, 3) := by decide +kernel
theorem d_M_copy_34 : decode b_M_copy 34 = .ok (.aload_n 0, 1) := by decide +kernel
theorem d_M_copy_35 : decode b_M_copy 35 = .ok (.getfield 28, 3) := by decide +kernel
theorem d_M_copy_38 : decode b_M_copy 38 = .ok (.iload 5, 2) := by decide +kernel
theorem d_M_copy_40 : decode b_M_copy 40 = .ok (.iload_n 3, 1) := by decide +kernel
theorem d_M_copy_41 : decode b_M_copy 41 = .ok (.ifCond .eq 19, 3) := by decide +kernel
theorem d_M_copy_44 : decode b_M_copy 44 = .ok (.aload_n 0, 1) := by decide +kernel
theorem d_M_copy_45 : decode b_M_copy 45 = .ok (.iload_n 2, 1) := by decide +kernel
theorem d_M_copy_46 : decode b_M_copy 46 = .ok (.iload 4, 2) := by decide +kernel
theorem d_M_copy_48 : decode b_M_copy 48 = .ok (.iconst 1, 1) := by decide +kernel
theorem d_M_copy_49 : decode b_M_copy 49 = .ok (.isub, 1) := by decide +kernel
theorem d_M_copy_50 : decode b_M_copy 50 = .ok (.iload 5, 2) := by decide +kernel
theorem d_M_copy_52 : decode b_M_copy 52 = .ok (.isub, 1) := by decide +kernel
theorem d_M_copy_53 : decode b_M_copy 53 = .ok (.invokevirtual 64, 3) := by decide +kernel
theorem d_M_copy_56 : decode b_M_copy 56 = .ok (.ineg, 1) := by decide +kernel
theorem d_M_copy_57 : decode b_M_copy 57 = .ok (.goto 10, 3) := by decide +kernel
theorem d_M_copy_60 : decode b_M_copy 60 = .ok (.aload_n 0, 1) := by decide +kernel
theorem d_M_copy_61 : decode b_M_copy 61 = .ok (.iload_n 2, 1) := by decide +kernel
theorem d_M_copy_62 : decode b_M_copy 62 = .ok (.iload 5, 2) := by decide +kernel
theorem d_M_copy_64 : decode b_M_copy 64 = .ok (.invokevirtual 64, 3) := by decide +kernel
theorem d_M_copy_67 : decode b_M_copy 67 = .ok (.iastore, 1) := by decide +kernel
theorem d_M_copy_68 : decode b_M_copy 68 = .ok (.iinc 5 1, 3) := by decide +kernel
theorem d_M_copy_71 : decode b_M_copy 71 = .ok (.goto (-44), 3) := by decide +kernel
theorem d_M_copy_74 : decode b_M_copy 74 = .ok (.iconst 0, 1) := by decide +kernel
theorem d_M_copy_75 : decode b_M_copy 75 = .ok (.istore 5, 2) := by decide +kernel
theorem d_M_copy_77 : decode b_M_copy 77 = .ok (.iload 5, 2) := by decide +kernel
theorem d_M_copy_79 : decode b_M_copy 79 = .ok (.iload 4, 2) := by decide +kernel
theorem d_M_copy_81 : decode b_M_copy 81 = .ok (.if_icmp .ge 28, 3) := by decide +kernel
theorem d_M_copy_84 : decode b_M_copy 84 = .ok (.aload_n 0, 1) := by decide +kernel
theorem d_M_copy_85 : decode b_M_copy 85 = .ok (.getfield 16, 3) := by decide +kernel
theorem d_M_copy_88 : decode b_M_copy 88 = .ok (.bipush 32, 2) := by decide +kernel
theorem d_M_copy_90 : decode b_M_copy 90 = .ok (.iload_n 1, 1) := by decide +kernel
theorem d_M_copy_91 : decode b_M_copy 91 = .ok (.imul, 1) := by decide +kernel
theorem d_M_copy_92 : decode b_M_copy 92 = .ok (.iload 5, 2) := by decide +kernel
theorem d_M_copy_94 : decode b_M_copy 94 = .ok (.iadd, 1) := by decide +kernel
theorem d_M_copy_95 : decode b_M_copy 95 = .ok (.aload_n 0, 1) := by decide +kernel
theorem d_M_copy_96 : decode b_M_copy 96 = .ok (.getfield 28, 3) := by decide +kernel
theorem d_M_copy_99 : decode b_M_copy 99 = .ok (.iload 5, 2) := by decide +kernel
theorem d_M_copy_101 : decode b_M_copy 101 = .ok (.iaload, 1) := by decide +kernel
theorem d_M_copy_102 : decode b_M_copy 102 = .ok (.iastore, 1) := by decide +kernel
theorem d_M_copy_103 : decode b_M_copy 103 = .ok (.iinc 5 1, 3) := by decide +kernel
theorem d_M_copy_106 : decode b_M_copy 106 = .ok (.goto (-29), 3) := by decide +kernel
theorem d_M_copy_109 : decode b_M_copy 109 = .ok (.aload_n 0, 1) := by decide +kernel
theorem d_M_copy_110 : decode b_M_copy 110 = .ok (.getfield 7, 3) := by decide +kernel
theorem d_M_copy_113 : decode b_M_copy 113 = .ok (.iload_n 1, 1) := by decide +kernel
theorem d_M_copy_114 : decode b_M_copy 114 = .ok (.aload_n 0, 1) := by decide +kernel
theorem d_M_copy_115 : decode b_M_copy 115 = .ok (.getfield 7, 3) := by decide +kernel
theorem d_M_copy_118 : decode b_M_copy 118 = .ok (.iload_n 2, 1) := by decide +kernel
theorem d_M_copy_119 : decode b_M_copy 119 = .ok (.iaload, 1) := by decide +kernel
theorem d_M_copy_120 : decode b_M_copy 120 = .ok (.iastore, 1) := by decide +kernel
theorem d_M_copy_121 : decode b_M_copy 121 = .ok (.aload_n 0, 1) := by decide +kernel
theorem d_M_copy_122 : decode b_M_copy 122 = .ok (.getfield 13, 3) := by decide +kernel
theorem d_M_copy_125 : decode b_M_copy 125 = .ok (.iload_n 1, 1) := by decide +kernel
theorem d_M_copy_126 : decode b_M_copy 126 = .ok (.iload 4, 2) := by decide +kernel
theorem d_M_copy_128 : decode b_M_copy 128 = .ok (.iastore, 1) := by decide +kernel
theorem d_M_copy_129 : decode b_M_copy 129 = .ok (.aload_n 0, 1) := by decide +kernel
theorem d_M_copy_130 : decode b_M_copy 130 = .ok (.getfield 37, 3) := by decide +kernel
theorem d_M_copy_133 : decode b_M_copy 133 = .ok (.iload_n 1, 1) := by decide +kernel
theorem d_M_copy_134 : decode b_M_copy 134 = .ok (.iconst 0, 1) := by decide +kernel
theorem d_M_copy_135 : decode b_M_copy 135 = .ok (.bastore, 1) := by decide +kernel
theorem d_M_copy_136 : decode b_M_copy 136 = .ok (.iconst 1, 1) := by decide +kernel
theorem d_M_copy_137 : decode b_M_copy 137 = .ok (.ireturn, 1) := by decide +kernel
theorem d_M_endOf_0 : decode b_M_endOf 0 = .ok (.iload_n 2, 1) := by decide +kernel
theorem d_M_endOf_1 : decode b_M_endOf 1 = .ok (.istore_n 3, 1) := by decide +kernel
theorem d_M_endOf_2 : decode b_M_endOf 2 = .ok (.iconst 0, 1) := by decide +kernel
theorem d_M_endOf_3 : decode b_M_endOf 3 = .ok (.istore 4, 2) := by decide +kernel
theorem d_M_endOf_5 : decode b_M_endOf 5 = .ok (.iload 4, 2) := by decide +kernel
theorem d_M_endOf_7 : decode b_M_endOf 7 = .ok (.aload_n 0, 1) := by decide +kernel
theorem d_M_endOf_8 : decode b_M_endOf 8 = .ok (.getfield 13, 3) := by decide +kernel
theorem d_M_endOf_11 : decode b_M_endOf 11 = .ok (.iload_n 1, 1) := by decide +kernel
theorem d_M_endOf_12 : decode b_M_endOf 12 = .ok (.iaload, 1) := by decide +kernel
theorem d_M_endOf_13 : decode b_M_endOf 13 = .ok (.if_icmp .ge 49, 3) := by decide +kernel
theorem d_M_endOf_16 : decode b_M_endOf 16 = .ok (.aload_n 0, 1) := by decide +kernel
theorem d_M_endOf_17 : decode b_M_endOf 17 = .ok (.iload_n 1, 1) := by decide +kernel
theorem d_M_endOf_18 : decode b_M_endOf 18 = .ok (.iload 4, 2) := by decide +kernel
theorem d_M_endOf_20 : decode b_M_endOf 20 = .ok (.invokevirtual 64, 3) := by decide +kernel
theorem d_M_endOf_23 : decode b_M_endOf 23 = .ok (.invokestatic 68, 3) := by decide +kernel
theorem d_M_endOf_26 : decode b_M_endOf 26 = .ok (.istore 5, 2) := by decide +kernel
theorem d_M_endOf_28 : decode b_M_endOf 28 = .ok (.iload_n 3, 1) := by decide +kernel
theorem d_M_endOf_29 : decode b_M_endOf 29 = .ok (.iload 5, 2) := by decide +kernel
theorem d_M_endOf_31 : decode b_M_endOf 31 = .ok (.if_icmp .ne 10, 3) := by decide +kernel
theorem d_M_endOf_34 : decode b_M_endOf 34 = .ok (.iload 5, 2) := by decide +kernel
theorem d_M_endOf_36 : decode b_M_endOf 36 = .ok (.iconst 1, 1) := by decide +kernel
theorem d_M_endOf_37 : decode b_M_endOf 37 = .ok (.iadd, 1) := by decide +kernel
theorem d_M_endOf_38 : decode b_M_endOf 38 = .ok (.goto 17, 3) := by decide +kernel
theorem d_M_endOf_41 : decode b_M_endOf 41 = .ok (.iload_n 3, 1) := by decide +kernel
theorem d_M_endOf_42 : decode b_M_endOf 42 = .ok (.iload 5, 2) := by decide +kernel
theorem d_M_endOf_44 : decode b_M_endOf 44 = .ok (.iconst 1, 1) := by decide +kernel
theorem d_M_endOf_45 : decode b_M_endOf 45 = .ok (.iadd, 1) := by decide +kernel
theorem d_M_endOf_46 : decode b_M_endOf 46 = .ok (.if_icmp .ne 8, 3) := by decide +kernel
theorem d_M_endOf_49 : decode b_M_endOf 49 = .ok (.iload 5, 2) := by decide +kernel
theorem d_M_endOf_51 : decode b_M_endOf 51 = .ok (.goto 4, 3) := by decide +kernel
theorem d_M_endOf_54 : decode b_M_endOf 54 = .ok (.iload_n 3, 1) := by decide +kernel
theorem d_M_endOf_55 : decode b_M_endOf 55 = .ok (.istore_n 3, 1) := by decide +kernel
theorem d_M_endOf_56 : decode b_M_endOf 56 = .ok (.iinc 4 1, 3) := by decide +kernel
theorem d_M_endOf_59 : decode b_M_endOf 59 = .ok (.goto (-54), 3) := by decide +kernel
theorem d_M_endOf_62 : decode b_M_endOf 62 = .ok (.iload_n 3, 1) := by decide +kernel
theorem d_M_endOf_63 : decode b_M_endOf 63 = .ok (.ireturn, 1) := by decide +kernel
theorem d_M_end_0 : decode b_M_end 0 = .ok (.iload_n 1, 1) := by decide +kernel
theorem d_M_end_1 : decode b_M_end 1 = .ok (.invokestatic 60, 3) := by decide +kernel
theorem d_M_end_4 : decode b_M_end 4 = .ok (.ifCond .eq 18, 3) := by decide +kernel
theorem d_M_end_7 : decode b_M_end 7 = .ok (.iload_n 2, 1) := by decide +kernel
theorem d_M_end_8 : decode b_M_end 8 = .ok (.iconst 1, 1) := by decide +kernel
theorem d_M_end_9 : decode b_M_end 9 = .ok (.if_icmp .lt 13, 3) := by decide +kernel
theorem d_M_end_12 : decode b_M_end 12 = .ok (.iload_n 2, 1) := by decide +kernel
theorem d_M_end_13 : decode b_M_end 13 = .ok (.aload_n 0, 1) := by decide +kernel
theorem d_M_end_14 : decode b_M_end 14 = .ok (.getfield 7, 3) := by decide +kernel
theorem d_M_end_17 : decode b_M_end 17 = .ok (.iload_n 1, 1) := by decide +kernel
theorem d_M_end_18 : decode b_M_end 18 = .ok (.iaload, 1) := by decide +kernel
theorem d_M_end_19 : decode b_M_end 19 = .ok (.if_icmp .le 7, 3) := by decide +kernel
theorem d_M_end_22 : decode b_M_end 22 = .ok (.iconst 0, 1) := by decide +kernel
theorem d_M_end_23 : decode b_M_end 23 = .ok (.goto 9, 3) := by decide +kernel
theorem d_M_end_26 : decode b_M_end 26 = .ok (.aload_n 0, 1) := by decide +kernel
theorem d_M_end_27 : decode b_M_end 27 = .ok (.iload_n 1, 1) := by decide +kernel
theorem d_M_end_28 : decode b_M_end 28 = .ok (.iload_n 2, 1) := by decide +kernel
theorem d_M_end_29 : decode b_M_end 29 = .ok (.invokevirtual 72, 3) := by decide +kernel
theorem d_M_end_32 : decode b_M_end 32 = .ok (.ireturn, 1) := by decide +kernel
theorem d_M_rounds_0 : decode b_M_rounds 0 = .ok (.iconst 0, 1) := by decide +kernel
theorem d_M_rounds_1 : decode b_M_rounds 1 = .ok (.istore_n 2, 1) := by decide +kernel
theorem d_M_rounds_2 : decode b_M_rounds 2 = .ok (.iconst 1, 1) := by decide +kernel
theorem d_M_rounds_3 : decode b_M_rounds 3 = .ok (.istore_n 3, 1) := by decide +kernel
theorem d_M_rounds_4 : decode b_M_rounds 4 = .ok (.iload_n 3, 1) := by decide +kernel
theorem d_M_rounds_5 : decode b_M_rounds 5 = .ok (.aload_n 0, 1) := by decide +kernel
theorem d_M_rounds_6 : decode b_M_rounds 6 = .ok (.getfield 7, 3) := by decide +kernel
theorem d_M_rounds_9 : decode b_M_rounds 9 = .ok (.iload_n 1, 1) := by decide +kernel
theorem d_M_rounds_10 : decode b_M_rounds 10 = .ok (.iaload, 1) := by decide +kernel
theorem d_M_rounds_11 : decode b_M_rounds 11 = .ok (.if_icmp .gt 69, 3) := by decide +kernel
theorem d_M_rounds_14 : decode b_M_rounds 14 = .ok (.iconst 1, 1) := by decide +kernel
theorem d_M_rounds_15 : decode b_M_rounds 15 = .ok (.istore 4, 2) := by decide +kernel
theorem d_M_rounds_17 : decode b_M_rounds 17 = .ok (.aload_n 0, 1) := by decide +kernel
theorem d_M_rounds_18 : decode b_M_rounds 18 = .ok (.iload_n 1, 1) := by decide +kernel
theorem d_M_rounds_19 : decode b_M_rounds 19 = .ok (.iload_n 3, 1) := by decide +kernel
theorem d_M_rounds_20 : decode b_M_rounds 20 = .ok (.invokevirtual 72, 3) := by decide +kernel
theorem d_M_rounds_23 : decode b_M_rounds 23 = .ok (.istore 5, 2) := by decide +kernel
theorem d_M_rounds_25 : decode b_M_rounds 25 = .ok (.iload 5, 2) := by decide +kernel
theorem d_M_rounds_27 : decode b_M_rounds 27 = .ok (.iload_n 3, 1) := by decide +kernel
theorem d_M_rounds_28 : decode b_M_rounds 28 = .ok (.if_icmp .eq 33, 3) := by decide +kernel
theorem d_M_rounds_31 : decode b_M_rounds 31 = .ok (.iload 4, 2) := by decide +kernel
theorem d_M_rounds_33 : decode b_M_rounds 33 = .ok (.ifCond .eq 13, 3) := by decide +kernel
theorem d_M_rounds_36 : decode b_M_rounds 36 = .ok (.iload 5, 2) := by decide +kernel
theorem d_M_rounds_38 : decode b_M_rounds 38 = .ok (.iload_n 3, 1) := by decide +kernel
theorem d_M_rounds_39 : decode b_M_rounds 39 = .ok (.if_icmp .le 7, 3) := by decide +kernel
theorem d_M_rounds_42 : decode b_M_rounds 42 = .ok (.iconst 1, 1) := by decide +kernel
theorem d_M_rounds_43 : decode b_M_rounds 43 = .ok (.goto 4, 3) := by decide +kernel
theorem d_M_rounds_46 : decode b_M_rounds 46 = .ok (.iconst 0, 1) := by decide +kernel
theorem d_M_rounds_47 : decode b_M_rounds 47 = .ok (.istore 4, 2) := by decide +kernel
theorem d_M_rounds_49 : decode b_M_rounds 49 = .ok (.aload_n 0, 1) := by decide +kernel
theorem d_M_rounds_50 : decode b_M_rounds 50 = .ok (.iload_n 1, 1) := by decide +kernel
theorem d_M_rounds_51 : decode b_M_rounds 51 = .ok (.iload 5, 2) := by decide +kernel
theorem d_M_rounds_53 : decode b_M_rounds 53 = .ok (.invokevirtual 72, 3) := by decide +kernel
theorem d_M_rounds_56 : decode b_M_rounds 56 = .ok (.istore 5, 2) := by decide +kernel
theorem d_M_rounds_58 : decode b_M_rounds 58 = .ok (.goto (-33), 3) := by decide +kernel
theorem d_M_rounds_61 : decode b_M_rounds 61 = .ok (.iload_n 2, 1) := by decide +kernel
theorem d_M_rounds_62 : decode b_M_rounds 62 = .ok (.iload 4, 2) := by decide +kernel
theorem d_M_rounds_64 : decode b_M_rounds 64 = .ok (.ifCond .eq 7, 3) := by decide +kernel
theorem d_M_rounds_67 : decode b_M_rounds 67 = .ok (.iconst 1, 1) := by decide +kernel
theorem d_M_rounds_68 : decode b_M_rounds 68 = .ok (.goto 4, 3) := by decide +kernel
theorem d_M_rounds_71 : decode b_M_rounds 71 = .ok (.iconst 0, 1) := by decide +kernel
theorem d_M_rounds_72 : decode b_M_rounds 72 = .ok (.iadd, 1) := by decide +kernel
theorem d_M_rounds_73 : decode b_M_rounds 73 = .ok (.istore_n 2, 1) := by decide +kernel
theorem d_M_rounds_74 : decode b_M_rounds 74 = .ok (.iinc 3 1, 3) := by decide +kernel
theorem d_M_rounds_77 : decode b_M_rounds 77 = .ok (.goto (-73), 3) := by decide +kernel
theorem d_M_rounds_80 : decode b_M_rounds 80 = .ok (.iload_n 2, 1) := by decide +kernel
theorem d_M_rounds_81 : decode b_M_rounds 81 = .ok (.ireturn, 1) := by decide +kernel
theorem d_M_untouched_0 : decode b_M_untouched 0 = .ok (.iconst 0, 1) := by decide +kernel
theorem d_M_untouched_1 : decode b_M_untouched 1 = .ok (.istore_n 2, 1) := by decide +kernel
theorem d_M_untouched_2 : decode b_M_untouched 2 = .ok (.iconst 1, 1) := by decide +kernel
theorem d_M_untouched_3 : decode b_M_untouched 3 = .ok (.istore_n 3, 1) := by decide +kernel
theorem d_M_untouched_4 : decode b_M_untouched 4 = .ok (.iload_n 3, 1) := by decide +kernel
theorem d_M_untouched_5 : decode b_M_untouched 5 = .ok (.aload_n 0, 1) := by decide +kernel
theorem d_M_untouched_6 : decode b_M_untouched 6 = .ok (.getfield 7, 3) := by decide +kernel
theorem d_M_untouched_9 : decode b_M_untouched 9 = .ok (.iload_n 1, 1) := by decide +kernel
theorem d_M_untouched_10 : decode b_M_untouched 10 = .ok (.iaload, 1) := by decide +kernel
theorem d_M_untouched_11 : decode b_M_untouched 11 = .ok (.if_icmp .gt 87, 3) := by decide +kernel
theorem d_M_untouched_14 : decode b_M_untouched 14 = .ok (.iconst 1, 1) := by decide +kernel
theorem d_M_untouched_15 : decode b_M_untouched 15 = .ok (.istore 4, 2) := by decide +kernel
theorem d_M_untouched_17 : decode b_M_untouched 17 = .ok (.iconst 0, 1) := by decide +kernel
theorem d_M_untouched_18 : decode b_M_untouched 18 = .ok (.istore 5, 2) := by decide +kernel
theorem d_M_untouched_20 : decode b_M_untouched 20 = .ok (.iload 5, 2) := by decide +kernel
theorem d_M_untouched_22 : decode b_M_untouched 22 = .ok (.aload_n 0, 1) := by decide +kernel
theorem d_M_untouched_23 : decode b_M_untouched 23 = .ok (.getfield 13, 3) := by decide +kernel
theorem d_M_untouched_26 : decode b_M_untouched 26 = .ok (.iload_n 1, 1) := by decide +kernel
theorem d_M_untouched_27 : decode b_M_untouched 27 = .ok (.iaload, 1) := by decide +kernel
theorem d_M_untouched_28 : decode b_M_untouched 28 = .ok (.if_icmp .ge 51, 3) := by decide +kernel
theorem d_M_untouched_31 : decode b_M_untouched 31 = .ok (.iload 4, 2) := by decide +kernel
theorem d_M_untouched_33 : decode b_M_untouched 33 = .ok (.ifCond .eq 37, 3) := by decide +kernel
theorem d_M_untouched_36 : decode b_M_untouched 36 = .ok (.aload_n 0, 1) := by decide +kernel
theorem d_M_untouched_37 : decode b_M_untouched 37 = .ok (.iload_n 1, 1) := by decide +kernel
theorem d_M_untouched_38 : decode b_M_untouched 38 = .ok (.iload 5, 2) := by decide +kernel
theorem d_M_untouched_40 : decode b_M_untouched 40 = .ok (.invokevirtual 64, 3) := by decide +kernel
theorem d_M_untouched_43 : decode b_M_untouched 43 = .ok (.invokestatic 68, 3) := by decide +kernel
theorem d_M_untouched_46 : decode b_M_untouched 46 = .ok (.iload_n 3, 1) := by decide +kernel
theorem d_M_untouched_47 : decode b_M_untouched 47 = .ok (.if_icmp .eq 23, 3) := by decide +kernel
theorem d_M_untouched_50 : decode b_M_untouched 50 = .ok (.aload_n 0, 1) := by decide +kernel
theorem d_M_untouched_51 : decode b_M_untouched 51 = .ok (.iload_n 1, 1) := by decide +kernel
theorem d_M_untouched_52 : decode b_M_untouched 52 = .ok (.iload 5, 2) := by decide +kernel
theorem d_M_untouched_54 : decode b_M_untouched 54 = .ok (.invokevirtual 64, 3) := by decide +kernel
theorem d_M_untouched_57 : decode b_M_untouched 57 = .ok (.invokestatic 68, 3) := by decide +kernel
theorem d_M_untouched_60 : decode b_M_untouched 60 = .ok (.iconst 1, 1) := by decide +kernel
theorem d_M_untouched_61 : decode b_M_untouched 61 = .ok (.iadd, 1) := by decide +kernel
theorem d_M_untouched_62 : decode b_M_untouched 62 = .ok (.iload_n 3, 1) := by decide +kernel
theorem d_M_untouched_63 : decode b_M_untouched 63 = .ok (.if_icmp .eq 7, 3) := by decide +kernel
theorem d_M_untouched_66 : decode b_M_untouched 66 = .ok (.iconst 1, 1) := by decide +kernel
theorem d_M_untouched_67 : decode b_M_untouched 67 = .ok (.goto 4, 3) := by decide +kernel
theorem d_M_untouched_70 : decode b_M_untouched 70 = .ok (.iconst 0, 1) := by decide +kernel
theorem d_M_untouched_71 : decode b_M_untouched 71 = .ok (.istore 4, 2) := by decide +kernel
theorem d_M_untouched_73 : decode b_M_untouched 73 = .ok (.iinc 5 1, 3) := by decide +kernel
theorem d_M_untouched_76 : decode b_M_untouched 76 = .ok (.goto (-56), 3) := by decide +kernel
theorem d_M_untouched_79 : decode b_M_untouched 79 = .ok (.iload_n 2, 1) := by decide +kernel
theorem d_M_untouched_80 : decode b_M_untouched 80 = .ok (.iload 4, 2) := by decide +kernel
theorem d_M_untouched_82 : decode b_M_untouched 82 = .ok (.ifCond .eq 7, 3) := by decide +kernel
theorem d_M_untouched_85 : decode b_M_untouched 85 = .ok (.iconst 1, 1) := by decide +kernel
theorem d_M_untouched_86 : decode b_M_untouched 86 = .ok (.goto 4, 3) := by decide +kernel
theorem d_M_untouched_89 : decode b_M_untouched 89 = .ok (.iconst 0, 1) := by decide +kernel
theorem d_M_untouched_90 : decode b_M_untouched 90 = .ok (.iadd, 1) := by decide +kernel
theorem d_M_untouched_91 : decode b_M_untouched 91 = .ok (.istore_n 2, 1) := by decide +kernel
theorem d_M_untouched_92 : decode b_M_untouched 92 = .ok (.iinc 3 1, 3) := by decide +kernel
theorem d_M_untouched_95 : decode b_M_untouched 95 = .ok (.goto (-91), 3) := by decide +kernel
theorem d_M_untouched_98 : decode b_M_untouched 98 = .ok (.iload_n 2, 1) := by decide +kernel
theorem d_M_untouched_99 : decode b_M_untouched 99 = .ok (.ireturn, 1) := by decide +kernel
theorem d_M_signs_0 : decode b_M_signs 0 = .ok (.iconst 0, 1) := by decide +kernel
theorem d_M_signs_1 : decode b_M_signs 1 = .ok (.istore_n 2, 1) := by decide +kernel
theorem d_M_signs_2 : decode b_M_signs 2 = .ok (.iconst 0, 1) := by decide +kernel
theorem d_M_signs_3 : decode b_M_signs 3 = .ok (.istore_n 3, 1) := by decide +kernel
theorem d_M_signs_4 : decode b_M_signs 4 = .ok (.iload_n 3, 1) := by decide +kernel
theorem d_M_signs_5 : decode b_M_signs 5 = .ok (.aload_n 0, 1) := by decide +kernel
theorem d_M_signs_6 : decode b_M_signs 6 = .ok (.getfield 13, 3) := by decide +kernel
theorem d_M_signs_9 : decode b_M_signs 9 = .ok (.iload_n 1, 1) := by decide +kernel
theorem d_M_signs_10 : decode b_M_signs 10 = .ok (.iaload, 1) := by decide +kernel
theorem d_M_signs_11 : decode b_M_signs 11 = .ok (.if_icmp .ge 26, 3) := by decide +kernel
theorem d_M_signs_14 : decode b_M_signs 14 = .ok (.iload_n 2, 1) := by decide +kernel
theorem d_M_signs_15 : decode b_M_signs 15 = .ok (.aload_n 0, 1) := by decide +kernel
theorem d_M_signs_16 : decode b_M_signs 16 = .ok (.iload_n 1, 1) := by decide +kernel
theorem d_M_signs_17 : decode b_M_signs 17 = .ok (.iload_n 3, 1) := by decide +kernel
theorem d_M_signs_18 : decode b_M_signs 18 = .ok (.invokevirtual 64, 3) := by decide +kernel
theorem d_M_signs_21 : decode b_M_signs 21 = .ok (.ifCond .le 7, 3) := by decide +kernel
theorem d_M_signs_24 : decode b_M_signs 24 = .ok (.iconst 1, 1) := by decide +kernel
theorem d_M_signs_25 : decode b_M_signs 25 = .ok (.goto 4, 3) := by decide +kernel
theorem d_M_signs_28 : decode b_M_signs 28 = .ok (.iconst (-1), 1) := by decide +kernel
theorem d_M_signs_29 : decode b_M_signs 29 = .ok (.iadd, 1) := by decide +kernel
theorem d_M_signs_30 : decode b_M_signs 30 = .ok (.istore_n 2, 1) := by decide +kernel
theorem d_M_signs_31 : decode b_M_signs 31 = .ok (.iinc 3 1, 3) := by decide +kernel
theorem d_M_signs_34 : decode b_M_signs 34 = .ok (.goto (-30), 3) := by decide +kernel
theorem d_M_signs_37 : decode b_M_signs 37 = .ok (.iload_n 2, 1) := by decide +kernel
theorem d_M_signs_38 : decode b_M_signs 38 = .ok (.ireturn, 1) := by decide +kernel
theorem d_M_many_0 : decode b_M_many 0 = .ok (.iload_n 1, 1) := by decide +kernel
theorem d_M_many_1 : decode b_M_many 1 = .ok (.invokestatic 60, 3) := by decide +kernel
theorem d_M_many_4 : decode b_M_many 4 = .ok (.ifCond .ne 7, 3) := by decide +kernel
theorem d_M_many_7 : decode b_M_many 7 = .ok (.sipush (-1000), 3) := by decide +kernel
theorem d_M_many_10 : decode b_M_many 10 = .ok (.ireturn, 1) := by decide +kernel
theorem d_M_many_11 : decode b_M_many 11 = .ok (.iload_n 2, 1) := by decide +kernel
theorem d_M_many_12 : decode b_M_many 12 = .ok (.tableswitch 68 0 4 #[36, 43, 50, 56, 62], 36) := by decide +kernel
theorem d_M_many_48 : decode b_M_many 48 = .ok (.aload_n 0, 1) := by decide +kernel
theorem d_M_many_49 : decode b_M_many 49 = .ok (.getfield 7, 3) := by decide +kernel
theorem d_M_many_52 : decode b_M_many 52 = .ok (.iload_n 1, 1) := by decide +kernel
theorem d_M_many_53 : decode b_M_many 53 = .ok (.iaload, 1) := by decide +kernel
theorem d_M_many_54 : decode b_M_many 54 = .ok (.ireturn, 1) := by decide +kernel
theorem d_M_many_55 : decode b_M_many 55 = .ok (.aload_n 0, 1) := by decide +kernel
theorem d_M_many_56 : decode b_M_many 56 = .ok (.getfield 13, 3) := by decide +kernel
theorem d_M_many_59 : decode b_M_many 59 = .ok (.iload_n 1, 1) := by decide +kernel
theorem d_M_many_60 : decode b_M_many 60 = .ok (.iaload, 1) := by decide +kernel
theorem d_M_many_61 : decode b_M_many 61 = .ok (.ireturn, 1) := by decide +kernel
theorem d_M_many_62 : decode b_M_many 62 = .ok (.aload_n 0, 1) := by decide +kernel
theorem d_M_many_63 : decode b_M_many 63 = .ok (.iload_n 1, 1) := by decide +kernel
theorem d_M_many_64 : decode b_M_many 64 = .ok (.invokevirtual 75, 3) := by decide +kernel
theorem d_M_many_67 : decode b_M_many 67 = .ok (.ireturn, 1) := by decide +kernel
theorem d_M_many_68 : decode b_M_many 68 = .ok (.aload_n 0, 1) := by decide +kernel
theorem d_M_many_69 : decode b_M_many 69 = .ok (.iload_n 1, 1) := by decide +kernel
theorem d_M_many_70 : decode b_M_many 70 = .ok (.invokevirtual 78, 3) := by decide +kernel
theorem d_M_many_73 : decode b_M_many 73 = .ok (.ireturn, 1) := by decide +kernel
theorem d_M_many_74 : decode b_M_many 74 = .ok (.aload_n 0, 1) := by decide +kernel
theorem d_M_many_75 : decode b_M_many 75 = .ok (.iload_n 1, 1) := by decide +kernel
theorem d_M_many_76 : decode b_M_many 76 = .ok (.invokevirtual 81, 3) := by decide +kernel
theorem d_M_many_79 : decode b_M_many 79 = .ok (.ireturn, 1) := by decide +kernel
theorem d_M_many_80 : decode b_M_many 80 = .ok (.sipush (-1000), 3) := by decide +kernel
theorem d_M_many_83 : decode b_M_many 83 = .ok (.ireturn, 1) := by decide +kernel
theorem d_M_at_0 : decode b_M_at 0 = .ok (.iload_n 1, 1) := by decide +kernel
theorem d_M_at_1 : decode b_M_at 1 = .ok (.invokestatic 60, 3) := by decide +kernel
theorem d_M_at_4 : decode b_M_at 4 = .ok (.ifCond .eq 17, 3) := by decide +kernel
theorem d_M_at_7 : decode b_M_at 7 = .ok (.iload_n 2, 1) := by decide +kernel
theorem d_M_at_8 : decode b_M_at 8 = .ok (.ifCond .lt 13, 3) := by decide +kernel
theorem d_M_at_11 : decode b_M_at 11 = .ok (.iload_n 2, 1) := by decide +kernel
theorem d_M_at_12 : decode b_M_at 12 = .ok (.aload_n 0, 1) := by decide +kernel
theorem d_M_at_13 : decode b_M_at 13 = .ok (.getfield 13, 3) := by decide +kernel
theorem d_M_at_16 : decode b_M_at 16 = .ok (.iload_n 1, 1) := by decide +kernel
theorem d_M_at_17 : decode b_M_at 17 = .ok (.iaload, 1) := by decide +kernel
theorem d_M_at_18 : decode b_M_at 18 = .ok (.if_icmp .lt 7, 3) := by decide +kernel
theorem d_M_at_21 : decode b_M_at 21 = .ok (.iconst 0, 1) := by decide +kernel
theorem d_M_at_22 : decode b_M_at 22 = .ok (.goto 9, 3) := by decide +kernel
theorem d_M_at_25 : decode b_M_at 25 = .ok (.aload_n 0, 1) := by decide +kernel
theorem d_M_at_26 : decode b_M_at 26 = .ok (.iload_n 1, 1) := by decide +kernel
theorem d_M_at_27 : decode b_M_at 27 = .ok (.iload_n 2, 1) := by decide +kernel
theorem d_M_at_28 : decode b_M_at 28 = .ok (.invokevirtual 64, 3) := by decide +kernel
theorem d_M_at_31 : decode b_M_at 31 = .ok (.ireturn, 1) := by decide +kernel
theorem d_M_remove_0 : decode b_M_remove 0 = .ok (.aload_n 0, 1) := by decide +kernel
theorem d_M_remove_1 : decode b_M_remove 1 = .ok (.getfield 13, 3) := by decide +kernel
theorem d_M_remove_4 : decode b_M_remove 4 = .ok (.iload_n 1, 1) := by decide +kernel
theorem d_M_remove_5 : decode b_M_remove 5 = .ok (.dup2, 1) := by decide +kernel
theorem d_M_remove_6 : decode b_M_remove 6 = .ok (.iaload, 1) := by decide +kernel
theorem d_M_remove_7 : decode b_M_remove 7 = .ok (.iconst 1, 1) := by decide +kernel
theorem d_M_remove_8 : decode b_M_remove 8 = .ok (.isub, 1) := by decide +kernel
theorem d_M_remove_9 : decode b_M_remove 9 = .ok (.iastore, 1) := by decide +kernel
theorem d_M_remove_10 : decode b_M_remove 10 = .ok (.iload_n 2, 1) := by decide +kernel
theorem d_M_remove_11 : decode b_M_remove 11 = .ok (.istore_n 3, 1) := by decide +kernel
theorem d_M_remove_12 : decode b_M_remove 12 = .ok (.iload_n 3, 1) := by decide +kernel
theorem d_M_remove_13 : decode b_M_remove 13 = .ok (.aload_n 0, 1) := by decide +kernel
theorem d_M_remove_14 : decode b_M_remove 14 = .ok (.getfield 13, 3) := by decide +kernel
theorem d_M_remove_17 : decode b_M_remove 17 = .ok (.iload_n 1, 1) := by decide +kernel
theorem d_M_remove_18 : decode b_M_remove 18 = .ok (.iaload, 1) := by decide +kernel
theorem d_M_remove_19 : decode b_M_remove 19 = .ok (.if_icmp .ge 33, 3) := by decide +kernel
theorem d_M_remove_22 : decode b_M_remove 22 = .ok (.aload_n 0, 1) := by decide +kernel
theorem d_M_remove_23 : decode b_M_remove 23 = .ok (.getfield 16, 3) := by decide +kernel
theorem d_M_remove_26 : decode b_M_remove 26 = .ok (.bipush 32, 2) := by decide +kernel
theorem d_M_remove_28 : decode b_M_remove 28 = .ok (.iload_n 1, 1) := by decide +kernel
theorem d_M_remove_29 : decode b_M_remove 29 = .ok (.imul, 1) := by decide +kernel
theorem d_M_remove_30 : decode b_M_remove 30 = .ok (.iload_n 3, 1) := by decide +kernel
theorem d_M_remove_31 : decode b_M_remove 31 = .ok (.iadd, 1) := by decide +kernel
theorem d_M_remove_32 : decode b_M_remove 32 = .ok (.aload_n 0, 1) := by decide +kernel
theorem d_M_remove_33 : decode b_M_remove 33 = .ok (.getfield 16, 3) := by decide +kernel
theorem d_M_remove_36 : decode b_M_remove 36 = .ok (.bipush 32, 2) := by decide +kernel
theorem d_M_remove_38 : decode b_M_remove 38 = .ok (.iload_n 1, 1) := by decide +kernel
theorem d_M_remove_39 : decode b_M_remove 39 = .ok (.imul, 1) := by decide +kernel
theorem d_M_remove_40 : decode b_M_remove 40 = .ok (.iload_n 3, 1) := by decide +kernel
theorem d_M_remove_41 : decode b_M_remove 41 = .ok (.iadd, 1) := by decide +kernel
theorem d_M_remove_42 : decode b_M_remove 42 = .ok (.iconst 1, 1) := by decide +kernel
theorem d_M_remove_43 : decode b_M_remove 43 = .ok (.iadd, 1) := by decide +kernel
theorem d_M_remove_44 : decode b_M_remove 44 = .ok (.iaload, 1) := by decide +kernel
theorem d_M_remove_45 : decode b_M_remove 45 = .ok (.iastore, 1) := by decide +kernel
theorem d_M_remove_46 : decode b_M_remove 46 = .ok (.iinc 3 1, 3) := by decide +kernel
theorem d_M_remove_49 : decode b_M_remove 49 = .ok (.goto (-37), 3) := by decide +kernel
theorem d_M_remove_52 : decode b_M_remove 52 = .ok (.aload_n 0, 1) := by decide +kernel
theorem d_M_remove_53 : decode b_M_remove 53 = .ok (.getfield 37, 3) := by decide +kernel
theorem d_M_remove_56 : decode b_M_remove 56 = .ok (.iload_n 1, 1) := by decide +kernel
theorem d_M_remove_57 : decode b_M_remove 57 = .ok (.iconst 0, 1) := by decide +kernel
theorem d_M_remove_58 : decode b_M_remove 58 = .ok (.bastore, 1) := by decide +kernel
theorem d_M_remove_59 : decode b_M_remove 59 = .ok (.return_, 1) := by decide +kernel
theorem d_M_reduce_0 : decode b_M_reduce 0 = .ok (.iload_n 1, 1) := by decide +kernel
theorem d_M_reduce_1 : decode b_M_reduce 1 = .ok (.invokestatic 60, 3) := by decide +kernel
theorem d_M_reduce_4 : decode b_M_reduce 4 = .ok (.ifCond .ne 5, 3) := by decide +kernel
theorem d_M_reduce_7 : decode b_M_reduce 7 = .ok (.iconst 0, 1) := by decide +kernel
theorem d_M_reduce_8 : decode b_M_reduce 8 = .ok (.ireturn, 1) := by decide +kernel
theorem d_M_reduce_9 : decode b_M_reduce 9 = .ok (.aload_n 0, 1) := by decide +kernel
theorem d_M_reduce_10 : decode b_M_reduce 10 = .ok (.getfield 13, 3) := by decide +kernel
theorem d_M_reduce_13 : decode b_M_reduce 13 = .ok (.iload_n 1, 1) := by decide +kernel
theorem d_M_reduce_14 : decode b_M_reduce 14 = .ok (.iaload, 1) := by decide +kernel
theorem d_M_reduce_15 : decode b_M_reduce 15 = .ok (.istore_n 3, 1) := by decide +kernel
theorem d_M_reduce_16 : decode b_M_reduce 16 = .ok (.iconst 0, 1) := by decide +kernel
theorem d_M_reduce_17 : decode b_M_reduce 17 = .ok (.istore 4, 2) := by decide +kernel
theorem d_M_reduce_19 : decode b_M_reduce 19 = .ok (.iload 4, 2) := by decide +kernel
theorem d_M_reduce_21 : decode b_M_reduce 21 = .ok (.iconst 1, 1) := by decide +kernel
theorem d_M_reduce_22 : decode b_M_reduce 22 = .ok (.iadd, 1) := by decide +kernel
theorem d_M_reduce_23 : decode b_M_reduce 23 = .ok (.aload_n 0, 1) := by decide +kernel
theorem d_M_reduce_24 : decode b_M_reduce 24 = .ok (.getfield 13, 3) := by decide +kernel
theorem d_M_reduce_27 : decode b_M_reduce 27 = .ok (.iload_n 1, 1) := by decide +kernel
theorem d_M_reduce_28 : decode b_M_reduce 28 = .ok (.iaload, 1) := by decide +kernel
theorem d_M_reduce_29 : decode b_M_reduce 29 = .ok (.if_icmp .ge 51, 3) := by decide +kernel
theorem d_M_reduce_32 : decode b_M_reduce 32 = .ok (.aload_n 0, 1) := by decide +kernel
theorem d_M_reduce_33 : decode b_M_reduce 33 = .ok (.iload_n 1, 1) := by decide +kernel
theorem d_M_reduce_34 : decode b_M_reduce 34 = .ok (.iload 4, 2) := by decide +kernel
theorem d_M_reduce_36 : decode b_M_reduce 36 = .ok (.invokevirtual 64, 3) := by decide +kernel
theorem d_M_reduce_39 : decode b_M_reduce 39 = .ok (.aload_n 0, 1) := by decide +kernel
theorem d_M_reduce_40 : decode b_M_reduce 40 = .ok (.iload_n 1, 1) := by decide +kernel
theorem d_M_reduce_41 : decode b_M_reduce 41 = .ok (.iload 4, 2) := by decide +kernel
theorem d_M_reduce_43 : decode b_M_reduce 43 = .ok (.iconst 1, 1) := by decide +kernel
theorem d_M_reduce_44 : decode b_M_reduce 44 = .ok (.iadd, 1) := by decide +kernel
theorem d_M_reduce_45 : decode b_M_reduce 45 = .ok (.invokevirtual 64, 3) := by decide +kernel
theorem d_M_reduce_48 : decode b_M_reduce 48 = .ok (.ineg, 1) := by decide +kernel
theorem d_M_reduce_49 : decode b_M_reduce 49 = .ok (.if_icmp .ne 25, 3) := by decide +kernel
theorem d_M_reduce_52 : decode b_M_reduce 52 = .ok (.aload_n 0, 1) := by decide +kernel
theorem d_M_reduce_53 : decode b_M_reduce 53 = .ok (.iload_n 1, 1) := by decide +kernel
theorem d_M_reduce_54 : decode b_M_reduce 54 = .ok (.iload 4, 2) := by decide +kernel
theorem d_M_reduce_56 : decode b_M_reduce 56 = .ok (.iconst 1, 1) := by decide +kernel
theorem d_M_reduce_57 : decode b_M_reduce 57 = .ok (.iadd, 1) := by decide +kernel
theorem d_M_reduce_58 : decode b_M_reduce 58 = .ok (.invokevirtual 84, 3) := by decide +kernel
theorem d_M_reduce_61 : decode b_M_reduce 61 = .ok (.aload_n 0, 1) := by decide +kernel
theorem d_M_reduce_62 : decode b_M_reduce 62 = .ok (.iload_n 1, 1) := by decide +kernel
theorem d_M_reduce_63 : decode b_M_reduce 63 = .ok (.iload 4, 2) := by decide +kernel
theorem d_M_reduce_65 : decode b_M_reduce 65 = .ok (.invokevirtual 84, 3) := by decide +kernel
theorem d_M_reduce_68 : decode b_M_reduce 68 = .ok (.iconst 0, 1) := by decide +kernel
theorem d_M_reduce_69 : decode b_M_reduce 69 = .ok (.istore 4, 2) := by decide +kernel
theorem d_M_reduce_71 : decode b_M_reduce 71 = .ok (.goto (-52), 3) := by decide +kernel
theorem d_M_reduce_74 : decode b_M_reduce 74 = .ok (.iinc 4 1, 3) := by decide +kernel
theorem d_M_reduce_77 : decode b_M_reduce 77 = .ok (.goto (-58), 3) := by decide +kernel
theorem d_M_reduce_80 : decode b_M_reduce 80 = .ok (.iload_n 2, 1) := by decide +kernel
theorem d_M_reduce_81 : decode b_M_reduce 81 = .ok (.ifCond .eq 58, 3) := by decide +kernel
theorem d_M_reduce_84 : decode b_M_reduce 84 = .ok (.aload_n 0, 1) := by decide +kernel
theorem d_M_reduce_85 : decode b_M_reduce 85 = .ok (.getfield 13, 3) := by decide +kernel
theorem d_M_reduce_88 : decode b_M_reduce 88 = .ok (.iload_n 1, 1) := by decide +kernel
theorem d_M_reduce_89 : decode b_M_reduce 89 = .ok (.iaload, 1) := by decide +kernel
theorem d_M_reduce_90 : decode b_M_reduce 90 = .ok (.iconst 1, 1) := by decide +kernel
theorem d_M_reduce_91 : decode b_M_reduce 91 = .ok (.if_icmp .le 48, 3) := by decide +kernel
theorem d_M_reduce_94 : decode b_M_reduce 94 = .ok (.aload_n 0, 1) := by decide +kernel
theorem d_M_reduce_95 : decode b_M_reduce 95 = .ok (.iload_n 1, 1) := by decide +kernel
theorem d_M_reduce_96 : decode b_M_reduce 96 = .ok (.iconst 0, 1) := by decide +kernel
theorem d_M_reduce_97 : decode b_M_reduce 97 = .ok (.invokevirtual 64, 3) := by decide +kernel
theorem d_M_reduce_100 : decode b_M_reduce 100 = .ok (.aload_n 0, 1) := by decide +kernel
theorem d_M_reduce_101 : decode b_M_reduce 101 = .ok (.iload_n 1, 1) := by decide +kernel
theorem d_M_reduce_102 : decode b_M_reduce 102 = .ok (.aload_n 0, 1) := by decide +kernel
theorem d_M_reduce_103 : decode b_M_reduce 103 = .ok (.getfield 13, 3) := by decide +kernel
theorem d_M_reduce_106 : decode b_M_reduce 106 = .ok (.iload_n 1, 1) := by decide +kernel
theorem d_M_reduce_107 : decode b_M_reduce 107 = .ok (.iaload, 1) := by decide +kernel
theorem d_M_reduce_108 : decode b_M_reduce 108 = .ok (.iconst 1, 1) := by decide +kernel
theorem d_M_reduce_109 : decode b_M_reduce 109 = .ok (.isub, 1) := by decide +kernel
theorem d_M_reduce_110 : decode b_M_reduce 110 = .ok (.invokevirtual 64, 3) := by decide +kernel
theorem d_M_reduce_113 : decode b_M_reduce 113 = .ok (.ineg, 1) := by decide +kernel
theorem d_M_reduce_114 : decode b_M_reduce 114 = .ok (.if_icmp .ne 25, 3) := by decide +kernel
theorem d_M_reduce_117 : decode b_M_reduce 117 = .ok (.aload_n 0, 1) := by decide +kernel
theorem d_M_reduce_118 : decode b_M_reduce 118 = .ok (.iload_n 1, 1) := by decide +kernel
theorem d_M_reduce_119 : decode b_M_reduce 119 = .ok (.aload_n 0, 1) := by decide +kernel
theorem d_M_reduce_120 : decode b_M_reduce 120 = .ok (.getfield 13, 3) := by decide +kernel
theorem d_M_reduce_123 : decode b_M_reduce 123 = .ok (.iload_n 1, 1) := by decide +kernel
theorem d_M_reduce_124 : decode b_M_reduce 124 = .ok (.iaload, 1) := by decide +kernel
theorem d_M_reduce_125 : decode b_M_reduce 125 = .ok (.iconst 1, 1) := by decide +kernel
theorem d_M_reduce_126 : decode b_M_reduce 126 = .ok (.isub, 1) := by decide +kernel
theorem d_M_reduce_127 : decode b_M_reduce 127 = .ok (.invokevirtual 84, 3) := by decide +kernel
theorem d_M_reduce_130 : decode b_M_reduce 130 = .ok (.aload_n 0, 1) := by decide +kernel
theorem d_M_reduce_131 : decode b_M_reduce 131 = .ok (.iload_n 1, 1) := by decide +kernel
theorem d_M_reduce_132 : decode b_M_reduce 132 = .ok (.iconst 0, 1) := by decide +kernel
theorem d_M_reduce_133 : decode b_M_reduce 133 = .ok (.invokevirtual 84, 3) := by decide +kernel
theorem d_M_reduce_136 : decode b_M_reduce 136 = .ok (.goto (-56), 3) := by decide +kernel
theorem d_M_reduce_139 : decode b_M_reduce 139 = .ok (.iload_n 3, 1) := by decide +kernel
theorem d_M_reduce_140 : decode b_M_reduce 140 = .ok (.aload_n 0, 1) := by decide +kernel
theorem d_M_reduce_141 : decode b_M_reduce 141 = .ok (.getfield 13, 3) := by decide +kernel
theorem d_M_reduce_144 : decode b_M_reduce 144 = .ok (.iload_n 1, 1) := by decide +kernel
theorem d_M_reduce_145 : decode b_M_reduce 145 = .ok (.iaload, 1) := by decide +kernel
theorem d_M_reduce_146 : decode b_M_reduce 146 = .ok (.isub, 1) := by decide +kernel
theorem d_M_reduce_147 : decode b_M_reduce 147 = .ok (.ireturn, 1) := by decide +kernel
theorem d_M_round_0 : decode b_M_round 0 = .ok (.iload_n 1, 1) := by decide +kernel
theorem d_M_round_1 : decode b_M_round 1 = .ok (.invokestatic 60, 3) := by decide +kernel
theorem d_M_round_4 : decode b_M_round 4 = .ok (.ifCond .eq 12, 3) := by decide +kernel
theorem d_M_round_7 : decode b_M_round 7 = .ok (.aload_n 0, 1) := by decide +kernel
theorem d_M_round_8 : decode b_M_round 8 = .ok (.getfield 13, 3) := by decide +kernel
theorem d_M_round_11 : decode b_M_round 11 = .ok (.iload_n 1, 1) := by decide +kernel
theorem d_M_round_12 : decode b_M_round 12 = .ok (.iaload, 1) := by decide +kernel
theorem d_M_round_13 : decode b_M_round 13 = .ok (.ifCond .ne 5, 3) := by decide +kernel
theorem d_M_round_16 : decode b_M_round 16 = .ok (.iconst 0, 1) := by decide +kernel
theorem d_M_round_17 : decode b_M_round 17 = .ok (.ireturn, 1) := by decide +kernel
theorem d_M_round_18 : decode b_M_round 18 = .ok (.aload_n 0, 1) := by decide +kernel
theorem d_M_round_19 : decode b_M_round 19 = .ok (.getfield 13, 3) := by decide +kernel
theorem d_M_round_22 : decode b_M_round 22 = .ok (.iload_n 1, 1) := by decide +kernel
theorem d_M_round_23 : decode b_M_round 23 = .ok (.iaload, 1) := by decide +kernel
theorem d_M_round_24 : decode b_M_round 24 = .ok (.istore_n 3, 1) := by decide +kernel
theorem d_M_round_25 : decode b_M_round 25 = .ok (.aload_n 0, 1) := by decide +kernel
theorem d_M_round_26 : decode b_M_round 26 = .ok (.iload_n 1, 1) := by decide +kernel
theorem d_M_round_27 : decode b_M_round 27 = .ok (.iload_n 2, 1) := by decide +kernel
theorem d_M_round_28 : decode b_M_round 28 = .ok (.ifCond .eq 9, 3) := by decide +kernel
theorem d_M_round_31 : decode b_M_round 31 = .ok (.iload_n 3, 1) := by decide +kernel
theorem d_M_round_32 : decode b_M_round 32 = .ok (.iconst 1, 1) := by decide +kernel
theorem d_M_round_33 : decode b_M_round 33 = .ok (.isub, 1) := by decide +kernel
theorem d_M_round_34 : decode b_M_round 34 = .ok (.goto 4, 3) := by decide +kernel
theorem d_M_round_37 : decode b_M_round 37 = .ok (.iconst 0, 1) := by decide +kernel
theorem d_M_round_38 : decode b_M_round 38 = .ok (.invokevirtual 64, 3) := by decide +kernel
theorem d_M_round_41 : decode b_M_round 41 = .ok (.istore 4, 2) := by decide +kernel
theorem d_M_round_43 : decode b_M_round 43 = .ok (.iload_n 2, 1) := by decide +kernel
theorem d_M_round_44 : decode b_M_round 44 = .ok (.ifCond .eq 43, 3) := by decide +kernel
theorem d_M_round_47 : decode b_M_round 47 = .ok (.iload_n 3, 1) := by decide +kernel
theorem d_M_round_48 : decode b_M_round 48 = .ok (.iconst 1, 1) := by decide +kernel
theorem d_M_round_49 : decode b_M_round 49 = .ok (.isub, 1) := by decide +kernel
theorem d_M_round_50 : decode b_M_round 50 = .ok (.istore 5, 2) := by decide +kernel
theorem d_M_round_52 : decode b_M_round 52 = .ok (.iload 5, 2) := by decide +kernel
theorem d_M_round_54 : decode b_M_round 54 = .ok (.ifCond .le 30, 3) := by decide +kernel
theorem d_M_round_57 : decode b_M_round 57 = .ok (.aload_n 0, 1) := by decide +kernel
theorem d_M_round_58 : decode b_M_round 58 = .ok (.getfield 16, 3) := by decide +kernel
theorem d_M_round_61 : decode b_M_round 61 = .ok (.bipush 32, 2) := by decide +kernel
theorem d_M_round_63 : decode b_M_round 63 = .ok (.iload_n 1, 1) := by decide +kernel
theorem d_M_round_64 : decode b_M_round 64 = .ok (.imul, 1) := by decide +kernel
theorem d_M_round_65 : decode b_M_round 65 = .ok (.iload 5, 2) := by decide +kernel
theorem d_M_round_67 : decode b_M_round 67 = .ok (.iadd, 1) := by decide +kernel
theorem d_M_round_68 : decode b_M_round 68 = .ok (.aload_n 0, 1) := by decide +kernel
theorem d_M_round_69 : decode b_M_round 69 = .ok (.iload_n 1, 1) := by decide +kernel
theorem d_M_round_70 : decode b_M_round 70 = .ok (.iload 5, 2) := by decide +kernel
theorem d_M_round_72 : decode b_M_round 72 = .ok (.iconst 1, 1) := by decide +kernel
theorem d_M_round_73 : decode b_M_round 73 = .ok (.isub, 1) := by decide +kernel
theorem d_M_round_74 : decode b_M_round 74 = .ok (.invokevirtual 64, 3) := by decide +kernel
theorem d_M_round_77 : decode b_M_round 77 = .ok (.iastore, 1) := by decide +kernel
theorem d_M_round_78 : decode b_M_round 78 = .ok (.iinc 5 (-1), 3) := by decide +kernel
theorem d_M_round_81 : decode b_M_round 81 = .ok (.goto (-29), 3) := by decide +kernel
theorem d_M_round_84 : decode b_M_round 84 = .ok (.goto 41, 3) := by decide +kernel
theorem d_M_round_87 : decode b_M_round 87 = .ok (.iconst 0, 1) := by decide +kernel
theorem d_M_round_88 : decode b_M_round 88 = .ok (.istore 5, 2) := by decide +kernel
theorem d_M_round_90 : decode b_M_round 90 = .ok (.iload 5, 2) := by decide +kernel
theorem d_M_round_92 : decode b_M_round 92 = .ok (.iconst 1, 1) := by decide +kernel
theorem d_M_round_93 : decode b_M_round 93 = .ok (.iadd, 1) := by decide +kernel
theorem d_M_round_94 : decode b_M_round 94 = .ok (.iload_n 3, 1) := by decide +kernel
theorem d_M_round_95 : decode b_M_round 95 = .ok (.if_icmp .ge 30, 3) := by decide +kernel
theorem d_M_round_98 : decode b_M_round 98 = .ok (.aload_n 0, 1) := by decide +kernel
theorem d_M_round_99 : decode b_M_round 99 = .ok (.getfield 16, 3) := by decide +kernel
theorem d_M_round_102 : decode b_M_round 102 = .ok (.bipush 32, 2) := by decide +kernel
theorem d_M_round_104 : decode b_M_round 104 = .ok (.iload_n 1, 1) := by decide +kernel
theorem d_M_round_105 : decode b_M_round 105 = .ok (.imul, 1) := by decide +kernel
theorem d_M_round_106 : decode b_M_round 106 = .ok (.iload 5, 2) := by decide +kernel
theorem d_M_round_108 : decode b_M_round 108 = .ok (.iadd, 1) := by decide +kernel
theorem d_M_round_109 : decode b_M_round 109 = .ok (.aload_n 0, 1) := by decide +kernel
theorem d_M_round_110 : decode b_M_round 110 = .ok (.iload_n 1, 1) := by decide +kernel
theorem d_M_round_111 : decode b_M_round 111 = .ok (.iload 5, 2) := by decide +kernel
theorem d_M_round_113 : decode b_M_round 113 = .ok (.iconst 1, 1) := by decide +kernel
theorem d_M_round_114 : decode b_M_round 114 = .ok (.iadd, 1) := by decide +kernel
theorem d_M_round_115 : decode b_M_round 115 = .ok (.invokevirtual 64, 3) := by decide +kernel
theorem d_M_round_118 : decode b_M_round 118 = .ok (.iastore, 1) := by decide +kernel
theorem d_M_round_119 : decode b_M_round 119 = .ok (.iinc 5 1, 3) := by decide +kernel
theorem d_M_round_122 : decode b_M_round 122 = .ok (.goto (-32), 3) := by decide +kernel
theorem d_M_round_125 : decode b_M_round 125 = .ok (.aload_n 0, 1) := by decide +kernel
theorem d_M_round_126 : decode b_M_round 126 = .ok (.getfield 16, 3) := by decide +kernel
theorem d_M_round_129 : decode b_M_round 129 = .ok (.bipush 32, 2) := by decide +kernel
theorem d_M_round_131 : decode b_M_round 131 = .ok (.iload_n 1, 1) := by decide +kernel
theorem d_M_round_132 : decode b_M_round 132 = .ok (.imul, 1) := by decide +kernel
theorem d_M_round_133 : decode b_M_round 133 = .ok (.iload_n 2, 1) := by decide +kernel
theorem d_M_round_134 : decode b_M_round 134 = .ok (.ifCond .eq 7, 3) := by decide +kernel
theorem d_M_round_137 : decode b_M_round 137 = .ok (.iconst 0, 1) := by decide +kernel
theorem d_M_round_138 : decode b_M_round 138 = .ok (.goto 6, 3) := by decide +kernel
theorem d_M_round_141 : decode b_M_round 141 = .ok (.iload_n 3, 1) := by decide +kernel
theorem d_M_round_142 : decode b_M_round 142 = .ok (.iconst 1, 1) := by decide +kernel
theorem d_M_round_143 : decode b_M_round 143 = .ok (.isub, 1) := by decide +kernel
theorem d_M_round_144 : decode b_M_round 144 = .ok (.iadd, 1) := by decide +kernel
theorem d_M_round_145 : decode b_M_round 145 = .ok (.iload 4, 2) := by decide +kernel
theorem d_M_round_147 : decode b_M_round 147 = .ok (.iastore, 1) := by decide +kernel
theorem d_M_round_148 : decode b_M_round 148 = .ok (.aload_n 0, 1) := by decide +kernel
theorem d_M_round_149 : decode b_M_round 149 = .ok (.getfield 37, 3) := by decide +kernel
theorem d_M_round_152 : decode b_M_round 152 = .ok (.iload_n 1, 1) := by decide +kernel
theorem d_M_round_153 : decode b_M_round 153 = .ok (.iconst 0, 1) := by decide +kernel
theorem d_M_round_154 : decode b_M_round 154 = .ok (.bastore, 1) := by decide +kernel
theorem d_M_round_155 : decode b_M_round 155 = .ok (.iconst 1, 1) := by decide +kernel
theorem d_M_round_156 : decode b_M_round 156 = .ok (.ireturn, 1) := by decide +kernel
theorem d_M_exchange_0 : decode b_M_exchange 0 = .ok (.iload_n 1, 1) := by decide +kernel
theorem d_M_exchange_1 : decode b_M_exchange 1 = .ok (.invokestatic 60, 3) := by decide +kernel
theorem d_M_exchange_4 : decode b_M_exchange 4 = .ok (.ifCond .eq 19, 3) := by decide +kernel
theorem d_M_exchange_7 : decode b_M_exchange 7 = .ok (.iload_n 2, 1) := by decide +kernel
theorem d_M_exchange_8 : decode b_M_exchange 8 = .ok (.ifCond .lt 15, 3) := by decide +kernel
theorem d_M_exchange_11 : decode b_M_exchange 11 = .ok (.iload_n 2, 1) := by decide +kernel
theorem d_M_exchange_12 : decode b_M_exchange 12 = .ok (.aload_n 0, 1) := by decide +kernel
theorem d_M_exchange_13 : decode b_M_exchange 13 = .ok (.getfield 13, 3) := by decide +kernel
theorem d_M_exchange_16 : decode b_M_exchange 16 = .ok (.iload_n 1, 1) := by decide +kernel
theorem d_M_exchange_17 : decode b_M_exchange 17 = .ok (.iaload, 1) := by decide +kernel
theorem d_M_exchange_18 : decode b_M_exchange 18 = .ok (.iconst 1, 1) := by decide +kernel
theorem d_M_exchange_19 : decode b_M_exchange 19 = .ok (.isub, 1) := by decide +kernel
theorem d_M_exchange_20 : decode b_M_exchange 20 = .ok (.if_icmp .lt 5, 3) := by decide +kernel
theorem d_M_exchange_23 : decode b_M_exchange 23 = .ok (.iconst 0, 1) := by decide +kernel
theorem d_M_exchange_24 : decode b_M_exchange 24 = .ok (.ireturn, 1) := by decide +kernel
theorem d_M_exchange_25 : decode b_M_exchange 25 = .ok (.aload_n 0, 1) := by decide +kernel
theorem d_M_exchange_26 : decode b_M_exchange 26 = .ok (.iload_n 1, 1) := by decide +kernel
theorem d_M_exchange_27 : decode b_M_exchange 27 = .ok (.iload_n 2, 1) := by decide +kernel
theorem d_M_exchange_28 : decode b_M_exchange 28 = .ok (.invokevirtual 64, 3) := by decide +kernel
theorem d_M_exchange_31 : decode b_M_exchange 31 = .ok (.istore_n 3, 1) := by decide +kernel
theorem d_M_exchange_32 : decode b_M_exchange 32 = .ok (.aload_n 0, 1) := by decide +kernel
theorem d_M_exchange_33 : decode b_M_exchange 33 = .ok (.iload_n 1, 1) := by decide +kernel
theorem d_M_exchange_34 : decode b_M_exchange 34 = .ok (.iload_n 2, 1) := by decide +kernel
theorem d_M_exchange_35 : decode b_M_exchange 35 = .ok (.iconst 1, 1) := by decide +kernel
theorem d_M_exchange_36 : decode b_M_exchange 36 = .ok (.iadd, 1) := by decide +kernel
theorem d_M_exchange_37 : decode b_M_exchange 37 = .ok (.invokevirtual 64, 3) := by decide +kernel
theorem d_M_exchange_40 : decode b_M_exchange 40 = .ok (.istore 4, 2) := by decide +kernel
theorem d_M_exchange_42 : decode b_M_exchange 42 = .ok (.iload_n 3, 1) := by decide +kernel
theorem d_M_exchange_43 : decode b_M_exchange 43 = .ok (.invokestatic 68, 3) := by decide +kernel
theorem d_M_exchange_46 : decode b_M_exchange 46 = .ok (.iload 4, 2) := by decide +kernel
theorem d_M_exchange_48 : decode b_M_exchange 48 = .ok (.invokestatic 68, 3) := by decide +kernel
theorem d_M_exchange_51 : decode b_M_exchange 51 = .ok (.isub, 1) := by decide +kernel
theorem d_M_exchange_52 : decode b_M_exchange 52 = .ok (.istore 5, 2) := by decide +kernel
theorem d_M_exchange_54 : decode b_M_exchange 54 = .ok (.iload 5, 2) := by decide +kernel
theorem d_M_exchange_56 : decode b_M_exchange 56 = .ok (.iconst (-1), 1) := by decide +kernel
theorem d_M_exchange_57 : decode b_M_exchange 57 = .ok (.if_icmp .lt 11, 3) := by decide +kernel
theorem d_M_exchange_60 : decode b_M_exchange 60 = .ok (.iload 5, 2) := by decide +kernel
theorem d_M_exchange_62 : decode b_M_exchange 62 = .ok (.iconst 1, 1) := by decide +kernel
theorem d_M_exchange_63 : decode b_M_exchange 63 = .ok (.if_icmp .gt 5, 3) := by decide +kernel
theorem d_M_exchange_66 : decode b_M_exchange 66 = .ok (.iconst 0, 1) := by decide +kernel
theorem d_M_exchange_67 : decode b_M_exchange 67 = .ok (.ireturn, 1) := by decide +kernel
theorem d_M_exchange_68 : decode b_M_exchange 68 = .ok (.aload_n 0, 1) := by decide +kernel
theorem d_M_exchange_69 : decode b_M_exchange 69 = .ok (.getfield 16, 3) := by decide +kernel
theorem d_M_exchange_72 : decode b_M_exchange 72 = .ok (.bipush 32, 2) := by decide +kernel
theorem d_M_exchange_74 : decode b_M_exchange 74 = .ok (.iload_n 1, 1) := by decide +kernel
theorem d_M_exchange_75 : decode b_M_exchange 75 = .ok (.imul, 1) := by decide +kernel
theorem d_M_exchange_76 : decode b_M_exchange 76 = .ok (.iload_n 2, 1) := by decide +kernel
theorem d_M_exchange_77 : decode b_M_exchange 77 = .ok (.iadd, 1) := by decide +kernel
theorem d_M_exchange_78 : decode b_M_exchange 78 = .ok (.iload 4, 2) := by decide +kernel
theorem d_M_exchange_80 : decode b_M_exchange 80 = .ok (.iastore, 1) := by decide +kernel
theorem d_M_exchange_81 : decode b_M_exchange 81 = .ok (.aload_n 0, 1) := by decide +kernel
theorem d_M_exchange_82 : decode b_M_exchange 82 = .ok (.getfield 16, 3) := by decide +kernel
theorem d_M_exchange_85 : decode b_M_exchange 85 = .ok (.bipush 32, 2) := by decide +kernel
theorem d_M_exchange_87 : decode b_M_exchange 87 = .ok (.iload_n 1, 1) := by decide +kernel
theorem d_M_exchange_88 : decode b_M_exchange 88 = .ok (.imul, 1) := by decide +kernel
theorem d_M_exchange_89 : decode b_M_exchange 89 = .ok (.iload_n 2, 1) := by decide +kernel
theorem d_M_exchange_90 : decode b_M_exchange 90 = .ok (.iadd, 1) := by decide +kernel
theorem d_M_exchange_91 : decode b_M_exchange 91 = .ok (.iconst 1, 1) := by decide +kernel
theorem d_M_exchange_92 : decode b_M_exchange 92 = .ok (.iadd, 1) := by decide +kernel
theorem d_M_exchange_93 : decode b_M_exchange 93 = .ok (.iload_n 3, 1) := by decide +kernel
theorem d_M_exchange_94 : decode b_M_exchange 94 = .ok (.iastore, 1) := by decide +kernel
theorem d_M_exchange_95 : decode b_M_exchange 95 = .ok (.aload_n 0, 1) := by decide +kernel
theorem d_M_exchange_96 : decode b_M_exchange 96 = .ok (.getfield 37, 3) := by decide +kernel
theorem d_M_exchange_99 : decode b_M_exchange 99 = .ok (.iload_n 1, 1) := by decide +kernel
theorem d_M_exchange_100 : decode b_M_exchange 100 = .ok (.iconst 0, 1) := by decide +kernel
theorem d_M_exchange_101 : decode b_M_exchange 101 = .ok (.bastore, 1) := by decide +kernel
theorem d_M_exchange_102 : decode b_M_exchange 102 = .ok (.iconst 1, 1) := by decide +kernel
theorem d_M_exchange_103 : decode b_M_exchange 103 = .ok (.ireturn, 1) := by decide +kernel
theorem d_M_pass_0 : decode b_M_pass 0 = .ok (.iload_n 1, 1) := by decide +kernel
theorem d_M_pass_1 : decode b_M_pass 1 = .ok (.invokestatic 60, 3) := by decide +kernel
theorem d_M_pass_4 : decode b_M_pass 4 = .ok (.ifCond .eq 19, 3) := by decide +kernel
theorem d_M_pass_7 : decode b_M_pass 7 = .ok (.iload_n 2, 1) := by decide +kernel
theorem d_M_pass_8 : decode b_M_pass 8 = .ok (.ifCond .lt 15, 3) := by decide +kernel
theorem d_M_pass_11 : decode b_M_pass 11 = .ok (.iload_n 2, 1) := by decide +kernel
theorem d_M_pass_12 : decode b_M_pass 12 = .ok (.aload_n 0, 1) := by decide +kernel
theorem d_M_pass_13 : decode b_M_pass 13 = .ok (.getfield 13, 3) := by decide +kernel
theorem d_M_pass_16 : decode b_M_pass 16 = .ok (.iload_n 1, 1) := by decide +kernel
theorem d_M_pass_17 : decode b_M_pass 17 = .ok (.iaload, 1) := by decide +kernel
theorem d_M_pass_18 : decode b_M_pass 18 = .ok (.iconst 2, 1) := by decide +kernel
theorem d_M_pass_19 : decode b_M_pass 19 = .ok (.isub, 1) := by decide +kernel
theorem d_M_pass_20 : decode b_M_pass 20 = .ok (.if_icmp .lt 5, 3) := by decide +kernel
theorem d_M_pass_23 : decode b_M_pass 23 = .ok (.iconst 0, 1) := by decide +kernel
theorem d_M_pass_24 : decode b_M_pass 24 = .ok (.ireturn, 1) := by decide +kernel
theorem d_M_pass_25 : decode b_M_pass 25 = .ok (.aload_n 0, 1) := by decide +kernel
theorem d_M_pass_26 : decode b_M_pass 26 = .ok (.iload_n 1, 1) := by decide +kernel
theorem d_M_pass_27 : decode b_M_pass 27 = .ok (.iload_n 2, 1) := by decide +kernel
theorem d_M_pass_28 : decode b_M_pass 28 = .ok (.invokevirtual 64, 3) := by decide +kernel
theorem d_M_pass_31 : decode b_M_pass 31 = .ok (.istore_n 3, 1) := by decide +kernel
theorem d_M_pass_32 : decode b_M_pass 32 = .ok (.aload_n 0, 1) := by decide +kernel
theorem d_M_pass_33 : decode b_M_pass 33 = .ok (.iload_n 1, 1) := by decide +kernel
theorem d_M_pass_34 : decode b_M_pass 34 = .ok (.iload_n 2, 1) := by decide +kernel
theorem d_M_pass_35 : decode b_M_pass 35 = .ok (.iconst 1, 1) := by decide +kernel
theorem d_M_pass_36 : decode b_M_pass 36 = .ok (.iadd, 1) := by decide +kernel
theorem d_M_pass_37 : decode b_M_pass 37 = .ok (.invokevirtual 64, 3) := by decide +kernel
theorem d_M_pass_40 : decode b_M_pass 40 = .ok (.istore 4, 2) := by decide +kernel
theorem d_M_pass_42 : decode b_M_pass 42 = .ok (.aload_n 0, 1) := by decide +kernel
theorem d_M_pass_43 : decode b_M_pass 43 = .ok (.iload_n 1, 1) := by decide +kernel
theorem d_M_pass_44 : decode b_M_pass 44 = .ok (.iload_n 2, 1) := by decide +kernel
theorem d_M_pass_45 : decode b_M_pass 45 = .ok (.iconst 2, 1) := by decide +kernel
theorem d_M_pass_46 : decode b_M_pass 46 = .ok (.iadd, 1) := by decide +kernel
theorem d_M_pass_47 : decode b_M_pass 47 = .ok (.invokevirtual 64, 3) := by decide +kernel
theorem d_M_pass_50 : decode b_M_pass 50 = .ok (.istore 5, 2) := by decide +kernel
theorem d_M_pass_52 : decode b_M_pass 52 = .ok (.iload_n 3, 1) := by decide +kernel
theorem d_M_pass_53 : decode b_M_pass 53 = .ok (.invokestatic 68, 3) := by decide +kernel
theorem d_M_pass_56 : decode b_M_pass 56 = .ok (.istore 6, 2) := by decide +kernel
theorem d_M_pass_58 : decode b_M_pass 58 = .ok (.iload 4, 2) := by decide +kernel
theorem d_M_pass_60 : decode b_M_pass 60 = .ok (.invokestatic 68, 3) := by decide +kernel
theorem d_M_pass_63 : decode b_M_pass 63 = .ok (.istore 7, 2) := by decide +kernel
theorem d_M_pass_65 : decode b_M_pass 65 = .ok (.iload 6, 2) := by decide +kernel
theorem d_M_pass_67 : decode b_M_pass 67 = .ok (.iload 5, 2) := by decide +kernel
theorem d_M_pass_69 : decode b_M_pass 69 = .ok (.invokestatic 68, 3) := by decide +kernel
theorem d_M_pass_72 : decode b_M_pass 72 = .ok (.if_icmp .ne 25, 3) := by decide +kernel
theorem d_M_pass_75 : decode b_M_pass 75 = .ok (.iload 6, 2) := by decide +kernel
theorem d_M_pass_77 : decode b_M_pass 77 = .ok (.iload 7, 2) := by decide +kernel
theorem d_M_pass_79 : decode b_M_pass 79 = .ok (.isub, 1) := by decide +kernel
theorem d_M_pass_80 : decode b_M_pass 80 = .ok (.iconst 1, 1) := by decide +kernel
theorem d_M_pass_81 : decode b_M_pass 81 = .ok (.if_icmp .eq 12, 3) := by decide +kernel
theorem d_M_pass_84 : decode b_M_pass 84 = .ok (.iload 7, 2) := by decide +kernel
theorem d_M_pass_86 : decode b_M_pass 86 = .ok (.iload 6, 2) := by decide +kernel
theorem d_M_pass_88 : decode b_M_pass 88 = .ok (.isub, 1) := by decide +kernel
theorem d_M_pass_89 : decode b_M_pass 89 = .ok (.iconst 1, 1) := by decide +kernel
theorem d_M_pass_90 : decode b_M_pass 90 = .ok (.if_icmp .ne 7, 3) := by decide +kernel
theorem d_M_pass_93 : decode b_M_pass 93 = .ok (.iconst 1, 1) := by decide +kernel
theorem d_M_pass_94 : decode b_M_pass 94 = .ok (.goto 4, 3) := by decide +kernel
theorem d_M_pass_97 : decode b_M_pass 97 = .ok (.iconst 0, 1) := by decide +kernel
theorem d_M_pass_98 : decode b_M_pass 98 = .ok (.istore 8, 2) := by decide +kernel
theorem d_M_pass_100 : decode b_M_pass 100 = .ok (.iload_n 3, 1) := by decide +kernel
theorem d_M_pass_101 : decode b_M_pass 101 = .ok (.ifCond .le 7, 3) := by decide +kernel
theorem d_M_pass_104 : decode b_M_pass 104 = .ok (.iconst 1, 1) := by decide +kernel
theorem d_M_pass_105 : decode b_M_pass 105 = .ok (.goto 4, 3) := by decide +kernel
theorem d_M_pass_108 : decode b_M_pass 108 = .ok (.iconst 0, 1) := by decide +kernel
theorem d_M_pass_109 : decode b_M_pass 109 = .ok (.iload 5, 2) := by decide +kernel
theorem d_M_pass_111 : decode b_M_pass 111 = .ok (.ifCond .le 7, 3) := by decide +kernel
theorem d_M_pass_114 : decode b_M_pass 114 = .ok (.iconst 1, 1) := by decide +kernel
theorem d_M_pass_115 : decode b_M_pass 115 = .ok (.goto 4, 3) := by decide +kernel
theorem d_M_pass_118 : decode b_M_pass 118 = .ok (.iconst 0, 1) := by decide +kernel
theorem d_M_pass_119 : decode b_M_pass 119 = .ok (.if_icmp .ne 7, 3) := by decide +kernel
theorem d_M_pass_122 : decode b_M_pass 122 = .ok (.iconst 1, 1) := by decide +kernel
theorem d_M_pass_123 : decode b_M_pass 123 = .ok (.goto 4, 3) := by decide +kernel
theorem d_M_pass_126 : decode b_M_pass 126 = .ok (.iconst 0, 1) := by decide +kernel
theorem d_M_pass_127 : decode b_M_pass 127 = .ok (.istore 9, 2) := by decide +kernel
theorem d_M_pass_129 : decode b_M_pass 129 = .ok (.iload 8, 2) := by decide +kernel
theorem d_M_pass_131 : decode b_M_pass 131 = .ok (.ifCond .eq 30, 3) := by decide +kernel
theorem d_M_pass_134 : decode b_M_pass 134 = .ok (.iload 9, 2) := by decide +kernel
theorem d_M_pass_136 : decode b_M_pass 136 = .ok (.ifCond .eq 27, 3) := by decide +kernel
theorem d_M_pass_139 : decode b_M_pass 139 = .ok (.iload 4, 2) := by decide +kernel
theorem d_M_pass_141 : decode b_M_pass 141 = .ok (.ifCond .le 7, 3) := by decide +kernel
theorem d_M_pass_144 : decode b_M_pass 144 = .ok (.iconst 1, 1) := by decide +kernel
theorem d_M_pass_145 : decode b_M_pass 145 = .ok (.goto 4, 3) := by decide +kernel
theorem d_M_pass_148 : decode b_M_pass 148 = .ok (.iconst 0, 1) := by decide +kernel
theorem d_M_pass_149 : decode b_M_pass 149 = .ok (.iload_n 3, 1) := by decide +kernel
theorem d_M_pass_150 : decode b_M_pass 150 = .ok (.ifCond .le 7, 3) := by decide +kernel
theorem d_M_pass_153 : decode b_M_pass 153 = .ok (.iconst 1, 1) := by decide +kernel
theorem d_M_pass_154 : decode b_M_pass 154 = .ok (.goto 4, 3) := by decide +kernel
theorem d_M_pass_157 : decode b_M_pass 157 = .ok (.iconst 0, 1) := by decide +kernel
theorem d_M_pass_158 : decode b_M_pass 158 = .ok (.if_icmp .eq 5, 3) := by decide +kernel
theorem d_M_pass_161 : decode b_M_pass 161 = .ok (.iconst 0, 1) := by decide +kernel
theorem d_M_pass_162 : decode b_M_pass 162 = .ok (.ireturn, 1) := by decide +kernel
theorem d_M_pass_163 : decode b_M_pass 163 = .ok (.aload_n 0, 1) := by decide +kernel
theorem d_M_pass_164 : decode b_M_pass 164 = .ok (.getfield 16, 3) := by decide +kernel
theorem d_M_pass_167 : decode b_M_pass 167 = .ok (.bipush 32, 2) := by decide +kernel
theorem d_M_pass_169 : decode b_M_pass 169 = .ok (.iload_n 1, 1) := by decide +kernel
theorem d_M_pass_170 : decode b_M_pass 170 = .ok (.imul, 1) := by decide +kernel
theorem d_M_pass_171 : decode b_M_pass 171 = .ok (.iload_n 2, 1) := by decide +kernel
theorem d_M_pass_172 : decode b_M_pass 172 = .ok (.iadd, 1) := by decide +kernel
theorem d_M_pass_173 : decode b_M_pass 173 = .ok (.iload 5, 2) := by decide +kernel
theorem d_M_pass_175 : decode b_M_pass 175 = .ok (.ifCond .le 8, 3) := by decide +kernel
theorem d_M_pass_178 : decode b_M_pass 178 = .ok (.iload 7, 2) := by decide +kernel
theorem d_M_pass_180 : decode b_M_pass 180 = .ok (.goto 6, 3) := by decide +kernel
theorem d_M_pass_183 : decode b_M_pass 183 = .ok (.iload 7, 2) := by decide +kernel
theorem d_M_pass_185 : decode b_M_pass 185 = .ok (.ineg, 1) := by decide +kernel
theorem d_M_pass_186 : decode b_M_pass 186 = .ok (.iastore, 1) := by decide +kernel
theorem d_M_pass_187 : decode b_M_pass 187 = .ok (.aload_n 0, 1) := by decide +kernel
theorem d_M_pass_188 : decode b_M_pass 188 = .ok (.getfield 16, 3) := by decide +kernel
theorem d_M_pass_191 : decode b_M_pass 191 = .ok (.bipush 32, 2) := by decide +kernel
theorem d_M_pass_193 : decode b_M_pass 193 = .ok (.iload_n 1, 1) := by decide +kernel
theorem d_M_pass_194 : decode b_M_pass 194 = .ok (.imul, 1) := by decide +kernel
theorem d_M_pass_195 : decode b_M_pass 195 = .ok (.iload_n 2, 1) := by decide +kernel
theorem d_M_pass_196 : decode b_M_pass 196 = .ok (.iadd, 1) := by decide +kernel
theorem d_M_pass_197 : decode b_M_pass 197 = .ok (.iconst 1, 1) := by decide +kernel
theorem d_M_pass_198 : decode b_M_pass 198 = .ok (.iadd, 1) := by decide +kernel
theorem d_M_pass_199 : decode b_M_pass 199 = .ok (.iload 4, 2) := by decide +kernel
theorem d_M_pass_201 : decode b_M_pass 201 = .ok (.ifCond .le 8, 3) := by decide +kernel
theorem d_M_pass_204 : decode b_M_pass 204 = .ok (.iload 6, 2) := by decide +kernel
theorem d_M_pass_206 : decode b_M_pass 206 = .ok (.goto 6, 3) := by decide +kernel
theorem d_M_pass_209 : decode b_M_pass 209 = .ok (.iload 6, 2) := by decide +kernel
theorem d_M_pass_211 : decode b_M_pass 211 = .ok (.ineg, 1) := by decide +kernel
theorem d_M_pass_212 : decode b_M_pass 212 = .ok (.iastore, 1) := by decide +kernel
theorem d_M_pass_213 : decode b_M_pass 213 = .ok (.aload_n 0, 1) := by decide +kernel
theorem d_M_pass_214 : decode b_M_pass 214 = .ok (.getfield 16, 3) := by decide +kernel
theorem d_M_pass_217 : decode b_M_pass 217 = .ok (.bipush 32, 2) := by decide +kernel
theorem d_M_pass_219 : decode b_M_pass 219 = .ok (.iload_n 1, 1) := by decide +kernel
theorem d_M_pass_220 : decode b_M_pass 220 = .ok (.imul, 1) := by decide +kernel
theorem d_M_pass_221 : decode b_M_pass 221 = .ok (.iload_n 2, 1) := by decide +kernel
theorem d_M_pass_222 : decode b_M_pass 222 = .ok (.iadd, 1) := by decide +kernel
theorem d_M_pass_223 : decode b_M_pass 223 = .ok (.iconst 2, 1) := by decide +kernel
theorem d_M_pass_224 : decode b_M_pass 224 = .ok (.iadd, 1) := by decide +kernel
theorem d_M_pass_225 : decode b_M_pass 225 = .ok (.iload_n 3, 1) := by decide +kernel
theorem d_M_pass_226 : decode b_M_pass 226 = .ok (.ifCond .le 8, 3) := by decide +kernel
theorem d_M_pass_229 : decode b_M_pass 229 = .ok (.iload 7, 2) := by decide +kernel
theorem d_M_pass_231 : decode b_M_pass 231 = .ok (.goto 6, 3) := by decide +kernel
theorem d_M_pass_234 : decode b_M_pass 234 = .ok (.iload 7, 2) := by decide +kernel
theorem d_M_pass_236 : decode b_M_pass 236 = .ok (.ineg, 1) := by decide +kernel
theorem d_M_pass_237 : decode b_M_pass 237 = .ok (.iastore, 1) := by decide +kernel
theorem d_M_pass_238 : decode b_M_pass 238 = .ok (.aload_n 0, 1) := by decide +kernel
theorem d_M_pass_239 : decode b_M_pass 239 = .ok (.getfield 37, 3) := by decide +kernel
theorem d_M_pass_242 : decode b_M_pass 242 = .ok (.iload_n 1, 1) := by decide +kernel
theorem d_M_pass_243 : decode b_M_pass 243 = .ok (.iconst 0, 1) := by decide +kernel
theorem d_M_pass_244 : decode b_M_pass 244 = .ok (.bastore, 1) := by decide +kernel
theorem d_M_pass_245 : decode b_M_pass 245 = .ok (.iconst 1, 1) := by decide +kernel
theorem d_M_pass_246 : decode b_M_pass 246 = .ok (.ireturn, 1) := by decide +kernel
theorem d_M_grow_0 : decode b_M_grow 0 = .ok (.iload_n 1, 1) := by decide +kernel
theorem d_M_grow_1 : decode b_M_grow 1 = .ok (.invokestatic 60, 3) := by decide +kernel
theorem d_M_grow_4 : decode b_M_grow 4 = .ok (.ifCond .eq 35, 3) := by decide +kernel
theorem d_M_grow_7 : decode b_M_grow 7 = .ok (.iload_n 2, 1) := by decide +kernel
theorem d_M_grow_8 : decode b_M_grow 8 = .ok (.iconst 1, 1) := by decide +kernel
theorem d_M_grow_9 : decode b_M_grow 9 = .ok (.if_icmp .eq 8, 3) := by decide +kernel
theorem d_M_grow_12 : decode b_M_grow 12 = .ok (.iload_n 2, 1) := by decide +kernel
theorem d_M_grow_13 : decode b_M_grow 13 = .ok (.iconst (-1), 1) := by decide +kernel
theorem d_M_grow_14 : decode b_M_grow 14 = .ok (.if_icmp .ne 25, 3) := by decide +kernel
theorem d_M_grow_17 : decode b_M_grow 17 = .ok (.aload_n 0, 1) := by decide +kernel
theorem d_M_grow_18 : decode b_M_grow 18 = .ok (.getfield 7, 3) := by decide +kernel
theorem d_M_grow_21 : decode b_M_grow 21 = .ok (.iload_n 1, 1) := by decide +kernel
theorem d_M_grow_22 : decode b_M_grow 22 = .ok (.iaload, 1) := by decide +kernel
theorem d_M_grow_23 : decode b_M_grow 23 = .ok (.bipush 8, 2) := by decide +kernel
theorem d_M_grow_25 : decode b_M_grow 25 = .ok (.if_icmp .eq 14, 3) := by decide +kernel
theorem d_M_grow_28 : decode b_M_grow 28 = .ok (.aload_n 0, 1) := by decide +kernel
theorem d_M_grow_29 : decode b_M_grow 29 = .ok (.getfield 13, 3) := by decide +kernel
theorem d_M_grow_32 : decode b_M_grow 32 = .ok (.iload_n 1, 1) := by decide +kernel
theorem d_M_grow_33 : decode b_M_grow 33 = .ok (.iaload, 1) := by decide +kernel
theorem d_M_grow_34 : decode b_M_grow 34 = .ok (.bipush 32, 2) := by decide +kernel
theorem d_M_grow_36 : decode b_M_grow 36 = .ok (.if_icmp .ne 5, 3) := by decide +kernel
theorem d_M_grow_39 : decode b_M_grow 39 = .ok (.iconst 0, 1) := by decide +kernel
theorem d_M_grow_40 : decode b_M_grow 40 = .ok (.ireturn, 1) := by decide +kernel
theorem d_M_grow_41 : decode b_M_grow 41 = .ok (.aload_n 0, 1) := by decide +kernel
theorem d_M_grow_42 : decode b_M_grow 42 = .ok (.getfield 16, 3) := by decide +kernel
theorem d_M_grow_45 : decode b_M_grow 45 = .ok (.bipush 32, 2) := by decide +kernel
theorem d_M_grow_47 : decode b_M_grow 47 = .ok (.iload_n 1, 1) := by decide +kernel
theorem d_M_grow_48 : decode b_M_grow 48 = .ok (.imul, 1) := by decide +kernel
theorem d_M_grow_49 : decode b_M_grow 49 = .ok (.aload_n 0, 1) := by decide +kernel
theorem d_M_grow_50 : decode b_M_grow 50 = .ok (.getfield 13, 3) := by decide +kernel
theorem d_M_grow_53 : decode b_M_grow 53 = .ok (.iload_n 1, 1) := by decide +kernel
theorem d_M_grow_54 : decode b_M_grow 54 = .ok (.iaload, 1) := by decide +kernel
theorem d_M_grow_55 : decode b_M_grow 55 = .ok (.iadd, 1) := by decide +kernel
theorem d_M_grow_56 : decode b_M_grow 56 = .ok (.iload_n 2, 1) := by decide +kernel
theorem d_M_grow_57 : decode b_M_grow 57 = .ok (.aload_n 0, 1) := by decide +kernel
theorem d_M_grow_58 : decode b_M_grow 58 = .ok (.getfield 7, 3) := by decide +kernel
theorem d_M_grow_61 : decode b_M_grow 61 = .ok (.iload_n 1, 1) := by decide +kernel
theorem d_M_grow_62 : decode b_M_grow 62 = .ok (.iaload, 1) := by decide +kernel
theorem d_M_grow_63 : decode b_M_grow 63 = .ok (.imul, 1) := by decide +kernel
theorem d_M_grow_64 : decode b_M_grow 64 = .ok (.iastore, 1) := by decide +kernel
theorem d_M_grow_65 : decode b_M_grow 65 = .ok (.aload_n 0, 1) := by decide +kernel
theorem d_M_grow_66 : decode b_M_grow 66 = .ok (.getfield 13, 3) := by decide +kernel
theorem d_M_grow_69 : decode b_M_grow 69 = .ok (.iload_n 1, 1) := by decide +kernel
theorem d_M_grow_70 : decode b_M_grow 70 = .ok (.dup2, 1) := by decide +kernel
theorem d_M_grow_71 : decode b_M_grow 71 = .ok (.iaload, 1) := by decide +kernel
theorem d_M_grow_72 : decode b_M_grow 72 = .ok (.iconst 1, 1) := by decide +kernel
theorem d_M_grow_73 : decode b_M_grow 73 = .ok (.iadd, 1) := by decide +kernel
theorem d_M_grow_74 : decode b_M_grow 74 = .ok (.iastore, 1) := by decide +kernel
theorem d_M_grow_75 : decode b_M_grow 75 = .ok (.aload_n 0, 1) := by decide +kernel
theorem d_M_grow_76 : decode b_M_grow 76 = .ok (.getfield 7, 3) := by decide +kernel
theorem d_M_grow_79 : decode b_M_grow 79 = .ok (.iload_n 1, 1) := by decide +kernel
theorem d_M_grow_80 : decode b_M_grow 80 = .ok (.dup2, 1) := by decide +kernel
theorem d_M_grow_81 : decode b_M_grow 81 = .ok (.iaload, 1) := by decide +kernel
theorem d_M_grow_82 : decode b_M_grow 82 = .ok (.iconst 1, 1) := by decide +kernel
theorem d_M_grow_83 : decode b_M_grow 83 = .ok (.iadd, 1) := by decide +kernel
theorem d_M_grow_84 : decode b_M_grow 84 = .ok (.iastore, 1) := by decide +kernel
theorem d_M_grow_85 : decode b_M_grow 85 = .ok (.aload_n 0, 1) := by decide +kernel
theorem d_M_grow_86 : decode b_M_grow 86 = .ok (.getfield 37, 3) := by decide +kernel
theorem d_M_grow_89 : decode b_M_grow 89 = .ok (.iload_n 1, 1) := by decide +kernel
theorem d_M_grow_90 : decode b_M_grow 90 = .ok (.iconst 0, 1) := by decide +kernel
theorem d_M_grow_91 : decode b_M_grow 91 = .ok (.bastore, 1) := by decide +kernel
theorem d_M_grow_92 : decode b_M_grow 92 = .ok (.iconst 1, 1) := by decide +kernel
theorem d_M_grow_93 : decode b_M_grow 93 = .ok (.ireturn, 1) := by decide +kernel
theorem d_M_shrink_0 : decode b_M_shrink 0 = .ok (.iload_n 1, 1) := by decide +kernel
theorem d_M_shrink_1 : decode b_M_shrink 1 = .ok (.invokestatic 60, 3) := by decide +kernel
theorem d_M_shrink_4 : decode b_M_shrink 4 = .ok (.ifCond .eq 22, 3) := by decide +kernel
theorem d_M_shrink_7 : decode b_M_shrink 7 = .ok (.aload_n 0, 1) := by decide +kernel
theorem d_M_shrink_8 : decode b_M_shrink 8 = .ok (.getfield 7, 3) := by decide +kernel
theorem d_M_shrink_11 : decode b_M_shrink 11 = .ok (.iload_n 1, 1) := by decide +kernel
theorem d_M_shrink_12 : decode b_M_shrink 12 = .ok (.iaload, 1) := by decide +kernel
theorem d_M_shrink_13 : decode b_M_shrink 13 = .ok (.iconst 2, 1) := by decide +kernel
theorem d_M_shrink_14 : decode b_M_shrink 14 = .ok (.if_icmp .lt 12, 3) := by decide +kernel
theorem d_M_shrink_17 : decode b_M_shrink 17 = .ok (.aload_n 0, 1) := by decide +kernel
theorem d_M_shrink_18 : decode b_M_shrink 18 = .ok (.getfield 13, 3) := by decide +kernel
theorem d_M_shrink_21 : decode b_M_shrink 21 = .ok (.iload_n 1, 1) := by decide +kernel
theorem d_M_shrink_22 : decode b_M_shrink 22 = .ok (.iaload, 1) := by decide +kernel
theorem d_M_shrink_23 : decode b_M_shrink 23 = .ok (.ifCond .ne 5, 3) := by decide +kernel
theorem d_M_shrink_26 : decode b_M_shrink 26 = .ok (.iconst 0, 1) := by decide +kernel
theorem d_M_shrink_27 : decode b_M_shrink 27 = .ok (.ireturn, 1) := by decide +kernel
theorem d_M_shrink_28 : decode b_M_shrink 28 = .ok (.iconst 0, 1) := by decide +kernel
theorem d_M_shrink_29 : decode b_M_shrink 29 = .ok (.istore_n 2, 1) := by decide +kernel
theorem d_M_shrink_30 : decode b_M_shrink 30 = .ok (.iconst 0, 1) := by decide +kernel
theorem d_M_shrink_31 : decode b_M_shrink 31 = .ok (.istore_n 3, 1) := by decide +kernel
theorem d_M_shrink_32 : decode b_M_shrink 32 = .ok (.iload_n 3, 1) := by decide +kernel
theorem d_M_shrink_33 : decode b_M_shrink 33 = .ok (.aload_n 0, 1) := by decide +kernel
theorem d_M_shrink_34 : decode b_M_shrink 34 = .ok (.getfield 13, 3) := by decide +kernel
theorem d_M_shrink_37 : decode b_M_shrink 37 = .ok (.iload_n 1, 1) := by decide +kernel
theorem d_M_shrink_38 : decode b_M_shrink 38 = .ok (.iaload, 1) := by decide +kernel
theorem d_M_shrink_39 : decode b_M_shrink 39 = .ok (.if_icmp .ge 37, 3) := by decide +kernel
theorem d_M_shrink_42 : decode b_M_shrink 42 = .ok (.iload_n 2, 1) := by decide +kernel
theorem d_M_shrink_43 : decode b_M_shrink 43 = .ok (.aload_n 0, 1) := by decide +kernel
theorem d_M_shrink_44 : decode b_M_shrink 44 = .ok (.iload_n 1, 1) := by decide +kernel
theorem d_M_shrink_45 : decode b_M_shrink 45 = .ok (.iload_n 3, 1) := by decide +kernel
theorem d_M_shrink_46 : decode b_M_shrink 46 = .ok (.invokevirtual 64, 3) := by decide +kernel
theorem d_M_shrink_49 : decode b_M_shrink 49 = .ok (.invokestatic 68, 3) := by decide +kernel
theorem d_M_shrink_52 : decode b_M_shrink 52 = .ok (.aload_n 0, 1) := by decide +kernel
theorem d_M_shrink_53 : decode b_M_shrink 53 = .ok (.getfield 7, 3) := by decide +kernel
theorem d_M_shrink_56 : decode b_M_shrink 56 = .ok (.iload_n 1, 1) := by decide +kernel
theorem d_M_shrink_57 : decode b_M_shrink 57 = .ok (.iaload, 1) := by decide +kernel
theorem d_M_shrink_58 : decode b_M_shrink 58 = .ok (.iconst 1, 1) := by decide +kernel
theorem d_M_shrink_59 : decode b_M_shrink 59 = .ok (.isub, 1) := by decide +kernel
theorem d_M_shrink_60 : decode b_M_shrink 60 = .ok (.if_icmp .ne 7, 3) := by decide +kernel
theorem d_M_shrink_63 : decode b_M_shrink 63 = .ok (.iconst 1, 1) := by decide +kernel
theorem d_M_shrink_64 : decode b_M_shrink 64 = .ok (.goto 4, 3) := by decide +kernel
theorem d_M_shrink_67 : decode b_M_shrink 67 = .ok (.iconst 0, 1) := by decide +kernel
theorem d_M_shrink_68 : decode b_M_shrink 68 = .ok (.iadd, 1) := by decide +kernel
theorem d_M_shrink_69 : decode b_M_shrink 69 = .ok (.istore_n 2, 1) := by decide +kernel
theorem d_M_shrink_70 : decode b_M_shrink 70 = .ok (.iinc 3 1, 3) := by decide +kernel
theorem d_M_shrink_73 : decode b_M_shrink 73 = .ok (.goto (-41), 3) := by decide +kernel
theorem d_M_shrink_76 : decode b_M_shrink 76 = .ok (.iload_n 2, 1) := by decide +kernel
theorem d_M_shrink_77 : decode b_M_shrink 77 = .ok (.iconst 1, 1) := by decide +kernel
theorem d_M_shrink_78 : decode b_M_shrink 78 = .ok (.if_icmp .ne 30, 3) := by decide +kernel
theorem d_M_shrink_81 : decode b_M_shrink 81 = .ok (.aload_n 0, 1) := by decide +kernel
theorem d_M_shrink_82 : decode b_M_shrink 82 = .ok (.iload_n 1, 1) := by decide +kernel
theorem d_M_shrink_83 : decode b_M_shrink 83 = .ok (.aload_n 0, 1) := by decide +kernel
theorem d_M_shrink_84 : decode b_M_shrink 84 = .ok (.getfield 13, 3) := by decide +kernel
theorem d_M_shrink_87 : decode b_M_shrink 87 = .ok (.iload_n 1, 1) := by decide +kernel
theorem d_M_shrink_88 : decode b_M_shrink 88 = .ok (.iaload, 1) := by decide +kernel
theorem d_M_shrink_89 : decode b_M_shrink 89 = .ok (.iconst 1, 1) := by decide +kernel
theorem d_M_shrink_90 : decode b_M_shrink 90 = .ok (.isub, 1) := by decide +kernel
theorem d_M_shrink_91 : decode b_M_shrink 91 = .ok (.invokevirtual 64, 3) := by decide +kernel
theorem d_M_shrink_94 : decode b_M_shrink 94 = .ok (.invokestatic 68, 3) := by decide +kernel
theorem d_M_shrink_97 : decode b_M_shrink 97 = .ok (.aload_n 0, 1) := by decide +kernel
theorem d_M_shrink_98 : decode b_M_shrink 98 = .ok (.getfield 7, 3) := by decide +kernel
theorem d_M_shrink_101 : decode b_M_shrink 101 = .ok (.iload_n 1, 1) := by decide +kernel
theorem d_M_shrink_102 : decode b_M_shrink 102 = .ok (.iaload, 1) := by decide +kernel
theorem d_M_shrink_103 : decode b_M_shrink 103 = .ok (.iconst 1, 1) := by decide +kernel
theorem d_M_shrink_104 : decode b_M_shrink 104 = .ok (.isub, 1) := by decide +kernel
theorem d_M_shrink_105 : decode b_M_shrink 105 = .ok (.if_icmp .eq 5, 3) := by decide +kernel
theorem d_M_shrink_108 : decode b_M_shrink 108 = .ok (.iconst 0, 1) := by decide +kernel
theorem d_M_shrink_109 : decode b_M_shrink 109 = .ok (.ireturn, 1) := by decide +kernel
theorem d_M_shrink_110 : decode b_M_shrink 110 = .ok (.aload_n 0, 1) := by decide +kernel
theorem d_M_shrink_111 : decode b_M_shrink 111 = .ok (.getfield 13, 3) := by decide +kernel
theorem d_M_shrink_114 : decode b_M_shrink 114 = .ok (.iload_n 1, 1) := by decide +kernel
theorem d_M_shrink_115 : decode b_M_shrink 115 = .ok (.dup2, 1) := by decide +kernel
theorem d_M_shrink_116 : decode b_M_shrink 116 = .ok (.iaload, 1) := by decide +kernel
theorem d_M_shrink_117 : decode b_M_shrink 117 = .ok (.iconst 1, 1) := by decide +kernel
theorem d_M_shrink_118 : decode b_M_shrink 118 = .ok (.isub, 1) := by decide +kernel
theorem d_M_shrink_119 : decode b_M_shrink 119 = .ok (.iastore, 1) := by decide +kernel
theorem d_M_shrink_120 : decode b_M_shrink 120 = .ok (.aload_n 0, 1) := by decide +kernel
theorem d_M_shrink_121 : decode b_M_shrink 121 = .ok (.getfield 7, 3) := by decide +kernel
theorem d_M_shrink_124 : decode b_M_shrink 124 = .ok (.iload_n 1, 1) := by decide +kernel
theorem d_M_shrink_125 : decode b_M_shrink 125 = .ok (.dup2, 1) := by decide +kernel
theorem d_M_shrink_126 : decode b_M_shrink 126 = .ok (.iaload, 1) := by decide +kernel
theorem d_M_shrink_127 : decode b_M_shrink 127 = .ok (.iconst 1, 1) := by decide +kernel
theorem d_M_shrink_128 : decode b_M_shrink 128 = .ok (.isub, 1) := by decide +kernel
theorem d_M_shrink_129 : decode b_M_shrink 129 = .ok (.iastore, 1) := by decide +kernel
theorem d_M_shrink_130 : decode b_M_shrink 130 = .ok (.aload_n 0, 1) := by decide +kernel
theorem d_M_shrink_131 : decode b_M_shrink 131 = .ok (.getfield 37, 3) := by decide +kernel
theorem d_M_shrink_134 : decode b_M_shrink 134 = .ok (.iload_n 1, 1) := by decide +kernel
theorem d_M_shrink_135 : decode b_M_shrink 135 = .ok (.iconst 0, 1) := by decide +kernel
theorem d_M_shrink_136 : decode b_M_shrink 136 = .ok (.bastore, 1) := by decide +kernel
theorem d_M_shrink_137 : decode b_M_shrink 137 = .ok (.iconst 1, 1) := by decide +kernel
theorem d_M_shrink_138 : decode b_M_shrink 138 = .ok (.ireturn, 1) := by decide +kernel
theorem d_M_clearChain_0 : decode b_M_clearChain 0 = .ok (.iconst 0, 1) := by decide +kernel
theorem d_M_clearChain_1 : decode b_M_clearChain 1 = .ok (.istore_n 1, 1) := by decide +kernel
theorem d_M_clearChain_2 : decode b_M_clearChain 2 = .ok (.iload_n 1, 1) := by decide +kernel
theorem d_M_clearChain_3 : decode b_M_clearChain 3 = .ok (.iconst 2, 1) := by decide +kernel
theorem d_M_clearChain_4 : decode b_M_clearChain 4 = .ok (.if_icmp .ge 16, 3) := by decide +kernel
theorem d_M_clearChain_7 : decode b_M_clearChain 7 = .ok (.aload_n 0, 1) := by decide +kernel
theorem d_M_clearChain_8 : decode b_M_clearChain 8 = .ok (.getfield 19, 3) := by decide +kernel
end
section
theorem d_M_clearChain_11 : decode b_M_clearChain 11 = .ok (.iload_n 1, 1) := by decide +kernel
theorem d_M_clearChain_12 : decode b_M_clearChain 12 = .ok (.iconst 0, 1) := by decide +kernel
theorem d_M_clearChain_13 : decode b_M_clearChain 13 = .ok (.iastore, 1) := by decide +kernel
theorem d_M_clearChain_14 : decode b_M_clearChain 14 = .ok (.iinc 1 1, 3) := by decide +kernel
theorem d_M_clearChain_17 : decode b_M_clearChain 17 = .ok (.goto (-15), 3) := by decide +kernel
theorem d_M_clearChain_20 : decode b_M_clearChain 20 = .ok (.aload_n 0, 1) := by decide +kernel
theorem d_M_clearChain_21 : decode b_M_clearChain 21 = .ok (.getfield 22, 3) := by decide +kernel
theorem d_M_clearChain_24 : decode b_M_clearChain 24 = .ok (.iconst 0, 1) := by decide +kernel
theorem d_M_clearChain_25 : decode b_M_clearChain 25 = .ok (.iconst 1, 1) := by decide +kernel
theorem d_M_clearChain_26 : decode b_M_clearChain 26 = .ok (.iastore, 1) := by decide +kernel
theorem d_M_clearChain_27 : decode b_M_clearChain 27 = .ok (.aload_n 0, 1) := by decide +kernel
theorem d_M_clearChain_28 : decode b_M_clearChain 28 = .ok (.getfield 25, 3) := by decide +kernel
theorem d_M_clearChain_31 : decode b_M_clearChain 31 = .ok (.iconst 1, 1) := by decide +kernel
theorem d_M_clearChain_32 : decode b_M_clearChain 32 = .ok (.iconst 0, 1) := by decide +kernel
theorem d_M_clearChain_33 : decode b_M_clearChain 33 = .ok (.iastore, 1) := by decide +kernel
theorem d_M_clearChain_34 : decode b_M_clearChain 34 = .ok (.aload_n 0, 1) := by decide +kernel
theorem d_M_clearChain_35 : decode b_M_clearChain 35 = .ok (.iconst 2, 1) := by decide +kernel
theorem d_M_clearChain_36 : decode b_M_clearChain 36 = .ok (.putfield 88, 3) := by decide +kernel
theorem d_M_clearChain_39 : decode b_M_clearChain 39 = .ok (.aload_n 0, 1) := by decide +kernel
theorem d_M_clearChain_40 : decode b_M_clearChain 40 = .ok (.iconst 0, 1) := by decide +kernel
theorem d_M_clearChain_41 : decode b_M_clearChain 41 = .ok (.putfield 91, 3) := by decide +kernel
theorem d_M_clearChain_44 : decode b_M_clearChain 44 = .ok (.return_, 1) := by decide +kernel
theorem d_M_insert_0 : decode b_M_insert 0 = .ok (.aload_n 0, 1) := by decide +kernel
theorem d_M_insert_1 : decode b_M_insert 1 = .ok (.getfield 91, 3) := by decide +kernel
theorem d_M_insert_4 : decode b_M_insert 4 = .ok (.istore_n 3, 1) := by decide +kernel
theorem d_M_insert_5 : decode b_M_insert 5 = .ok (.iload_n 3, 1) := by decide +kernel
theorem d_M_insert_6 : decode b_M_insert 6 = .ok (.ifCond .le 16, 3) := by decide +kernel
theorem d_M_insert_9 : decode b_M_insert 9 = .ok (.aload_n 0, 1) := by decide +kernel
theorem d_M_insert_10 : decode b_M_insert 10 = .ok (.aload_n 0, 1) := by decide +kernel
theorem d_M_insert_11 : decode b_M_insert 11 = .ok (.getfield 22, 3) := by decide +kernel
theorem d_M_insert_14 : decode b_M_insert 14 = .ok (.iload_n 3, 1) := by decide +kernel
theorem d_M_insert_15 : decode b_M_insert 15 = .ok (.iaload, 1) := by decide +kernel
theorem d_M_insert_16 : decode b_M_insert 16 = .ok (.putfield 91, 3) := by decide +kernel
theorem d_M_insert_19 : decode b_M_insert 19 = .ok (.goto 18, 3) := by decide +kernel
theorem d_M_insert_22 : decode b_M_insert 22 = .ok (.aload_n 0, 1) := by decide +kernel
theorem d_M_insert_23 : decode b_M_insert 23 = .ok (.getfield 88, 3) := by decide +kernel
theorem d_M_insert_26 : decode b_M_insert 26 = .ok (.istore_n 3, 1) := by decide +kernel
theorem d_M_insert_27 : decode b_M_insert 27 = .ok (.aload_n 0, 1) := by decide +kernel
theorem d_M_insert_28 : decode b_M_insert 28 = .ok (.dup, 1) := by decide +kernel
theorem d_M_insert_29 : decode b_M_insert 29 = .ok (.getfield 88, 3) := by decide +kernel
theorem d_M_insert_32 : decode b_M_insert 32 = .ok (.iconst 1, 1) := by decide +kernel
theorem d_M_insert_33 : decode b_M_insert 33 = .ok (.iadd, 1) := by decide +kernel
theorem d_M_insert_34 : decode b_M_insert 34 = .ok (.putfield 88, 3) := by decide +kernel
theorem d_M_insert_37 : decode b_M_insert 37 = .ok (.aload_n 0, 1) := by decide +kernel
theorem d_M_insert_38 : decode b_M_insert 38 = .ok (.getfield 19, 3) := by decide +kernel
theorem d_M_insert_41 : decode b_M_insert 41 = .ok (.iload_n 3, 1) := by decide +kernel
theorem d_M_insert_42 : decode b_M_insert 42 = .ok (.iload_n 2, 1) := by decide +kernel
theorem d_M_insert_43 : decode b_M_insert 43 = .ok (.iastore, 1) := by decide +kernel
theorem d_M_insert_44 : decode b_M_insert 44 = .ok (.aload_n 0, 1) := by decide +kernel
theorem d_M_insert_45 : decode b_M_insert 45 = .ok (.getfield 22, 3) := by decide +kernel
theorem d_M_insert_48 : decode b_M_insert 48 = .ok (.iload_n 3, 1) := by decide +kernel
theorem d_M_insert_49 : decode b_M_insert 49 = .ok (.aload_n 0, 1) := by decide +kernel
theorem d_M_insert_50 : decode b_M_insert 50 = .ok (.getfield 22, 3) := by decide +kernel
theorem d_M_insert_53 : decode b_M_insert 53 = .ok (.iload_n 1, 1) := by decide +kernel
theorem d_M_insert_54 : decode b_M_insert 54 = .ok (.iaload, 1) := by decide +kernel
theorem d_M_insert_55 : decode b_M_insert 55 = .ok (.iastore, 1) := by decide +kernel
theorem d_M_insert_56 : decode b_M_insert 56 = .ok (.aload_n 0, 1) := by decide +kernel
theorem d_M_insert_57 : decode b_M_insert 57 = .ok (.getfield 25, 3) := by decide +kernel
theorem d_M_insert_60 : decode b_M_insert 60 = .ok (.iload_n 3, 1) := by decide +kernel
theorem d_M_insert_61 : decode b_M_insert 61 = .ok (.iload_n 1, 1) := by decide +kernel
theorem d_M_insert_62 : decode b_M_insert 62 = .ok (.iastore, 1) := by decide +kernel
theorem d_M_insert_63 : decode b_M_insert 63 = .ok (.aload_n 0, 1) := by decide +kernel
theorem d_M_insert_64 : decode b_M_insert 64 = .ok (.getfield 25, 3) := by decide +kernel
theorem d_M_insert_67 : decode b_M_insert 67 = .ok (.aload_n 0, 1) := by decide +kernel
theorem d_M_insert_68 : decode b_M_insert 68 = .ok (.getfield 22, 3) := by decide +kernel
theorem d_M_insert_71 : decode b_M_insert 71 = .ok (.iload_n 1, 1) := by decide +kernel
theorem d_M_insert_72 : decode b_M_insert 72 = .ok (.iaload, 1) := by decide +kernel
theorem d_M_insert_73 : decode b_M_insert 73 = .ok (.iload_n 3, 1) := by decide +kernel
theorem d_M_insert_74 : decode b_M_insert 74 = .ok (.iastore, 1) := by decide +kernel
theorem d_M_insert_75 : decode b_M_insert 75 = .ok (.aload_n 0, 1) := by decide +kernel
theorem d_M_insert_76 : decode b_M_insert 76 = .ok (.getfield 22, 3) := by decide +kernel
theorem d_M_insert_79 : decode b_M_insert 79 = .ok (.iload_n 1, 1) := by decide +kernel
theorem d_M_insert_80 : decode b_M_insert 80 = .ok (.iload_n 3, 1) := by decide +kernel
theorem d_M_insert_81 : decode b_M_insert 81 = .ok (.iastore, 1) := by decide +kernel
theorem d_M_insert_82 : decode b_M_insert 82 = .ok (.iload_n 3, 1) := by decide +kernel
theorem d_M_insert_83 : decode b_M_insert 83 = .ok (.ireturn, 1) := by decide +kernel
theorem d_M_take_0 : decode b_M_take 0 = .ok (.aload_n 0, 1) := by decide +kernel
theorem d_M_take_1 : decode b_M_take 1 = .ok (.getfield 22, 3) := by decide +kernel
theorem d_M_take_4 : decode b_M_take 4 = .ok (.aload_n 0, 1) := by decide +kernel
theorem d_M_take_5 : decode b_M_take 5 = .ok (.getfield 25, 3) := by decide +kernel
theorem d_M_take_8 : decode b_M_take 8 = .ok (.iload_n 1, 1) := by decide +kernel
theorem d_M_take_9 : decode b_M_take 9 = .ok (.iaload, 1) := by decide +kernel
theorem d_M_take_10 : decode b_M_take 10 = .ok (.aload_n 0, 1) := by decide +kernel
theorem d_M_take_11 : decode b_M_take 11 = .ok (.getfield 22, 3) := by decide +kernel
theorem d_M_take_14 : decode b_M_take 14 = .ok (.iload_n 1, 1) := by decide +kernel
theorem d_M_take_15 : decode b_M_take 15 = .ok (.iaload, 1) := by decide +kernel
theorem d_M_take_16 : decode b_M_take 16 = .ok (.iastore, 1) := by decide +kernel
theorem d_M_take_17 : decode b_M_take 17 = .ok (.aload_n 0, 1) := by decide +kernel
theorem d_M_take_18 : decode b_M_take 18 = .ok (.getfield 25, 3) := by decide +kernel
theorem d_M_take_21 : decode b_M_take 21 = .ok (.aload_n 0, 1) := by decide +kernel
theorem d_M_take_22 : decode b_M_take 22 = .ok (.getfield 22, 3) := by decide +kernel
theorem d_M_take_25 : decode b_M_take 25 = .ok (.iload_n 1, 1) := by decide +kernel
theorem d_M_take_26 : decode b_M_take 26 = .ok (.iaload, 1) := by decide +kernel
theorem d_M_take_27 : decode b_M_take 27 = .ok (.aload_n 0, 1) := by decide +kernel
theorem d_M_take_28 : decode b_M_take 28 = .ok (.getfield 25, 3) := by decide +kernel
theorem d_M_take_31 : decode b_M_take 31 = .ok (.iload_n 1, 1) := by decide +kernel
theorem d_M_take_32 : decode b_M_take 32 = .ok (.iaload, 1) := by decide +kernel
theorem d_M_take_33 : decode b_M_take 33 = .ok (.iastore, 1) := by decide +kernel
theorem d_M_take_34 : decode b_M_take 34 = .ok (.aload_n 0, 1) := by decide +kernel
theorem d_M_take_35 : decode b_M_take 35 = .ok (.getfield 22, 3) := by decide +kernel
theorem d_M_take_38 : decode b_M_take 38 = .ok (.iload_n 1, 1) := by decide +kernel
theorem d_M_take_39 : decode b_M_take 39 = .ok (.aload_n 0, 1) := by decide +kernel
theorem d_M_take_40 : decode b_M_take 40 = .ok (.getfield 91, 3) := by decide +kernel
theorem d_M_take_43 : decode b_M_take 43 = .ok (.iastore, 1) := by decide +kernel
theorem d_M_take_44 : decode b_M_take 44 = .ok (.aload_n 0, 1) := by decide +kernel
theorem d_M_take_45 : decode b_M_take 45 = .ok (.iload_n 1, 1) := by decide +kernel
theorem d_M_take_46 : decode b_M_take 46 = .ok (.putfield 91, 3) := by decide +kernel
theorem d_M_take_49 : decode b_M_take 49 = .ok (.return_, 1) := by decide +kernel
theorem d_M_isNear_0 : decode b_M_isNear 0 = .ok (.iload_n 0, 1) := by decide +kernel
theorem d_M_isNear_1 : decode b_M_isNear 1 = .ok (.iload_n 1, 1) := by decide +kernel
theorem d_M_isNear_2 : decode b_M_isNear 2 = .ok (.isub, 1) := by decide +kernel
theorem d_M_isNear_3 : decode b_M_isNear 3 = .ok (.iconst 1, 1) := by decide +kernel
theorem d_M_isNear_4 : decode b_M_isNear 4 = .ok (.if_icmp .eq 10, 3) := by decide +kernel
theorem d_M_isNear_7 : decode b_M_isNear 7 = .ok (.iload_n 1, 1) := by decide +kernel
theorem d_M_isNear_8 : decode b_M_isNear 8 = .ok (.iload_n 0, 1) := by decide +kernel
theorem d_M_isNear_9 : decode b_M_isNear 9 = .ok (.isub, 1) := by decide +kernel
theorem d_M_isNear_10 : decode b_M_isNear 10 = .ok (.iconst 1, 1) := by decide +kernel
theorem d_M_isNear_11 : decode b_M_isNear 11 = .ok (.if_icmp .ne 7, 3) := by decide +kernel
theorem d_M_isNear_14 : decode b_M_isNear 14 = .ok (.iconst 1, 1) := by decide +kernel
theorem d_M_isNear_15 : decode b_M_isNear 15 = .ok (.goto 4, 3) := by decide +kernel
theorem d_M_isNear_18 : decode b_M_isNear 18 = .ok (.iconst 0, 1) := by decide +kernel
theorem d_M_isNear_19 : decode b_M_isNear 19 = .ok (.ireturn, 1) := by decide +kernel
theorem d_M_turnRight_0 : decode b_M_turnRight 0 = .ok (.aload_n 0, 1) := by decide +kernel
theorem d_M_turnRight_1 : decode b_M_turnRight 1 = .ok (.getfield 22, 3) := by decide +kernel
theorem d_M_turnRight_4 : decode b_M_turnRight 4 = .ok (.iconst 0, 1) := by decide +kernel
theorem d_M_turnRight_5 : decode b_M_turnRight 5 = .ok (.iaload, 1) := by decide +kernel
theorem d_M_turnRight_6 : decode b_M_turnRight 6 = .ok (.istore_n 1, 1) := by decide +kernel
theorem d_M_turnRight_7 : decode b_M_turnRight 7 = .ok (.iload_n 1, 1) := by decide +kernel
theorem d_M_turnRight_8 : decode b_M_turnRight 8 = .ok (.iconst 1, 1) := by decide +kernel
theorem d_M_turnRight_9 : decode b_M_turnRight 9 = .ok (.if_icmp .eq 141, 3) := by decide +kernel
theorem d_M_turnRight_12 : decode b_M_turnRight 12 = .ok (.aload_n 0, 1) := by decide +kernel
theorem d_M_turnRight_13 : decode b_M_turnRight 13 = .ok (.getfield 22, 3) := by decide +kernel
theorem d_M_turnRight_16 : decode b_M_turnRight 16 = .ok (.iload_n 1, 1) := by decide +kernel
theorem d_M_turnRight_17 : decode b_M_turnRight 17 = .ok (.iaload, 1) := by decide +kernel
theorem d_M_turnRight_18 : decode b_M_turnRight 18 = .ok (.istore_n 2, 1) := by decide +kernel
theorem d_M_turnRight_19 : decode b_M_turnRight 19 = .ok (.aload_n 0, 1) := by decide +kernel
theorem d_M_turnRight_20 : decode b_M_turnRight 20 = .ok (.getfield 19, 3) := by decide +kernel
theorem d_M_turnRight_23 : decode b_M_turnRight 23 = .ok (.iload_n 1, 1) := by decide +kernel
theorem d_M_turnRight_24 : decode b_M_turnRight 24 = .ok (.iaload, 1) := by decide +kernel
theorem d_M_turnRight_25 : decode b_M_turnRight 25 = .ok (.ifCond .ge 120, 3) := by decide +kernel
theorem d_M_turnRight_28 : decode b_M_turnRight 28 = .ok (.aload_n 0, 1) := by decide +kernel
theorem d_M_turnRight_29 : decode b_M_turnRight 29 = .ok (.getfield 19, 3) := by decide +kernel
theorem d_M_turnRight_32 : decode b_M_turnRight 32 = .ok (.iload_n 2, 1) := by decide +kernel
theorem d_M_turnRight_33 : decode b_M_turnRight 33 = .ok (.iaload, 1) := by decide +kernel
theorem d_M_turnRight_34 : decode b_M_turnRight 34 = .ok (.ifCond .le 111, 3) := by decide +kernel
theorem d_M_turnRight_37 : decode b_M_turnRight 37 = .ok (.aload_n 0, 1) := by decide +kernel
theorem d_M_turnRight_38 : decode b_M_turnRight 38 = .ok (.getfield 19, 3) := by decide +kernel
theorem d_M_turnRight_41 : decode b_M_turnRight 41 = .ok (.iload_n 1, 1) := by decide +kernel
theorem d_M_turnRight_42 : decode b_M_turnRight 42 = .ok (.iaload, 1) := by decide +kernel
theorem d_M_turnRight_43 : decode b_M_turnRight 43 = .ok (.ineg, 1) := by decide +kernel
theorem d_M_turnRight_44 : decode b_M_turnRight 44 = .ok (.istore_n 3, 1) := by decide +kernel
theorem d_M_turnRight_45 : decode b_M_turnRight 45 = .ok (.aload_n 0, 1) := by decide +kernel
theorem d_M_turnRight_46 : decode b_M_turnRight 46 = .ok (.getfield 19, 3) := by decide +kernel
theorem d_M_turnRight_49 : decode b_M_turnRight 49 = .ok (.iload_n 2, 1) := by decide +kernel
theorem d_M_turnRight_50 : decode b_M_turnRight 50 = .ok (.iaload, 1) := by decide +kernel
theorem d_M_turnRight_51 : decode b_M_turnRight 51 = .ok (.istore 4, 2) := by decide +kernel
theorem d_M_turnRight_53 : decode b_M_turnRight 53 = .ok (.aload_n 0, 1) := by decide +kernel
theorem d_M_turnRight_54 : decode b_M_turnRight 54 = .ok (.getfield 25, 3) := by decide +kernel
theorem d_M_turnRight_57 : decode b_M_turnRight 57 = .ok (.iload_n 1, 1) := by decide +kernel
theorem d_M_turnRight_58 : decode b_M_turnRight 58 = .ok (.iaload, 1) := by decide +kernel
theorem d_M_turnRight_59 : decode b_M_turnRight 59 = .ok (.istore 5, 2) := by decide +kernel
theorem d_M_turnRight_61 : decode b_M_turnRight 61 = .ok (.aload_n 0, 1) := by decide +kernel
theorem d_M_turnRight_62 : decode b_M_turnRight 62 = .ok (.iload_n 1, 1) := by decide +kernel
theorem d_M_turnRight_63 : decode b_M_turnRight 63 = .ok (.invokevirtual 94, 3) := by decide +kernel
theorem d_M_turnRight_66 : decode b_M_turnRight 66 = .ok (.aload_n 0, 1) := by decide +kernel
theorem d_M_turnRight_67 : decode b_M_turnRight 67 = .ok (.iload_n 2, 1) := by decide +kernel
theorem d_M_turnRight_68 : decode b_M_turnRight 68 = .ok (.invokevirtual 94, 3) := by decide +kernel
theorem d_M_turnRight_71 : decode b_M_turnRight 71 = .ok (.iload_n 3, 1) := by decide +kernel
theorem d_M_turnRight_72 : decode b_M_turnRight 72 = .ok (.iload 4, 2) := by decide +kernel
theorem d_M_turnRight_74 : decode b_M_turnRight 74 = .ok (.if_icmp .eq 51, 3) := by decide +kernel
theorem d_M_turnRight_77 : decode b_M_turnRight 77 = .ok (.aload_n 0, 1) := by decide +kernel
theorem d_M_turnRight_78 : decode b_M_turnRight 78 = .ok (.iload 5, 2) := by decide +kernel
theorem d_M_turnRight_80 : decode b_M_turnRight 80 = .ok (.iload 4, 2) := by decide +kernel
theorem d_M_turnRight_82 : decode b_M_turnRight 82 = .ok (.invokevirtual 98, 3) := by decide +kernel
theorem d_M_turnRight_85 : decode b_M_turnRight 85 = .ok (.istore 6, 2) := by decide +kernel
theorem d_M_turnRight_87 : decode b_M_turnRight 87 = .ok (.iload_n 3, 1) := by decide +kernel
theorem d_M_turnRight_88 : decode b_M_turnRight 88 = .ok (.iload 4, 2) := by decide +kernel
theorem d_M_turnRight_90 : decode b_M_turnRight 90 = .ok (.invokestatic 101, 3) := by decide +kernel
theorem d_M_turnRight_93 : decode b_M_turnRight 93 = .ok (.ifCond .eq 23, 3) := by decide +kernel
theorem d_M_turnRight_96 : decode b_M_turnRight 96 = .ok (.aload_n 0, 1) := by decide +kernel
theorem d_M_turnRight_97 : decode b_M_turnRight 97 = .ok (.iload 6, 2) := by decide +kernel
theorem d_M_turnRight_99 : decode b_M_turnRight 99 = .ok (.iload_n 3, 1) := by decide +kernel
theorem d_M_turnRight_100 : decode b_M_turnRight 100 = .ok (.invokevirtual 98, 3) := by decide +kernel
theorem d_M_turnRight_103 : decode b_M_turnRight 103 = .ok (.istore 6, 2) := by decide +kernel
theorem d_M_turnRight_105 : decode b_M_turnRight 105 = .ok (.aload_n 0, 1) := by decide +kernel
theorem d_M_turnRight_106 : decode b_M_turnRight 106 = .ok (.iload 6, 2) := by decide +kernel
theorem d_M_turnRight_108 : decode b_M_turnRight 108 = .ok (.iload 4, 2) := by decide +kernel
theorem d_M_turnRight_110 : decode b_M_turnRight 110 = .ok (.ineg, 1) := by decide +kernel
theorem d_M_turnRight_111 : decode b_M_turnRight 111 = .ok (.invokevirtual 98, 3) := by decide +kernel
theorem d_M_turnRight_114 : decode b_M_turnRight 114 = .ok (.istore 6, 2) := by decide +kernel
theorem d_M_turnRight_116 : decode b_M_turnRight 116 = .ok (.aload_n 0, 1) := by decide +kernel
theorem d_M_turnRight_117 : decode b_M_turnRight 117 = .ok (.iload 6, 2) := by decide +kernel
theorem d_M_turnRight_119 : decode b_M_turnRight 119 = .ok (.iload_n 3, 1) := by decide +kernel
theorem d_M_turnRight_120 : decode b_M_turnRight 120 = .ok (.ineg, 1) := by decide +kernel
theorem d_M_turnRight_121 : decode b_M_turnRight 121 = .ok (.invokevirtual 98, 3) := by decide +kernel
theorem d_M_turnRight_124 : decode b_M_turnRight 124 = .ok (.pop, 1) := by decide +kernel
theorem d_M_turnRight_125 : decode b_M_turnRight 125 = .ok (.iload 5, 2) := by decide +kernel
theorem d_M_turnRight_127 : decode b_M_turnRight 127 = .ok (.ifCond .ne 12, 3) := by decide +kernel
theorem d_M_turnRight_130 : decode b_M_turnRight 130 = .ok (.aload_n 0, 1) := by decide +kernel
theorem d_M_turnRight_131 : decode b_M_turnRight 131 = .ok (.getfield 22, 3) := by decide +kernel
theorem d_M_turnRight_134 : decode b_M_turnRight 134 = .ok (.iconst 0, 1) := by decide +kernel
theorem d_M_turnRight_135 : decode b_M_turnRight 135 = .ok (.iaload, 1) := by decide +kernel
theorem d_M_turnRight_136 : decode b_M_turnRight 136 = .ok (.goto 5, 3) := by decide +kernel
theorem d_M_turnRight_139 : decode b_M_turnRight 139 = .ok (.iload 5, 2) := by decide +kernel
theorem d_M_turnRight_141 : decode b_M_turnRight 141 = .ok (.istore_n 1, 1) := by decide +kernel
theorem d_M_turnRight_142 : decode b_M_turnRight 142 = .ok (.goto 5, 3) := by decide +kernel
theorem d_M_turnRight_145 : decode b_M_turnRight 145 = .ok (.iload_n 2, 1) := by decide +kernel
theorem d_M_turnRight_146 : decode b_M_turnRight 146 = .ok (.istore_n 1, 1) := by decide +kernel
theorem d_M_turnRight_147 : decode b_M_turnRight 147 = .ok (.goto (-140), 3) := by decide +kernel
theorem d_M_turnRight_150 : decode b_M_turnRight 150 = .ok (.return_, 1) := by decide +kernel
theorem d_M_turnLeft_0 : decode b_M_turnLeft 0 = .ok (.aload_n 0, 1) := by decide +kernel
theorem d_M_turnLeft_1 : decode b_M_turnLeft 1 = .ok (.getfield 22, 3) := by decide +kernel
theorem d_M_turnLeft_4 : decode b_M_turnLeft 4 = .ok (.iconst 0, 1) := by decide +kernel
theorem d_M_turnLeft_5 : decode b_M_turnLeft 5 = .ok (.iaload, 1) := by decide +kernel
theorem d_M_turnLeft_6 : decode b_M_turnLeft 6 = .ok (.istore_n 1, 1) := by decide +kernel
theorem d_M_turnLeft_7 : decode b_M_turnLeft 7 = .ok (.iload_n 1, 1) := by decide +kernel
theorem d_M_turnLeft_8 : decode b_M_turnLeft 8 = .ok (.iconst 1, 1) := by decide +kernel
theorem d_M_turnLeft_9 : decode b_M_turnLeft 9 = .ok (.if_icmp .eq 141, 3) := by decide +kernel
theorem d_M_turnLeft_12 : decode b_M_turnLeft 12 = .ok (.aload_n 0, 1) := by decide +kernel
theorem d_M_turnLeft_13 : decode b_M_turnLeft 13 = .ok (.getfield 22, 3) := by decide +kernel
theorem d_M_turnLeft_16 : decode b_M_turnLeft 16 = .ok (.iload_n 1, 1) := by decide +kernel
theorem d_M_turnLeft_17 : decode b_M_turnLeft 17 = .ok (.iaload, 1) := by decide +kernel
theorem d_M_turnLeft_18 : decode b_M_turnLeft 18 = .ok (.istore_n 2, 1) := by decide +kernel
theorem d_M_turnLeft_19 : decode b_M_turnLeft 19 = .ok (.aload_n 0, 1) := by decide +kernel
theorem d_M_turnLeft_20 : decode b_M_turnLeft 20 = .ok (.getfield 19, 3) := by decide +kernel
theorem d_M_turnLeft_23 : decode b_M_turnLeft 23 = .ok (.iload_n 1, 1) := by decide +kernel
theorem d_M_turnLeft_24 : decode b_M_turnLeft 24 = .ok (.iaload, 1) := by decide +kernel
theorem d_M_turnLeft_25 : decode b_M_turnLeft 25 = .ok (.ifCond .le 120, 3) := by decide +kernel
theorem d_M_turnLeft_28 : decode b_M_turnLeft 28 = .ok (.aload_n 0, 1) := by decide +kernel
theorem d_M_turnLeft_29 : decode b_M_turnLeft 29 = .ok (.getfield 19, 3) := by decide +kernel
theorem d_M_turnLeft_32 : decode b_M_turnLeft 32 = .ok (.iload_n 2, 1) := by decide +kernel
theorem d_M_turnLeft_33 : decode b_M_turnLeft 33 = .ok (.iaload, 1) := by decide +kernel
theorem d_M_turnLeft_34 : decode b_M_turnLeft 34 = .ok (.ifCond .ge 111, 3) := by decide +kernel
theorem d_M_turnLeft_37 : decode b_M_turnLeft 37 = .ok (.aload_n 0, 1) := by decide +kernel
theorem d_M_turnLeft_38 : decode b_M_turnLeft 38 = .ok (.getfield 19, 3) := by decide +kernel
theorem d_M_turnLeft_41 : decode b_M_turnLeft 41 = .ok (.iload_n 1, 1) := by decide +kernel
theorem d_M_turnLeft_42 : decode b_M_turnLeft 42 = .ok (.iaload, 1) := by decide +kernel
theorem d_M_turnLeft_43 : decode b_M_turnLeft 43 = .ok (.istore_n 3, 1) := by decide +kernel
theorem d_M_turnLeft_44 : decode b_M_turnLeft 44 = .ok (.aload_n 0, 1) := by decide +kernel
theorem d_M_turnLeft_45 : decode b_M_turnLeft 45 = .ok (.getfield 19, 3) := by decide +kernel
theorem d_M_turnLeft_48 : decode b_M_turnLeft 48 = .ok (.iload_n 2, 1) := by decide +kernel
theorem d_M_turnLeft_49 : decode b_M_turnLeft 49 = .ok (.iaload, 1) := by decide +kernel
theorem d_M_turnLeft_50 : decode b_M_turnLeft 50 = .ok (.ineg, 1) := by decide +kernel
theorem d_M_turnLeft_51 : decode b_M_turnLeft 51 = .ok (.istore 4, 2) := by decide +kernel
theorem d_M_turnLeft_53 : decode b_M_turnLeft 53 = .ok (.aload_n 0, 1) := by decide +kernel
theorem d_M_turnLeft_54 : decode b_M_turnLeft 54 = .ok (.getfield 25, 3) := by decide +kernel
theorem d_M_turnLeft_57 : decode b_M_turnLeft 57 = .ok (.iload_n 1, 1) := by decide +kernel
theorem d_M_turnLeft_58 : decode b_M_turnLeft 58 = .ok (.iaload, 1) := by decide +kernel
theorem d_M_turnLeft_59 : decode b_M_turnLeft 59 = .ok (.istore 5, 2) := by decide +kernel
theorem d_M_turnLeft_61 : decode b_M_turnLeft 61 = .ok (.aload_n 0, 1) := by decide +kernel
theorem d_M_turnLeft_62 : decode b_M_turnLeft 62 = .ok (.iload_n 1, 1) := by decide +kernel
theorem d_M_turnLeft_63 : decode b_M_turnLeft 63 = .ok (.invokevirtual 94, 3) := by decide +kernel
theorem d_M_turnLeft_66 : decode b_M_turnLeft 66 = .ok (.aload_n 0, 1) := by decide +kernel
theorem d_M_turnLeft_67 : decode b_M_turnLeft 67 = .ok (.iload_n 2, 1) := by decide +kernel
theorem d_M_turnLeft_68 : decode b_M_turnLeft 68 = .ok (.invokevirtual 94, 3) := by decide +kernel
theorem d_M_turnLeft_71 : decode b_M_turnLeft 71 = .ok (.iload_n 3, 1) := by decide +kernel
theorem d_M_turnLeft_72 : decode b_M_turnLeft 72 = .ok (.iload 4, 2) := by decide +kernel
theorem d_M_turnLeft_74 : decode b_M_turnLeft 74 = .ok (.if_icmp .eq 51, 3) := by decide +kernel
theorem d_M_turnLeft_77 : decode b_M_turnLeft 77 = .ok (.aload_n 0, 1) := by decide +kernel
theorem d_M_turnLeft_78 : decode b_M_turnLeft 78 = .ok (.iload 5, 2) := by decide +kernel
theorem d_M_turnLeft_80 : decode b_M_turnLeft 80 = .ok (.iload 4, 2) := by decide +kernel
theorem d_M_turnLeft_82 : decode b_M_turnLeft 82 = .ok (.ineg, 1) := by decide +kernel
theorem d_M_turnLeft_83 : decode b_M_turnLeft 83 = .ok (.invokevirtual 98, 3) := by decide +kernel
theorem d_M_turnLeft_86 : decode b_M_turnLeft 86 = .ok (.istore 6, 2) := by decide +kernel
theorem d_M_turnLeft_88 : decode b_M_turnLeft 88 = .ok (.iload_n 3, 1) := by decide +kernel
theorem d_M_turnLeft_89 : decode b_M_turnLeft 89 = .ok (.iload 4, 2) := by decide +kernel
theorem d_M_turnLeft_91 : decode b_M_turnLeft 91 = .ok (.invokestatic 101, 3) := by decide +kernel
theorem d_M_turnLeft_94 : decode b_M_turnLeft 94 = .ok (.ifCond .eq 23, 3) := by decide +kernel
theorem d_M_turnLeft_97 : decode b_M_turnLeft 97 = .ok (.aload_n 0, 1) := by decide +kernel
theorem d_M_turnLeft_98 : decode b_M_turnLeft 98 = .ok (.iload 6, 2) := by decide +kernel
theorem d_M_turnLeft_100 : decode b_M_turnLeft 100 = .ok (.iload_n 3, 1) := by decide +kernel
theorem d_M_turnLeft_101 : decode b_M_turnLeft 101 = .ok (.ineg, 1) := by decide +kernel
theorem d_M_turnLeft_102 : decode b_M_turnLeft 102 = .ok (.invokevirtual 98, 3) := by decide +kernel
theorem d_M_turnLeft_105 : decode b_M_turnLeft 105 = .ok (.istore 6, 2) := by decide +kernel
theorem d_M_turnLeft_107 : decode b_M_turnLeft 107 = .ok (.aload_n 0, 1) := by decide +kernel
theorem d_M_turnLeft_108 : decode b_M_turnLeft 108 = .ok (.iload 6, 2) := by decide +kernel
theorem d_M_turnLeft_110 : decode b_M_turnLeft 110 = .ok (.iload 4, 2) := by decide +kernel
theorem d_M_turnLeft_112 : decode b_M_turnLeft 112 = .ok (.invokevirtual 98, 3) := by decide +kernel
theorem d_M_turnLeft_115 : decode b_M_turnLeft 115 = .ok (.istore 6, 2) := by decide +kernel
theorem d_M_turnLeft_117 : decode b_M_turnLeft 117 = .ok (.aload_n 0, 1) := by decide +kernel
theorem d_M_turnLeft_118 : decode b_M_turnLeft 118 = .ok (.iload 6, 2) := by decide +kernel
theorem d_M_turnLeft_120 : decode b_M_turnLeft 120 = .ok (.iload_n 3, 1) := by decide +kernel
theorem d_M_turnLeft_121 : decode b_M_turnLeft 121 = .ok (.invokevirtual 98, 3) := by decide +kernel
theorem d_M_turnLeft_124 : decode b_M_turnLeft 124 = .ok (.pop, 1) := by decide +kernel
theorem d_M_turnLeft_125 : decode b_M_turnLeft 125 = .ok (.iload 5, 2) := by decide +kernel
theorem d_M_turnLeft_127 : decode b_M_turnLeft 127 = .ok (.ifCond .ne 12, 3) := by decide +kernel
theorem d_M_turnLeft_130 : decode b_M_turnLeft 130 = .ok (.aload_n 0, 1) := by decide +kernel
theorem d_M_turnLeft_131 : decode b_M_turnLeft 131 = .ok (.getfield 22, 3) := by decide +kernel
theorem d_M_turnLeft_134 : decode b_M_turnLeft 134 = .ok (.iconst 0, 1) := by decide +kernel
theorem d_M_turnLeft_135 : decode b_M_turnLeft 135 = .ok (.iaload, 1) := by decide +kernel
theorem d_M_turnLeft_136 : decode b_M_turnLeft 136 = .ok (.goto 5, 3) := by decide +kernel
theorem d_M_turnLeft_139 : decode b_M_turnLeft 139 = .ok (.iload 5, 2) := by decide +kernel
theorem d_M_turnLeft_141 : decode b_M_turnLeft 141 = .ok (.istore_n 1, 1) := by decide +kernel
theorem d_M_turnLeft_142 : decode b_M_turnLeft 142 = .ok (.goto 5, 3) := by decide +kernel
theorem d_M_turnLeft_145 : decode b_M_turnLeft 145 = .ok (.iload_n 2, 1) := by decide +kernel
theorem d_M_turnLeft_146 : decode b_M_turnLeft 146 = .ok (.istore_n 1, 1) := by decide +kernel
theorem d_M_turnLeft_147 : decode b_M_turnLeft 147 = .ok (.goto (-140), 3) := by decide +kernel
theorem d_M_turnLeft_150 : decode b_M_turnLeft 150 = .ok (.return_, 1) := by decide +kernel
theorem d_M_writeSimple_0 : decode b_M_writeSimple 0 = .ok (.iconst 1, 1) := by decide +kernel
theorem d_M_writeSimple_1 : decode b_M_writeSimple 1 = .ok (.istore_n 2, 1) := by decide +kernel
theorem d_M_writeSimple_2 : decode b_M_writeSimple 2 = .ok (.iload_n 2, 1) := by decide +kernel
theorem d_M_writeSimple_3 : decode b_M_writeSimple 3 = .ok (.ifCond .eq 92, 3) := by decide +kernel
theorem d_M_writeSimple_6 : decode b_M_writeSimple 6 = .ok (.iconst 0, 1) := by decide +kernel
theorem d_M_writeSimple_7 : decode b_M_writeSimple 7 = .ok (.istore_n 2, 1) := by decide +kernel
theorem d_M_writeSimple_8 : decode b_M_writeSimple 8 = .ok (.iconst 1, 1) := by decide +kernel
theorem d_M_writeSimple_9 : decode b_M_writeSimple 9 = .ok (.istore_n 3, 1) := by decide +kernel
theorem d_M_writeSimple_10 : decode b_M_writeSimple 10 = .ok (.iload_n 3, 1) := by decide +kernel
theorem d_M_writeSimple_11 : decode b_M_writeSimple 11 = .ok (.iload_n 1, 1) := by decide +kernel
theorem d_M_writeSimple_12 : decode b_M_writeSimple 12 = .ok (.if_icmp .ge 80, 3) := by decide +kernel
theorem d_M_writeSimple_15 : decode b_M_writeSimple 15 = .ok (.aload_n 0, 1) := by decide +kernel
theorem d_M_writeSimple_16 : decode b_M_writeSimple 16 = .ok (.getfield 31, 3) := by decide +kernel
theorem d_M_writeSimple_19 : decode b_M_writeSimple 19 = .ok (.iload_n 3, 1) := by decide +kernel
theorem d_M_writeSimple_20 : decode b_M_writeSimple 20 = .ok (.iaload, 1) := by decide +kernel
theorem d_M_writeSimple_21 : decode b_M_writeSimple 21 = .ok (.aload_n 0, 1) := by decide +kernel
theorem d_M_writeSimple_22 : decode b_M_writeSimple 22 = .ok (.getfield 31, 3) := by decide +kernel
theorem d_M_writeSimple_25 : decode b_M_writeSimple 25 = .ok (.iload_n 3, 1) := by decide +kernel
theorem d_M_writeSimple_26 : decode b_M_writeSimple 26 = .ok (.iconst 1, 1) := by decide +kernel
theorem d_M_writeSimple_27 : decode b_M_writeSimple 27 = .ok (.iadd, 1) := by decide +kernel
theorem d_M_writeSimple_28 : decode b_M_writeSimple 28 = .ok (.iaload, 1) := by decide +kernel
theorem d_M_writeSimple_29 : decode b_M_writeSimple 29 = .ok (.if_icmp .le 57, 3) := by decide +kernel
theorem d_M_writeSimple_32 : decode b_M_writeSimple 32 = .ok (.aload_n 0, 1) := by decide +kernel
theorem d_M_writeSimple_33 : decode b_M_writeSimple 33 = .ok (.getfield 31, 3) := by decide +kernel
theorem d_M_writeSimple_36 : decode b_M_writeSimple 36 = .ok (.iload_n 3, 1) := by decide +kernel
theorem d_M_writeSimple_37 : decode b_M_writeSimple 37 = .ok (.iaload, 1) := by decide +kernel
theorem d_M_writeSimple_38 : decode b_M_writeSimple 38 = .ok (.istore 4, 2) := by decide +kernel
theorem d_M_writeSimple_40 : decode b_M_writeSimple 40 = .ok (.aload_n 0, 1) := by decide +kernel
theorem d_M_writeSimple_41 : decode b_M_writeSimple 41 = .ok (.getfield 31, 3) := by decide +kernel
theorem d_M_writeSimple_44 : decode b_M_writeSimple 44 = .ok (.iload_n 3, 1) := by decide +kernel
theorem d_M_writeSimple_45 : decode b_M_writeSimple 45 = .ok (.aload_n 0, 1) := by decide +kernel
theorem d_M_writeSimple_46 : decode b_M_writeSimple 46 = .ok (.getfield 31, 3) := by decide +kernel
theorem d_M_writeSimple_49 : decode b_M_writeSimple 49 = .ok (.iload_n 3, 1) := by decide +kernel
theorem d_M_writeSimple_50 : decode b_M_writeSimple 50 = .ok (.iconst 1, 1) := by decide +kernel
theorem d_M_writeSimple_51 : decode b_M_writeSimple 51 = .ok (.iadd, 1) := by decide +kernel
theorem d_M_writeSimple_52 : decode b_M_writeSimple 52 = .ok (.iaload, 1) := by decide +kernel
theorem d_M_writeSimple_53 : decode b_M_writeSimple 53 = .ok (.iastore, 1) := by decide +kernel
theorem d_M_writeSimple_54 : decode b_M_writeSimple 54 = .ok (.aload_n 0, 1) := by decide +kernel
theorem d_M_writeSimple_55 : decode b_M_writeSimple 55 = .ok (.getfield 31, 3) := by decide +kernel
theorem d_M_writeSimple_58 : decode b_M_writeSimple 58 = .ok (.iload_n 3, 1) := by decide +kernel
theorem d_M_writeSimple_59 : decode b_M_writeSimple 59 = .ok (.iconst 1, 1) := by decide +kernel
theorem d_M_writeSimple_60 : decode b_M_writeSimple 60 = .ok (.iadd, 1) := by decide +kernel
theorem d_M_writeSimple_61 : decode b_M_writeSimple 61 = .ok (.iload 4, 2) := by decide +kernel
theorem d_M_writeSimple_63 : decode b_M_writeSimple 63 = .ok (.iastore, 1) := by decide +kernel
theorem d_M_writeSimple_64 : decode b_M_writeSimple 64 = .ok (.aload_n 0, 1) := by decide +kernel
theorem d_M_writeSimple_65 : decode b_M_writeSimple 65 = .ok (.getfield 28, 3) := by decide +kernel
theorem d_M_writeSimple_68 : decode b_M_writeSimple 68 = .ok (.aload_n 0, 1) := by decide +kernel
theorem d_M_writeSimple_69 : decode b_M_writeSimple 69 = .ok (.getfield 105, 3) := by decide +kernel
theorem d_M_writeSimple_72 : decode b_M_writeSimple 72 = .ok (.iload_n 3, 1) := by decide +kernel
theorem d_M_writeSimple_73 : decode b_M_writeSimple 73 = .ok (.iastore, 1) := by decide +kernel
theorem d_M_writeSimple_74 : decode b_M_writeSimple 74 = .ok (.aload_n 0, 1) := by decide +kernel
theorem d_M_writeSimple_75 : decode b_M_writeSimple 75 = .ok (.dup, 1) := by decide +kernel
theorem d_M_writeSimple_76 : decode b_M_writeSimple 76 = .ok (.getfield 105, 3) := by decide +kernel
theorem d_M_writeSimple_79 : decode b_M_writeSimple 79 = .ok (.iconst 1, 1) := by decide +kernel
theorem d_M_writeSimple_80 : decode b_M_writeSimple 80 = .ok (.iadd, 1) := by decide +kernel
theorem d_M_writeSimple_81 : decode b_M_writeSimple 81 = .ok (.putfield 105, 3) := by decide +kernel
theorem d_M_writeSimple_84 : decode b_M_writeSimple 84 = .ok (.iconst 1, 1) := by decide +kernel
theorem d_M_writeSimple_85 : decode b_M_writeSimple 85 = .ok (.istore_n 2, 1) := by decide +kernel
theorem d_M_writeSimple_86 : decode b_M_writeSimple 86 = .ok (.iinc 3 1, 3) := by decide +kernel
theorem d_M_writeSimple_89 : decode b_M_writeSimple 89 = .ok (.goto (-79), 3) := by decide +kernel
theorem d_M_writeSimple_92 : decode b_M_writeSimple 92 = .ok (.goto (-90), 3) := by decide +kernel
theorem d_M_writeSimple_95 : decode b_M_writeSimple 95 = .ok (.return_, 1) := by decide +kernel
theorem d_M_writeTurn_0 : decode b_M_writeTurn 0 = .ok (.iconst 1, 1) := by decide +kernel
theorem d_M_writeTurn_1 : decode b_M_writeTurn 1 = .ok (.istore_n 2, 1) := by decide +kernel
theorem d_M_writeTurn_2 : decode b_M_writeTurn 2 = .ok (.iload_n 2, 1) := by decide +kernel
theorem d_M_writeTurn_3 : decode b_M_writeTurn 3 = .ok (.iload_n 1, 1) := by decide +kernel
theorem d_M_writeTurn_4 : decode b_M_writeTurn 4 = .ok (.if_icmp .gt 20, 3) := by decide +kernel
theorem d_M_writeTurn_7 : decode b_M_writeTurn 7 = .ok (.aload_n 0, 1) := by decide +kernel
theorem d_M_writeTurn_8 : decode b_M_writeTurn 8 = .ok (.getfield 31, 3) := by decide +kernel
theorem d_M_writeTurn_11 : decode b_M_writeTurn 11 = .ok (.iload_n 2, 1) := by decide +kernel
theorem d_M_writeTurn_12 : decode b_M_writeTurn 12 = .ok (.iload_n 1, 1) := by decide +kernel
theorem d_M_writeTurn_13 : decode b_M_writeTurn 13 = .ok (.iconst 1, 1) := by decide +kernel
theorem d_M_writeTurn_14 : decode b_M_writeTurn 14 = .ok (.iadd, 1) := by decide +kernel
theorem d_M_writeTurn_15 : decode b_M_writeTurn 15 = .ok (.iload_n 2, 1) := by decide +kernel
theorem d_M_writeTurn_16 : decode b_M_writeTurn 16 = .ok (.isub, 1) := by decide +kernel
theorem d_M_writeTurn_17 : decode b_M_writeTurn 17 = .ok (.iastore, 1) := by decide +kernel
theorem d_M_writeTurn_18 : decode b_M_writeTurn 18 = .ok (.iinc 2 1, 3) := by decide +kernel
theorem d_M_writeTurn_21 : decode b_M_writeTurn 21 = .ok (.goto (-19), 3) := by decide +kernel
theorem d_M_writeTurn_24 : decode b_M_writeTurn 24 = .ok (.aload_n 0, 1) := by decide +kernel
theorem d_M_writeTurn_25 : decode b_M_writeTurn 25 = .ok (.iload_n 1, 1) := by decide +kernel
theorem d_M_writeTurn_26 : decode b_M_writeTurn 26 = .ok (.invokevirtual 108, 3) := by decide +kernel
theorem d_M_writeTurn_29 : decode b_M_writeTurn 29 = .ok (.return_, 1) := by decide +kernel
theorem d_M_makePositive_0 : decode b_M_makePositive 0 = .ok (.aload_n 0, 1) := by decide +kernel
theorem d_M_makePositive_1 : decode b_M_makePositive 1 = .ok (.getfield 7, 3) := by decide +kernel
theorem d_M_makePositive_4 : decode b_M_makePositive 4 = .ok (.iload_n 1, 1) := by decide +kernel
theorem d_M_makePositive_5 : decode b_M_makePositive 5 = .ok (.iaload, 1) := by decide +kernel
theorem d_M_makePositive_6 : decode b_M_makePositive 6 = .ok (.istore_n 2, 1) := by decide +kernel
theorem d_M_makePositive_7 : decode b_M_makePositive 7 = .ok (.aload_n 0, 1) := by decide +kernel
theorem d_M_makePositive_8 : decode b_M_makePositive 8 = .ok (.iconst 0, 1) := by decide +kernel
theorem d_M_makePositive_9 : decode b_M_makePositive 9 = .ok (.putfield 105, 3) := by decide +kernel
theorem d_M_makePositive_12 : decode b_M_makePositive 12 = .ok (.aload_n 0, 1) := by decide +kernel
theorem d_M_makePositive_13 : decode b_M_makePositive 13 = .ok (.getfield 41, 3) := by decide +kernel
theorem d_M_makePositive_16 : decode b_M_makePositive 16 = .ok (.iload_n 1, 1) := by decide +kernel
theorem d_M_makePositive_17 : decode b_M_makePositive 17 = .ok (.iconst 0, 1) := by decide +kernel
theorem d_M_makePositive_18 : decode b_M_makePositive 18 = .ok (.iastore, 1) := by decide +kernel
theorem d_M_makePositive_19 : decode b_M_makePositive 19 = .ok (.iconst 0, 1) := by decide +kernel
theorem d_M_makePositive_20 : decode b_M_makePositive 20 = .ok (.istore_n 3, 1) := by decide +kernel
theorem d_M_makePositive_21 : decode b_M_makePositive 21 = .ok (.iload_n 3, 1) := by decide +kernel
theorem d_M_makePositive_22 : decode b_M_makePositive 22 = .ok (.aload_n 0, 1) := by decide +kernel
theorem d_M_makePositive_23 : decode b_M_makePositive 23 = .ok (.getfield 13, 3) := by decide +kernel
theorem d_M_makePositive_26 : decode b_M_makePositive 26 = .ok (.iload_n 1, 1) := by decide +kernel
theorem d_M_makePositive_27 : decode b_M_makePositive 27 = .ok (.iaload, 1) := by decide +kernel
theorem d_M_makePositive_28 : decode b_M_makePositive 28 = .ok (.if_icmp .ge 157, 3) := by decide +kernel
theorem d_M_makePositive_31 : decode b_M_makePositive 31 = .ok (.aload_n 0, 1) := by decide +kernel
theorem d_M_makePositive_32 : decode b_M_makePositive 32 = .ok (.iload_n 1, 1) := by decide +kernel
theorem d_M_makePositive_33 : decode b_M_makePositive 33 = .ok (.iload_n 3, 1) := by decide +kernel
theorem d_M_makePositive_34 : decode b_M_makePositive 34 = .ok (.invokevirtual 64, 3) := by decide +kernel
theorem d_M_makePositive_37 : decode b_M_makePositive 37 = .ok (.istore 4, 2) := by decide +kernel
theorem d_M_makePositive_39 : decode b_M_makePositive 39 = .ok (.iload 4, 2) := by decide +kernel
theorem d_M_makePositive_41 : decode b_M_makePositive 41 = .ok (.ifCond .le 27, 3) := by decide +kernel
theorem d_M_makePositive_44 : decode b_M_makePositive 44 = .ok (.aload_n 0, 1) := by decide +kernel
theorem d_M_makePositive_45 : decode b_M_makePositive 45 = .ok (.getfield 28, 3) := by decide +kernel
theorem d_M_makePositive_48 : decode b_M_makePositive 48 = .ok (.aload_n 0, 1) := by decide +kernel
theorem d_M_makePositive_49 : decode b_M_makePositive 49 = .ok (.getfield 105, 3) := by decide +kernel
theorem d_M_makePositive_52 : decode b_M_makePositive 52 = .ok (.iload 4, 2) := by decide +kernel
theorem d_M_makePositive_54 : decode b_M_makePositive 54 = .ok (.iastore, 1) := by decide +kernel
theorem d_M_makePositive_55 : decode b_M_makePositive 55 = .ok (.aload_n 0, 1) := by decide +kernel
theorem d_M_makePositive_56 : decode b_M_makePositive 56 = .ok (.dup, 1) := by decide +kernel
theorem d_M_makePositive_57 : decode b_M_makePositive 57 = .ok (.getfield 105, 3) := by decide +kernel
theorem d_M_makePositive_60 : decode b_M_makePositive 60 = .ok (.iconst 1, 1) := by decide +kernel
theorem d_M_makePositive_61 : decode b_M_makePositive 61 = .ok (.iadd, 1) := by decide +kernel
theorem d_M_makePositive_62 : decode b_M_makePositive 62 = .ok (.putfield 105, 3) := by decide +kernel
theorem d_M_makePositive_65 : decode b_M_makePositive 65 = .ok (.goto 114, 3) := by decide +kernel
theorem d_M_makePositive_68 : decode b_M_makePositive 68 = .ok (.iconst 0, 1) := by decide +kernel
theorem d_M_makePositive_69 : decode b_M_makePositive 69 = .ok (.istore 5, 2) := by decide +kernel
theorem d_M_makePositive_71 : decode b_M_makePositive 71 = .ok (.iload 5, 2) := by decide +kernel
theorem d_M_makePositive_73 : decode b_M_makePositive 73 = .ok (.aload_n 0, 1) := by decide +kernel
theorem d_M_makePositive_74 : decode b_M_makePositive 74 = .ok (.getfield 105, 3) := by decide +kernel
theorem d_M_makePositive_77 : decode b_M_makePositive 77 = .ok (.if_icmp .ge 25, 3) := by decide +kernel
theorem d_M_makePositive_80 : decode b_M_makePositive 80 = .ok (.aload_n 0, 1) := by decide +kernel
theorem d_M_makePositive_81 : decode b_M_makePositive 81 = .ok (.getfield 28, 3) := by decide +kernel
theorem d_M_makePositive_84 : decode b_M_makePositive 84 = .ok (.iload 5, 2) := by decide +kernel
theorem d_M_makePositive_86 : decode b_M_makePositive 86 = .ok (.iload_n 2, 1) := by decide +kernel
theorem d_M_makePositive_87 : decode b_M_makePositive 87 = .ok (.aload_n 0, 1) := by decide +kernel
theorem d_M_makePositive_88 : decode b_M_makePositive 88 = .ok (.getfield 28, 3) := by decide +kernel
theorem d_M_makePositive_91 : decode b_M_makePositive 91 = .ok (.iload 5, 2) := by decide +kernel
theorem d_M_makePositive_93 : decode b_M_makePositive 93 = .ok (.iaload, 1) := by decide +kernel
theorem d_M_makePositive_94 : decode b_M_makePositive 94 = .ok (.isub, 1) := by decide +kernel
theorem d_M_makePositive_95 : decode b_M_makePositive 95 = .ok (.iastore, 1) := by decide +kernel
theorem d_M_makePositive_96 : decode b_M_makePositive 96 = .ok (.iinc 5 1, 3) := by decide +kernel
theorem d_M_makePositive_99 : decode b_M_makePositive 99 = .ok (.goto (-28), 3) := by decide +kernel
theorem d_M_makePositive_102 : decode b_M_makePositive 102 = .ok (.aload_n 0, 1) := by decide +kernel
theorem d_M_makePositive_103 : decode b_M_makePositive 103 = .ok (.getfield 41, 3) := by decide +kernel
theorem d_M_makePositive_106 : decode b_M_makePositive 106 = .ok (.iload_n 1, 1) := by decide +kernel
theorem d_M_makePositive_107 : decode b_M_makePositive 107 = .ok (.dup2, 1) := by decide +kernel
theorem d_M_makePositive_108 : decode b_M_makePositive 108 = .ok (.iaload, 1) := by decide +kernel
theorem d_M_makePositive_109 : decode b_M_makePositive 109 = .ok (.iconst 1, 1) := by decide +kernel
theorem d_M_makePositive_110 : decode b_M_makePositive 110 = .ok (.isub, 1) := by decide +kernel
theorem d_M_makePositive_111 : decode b_M_makePositive 111 = .ok (.iastore, 1) := by decide +kernel
theorem d_M_makePositive_112 : decode b_M_makePositive 112 = .ok (.iconst 1, 1) := by decide +kernel
theorem d_M_makePositive_113 : decode b_M_makePositive 113 = .ok (.istore 5, 2) := by decide +kernel
theorem d_M_makePositive_115 : decode b_M_makePositive 115 = .ok (.iload 5, 2) := by decide +kernel
theorem d_M_makePositive_117 : decode b_M_makePositive 117 = .ok (.iload_n 2, 1) := by decide +kernel
theorem d_M_makePositive_118 : decode b_M_makePositive 118 = .ok (.if_icmp .gt 56, 3) := by decide +kernel
theorem d_M_makePositive_121 : decode b_M_makePositive 121 = .ok (.iload_n 2, 1) := by decide +kernel
theorem d_M_makePositive_122 : decode b_M_makePositive 122 = .ok (.iconst 1, 1) := by decide +kernel
theorem d_M_makePositive_123 : decode b_M_makePositive 123 = .ok (.iadd, 1) := by decide +kernel
theorem d_M_makePositive_124 : decode b_M_makePositive 124 = .ok (.iload 5, 2) := by decide +kernel
theorem d_M_makePositive_126 : decode b_M_makePositive 126 = .ok (.isub, 1) := by decide +kernel
theorem d_M_makePositive_127 : decode b_M_makePositive 127 = .ok (.istore 6, 2) := by decide +kernel
theorem d_M_makePositive_129 : decode b_M_makePositive 129 = .ok (.aload_n 0, 1) := by decide +kernel
theorem d_M_makePositive_130 : decode b_M_makePositive 130 = .ok (.getfield 31, 3) := by decide +kernel
theorem d_M_makePositive_133 : decode b_M_makePositive 133 = .ok (.iload 5, 2) := by decide +kernel
theorem d_M_makePositive_135 : decode b_M_makePositive 135 = .ok (.iload 6, 2) := by decide +kernel
theorem d_M_makePositive_137 : decode b_M_makePositive 137 = .ok (.iload 4, 2) := by decide +kernel
theorem d_M_makePositive_139 : decode b_M_makePositive 139 = .ok (.ineg, 1) := by decide +kernel
theorem d_M_makePositive_140 : decode b_M_makePositive 140 = .ok (.if_icmp .ne 10, 3) := by decide +kernel
theorem d_M_makePositive_143 : decode b_M_makePositive 143 = .ok (.iconst 1, 1) := by decide +kernel
theorem d_M_makePositive_144 : decode b_M_makePositive 144 = .ok (.iload 4, 2) := by decide +kernel
theorem d_M_makePositive_146 : decode b_M_makePositive 146 = .ok (.isub, 1) := by decide +kernel
theorem d_M_makePositive_147 : decode b_M_makePositive 147 = .ok (.goto 20, 3) := by decide +kernel
theorem d_M_makePositive_150 : decode b_M_makePositive 150 = .ok (.iload 6, 2) := by decide +kernel
theorem d_M_makePositive_152 : decode b_M_makePositive 152 = .ok (.iconst 1, 1) := by decide +kernel
theorem d_M_makePositive_153 : decode b_M_makePositive 153 = .ok (.iload 4, 2) := by decide +kernel
theorem d_M_makePositive_155 : decode b_M_makePositive 155 = .ok (.isub, 1) := by decide +kernel
theorem d_M_makePositive_156 : decode b_M_makePositive 156 = .ok (.if_icmp .ne 9, 3) := by decide +kernel
theorem d_M_makePositive_159 : decode b_M_makePositive 159 = .ok (.iload 4, 2) := by decide +kernel
theorem d_M_makePositive_161 : decode b_M_makePositive 161 = .ok (.ineg, 1) := by decide +kernel
theorem d_M_makePositive_162 : decode b_M_makePositive 162 = .ok (.goto 5, 3) := by decide +kernel
theorem d_M_makePositive_165 : decode b_M_makePositive 165 = .ok (.iload 6, 2) := by decide +kernel
theorem d_M_makePositive_167 : decode b_M_makePositive 167 = .ok (.iastore, 1) := by decide +kernel
theorem d_M_makePositive_168 : decode b_M_makePositive 168 = .ok (.iinc 5 1, 3) := by decide +kernel
theorem d_M_makePositive_171 : decode b_M_makePositive 171 = .ok (.goto (-56), 3) := by decide +kernel
theorem d_M_makePositive_174 : decode b_M_makePositive 174 = .ok (.aload_n 0, 1) := by decide +kernel
theorem d_M_makePositive_175 : decode b_M_makePositive 175 = .ok (.iload_n 2, 1) := by decide +kernel
theorem d_M_makePositive_176 : decode b_M_makePositive 176 = .ok (.invokevirtual 108, 3) := by decide +kernel
theorem d_M_makePositive_179 : decode b_M_makePositive 179 = .ok (.iinc 3 1, 3) := by decide +kernel
theorem d_M_makePositive_182 : decode b_M_makePositive 182 = .ok (.goto (-161), 3) := by decide +kernel
theorem d_M_makePositive_185 : decode b_M_makePositive 185 = .ok (.return_, 1) := by decide +kernel
theorem d_M_takeSimple_0 : decode b_M_takeSimple 0 = .ok (.aload_n 0, 1) := by decide +kernel
theorem d_M_takeSimple_1 : decode b_M_takeSimple 1 = .ok (.getfield 105, 3) := by decide +kernel
theorem d_M_takeSimple_4 : decode b_M_takeSimple 4 = .ok (.istore_n 2, 1) := by decide +kernel
theorem d_M_takeSimple_5 : decode b_M_takeSimple 5 = .ok (.aload_n 0, 1) := by decide +kernel
theorem d_M_takeSimple_6 : decode b_M_takeSimple 6 = .ok (.invokevirtual 111, 3) := by decide +kernel
theorem d_M_takeSimple_9 : decode b_M_takeSimple 9 = .ok (.aload_n 0, 1) := by decide +kernel
theorem d_M_takeSimple_10 : decode b_M_takeSimple 10 = .ok (.iload_n 1, 1) := by decide +kernel
theorem d_M_takeSimple_11 : decode b_M_takeSimple 11 = .ok (.invokevirtual 114, 3) := by decide +kernel
theorem d_M_takeSimple_14 : decode b_M_takeSimple 14 = .ok (.iconst 0, 1) := by decide +kernel
theorem d_M_takeSimple_15 : decode b_M_takeSimple 15 = .ok (.istore_n 3, 1) := by decide +kernel
theorem d_M_takeSimple_16 : decode b_M_takeSimple 16 = .ok (.aload_n 0, 1) := by decide +kernel
theorem d_M_takeSimple_17 : decode b_M_takeSimple 17 = .ok (.getfield 105, 3) := by decide +kernel
theorem d_M_takeSimple_20 : decode b_M_takeSimple 20 = .ok (.iconst 1, 1) := by decide +kernel
theorem d_M_takeSimple_21 : decode b_M_takeSimple 21 = .ok (.isub, 1) := by decide +kernel
theorem d_M_takeSimple_22 : decode b_M_takeSimple 22 = .ok (.istore 4, 2) := by decide +kernel
theorem d_M_takeSimple_24 : decode b_M_takeSimple 24 = .ok (.iload 4, 2) := by decide +kernel
theorem d_M_takeSimple_26 : decode b_M_takeSimple 26 = .ok (.iload_n 2, 1) := by decide +kernel
theorem d_M_takeSimple_27 : decode b_M_takeSimple 27 = .ok (.if_icmp .lt 23, 3) := by decide +kernel
theorem d_M_takeSimple_30 : decode b_M_takeSimple 30 = .ok (.aload_n 0, 1) := by decide +kernel
theorem d_M_takeSimple_31 : decode b_M_takeSimple 31 = .ok (.iload_n 3, 1) := by decide +kernel
theorem d_M_takeSimple_32 : decode b_M_takeSimple 32 = .ok (.aload_n 0, 1) := by decide +kernel
theorem d_M_takeSimple_33 : decode b_M_takeSimple 33 = .ok (.getfield 28, 3) := by decide +kernel
theorem d_M_takeSimple_36 : decode b_M_takeSimple 36 = .ok (.iload 4, 2) := by decide +kernel
theorem d_M_takeSimple_38 : decode b_M_takeSimple 38 = .ok (.iaload, 1) := by decide +kernel
theorem d_M_takeSimple_39 : decode b_M_takeSimple 39 = .ok (.ineg, 1) := by decide +kernel
theorem d_M_takeSimple_40 : decode b_M_takeSimple 40 = .ok (.invokevirtual 98, 3) := by decide +kernel
theorem d_M_takeSimple_43 : decode b_M_takeSimple 43 = .ok (.istore_n 3, 1) := by decide +kernel
theorem d_M_takeSimple_44 : decode b_M_takeSimple 44 = .ok (.iinc 4 (-1), 3) := by decide +kernel
theorem d_M_takeSimple_47 : decode b_M_takeSimple 47 = .ok (.goto (-23), 3) := by decide +kernel
theorem d_M_takeSimple_50 : decode b_M_takeSimple 50 = .ok (.iconst 0, 1) := by decide +kernel
theorem d_M_takeSimple_51 : decode b_M_takeSimple 51 = .ok (.istore 4, 2) := by decide +kernel
theorem d_M_takeSimple_53 : decode b_M_takeSimple 53 = .ok (.iload 4, 2) := by decide +kernel
theorem d_M_takeSimple_55 : decode b_M_takeSimple 55 = .ok (.iload_n 2, 1) := by decide +kernel
theorem d_M_takeSimple_56 : decode b_M_takeSimple 56 = .ok (.if_icmp .ge 22, 3) := by decide +kernel
theorem d_M_takeSimple_59 : decode b_M_takeSimple 59 = .ok (.aload_n 0, 1) := by decide +kernel
theorem d_M_takeSimple_60 : decode b_M_takeSimple 60 = .ok (.iload_n 3, 1) := by decide +kernel
theorem d_M_takeSimple_61 : decode b_M_takeSimple 61 = .ok (.aload_n 0, 1) := by decide +kernel
theorem d_M_takeSimple_62 : decode b_M_takeSimple 62 = .ok (.getfield 28, 3) := by decide +kernel
theorem d_M_takeSimple_65 : decode b_M_takeSimple 65 = .ok (.iload 4, 2) := by decide +kernel
theorem d_M_takeSimple_67 : decode b_M_takeSimple 67 = .ok (.iaload, 1) := by decide +kernel
theorem d_M_takeSimple_68 : decode b_M_takeSimple 68 = .ok (.invokevirtual 98, 3) := by decide +kernel
theorem d_M_takeSimple_71 : decode b_M_takeSimple 71 = .ok (.istore_n 3, 1) := by decide +kernel
theorem d_M_takeSimple_72 : decode b_M_takeSimple 72 = .ok (.iinc 4 1, 3) := by decide +kernel
theorem d_M_takeSimple_75 : decode b_M_takeSimple 75 = .ok (.goto (-22), 3) := by decide +kernel
theorem d_M_takeSimple_78 : decode b_M_takeSimple 78 = .ok (.aload_n 0, 1) := by decide +kernel
theorem d_M_takeSimple_79 : decode b_M_takeSimple 79 = .ok (.invokevirtual 117, 3) := by decide +kernel
theorem d_M_takeSimple_82 : decode b_M_takeSimple 82 = .ok (.aload_n 0, 1) := by decide +kernel
theorem d_M_takeSimple_83 : decode b_M_takeSimple 83 = .ok (.invokevirtual 120, 3) := by decide +kernel
theorem d_M_takeSimple_86 : decode b_M_takeSimple 86 = .ok (.iconst 1, 1) := by decide +kernel
theorem d_M_takeSimple_87 : decode b_M_takeSimple 87 = .ok (.istore 4, 2) := by decide +kernel
theorem d_M_takeSimple_89 : decode b_M_takeSimple 89 = .ok (.iload 4, 2) := by decide +kernel
theorem d_M_takeSimple_91 : decode b_M_takeSimple 91 = .ok (.iload_n 1, 1) := by decide +kernel
theorem d_M_takeSimple_92 : decode b_M_takeSimple 92 = .ok (.if_icmp .gt 18, 3) := by decide +kernel
theorem d_M_takeSimple_95 : decode b_M_takeSimple 95 = .ok (.aload_n 0, 1) := by decide +kernel
theorem d_M_takeSimple_96 : decode b_M_takeSimple 96 = .ok (.getfield 31, 3) := by decide +kernel
theorem d_M_takeSimple_99 : decode b_M_takeSimple 99 = .ok (.iload 4, 2) := by decide +kernel
theorem d_M_takeSimple_101 : decode b_M_takeSimple 101 = .ok (.iload 4, 2) := by decide +kernel
theorem d_M_takeSimple_103 : decode b_M_takeSimple 103 = .ok (.iastore, 1) := by decide +kernel
theorem d_M_takeSimple_104 : decode b_M_takeSimple 104 = .ok (.iinc 4 1, 3) := by decide +kernel
theorem d_M_takeSimple_107 : decode b_M_takeSimple 107 = .ok (.goto (-18), 3) := by decide +kernel
theorem d_M_takeSimple_110 : decode b_M_takeSimple 110 = .ok (.aload_n 0, 1) := by decide +kernel
theorem d_M_takeSimple_111 : decode b_M_takeSimple 111 = .ok (.iconst 0, 1) := by decide +kernel
theorem d_M_takeSimple_112 : decode b_M_takeSimple 112 = .ok (.putfield 105, 3) := by decide +kernel
theorem d_M_takeSimple_115 : decode b_M_takeSimple 115 = .ok (.aload_n 0, 1) := by decide +kernel
theorem d_M_takeSimple_116 : decode b_M_takeSimple 116 = .ok (.getfield 22, 3) := by decide +kernel
theorem d_M_takeSimple_119 : decode b_M_takeSimple 119 = .ok (.iconst 0, 1) := by decide +kernel
theorem d_M_takeSimple_120 : decode b_M_takeSimple 120 = .ok (.iaload, 1) := by decide +kernel
theorem d_M_takeSimple_121 : decode b_M_takeSimple 121 = .ok (.istore 4, 2) := by decide +kernel
theorem d_M_takeSimple_123 : decode b_M_takeSimple 123 = .ok (.iload 4, 2) := by decide +kernel
theorem d_M_takeSimple_125 : decode b_M_takeSimple 125 = .ok (.iconst 1, 1) := by decide +kernel
theorem d_M_takeSimple_126 : decode b_M_takeSimple 126 = .ok (.if_icmp .eq 91, 3) := by decide +kernel
theorem d_M_takeSimple_129 : decode b_M_takeSimple 129 = .ok (.aload_n 0, 1) := by decide +kernel
theorem d_M_takeSimple_130 : decode b_M_takeSimple 130 = .ok (.getfield 19, 3) := by decide +kernel
theorem d_M_takeSimple_133 : decode b_M_takeSimple 133 = .ok (.iload 4, 2) := by decide +kernel
theorem d_M_takeSimple_135 : decode b_M_takeSimple 135 = .ok (.iaload, 1) := by decide +kernel
theorem d_M_takeSimple_136 : decode b_M_takeSimple 136 = .ok (.istore 5, 2) := by decide +kernel
theorem d_M_takeSimple_138 : decode b_M_takeSimple 138 = .ok (.iload 5, 2) := by decide +kernel
theorem d_M_takeSimple_140 : decode b_M_takeSimple 140 = .ok (.ifCond .ge 44, 3) := by decide +kernel
theorem d_M_takeSimple_143 : decode b_M_takeSimple 143 = .ok (.aload_n 0, 1) := by decide +kernel
theorem d_M_takeSimple_144 : decode b_M_takeSimple 144 = .ok (.getfield 31, 3) := by decide +kernel
theorem d_M_takeSimple_147 : decode b_M_takeSimple 147 = .ok (.iload 5, 2) := by decide +kernel
theorem d_M_takeSimple_149 : decode b_M_takeSimple 149 = .ok (.ineg, 1) := by decide +kernel
theorem d_M_takeSimple_150 : decode b_M_takeSimple 150 = .ok (.iaload, 1) := by decide +kernel
theorem d_M_takeSimple_151 : decode b_M_takeSimple 151 = .ok (.istore 6, 2) := by decide +kernel
theorem d_M_takeSimple_153 : decode b_M_takeSimple 153 = .ok (.aload_n 0, 1) := by decide +kernel
theorem d_M_takeSimple_154 : decode b_M_takeSimple 154 = .ok (.getfield 31, 3) := by decide +kernel
theorem d_M_takeSimple_157 : decode b_M_takeSimple 157 = .ok (.iload 5, 2) := by decide +kernel
theorem d_M_takeSimple_159 : decode b_M_takeSimple 159 = .ok (.ineg, 1) := by decide +kernel
theorem d_M_takeSimple_160 : decode b_M_takeSimple 160 = .ok (.aload_n 0, 1) := by decide +kernel
theorem d_M_takeSimple_161 : decode b_M_takeSimple 161 = .ok (.getfield 31, 3) := by decide +kernel
theorem d_M_takeSimple_164 : decode b_M_takeSimple 164 = .ok (.iconst 1, 1) := by decide +kernel
theorem d_M_takeSimple_165 : decode b_M_takeSimple 165 = .ok (.iload 5, 2) := by decide +kernel
theorem d_M_takeSimple_167 : decode b_M_takeSimple 167 = .ok (.isub, 1) := by decide +kernel
theorem d_M_takeSimple_168 : decode b_M_takeSimple 168 = .ok (.iaload, 1) := by decide +kernel
theorem d_M_takeSimple_169 : decode b_M_takeSimple 169 = .ok (.iastore, 1) := by decide +kernel
theorem d_M_takeSimple_170 : decode b_M_takeSimple 170 = .ok (.aload_n 0, 1) := by decide +kernel
theorem d_M_takeSimple_171 : decode b_M_takeSimple 171 = .ok (.getfield 31, 3) := by decide +kernel
theorem d_M_takeSimple_174 : decode b_M_takeSimple 174 = .ok (.iconst 1, 1) := by decide +kernel
theorem d_M_takeSimple_175 : decode b_M_takeSimple 175 = .ok (.iload 5, 2) := by decide +kernel
theorem d_M_takeSimple_177 : decode b_M_takeSimple 177 = .ok (.isub, 1) := by decide +kernel
theorem d_M_takeSimple_178 : decode b_M_takeSimple 178 = .ok (.iload 6, 2) := by decide +kernel
theorem d_M_takeSimple_180 : decode b_M_takeSimple 180 = .ok (.iastore, 1) := by decide +kernel
theorem d_M_takeSimple_181 : decode b_M_takeSimple 181 = .ok (.goto 24, 3) := by decide +kernel
theorem d_M_takeSimple_184 : decode b_M_takeSimple 184 = .ok (.aload_n 0, 1) := by decide +kernel
theorem d_M_takeSimple_185 : decode b_M_takeSimple 185 = .ok (.getfield 28, 3) := by decide +kernel
theorem d_M_takeSimple_188 : decode b_M_takeSimple 188 = .ok (.aload_n 0, 1) := by decide +kernel
theorem d_M_takeSimple_189 : decode b_M_takeSimple 189 = .ok (.getfield 105, 3) := by decide +kernel
theorem d_M_takeSimple_192 : decode b_M_takeSimple 192 = .ok (.iload 5, 2) := by decide +kernel
theorem d_M_takeSimple_194 : decode b_M_takeSimple 194 = .ok (.iastore, 1) := by decide +kernel
theorem d_M_takeSimple_195 : decode b_M_takeSimple 195 = .ok (.aload_n 0, 1) := by decide +kernel
theorem d_M_takeSimple_196 : decode b_M_takeSimple 196 = .ok (.dup, 1) := by decide +kernel
theorem d_M_takeSimple_197 : decode b_M_takeSimple 197 = .ok (.getfield 105, 3) := by decide +kernel
theorem d_M_takeSimple_200 : decode b_M_takeSimple 200 = .ok (.iconst 1, 1) := by decide +kernel
theorem d_M_takeSimple_201 : decode b_M_takeSimple 201 = .ok (.iadd, 1) := by decide +kernel
theorem d_M_takeSimple_202 : decode b_M_takeSimple 202 = .ok (.putfield 105, 3) := by decide +kernel
theorem d_M_takeSimple_205 : decode b_M_takeSimple 205 = .ok (.aload_n 0, 1) := by decide +kernel
theorem d_M_takeSimple_206 : decode b_M_takeSimple 206 = .ok (.getfield 22, 3) := by decide +kernel
theorem d_M_takeSimple_209 : decode b_M_takeSimple 209 = .ok (.iload 4, 2) := by decide +kernel
theorem d_M_takeSimple_211 : decode b_M_takeSimple 211 = .ok (.iaload, 1) := by decide +kernel
theorem d_M_takeSimple_212 : decode b_M_takeSimple 212 = .ok (.istore 4, 2) := by decide +kernel
theorem d_M_takeSimple_214 : decode b_M_takeSimple 214 = .ok (.goto (-91), 3) := by decide +kernel
theorem d_M_takeSimple_217 : decode b_M_takeSimple 217 = .ok (.iconst 1, 1) := by decide +kernel
theorem d_M_takeSimple_218 : decode b_M_takeSimple 218 = .ok (.istore 4, 2) := by decide +kernel
theorem d_M_takeSimple_220 : decode b_M_takeSimple 220 = .ok (.iload 4, 2) := by decide +kernel
theorem d_M_takeSimple_222 : decode b_M_takeSimple 222 = .ok (.iload_n 1, 1) := by decide +kernel
theorem d_M_takeSimple_223 : decode b_M_takeSimple 223 = .ok (.if_icmp .gt 27, 3) := by decide +kernel
theorem d_M_takeSimple_226 : decode b_M_takeSimple 226 = .ok (.aload_n 0, 1) := by decide +kernel
theorem d_M_takeSimple_227 : decode b_M_takeSimple 227 = .ok (.getfield 34, 3) := by decide +kernel
theorem d_M_takeSimple_230 : decode b_M_takeSimple 230 = .ok (.iload_n 1, 1) := by decide +kernel
theorem d_M_takeSimple_231 : decode b_M_takeSimple 231 = .ok (.iconst 1, 1) := by decide +kernel
theorem d_M_takeSimple_232 : decode b_M_takeSimple 232 = .ok (.iadd, 1) := by decide +kernel
theorem d_M_takeSimple_233 : decode b_M_takeSimple 233 = .ok (.aload_n 0, 1) := by decide +kernel
theorem d_M_takeSimple_234 : decode b_M_takeSimple 234 = .ok (.getfield 31, 3) := by decide +kernel
theorem d_M_takeSimple_237 : decode b_M_takeSimple 237 = .ok (.iload 4, 2) := by decide +kernel
theorem d_M_takeSimple_239 : decode b_M_takeSimple 239 = .ok (.iaload, 1) := by decide +kernel
theorem d_M_takeSimple_240 : decode b_M_takeSimple 240 = .ok (.isub, 1) := by decide +kernel
theorem d_M_takeSimple_241 : decode b_M_takeSimple 241 = .ok (.iload 4, 2) := by decide +kernel
theorem d_M_takeSimple_243 : decode b_M_takeSimple 243 = .ok (.iastore, 1) := by decide +kernel
theorem d_M_takeSimple_244 : decode b_M_takeSimple 244 = .ok (.iinc 4 1, 3) := by decide +kernel
theorem d_M_takeSimple_247 : decode b_M_takeSimple 247 = .ok (.goto (-27), 3) := by decide +kernel
theorem d_M_takeSimple_250 : decode b_M_takeSimple 250 = .ok (.return_, 1) := by decide +kernel
theorem d_M_know_0 : decode b_M_know 0 = .ok (.aload_n 0, 1) := by decide +kernel
theorem d_M_know_1 : decode b_M_know 1 = .ok (.getfield 37, 3) := by decide +kernel
theorem d_M_know_4 : decode b_M_know 4 = .ok (.iload_n 1, 1) := by decide +kernel
theorem d_M_know_5 : decode b_M_know 5 = .ok (.baload, 1) := by decide +kernel
theorem d_M_know_6 : decode b_M_know 6 = .ok (.ifCond .eq 4, 3) := by decide +kernel
theorem d_M_know_9 : decode b_M_know 9 = .ok (.return_, 1) := by decide +kernel
theorem d_M_know_10 : decode b_M_know 10 = .ok (.aload_n 0, 1) := by decide +kernel
theorem d_M_know_11 : decode b_M_know 11 = .ok (.getfield 37, 3) := by decide +kernel
theorem d_M_know_14 : decode b_M_know 14 = .ok (.iload_n 1, 1) := by decide +kernel
theorem d_M_know_15 : decode b_M_know 15 = .ok (.iconst 1, 1) := by decide +kernel
theorem d_M_know_16 : decode b_M_know 16 = .ok (.bastore, 1) := by decide +kernel
theorem d_M_know_17 : decode b_M_know 17 = .ok (.aload_n 0, 1) := by decide +kernel
theorem d_M_know_18 : decode b_M_know 18 = .ok (.getfield 7, 3) := by decide +kernel
theorem d_M_know_21 : decode b_M_know 21 = .ok (.iload_n 1, 1) := by decide +kernel
theorem d_M_know_22 : decode b_M_know 22 = .ok (.iaload, 1) := by decide +kernel
theorem d_M_know_23 : decode b_M_know 23 = .ok (.istore_n 2, 1) := by decide +kernel
theorem d_M_know_24 : decode b_M_know 24 = .ok (.aload_n 0, 1) := by decide +kernel
theorem d_M_know_25 : decode b_M_know 25 = .ok (.iload_n 1, 1) := by decide +kernel
theorem d_M_know_26 : decode b_M_know 26 = .ok (.invokevirtual 123, 3) := by decide +kernel
theorem d_M_know_29 : decode b_M_know 29 = .ok (.aload_n 0, 1) := by decide +kernel
theorem d_M_know_30 : decode b_M_know 30 = .ok (.getfield 44, 3) := by decide +kernel
theorem d_M_know_33 : decode b_M_know 33 = .ok (.iload_n 1, 1) := by decide +kernel
theorem d_M_know_34 : decode b_M_know 34 = .ok (.iconst 0, 1) := by decide +kernel
theorem d_M_know_35 : decode b_M_know 35 = .ok (.iastore, 1) := by decide +kernel
theorem d_M_know_36 : decode b_M_know 36 = .ok (.aload_n 0, 1) := by decide +kernel
theorem d_M_know_37 : decode b_M_know 37 = .ok (.getfield 105, 3) := by decide +kernel
theorem d_M_know_40 : decode b_M_know 40 = .ok (.ifCond .le 126, 3) := by decide +kernel
theorem d_M_know_43 : decode b_M_know 43 = .ok (.aload_n 0, 1) := by decide +kernel
theorem d_M_know_44 : decode b_M_know 44 = .ok (.iload_n 2, 1) := by decide +kernel
theorem d_M_know_45 : decode b_M_know 45 = .ok (.invokevirtual 126, 3) := by decide +kernel
theorem d_M_know_48 : decode b_M_know 48 = .ok (.iconst 1, 1) := by decide +kernel
theorem d_M_know_49 : decode b_M_know 49 = .ok (.istore_n 3, 1) := by decide +kernel
theorem d_M_know_50 : decode b_M_know 50 = .ok (.iconst 1, 1) := by decide +kernel
theorem d_M_know_51 : decode b_M_know 51 = .ok (.istore 4, 2) := by decide +kernel
theorem d_M_know_53 : decode b_M_know 53 = .ok (.iload 4, 2) := by decide +kernel
theorem d_M_know_55 : decode b_M_know 55 = .ok (.iload_n 2, 1) := by decide +kernel
theorem d_M_know_56 : decode b_M_know 56 = .ok (.if_icmp .gt 35, 3) := by decide +kernel
theorem d_M_know_59 : decode b_M_know 59 = .ok (.iload_n 3, 1) := by decide +kernel
theorem d_M_know_60 : decode b_M_know 60 = .ok (.ifCond .eq 23, 3) := by decide +kernel
theorem d_M_know_63 : decode b_M_know 63 = .ok (.aload_n 0, 1) := by decide +kernel
theorem d_M_know_64 : decode b_M_know 64 = .ok (.getfield 34, 3) := by decide +kernel
theorem d_M_know_67 : decode b_M_know 67 = .ok (.iload 4, 2) := by decide +kernel
theorem d_M_know_69 : decode b_M_know 69 = .ok (.iaload, 1) := by decide +kernel
theorem d_M_know_70 : decode b_M_know 70 = .ok (.iload_n 2, 1) := by decide +kernel
theorem d_M_know_71 : decode b_M_know 71 = .ok (.iconst 1, 1) := by decide +kernel
theorem d_M_know_72 : decode b_M_know 72 = .ok (.iadd, 1) := by decide +kernel
theorem d_M_know_73 : decode b_M_know 73 = .ok (.iload 4, 2) := by decide +kernel
theorem d_M_know_75 : decode b_M_know 75 = .ok (.isub, 1) := by decide +kernel
theorem d_M_know_76 : decode b_M_know 76 = .ok (.if_icmp .ne 7, 3) := by decide +kernel
theorem d_M_know_79 : decode b_M_know 79 = .ok (.iconst 1, 1) := by decide +kernel
theorem d_M_know_80 : decode b_M_know 80 = .ok (.goto 4, 3) := by decide +kernel
theorem d_M_know_83 : decode b_M_know 83 = .ok (.iconst 0, 1) := by decide +kernel
theorem d_M_know_84 : decode b_M_know 84 = .ok (.istore_n 3, 1) := by decide +kernel
theorem d_M_know_85 : decode b_M_know 85 = .ok (.iinc 4 1, 3) := by decide +kernel
theorem d_M_know_88 : decode b_M_know 88 = .ok (.goto (-35), 3) := by decide +kernel
theorem d_M_know_91 : decode b_M_know 91 = .ok (.iload_n 3, 1) := by decide +kernel
theorem d_M_know_92 : decode b_M_know 92 = .ok (.ifCond .eq 16, 3) := by decide +kernel
theorem d_M_know_95 : decode b_M_know 95 = .ok (.aload_n 0, 1) := by decide +kernel
theorem d_M_know_96 : decode b_M_know 96 = .ok (.getfield 41, 3) := by decide +kernel
theorem d_M_know_99 : decode b_M_know 99 = .ok (.iload_n 1, 1) := by decide +kernel
theorem d_M_know_100 : decode b_M_know 100 = .ok (.dup2, 1) := by decide +kernel
theorem d_M_know_101 : decode b_M_know 101 = .ok (.iaload, 1) := by decide +kernel
theorem d_M_know_102 : decode b_M_know 102 = .ok (.iconst 1, 1) := by decide +kernel
theorem d_M_know_103 : decode b_M_know 103 = .ok (.iadd, 1) := by decide +kernel
theorem d_M_know_104 : decode b_M_know 104 = .ok (.iastore, 1) := by decide +kernel
theorem d_M_know_105 : decode b_M_know 105 = .ok (.goto 58, 3) := by decide +kernel
theorem d_M_know_108 : decode b_M_know 108 = .ok (.iconst 1, 1) := by decide +kernel
theorem d_M_know_109 : decode b_M_know 109 = .ok (.istore 4, 2) := by decide +kernel
theorem d_M_know_111 : decode b_M_know 111 = .ok (.iload 4, 2) := by decide +kernel
theorem d_M_know_113 : decode b_M_know 113 = .ok (.iload_n 2, 1) := by decide +kernel
theorem d_M_know_114 : decode b_M_know 114 = .ok (.if_icmp .gt 39, 3) := by decide +kernel
theorem d_M_know_117 : decode b_M_know 117 = .ok (.aload_n 0, 1) := by decide +kernel
theorem d_M_know_118 : decode b_M_know 118 = .ok (.getfield 47, 3) := by decide +kernel
theorem d_M_know_121 : decode b_M_know 121 = .ok (.sipush 576, 3) := by decide +kernel
theorem d_M_know_124 : decode b_M_know 124 = .ok (.iload_n 1, 1) := by decide +kernel
theorem d_M_know_125 : decode b_M_know 125 = .ok (.imul, 1) := by decide +kernel
theorem d_M_know_126 : decode b_M_know 126 = .ok (.bipush 9, 2) := by decide +kernel
theorem d_M_know_128 : decode b_M_know 128 = .ok (.aload_n 0, 1) := by decide +kernel
theorem d_M_know_129 : decode b_M_know 129 = .ok (.getfield 44, 3) := by decide +kernel
theorem d_M_know_132 : decode b_M_know 132 = .ok (.iload_n 1, 1) := by decide +kernel
theorem d_M_know_133 : decode b_M_know 133 = .ok (.iaload, 1) := by decide +kernel
theorem d_M_know_134 : decode b_M_know 134 = .ok (.imul, 1) := by decide +kernel
theorem d_M_know_135 : decode b_M_know 135 = .ok (.iadd, 1) := by decide +kernel
theorem d_M_know_136 : decode b_M_know 136 = .ok (.iload 4, 2) := by decide +kernel
theorem d_M_know_138 : decode b_M_know 138 = .ok (.iadd, 1) := by decide +kernel
theorem d_M_know_139 : decode b_M_know 139 = .ok (.aload_n 0, 1) := by decide +kernel
theorem d_M_know_140 : decode b_M_know 140 = .ok (.getfield 34, 3) := by decide +kernel
theorem d_M_know_143 : decode b_M_know 143 = .ok (.iload 4, 2) := by decide +kernel
theorem d_M_know_145 : decode b_M_know 145 = .ok (.iaload, 1) := by decide +kernel
theorem d_M_know_146 : decode b_M_know 146 = .ok (.iastore, 1) := by decide +kernel
theorem d_M_know_147 : decode b_M_know 147 = .ok (.iinc 4 1, 3) := by decide +kernel
theorem d_M_know_150 : decode b_M_know 150 = .ok (.goto (-39), 3) := by decide +kernel
theorem d_M_know_153 : decode b_M_know 153 = .ok (.aload_n 0, 1) := by decide +kernel
theorem d_M_know_154 : decode b_M_know 154 = .ok (.getfield 44, 3) := by decide +kernel
theorem d_M_know_157 : decode b_M_know 157 = .ok (.iload_n 1, 1) := by decide +kernel
theorem d_M_know_158 : decode b_M_know 158 = .ok (.dup2, 1) := by decide +kernel
theorem d_M_know_159 : decode b_M_know 159 = .ok (.iaload, 1) := by decide +kernel
theorem d_M_know_160 : decode b_M_know 160 = .ok (.iconst 1, 1) := by decide +kernel
theorem d_M_know_161 : decode b_M_know 161 = .ok (.iadd, 1) := by decide +kernel
theorem d_M_know_162 : decode b_M_know 162 = .ok (.iastore, 1) := by decide +kernel
theorem d_M_know_163 : decode b_M_know 163 = .ok (.goto (-127), 3) := by decide +kernel
theorem d_M_know_166 : decode b_M_know 166 = .ok (.return_, 1) := by decide +kernel
theorem d_M_same_0 : decode b_M_same 0 = .ok (.iload_n 1, 1) := by decide +kernel
theorem d_M_same_1 : decode b_M_same 1 = .ok (.invokestatic 60, 3) := by decide +kernel
theorem d_M_same_4 : decode b_M_same 4 = .ok (.ifCond .eq 25, 3) := by decide +kernel
theorem d_M_same_7 : decode b_M_same 7 = .ok (.iload_n 2, 1) := by decide +kernel
theorem d_M_same_8 : decode b_M_same 8 = .ok (.invokestatic 60, 3) := by decide +kernel
theorem d_M_same_11 : decode b_M_same 11 = .ok (.ifCond .eq 18, 3) := by decide +kernel
theorem d_M_same_14 : decode b_M_same 14 = .ok (.aload_n 0, 1) := by decide +kernel
theorem d_M_same_15 : decode b_M_same 15 = .ok (.getfield 7, 3) := by decide +kernel
theorem d_M_same_18 : decode b_M_same 18 = .ok (.iload_n 1, 1) := by decide +kernel
theorem d_M_same_19 : decode b_M_same 19 = .ok (.iaload, 1) := by decide +kernel
theorem d_M_same_20 : decode b_M_same 20 = .ok (.aload_n 0, 1) := by decide +kernel
theorem d_M_same_21 : decode b_M_same 21 = .ok (.getfield 7, 3) := by decide +kernel
theorem d_M_same_24 : decode b_M_same 24 = .ok (.iload_n 2, 1) := by decide +kernel
theorem d_M_same_25 : decode b_M_same 25 = .ok (.iaload, 1) := by decide +kernel
theorem d_M_same_26 : decode b_M_same 26 = .ok (.if_icmp .eq 5, 3) := by decide +kernel
theorem d_M_same_29 : decode b_M_same 29 = .ok (.iconst 0, 1) := by decide +kernel
theorem d_M_same_30 : decode b_M_same 30 = .ok (.ireturn, 1) := by decide +kernel
theorem d_M_same_31 : decode b_M_same 31 = .ok (.aload_n 0, 1) := by decide +kernel
theorem d_M_same_32 : decode b_M_same 32 = .ok (.iload_n 1, 1) := by decide +kernel
theorem d_M_same_33 : decode b_M_same 33 = .ok (.invokevirtual 129, 3) := by decide +kernel
theorem d_M_same_36 : decode b_M_same 36 = .ok (.aload_n 0, 1) := by decide +kernel
theorem d_M_same_37 : decode b_M_same 37 = .ok (.iload_n 2, 1) := by decide +kernel
theorem d_M_same_38 : decode b_M_same 38 = .ok (.invokevirtual 129, 3) := by decide +kernel
theorem d_M_same_41 : decode b_M_same 41 = .ok (.aload_n 0, 1) := by decide +kernel
theorem d_M_same_42 : decode b_M_same 42 = .ok (.getfield 41, 3) := by decide +kernel
theorem d_M_same_45 : decode b_M_same 45 = .ok (.iload_n 1, 1) := by decide +kernel
theorem d_M_same_46 : decode b_M_same 46 = .ok (.iaload, 1) := by decide +kernel
theorem d_M_same_47 : decode b_M_same 47 = .ok (.aload_n 0, 1) := by decide +kernel
theorem d_M_same_48 : decode b_M_same 48 = .ok (.getfield 41, 3) := by decide +kernel
theorem d_M_same_51 : decode b_M_same 51 = .ok (.iload_n 2, 1) := by decide +kernel
theorem d_M_same_52 : decode b_M_same 52 = .ok (.iaload, 1) := by decide +kernel
theorem d_M_same_53 : decode b_M_same 53 = .ok (.if_icmp .ne 18, 3) := by decide +kernel
theorem d_M_same_56 : decode b_M_same 56 = .ok (.aload_n 0, 1) := by decide +kernel
theorem d_M_same_57 : decode b_M_same 57 = .ok (.getfield 44, 3) := by decide +kernel
theorem d_M_same_60 : decode b_M_same 60 = .ok (.iload_n 1, 1) := by decide +kernel
theorem d_M_same_61 : decode b_M_same 61 = .ok (.iaload, 1) := by decide +kernel
theorem d_M_same_62 : decode b_M_same 62 = .ok (.aload_n 0, 1) := by decide +kernel
theorem d_M_same_63 : decode b_M_same 63 = .ok (.getfield 44, 3) := by decide +kernel
theorem d_M_same_66 : decode b_M_same 66 = .ok (.iload_n 2, 1) := by decide +kernel
theorem d_M_same_67 : decode b_M_same 67 = .ok (.iaload, 1) := by decide +kernel
theorem d_M_same_68 : decode b_M_same 68 = .ok (.if_icmp .eq 5, 3) := by decide +kernel
theorem d_M_same_71 : decode b_M_same 71 = .ok (.iconst 0, 1) := by decide +kernel
theorem d_M_same_72 : decode b_M_same 72 = .ok (.ireturn, 1) := by decide +kernel
theorem d_M_same_73 : decode b_M_same 73 = .ok (.iconst 0, 1) := by decide +kernel
theorem d_M_same_74 : decode b_M_same 74 = .ok (.istore_n 3, 1) := by decide +kernel
theorem d_M_same_75 : decode b_M_same 75 = .ok (.iload_n 3, 1) := by decide +kernel
theorem d_M_same_76 : decode b_M_same 76 = .ok (.aload_n 0, 1) := by decide +kernel
theorem d_M_same_77 : decode b_M_same 77 = .ok (.getfield 44, 3) := by decide +kernel
theorem d_M_same_80 : decode b_M_same 80 = .ok (.iload_n 1, 1) := by decide +kernel
theorem d_M_same_81 : decode b_M_same 81 = .ok (.iaload, 1) := by decide +kernel
theorem d_M_same_82 : decode b_M_same 82 = .ok (.if_icmp .ge 70, 3) := by decide +kernel
theorem d_M_same_85 : decode b_M_same 85 = .ok (.iconst 1, 1) := by decide +kernel
theorem d_M_same_86 : decode b_M_same 86 = .ok (.istore 4, 2) := by decide +kernel
theorem d_M_same_88 : decode b_M_same 88 = .ok (.iload 4, 2) := by decide +kernel
theorem d_M_same_90 : decode b_M_same 90 = .ok (.aload_n 0, 1) := by decide +kernel
theorem d_M_same_91 : decode b_M_same 91 = .ok (.getfield 7, 3) := by decide +kernel
theorem d_M_same_94 : decode b_M_same 94 = .ok (.iload_n 1, 1) := by decide +kernel
theorem d_M_same_95 : decode b_M_same 95 = .ok (.iaload, 1) := by decide +kernel
theorem d_M_same_96 : decode b_M_same 96 = .ok (.if_icmp .gt 50, 3) := by decide +kernel
theorem d_M_same_99 : decode b_M_same 99 = .ok (.aload_n 0, 1) := by decide +kernel
theorem d_M_same_100 : decode b_M_same 100 = .ok (.getfield 47, 3) := by decide +kernel
theorem d_M_same_103 : decode b_M_same 103 = .ok (.sipush 576, 3) := by decide +kernel
theorem d_M_same_106 : decode b_M_same 106 = .ok (.iload_n 1, 1) := by decide +kernel
theorem d_M_same_107 : decode b_M_same 107 = .ok (.imul, 1) := by decide +kernel
theorem d_M_same_108 : decode b_M_same 108 = .ok (.bipush 9, 2) := by decide +kernel
theorem d_M_same_110 : decode b_M_same 110 = .ok (.iload_n 3, 1) := by decide +kernel
theorem d_M_same_111 : decode b_M_same 111 = .ok (.imul, 1) := by decide +kernel
theorem d_M_same_112 : decode b_M_same 112 = .ok (.iadd, 1) := by decide +kernel
theorem d_M_same_113 : decode b_M_same 113 = .ok (.iload 4, 2) := by decide +kernel
theorem d_M_same_115 : decode b_M_same 115 = .ok (.iadd, 1) := by decide +kernel
theorem d_M_same_116 : decode b_M_same 116 = .ok (.iaload, 1) := by decide +kernel
theorem d_M_same_117 : decode b_M_same 117 = .ok (.aload_n 0, 1) := by decide +kernel
theorem d_M_same_118 : decode b_M_same 118 = .ok (.getfield 47, 3) := by decide +kernel
theorem d_M_same_121 : decode b_M_same 121 = .ok (.sipush 576, 3) := by decide +kernel
theorem d_M_same_124 : decode b_M_same 124 = .ok (.iload_n 2, 1) := by decide +kernel
theorem d_M_same_125 : decode b_M_same 125 = .ok (.imul, 1) := by decide +kernel
theorem d_M_same_126 : decode b_M_same 126 = .ok (.bipush 9, 2) := by decide +kernel
theorem d_M_same_128 : decode b_M_same 128 = .ok (.iload_n 3, 1) := by decide +kernel
theorem d_M_same_129 : decode b_M_same 129 = .ok (.imul, 1) := by decide +kernel
theorem d_M_same_130 : decode b_M_same 130 = .ok (.iadd, 1) := by decide +kernel
theorem d_M_same_131 : decode b_M_same 131 = .ok (.iload 4, 2) := by decide +kernel
theorem d_M_same_133 : decode b_M_same 133 = .ok (.iadd, 1) := by decide +kernel
theorem d_M_same_134 : decode b_M_same 134 = .ok (.iaload, 1) := by decide +kernel
theorem d_M_same_135 : decode b_M_same 135 = .ok (.if_icmp .eq 5, 3) := by decide +kernel
theorem d_M_same_138 : decode b_M_same 138 = .ok (.iconst 0, 1) := by decide +kernel
theorem d_M_same_139 : decode b_M_same 139 = .ok (.ireturn, 1) := by decide +kernel
theorem d_M_same_140 : decode b_M_same 140 = .ok (.iinc 4 1, 3) := by decide +kernel
theorem d_M_same_143 : decode b_M_same 143 = .ok (.goto (-55), 3) := by decide +kernel
theorem d_M_same_146 : decode b_M_same 146 = .ok (.iinc 3 1, 3) := by decide +kernel
theorem d_M_same_149 : decode b_M_same 149 = .ok (.goto (-74), 3) := by decide +kernel
theorem d_M_same_152 : decode b_M_same 152 = .ok (.iconst 1, 1) := by decide +kernel
theorem d_M_same_153 : decode b_M_same 153 = .ok (.ireturn, 1) := by decide +kernel
theorem d_M_form_0 : decode b_M_form 0 = .ok (.iload_n 1, 1) := by decide +kernel
theorem d_M_form_1 : decode b_M_form 1 = .ok (.invokestatic 60, 3) := by decide +kernel
theorem d_M_form_4 : decode b_M_form 4 = .ok (.ifCond .ne 5, 3) := by decide +kernel
theorem d_M_form_7 : decode b_M_form 7 = .ok (.iconst 0, 1) := by decide +kernel
theorem d_M_form_8 : decode b_M_form 8 = .ok (.ireturn, 1) := by decide +kernel
theorem d_M_form_9 : decode b_M_form 9 = .ok (.aload_n 0, 1) := by decide +kernel
theorem d_M_form_10 : decode b_M_form 10 = .ok (.iload_n 1, 1) := by decide +kernel
theorem d_M_form_11 : decode b_M_form 11 = .ok (.invokevirtual 129, 3) := by decide +kernel
theorem d_M_form_14 : decode b_M_form 14 = .ok (.iload_n 2, 1) := by decide +kernel
theorem d_M_form_15 : decode b_M_form 15 = .ok (.ifCond .ne 10, 3) := by decide +kernel
theorem d_M_form_18 : decode b_M_form 18 = .ok (.aload_n 0, 1) := by decide +kernel
theorem d_M_form_19 : decode b_M_form 19 = .ok (.getfield 41, 3) := by decide +kernel
theorem d_M_form_22 : decode b_M_form 22 = .ok (.iload_n 1, 1) := by decide +kernel
theorem d_M_form_23 : decode b_M_form 23 = .ok (.iaload, 1) := by decide +kernel
theorem d_M_form_24 : decode b_M_form 24 = .ok (.ireturn, 1) := by decide +kernel
theorem d_M_form_25 : decode b_M_form 25 = .ok (.iload_n 2, 1) := by decide +kernel
theorem d_M_form_26 : decode b_M_form 26 = .ok (.ifCond .lt 28, 3) := by decide +kernel
theorem d_M_form_29 : decode b_M_form 29 = .ok (.iload_n 2, 1) := by decide +kernel
theorem d_M_form_30 : decode b_M_form 30 = .ok (.aload_n 0, 1) := by decide +kernel
theorem d_M_form_31 : decode b_M_form 31 = .ok (.getfield 44, 3) := by decide +kernel
theorem d_M_form_34 : decode b_M_form 34 = .ok (.iload_n 1, 1) := by decide +kernel
theorem d_M_form_35 : decode b_M_form 35 = .ok (.iaload, 1) := by decide +kernel
theorem d_M_form_36 : decode b_M_form 36 = .ok (.if_icmp .gt 18, 3) := by decide +kernel
theorem d_M_form_39 : decode b_M_form 39 = .ok (.iload_n 3, 1) := by decide +kernel
theorem d_M_form_40 : decode b_M_form 40 = .ok (.iconst 1, 1) := by decide +kernel
theorem d_M_form_41 : decode b_M_form 41 = .ok (.if_icmp .lt 13, 3) := by decide +kernel
theorem d_M_form_44 : decode b_M_form 44 = .ok (.iload_n 3, 1) := by decide +kernel
theorem d_M_form_45 : decode b_M_form 45 = .ok (.aload_n 0, 1) := by decide +kernel
theorem d_M_form_46 : decode b_M_form 46 = .ok (.getfield 7, 3) := by decide +kernel
theorem d_M_form_49 : decode b_M_form 49 = .ok (.iload_n 1, 1) := by decide +kernel
theorem d_M_form_50 : decode b_M_form 50 = .ok (.iaload, 1) := by decide +kernel
theorem d_M_form_51 : decode b_M_form 51 = .ok (.if_icmp .le 7, 3) := by decide +kernel
theorem d_M_form_54 : decode b_M_form 54 = .ok (.iconst 0, 1) := by decide +kernel
theorem d_M_form_55 : decode b_M_form 55 = .ok (.goto 22, 3) := by decide +kernel
theorem d_M_form_58 : decode b_M_form 58 = .ok (.aload_n 0, 1) := by decide +kernel
theorem d_M_form_59 : decode b_M_form 59 = .ok (.getfield 47, 3) := by decide +kernel
theorem d_M_form_62 : decode b_M_form 62 = .ok (.sipush 576, 3) := by decide +kernel
theorem d_M_form_65 : decode b_M_form 65 = .ok (.iload_n 1, 1) := by decide +kernel
theorem d_M_form_66 : decode b_M_form 66 = .ok (.imul, 1) := by decide +kernel
theorem d_M_form_67 : decode b_M_form 67 = .ok (.bipush 9, 2) := by decide +kernel
theorem d_M_form_69 : decode b_M_form 69 = .ok (.iload_n 2, 1) := by decide +kernel
theorem d_M_form_70 : decode b_M_form 70 = .ok (.iconst 1, 1) := by decide +kernel
theorem d_M_form_71 : decode b_M_form 71 = .ok (.isub, 1) := by decide +kernel
theorem d_M_form_72 : decode b_M_form 72 = .ok (.imul, 1) := by decide +kernel
theorem d_M_form_73 : decode b_M_form 73 = .ok (.iadd, 1) := by decide +kernel
theorem d_M_form_74 : decode b_M_form 74 = .ok (.iload_n 3, 1) := by decide +kernel
theorem d_M_form_75 : decode b_M_form 75 = .ok (.iadd, 1) := by decide +kernel
theorem d_M_form_76 : decode b_M_form 76 = .ok (.iaload, 1) := by decide +kernel
theorem d_M_form_77 : decode b_M_form 77 = .ok (.ireturn, 1) := by decide +kernel
theorem d_M_length_0 : decode b_M_length 0 = .ok (.iload_n 1, 1) := by decide +kernel
theorem d_M_length_1 : decode b_M_length 1 = .ok (.invokestatic 60, 3) := by decide +kernel
theorem d_M_length_4 : decode b_M_length 4 = .ok (.ifCond .ne 5, 3) := by decide +kernel
theorem d_M_length_7 : decode b_M_length 7 = .ok (.iconst (-1), 1) := by decide +kernel
theorem d_M_length_8 : decode b_M_length 8 = .ok (.ireturn, 1) := by decide +kernel
theorem d_M_length_9 : decode b_M_length 9 = .ok (.aload_n 0, 1) := by decide +kernel
theorem d_M_length_10 : decode b_M_length 10 = .ok (.iload_n 1, 1) := by decide +kernel
theorem d_M_length_11 : decode b_M_length 11 = .ok (.invokevirtual 129, 3) := by decide +kernel
theorem d_M_length_14 : decode b_M_length 14 = .ok (.aload_n 0, 1) := by decide +kernel
theorem d_M_length_15 : decode b_M_length 15 = .ok (.getfield 44, 3) := by decide +kernel
theorem d_M_length_18 : decode b_M_length 18 = .ok (.iload_n 1, 1) := by decide +kernel
theorem d_M_length_19 : decode b_M_length 19 = .ok (.iaload, 1) := by decide +kernel
theorem d_M_length_20 : decode b_M_length 20 = .ok (.ireturn, 1) := by decide +kernel
theorem d_M_close_0 : decode b_M_close 0 = .ok (.aload_n 0, 1) := by decide +kernel
theorem d_M_close_1 : decode b_M_close 1 = .ok (.getfield 7, 3) := by decide +kernel
theorem d_M_close_4 : decode b_M_close 4 = .ok (.iload_n 1, 1) := by decide +kernel
theorem d_M_close_5 : decode b_M_close 5 = .ok (.iaload, 1) := by decide +kernel
theorem d_M_close_6 : decode b_M_close 6 = .ok (.istore_n 2, 1) := by decide +kernel
theorem d_M_close_7 : decode b_M_close 7 = .ok (.iconst 1, 1) := by decide +kernel
theorem d_M_close_8 : decode b_M_close 8 = .ok (.istore_n 3, 1) := by decide +kernel
theorem d_M_close_9 : decode b_M_close 9 = .ok (.iload_n 3, 1) := by decide +kernel
theorem d_M_close_10 : decode b_M_close 10 = .ok (.iload_n 2, 1) := by decide +kernel
theorem d_M_close_11 : decode b_M_close 11 = .ok (.if_icmp .gt 16, 3) := by decide +kernel
theorem d_M_close_14 : decode b_M_close 14 = .ok (.aload_n 0, 1) := by decide +kernel
theorem d_M_close_15 : decode b_M_close 15 = .ok (.getfield 50, 3) := by decide +kernel
theorem d_M_close_18 : decode b_M_close 18 = .ok (.iload_n 3, 1) := by decide +kernel
theorem d_M_close_19 : decode b_M_close 19 = .ok (.iload_n 3, 1) := by decide +kernel
theorem d_M_close_20 : decode b_M_close 20 = .ok (.iastore, 1) := by decide +kernel
theorem d_M_close_21 : decode b_M_close 21 = .ok (.iinc 3 1, 3) := by decide +kernel
theorem d_M_close_24 : decode b_M_close 24 = .ok (.goto (-15), 3) := by decide +kernel
theorem d_M_close_27 : decode b_M_close 27 = .ok (.iconst 0, 1) := by decide +kernel
theorem d_M_close_28 : decode b_M_close 28 = .ok (.istore_n 3, 1) := by decide +kernel
theorem d_M_close_29 : decode b_M_close 29 = .ok (.iload_n 3, 1) := by decide +kernel
theorem d_M_close_30 : decode b_M_close 30 = .ok (.aload_n 0, 1) := by decide +kernel
theorem d_M_close_31 : decode b_M_close 31 = .ok (.getfield 13, 3) := by decide +kernel
theorem d_M_close_34 : decode b_M_close 34 = .ok (.iload_n 1, 1) := by decide +kernel
theorem d_M_close_35 : decode b_M_close 35 = .ok (.iaload, 1) := by decide +kernel
theorem d_M_close_36 : decode b_M_close 36 = .ok (.if_icmp .ge 141, 3) := by decide +kernel
theorem d_M_close_39 : decode b_M_close 39 = .ok (.aload_n 0, 1) := by decide +kernel
theorem d_M_close_40 : decode b_M_close 40 = .ok (.iload_n 1, 1) := by decide +kernel
theorem d_M_close_41 : decode b_M_close 41 = .ok (.iload_n 3, 1) := by decide +kernel
theorem d_M_close_42 : decode b_M_close 42 = .ok (.invokevirtual 64, 3) := by decide +kernel
theorem d_M_close_45 : decode b_M_close 45 = .ok (.istore 4, 2) := by decide +kernel
theorem d_M_close_47 : decode b_M_close 47 = .ok (.iload 4, 2) := by decide +kernel
theorem d_M_close_49 : decode b_M_close 49 = .ok (.invokestatic 68, 3) := by decide +kernel
theorem d_M_close_52 : decode b_M_close 52 = .ok (.istore 5, 2) := by decide +kernel
theorem d_M_close_54 : decode b_M_close 54 = .ok (.iload_n 2, 1) := by decide +kernel
theorem d_M_close_55 : decode b_M_close 55 = .ok (.iconst 2, 1) := by decide +kernel
theorem d_M_close_56 : decode b_M_close 56 = .ok (.iload_n 3, 1) := by decide +kernel
theorem d_M_close_57 : decode b_M_close 57 = .ok (.imul, 1) := by decide +kernel
theorem d_M_close_58 : decode b_M_close 58 = .ok (.iadd, 1) := by decide +kernel
theorem d_M_close_59 : decode b_M_close 59 = .ok (.iconst 1, 1) := by decide +kernel
theorem d_M_close_60 : decode b_M_close 60 = .ok (.iadd, 1) := by decide +kernel
theorem d_M_close_61 : decode b_M_close 61 = .ok (.istore 6, 2) := by decide +kernel
theorem d_M_close_63 : decode b_M_close 63 = .ok (.iload 4, 2) := by decide +kernel
theorem d_M_close_65 : decode b_M_close 65 = .ok (.ifCond .le 7, 3) := by decide +kernel
theorem d_M_close_68 : decode b_M_close 68 = .ok (.iconst 0, 1) := by decide +kernel
theorem d_M_close_69 : decode b_M_close 69 = .ok (.goto 4, 3) := by decide +kernel
theorem d_M_close_72 : decode b_M_close 72 = .ok (.iconst 1, 1) := by decide +kernel
theorem d_M_close_73 : decode b_M_close 73 = .ok (.istore 7, 2) := by decide +kernel
theorem d_M_close_75 : decode b_M_close 75 = .ok (.aload_n 0, 1) := by decide +kernel
theorem d_M_close_76 : decode b_M_close 76 = .ok (.getfield 53, 3) := by decide +kernel
theorem d_M_close_79 : decode b_M_close 79 = .ok (.iconst 4, 1) := by decide +kernel
theorem d_M_close_80 : decode b_M_close 80 = .ok (.iload_n 3, 1) := by decide +kernel
theorem d_M_close_81 : decode b_M_close 81 = .ok (.imul, 1) := by decide +kernel
theorem d_M_close_82 : decode b_M_close 82 = .ok (.iload 7, 2) := by decide +kernel
theorem d_M_close_84 : decode b_M_close 84 = .ok (.iadd, 1) := by decide +kernel
theorem d_M_close_85 : decode b_M_close 85 = .ok (.aload_n 0, 1) := by decide +kernel
theorem d_M_close_86 : decode b_M_close 86 = .ok (.getfield 50, 3) := by decide +kernel
theorem d_M_close_89 : decode b_M_close 89 = .ok (.iload 5, 2) := by decide +kernel
theorem d_M_close_91 : decode b_M_close 91 = .ok (.iaload, 1) := by decide +kernel
theorem d_M_close_92 : decode b_M_close 92 = .ok (.iastore, 1) := by decide +kernel
theorem d_M_close_93 : decode b_M_close 93 = .ok (.aload_n 0, 1) := by decide +kernel
theorem d_M_close_94 : decode b_M_close 94 = .ok (.getfield 53, 3) := by decide +kernel
theorem d_M_close_97 : decode b_M_close 97 = .ok (.iconst 4, 1) := by decide +kernel
theorem d_M_close_98 : decode b_M_close 98 = .ok (.iload_n 3, 1) := by decide +kernel
theorem d_M_close_99 : decode b_M_close 99 = .ok (.imul, 1) := by decide +kernel
theorem d_M_close_100 : decode b_M_close 100 = .ok (.iload 7, 2) := by decide +kernel
theorem d_M_close_102 : decode b_M_close 102 = .ok (.iadd, 1) := by decide +kernel
theorem d_M_close_103 : decode b_M_close 103 = .ok (.iconst 1, 1) := by decide +kernel
theorem d_M_close_104 : decode b_M_close 104 = .ok (.iadd, 1) := by decide +kernel
theorem d_M_close_105 : decode b_M_close 105 = .ok (.iload 6, 2) := by decide +kernel
theorem d_M_close_107 : decode b_M_close 107 = .ok (.iastore, 1) := by decide +kernel
theorem d_M_close_108 : decode b_M_close 108 = .ok (.aload_n 0, 1) := by decide +kernel
theorem d_M_close_109 : decode b_M_close 109 = .ok (.getfield 53, 3) := by decide +kernel
theorem d_M_close_112 : decode b_M_close 112 = .ok (.iconst 4, 1) := by decide +kernel
theorem d_M_close_113 : decode b_M_close 113 = .ok (.iload_n 3, 1) := by decide +kernel
theorem d_M_close_114 : decode b_M_close 114 = .ok (.imul, 1) := by decide +kernel
theorem d_M_close_115 : decode b_M_close 115 = .ok (.iload 7, 2) := by decide +kernel
theorem d_M_close_117 : decode b_M_close 117 = .ok (.iadd, 1) := by decide +kernel
theorem d_M_close_118 : decode b_M_close 118 = .ok (.iconst 2, 1) := by decide +kernel
theorem d_M_close_119 : decode b_M_close 119 = .ok (.iadd, 1) := by decide +kernel
theorem d_M_close_120 : decode b_M_close 120 = .ok (.iload 6, 2) := by decide +kernel
theorem d_M_close_122 : decode b_M_close 122 = .ok (.iconst 1, 1) := by decide +kernel
theorem d_M_close_123 : decode b_M_close 123 = .ok (.iadd, 1) := by decide +kernel
theorem d_M_close_124 : decode b_M_close 124 = .ok (.iastore, 1) := by decide +kernel
theorem d_M_close_125 : decode b_M_close 125 = .ok (.aload_n 0, 1) := by decide +kernel
theorem d_M_close_126 : decode b_M_close 126 = .ok (.getfield 53, 3) := by decide +kernel
theorem d_M_close_129 : decode b_M_close 129 = .ok (.iconst 4, 1) := by decide +kernel
theorem d_M_close_130 : decode b_M_close 130 = .ok (.iload_n 3, 1) := by decide +kernel
theorem d_M_close_131 : decode b_M_close 131 = .ok (.imul, 1) := by decide +kernel
theorem d_M_close_132 : decode b_M_close 132 = .ok (.iload 7, 2) := by decide +kernel
theorem d_M_close_134 : decode b_M_close 134 = .ok (.iconst 3, 1) := by decide +kernel
theorem d_M_close_135 : decode b_M_close 135 = .ok (.iadd, 1) := by decide +kernel
theorem d_M_close_136 : decode b_M_close 136 = .ok (.iconst 4, 1) := by decide +kernel
theorem d_M_close_137 : decode b_M_close 137 = .ok (.irem, 1) := by decide +kernel
theorem d_M_close_138 : decode b_M_close 138 = .ok (.iadd, 1) := by decide +kernel
theorem d_M_close_139 : decode b_M_close 139 = .ok (.aload_n 0, 1) := by decide +kernel
theorem d_M_close_140 : decode b_M_close 140 = .ok (.getfield 50, 3) := by decide +kernel
theorem d_M_close_143 : decode b_M_close 143 = .ok (.iload 5, 2) := by decide +kernel
theorem d_M_close_145 : decode b_M_close 145 = .ok (.iconst 1, 1) := by decide +kernel
theorem d_M_close_146 : decode b_M_close 146 = .ok (.iadd, 1) := by decide +kernel
theorem d_M_close_147 : decode b_M_close 147 = .ok (.iaload, 1) := by decide +kernel
theorem d_M_close_148 : decode b_M_close 148 = .ok (.iastore, 1) := by decide +kernel
theorem d_M_close_149 : decode b_M_close 149 = .ok (.aload_n 0, 1) := by decide +kernel
theorem d_M_close_150 : decode b_M_close 150 = .ok (.getfield 50, 3) := by decide +kernel
theorem d_M_close_153 : decode b_M_close 153 = .ok (.iload 5, 2) := by decide +kernel
theorem d_M_close_155 : decode b_M_close 155 = .ok (.iload 6, 2) := by decide +kernel
theorem d_M_close_157 : decode b_M_close 157 = .ok (.iastore, 1) := by decide +kernel
theorem d_M_close_158 : decode b_M_close 158 = .ok (.aload_n 0, 1) := by decide +kernel
theorem d_M_close_159 : decode b_M_close 159 = .ok (.getfield 50, 3) := by decide +kernel
theorem d_M_close_162 : decode b_M_close 162 = .ok (.iload 5, 2) := by decide +kernel
theorem d_M_close_164 : decode b_M_close 164 = .ok (.iconst 1, 1) := by decide +kernel
theorem d_M_close_165 : decode b_M_close 165 = .ok (.iadd, 1) := by decide +kernel
theorem d_M_close_166 : decode b_M_close 166 = .ok (.iload 6, 2) := by decide +kernel
theorem d_M_close_168 : decode b_M_close 168 = .ok (.iconst 1, 1) := by decide +kernel
theorem d_M_close_169 : decode b_M_close 169 = .ok (.iadd, 1) := by decide +kernel
theorem d_M_close_170 : decode b_M_close 170 = .ok (.iastore, 1) := by decide +kernel
theorem d_M_close_171 : decode b_M_close 171 = .ok (.iinc 3 1, 3) := by decide +kernel
theorem d_M_close_174 : decode b_M_close 174 = .ok (.goto (-145), 3) := by decide +kernel
theorem d_M_close_177 : decode b_M_close 177 = .ok (.iconst 0, 1) := by decide +kernel
theorem d_M_close_178 : decode b_M_close 178 = .ok (.istore_n 3, 1) := by decide +kernel
theorem d_M_close_179 : decode b_M_close 179 = .ok (.iload_n 3, 1) := by decide +kernel
theorem d_M_close_180 : decode b_M_close 180 = .ok (.iconst 4, 1) := by decide +kernel
theorem d_M_close_181 : decode b_M_close 181 = .ok (.aload_n 0, 1) := by decide +kernel
theorem d_M_close_182 : decode b_M_close 182 = .ok (.getfield 13, 3) := by decide +kernel
theorem d_M_close_185 : decode b_M_close 185 = .ok (.iload_n 1, 1) := by decide +kernel
theorem d_M_close_186 : decode b_M_close 186 = .ok (.iaload, 1) := by decide +kernel
theorem d_M_close_187 : decode b_M_close 187 = .ok (.imul, 1) := by decide +kernel
theorem d_M_close_188 : decode b_M_close 188 = .ok (.if_icmp .ge 58, 3) := by decide +kernel
theorem d_M_close_191 : decode b_M_close 191 = .ok (.iconst 1, 1) := by decide +kernel
theorem d_M_close_192 : decode b_M_close 192 = .ok (.istore 4, 2) := by decide +kernel
theorem d_M_close_194 : decode b_M_close 194 = .ok (.iload 4, 2) := by decide +kernel
theorem d_M_close_196 : decode b_M_close 196 = .ok (.iload_n 2, 1) := by decide +kernel
theorem d_M_close_197 : decode b_M_close 197 = .ok (.if_icmp .gt 43, 3) := by decide +kernel
theorem d_M_close_200 : decode b_M_close 200 = .ok (.aload_n 0, 1) := by decide +kernel
theorem d_M_close_201 : decode b_M_close 201 = .ok (.getfield 53, 3) := by decide +kernel
theorem d_M_close_204 : decode b_M_close 204 = .ok (.iload_n 3, 1) := by decide +kernel
theorem d_M_close_205 : decode b_M_close 205 = .ok (.iaload, 1) := by decide +kernel
theorem d_M_close_206 : decode b_M_close 206 = .ok (.iload_n 2, 1) := by decide +kernel
theorem d_M_close_207 : decode b_M_close 207 = .ok (.if_icmp .le 27, 3) := by decide +kernel
theorem d_M_close_210 : decode b_M_close 210 = .ok (.aload_n 0, 1) := by decide +kernel
theorem d_M_close_211 : decode b_M_close 211 = .ok (.getfield 53, 3) := by decide +kernel
theorem d_M_close_214 : decode b_M_close 214 = .ok (.iload_n 3, 1) := by decide +kernel
theorem d_M_close_215 : decode b_M_close 215 = .ok (.iaload, 1) := by decide +kernel
theorem d_M_close_216 : decode b_M_close 216 = .ok (.aload_n 0, 1) := by decide +kernel
theorem d_M_close_217 : decode b_M_close 217 = .ok (.getfield 50, 3) := by decide +kernel
theorem d_M_close_220 : decode b_M_close 220 = .ok (.iload 4, 2) := by decide +kernel
theorem d_M_close_222 : decode b_M_close 222 = .ok (.iaload, 1) := by decide +kernel
theorem d_M_close_223 : decode b_M_close 223 = .ok (.if_icmp .ne 11, 3) := by decide +kernel
theorem d_M_close_226 : decode b_M_close 226 = .ok (.aload_n 0, 1) := by decide +kernel
theorem d_M_close_227 : decode b_M_close 227 = .ok (.getfield 53, 3) := by decide +kernel
theorem d_M_close_230 : decode b_M_close 230 = .ok (.iload_n 3, 1) := by decide +kernel
theorem d_M_close_231 : decode b_M_close 231 = .ok (.iload 4, 2) := by decide +kernel
theorem d_M_close_233 : decode b_M_close 233 = .ok (.iastore, 1) := by decide +kernel
theorem d_M_close_234 : decode b_M_close 234 = .ok (.iinc 4 1, 3) := by decide +kernel
theorem d_M_close_237 : decode b_M_close 237 = .ok (.goto (-43), 3) := by decide +kernel
theorem d_M_close_240 : decode b_M_close 240 = .ok (.iinc 3 1, 3) := by decide +kernel
theorem d_M_close_243 : decode b_M_close 243 = .ok (.goto (-64), 3) := by decide +kernel
theorem d_M_close_246 : decode b_M_close 246 = .ok (.return_, 1) := by decide +kernel
theorem d_M_crossing_0 : decode b_M_crossing 0 = .ok (.iload_n 1, 1) := by decide +kernel
theorem d_M_crossing_1 : decode b_M_crossing 1 = .ok (.invokestatic 60, 3) := by decide +kernel
theorem d_M_crossing_4 : decode b_M_crossing 4 = .ok (.ifCond .eq 26, 3) := by decide +kernel
theorem d_M_crossing_7 : decode b_M_crossing 7 = .ok (.iload_n 2, 1) := by decide +kernel
theorem d_M_crossing_8 : decode b_M_crossing 8 = .ok (.ifCond .lt 22, 3) := by decide +kernel
theorem d_M_crossing_11 : decode b_M_crossing 11 = .ok (.iload_n 2, 1) := by decide +kernel
theorem d_M_crossing_12 : decode b_M_crossing 12 = .ok (.aload_n 0, 1) := by decide +kernel
theorem d_M_crossing_13 : decode b_M_crossing 13 = .ok (.getfield 13, 3) := by decide +kernel
theorem d_M_crossing_16 : decode b_M_crossing 16 = .ok (.iload_n 1, 1) := by decide +kernel
theorem d_M_crossing_17 : decode b_M_crossing 17 = .ok (.iaload, 1) := by decide +kernel
theorem d_M_crossing_18 : decode b_M_crossing 18 = .ok (.if_icmp .ge 12, 3) := by decide +kernel
theorem d_M_crossing_21 : decode b_M_crossing 21 = .ok (.iload_n 3, 1) := by decide +kernel
theorem d_M_crossing_22 : decode b_M_crossing 22 = .ok (.ifCond .lt 8, 3) := by decide +kernel
theorem d_M_crossing_25 : decode b_M_crossing 25 = .ok (.iload_n 3, 1) := by decide +kernel
theorem d_M_crossing_26 : decode b_M_crossing 26 = .ok (.iconst 4, 1) := by decide +kernel
theorem d_M_crossing_27 : decode b_M_crossing 27 = .ok (.if_icmp .le 5, 3) := by decide +kernel
theorem d_M_crossing_30 : decode b_M_crossing 30 = .ok (.iconst 0, 1) := by decide +kernel
theorem d_M_crossing_31 : decode b_M_crossing 31 = .ok (.ireturn, 1) := by decide +kernel
theorem d_M_crossing_32 : decode b_M_crossing 32 = .ok (.iload_n 3, 1) := by decide +kernel
theorem d_M_crossing_33 : decode b_M_crossing 33 = .ok (.iconst 4, 1) := by decide +kernel
theorem d_M_crossing_34 : decode b_M_crossing 34 = .ok (.if_icmp .ne 18, 3) := by decide +kernel
theorem d_M_crossing_37 : decode b_M_crossing 37 = .ok (.aload_n 0, 1) := by decide +kernel
theorem d_M_crossing_38 : decode b_M_crossing 38 = .ok (.iload_n 1, 1) := by decide +kernel
theorem d_M_crossing_39 : decode b_M_crossing 39 = .ok (.iload_n 2, 1) := by decide +kernel
theorem d_M_crossing_40 : decode b_M_crossing 40 = .ok (.invokevirtual 64, 3) := by decide +kernel
theorem d_M_crossing_43 : decode b_M_crossing 43 = .ok (.ifCond .le 7, 3) := by decide +kernel
theorem d_M_crossing_46 : decode b_M_crossing 46 = .ok (.iconst 1, 1) := by decide +kernel
theorem d_M_crossing_47 : decode b_M_crossing 47 = .ok (.goto 4, 3) := by decide +kernel
theorem d_M_crossing_50 : decode b_M_crossing 50 = .ok (.iconst (-1), 1) := by decide +kernel
theorem d_M_crossing_51 : decode b_M_crossing 51 = .ok (.ireturn, 1) := by decide +kernel
theorem d_M_crossing_52 : decode b_M_crossing 52 = .ok (.aload_n 0, 1) := by decide +kernel
theorem d_M_crossing_53 : decode b_M_crossing 53 = .ok (.iload_n 1, 1) := by decide +kernel
theorem d_M_crossing_54 : decode b_M_crossing 54 = .ok (.invokevirtual 132, 3) := by decide +kernel
theorem d_M_crossing_57 : decode b_M_crossing 57 = .ok (.aload_n 0, 1) := by decide +kernel
theorem d_M_crossing_58 : decode b_M_crossing 58 = .ok (.getfield 53, 3) := by decide +kernel
theorem d_M_crossing_61 : decode b_M_crossing 61 = .ok (.iconst 4, 1) := by decide +kernel
theorem d_M_crossing_62 : decode b_M_crossing 62 = .ok (.iload_n 2, 1) := by decide +kernel
theorem d_M_crossing_63 : decode b_M_crossing 63 = .ok (.imul, 1) := by decide +kernel
theorem d_M_crossing_64 : decode b_M_crossing 64 = .ok (.iload_n 3, 1) := by decide +kernel
theorem d_M_crossing_65 : decode b_M_crossing 65 = .ok (.iadd, 1) := by decide +kernel
theorem d_M_crossing_66 : decode b_M_crossing 66 = .ok (.iaload, 1) := by decide +kernel
theorem d_M_crossing_67 : decode b_M_crossing 67 = .ok (.ireturn, 1) := by decide +kernel
end
section
theorem d_L_law_0 : decode code 0 = .ok (.new 7, 3) := by decide +kernel
theorem d_L_law_3 : decode code 3 = .ok (.dup, 1) := by decide +kernel
theorem d_L_law_4 : decode code 4 = .ok (.invokespecial 9, 3) := by decide +kernel
theorem d_L_law_7 : decode code 7 = .ok (.astore_n 1, 1) := by decide +kernel
theorem d_L_law_8 : decode code 8 = .ok (.new 10, 3) := by decide +kernel
theorem d_L_law_11 : decode code 11 = .ok (.dup, 1) := by decide +kernel
theorem d_L_law_12 : decode code 12 = .ok (.invokespecial 12, 3) := by decide +kernel
theorem d_L_law_15 : decode code 15 = .ok (.astore_n 2, 1) := by decide +kernel
theorem d_L_law_16 : decode code 16 = .ok (.iconst 0, 1) := by decide +kernel
theorem d_L_law_17 : decode code 17 = .ok (.istore_n 3, 1) := by decide +kernel
theorem d_L_law_18 : decode code 18 = .ok (.iload_n 3, 1) := by decide +kernel
theorem d_L_law_19 : decode code 19 = .ok (.aload_n 0, 1) := by decide +kernel
theorem d_L_law_20 : decode code 20 = .ok (.arraylength, 1) := by decide +kernel
theorem d_L_law_21 : decode code 21 = .ok (.iconst 4, 1) := by decide +kernel
theorem d_L_law_22 : decode code 22 = .ok (.isub, 1) := by decide +kernel
theorem d_L_law_23 : decode code 23 = .ok (.if_icmp .gt 681, 3) := by decide +kernel
theorem d_L_law_26 : decode code 26 = .ok (.aload_n 0, 1) := by decide +kernel
theorem d_L_law_27 : decode code 27 = .ok (.iload_n 3, 1) := by decide +kernel
theorem d_L_law_28 : decode code 28 = .ok (.iaload, 1) := by decide +kernel
theorem d_L_law_29 : decode code 29 = .ok (.bipush 15, 2) := by decide +kernel
theorem d_L_law_31 : decode code 31 = .ok (.iand, 1) := by decide +kernel
theorem d_L_law_32 : decode code 32 = .ok (.tableswitch 666 0 15 #[80, 113, 146, 205, 238, 271, 304, 353, 402, 435, 468, 501, 524, 557, 600, 623], 80) := by decide +kernel
theorem d_L_law_112 : decode code 112 = .ok (.aload_n 1, 1) := by decide +kernel
theorem d_L_law_113 : decode code 113 = .ok (.aload_n 0, 1) := by decide +kernel
theorem d_L_law_114 : decode code 114 = .ok (.iload_n 3, 1) := by decide +kernel
theorem d_L_law_115 : decode code 115 = .ok (.iconst 1, 1) := by decide +kernel
theorem d_L_law_116 : decode code 116 = .ok (.iadd, 1) := by decide +kernel
theorem d_L_law_117 : decode code 117 = .ok (.iaload, 1) := by decide +kernel
theorem d_L_law_118 : decode code 118 = .ok (.aload_n 0, 1) := by decide +kernel
theorem d_L_law_119 : decode code 119 = .ok (.iload_n 3, 1) := by decide +kernel
theorem d_L_law_120 : decode code 120 = .ok (.iconst 2, 1) := by decide +kernel
theorem d_L_law_121 : decode code 121 = .ok (.iadd, 1) := by decide +kernel
theorem d_L_law_122 : decode code 122 = .ok (.iaload, 1) := by decide +kernel
theorem d_L_law_123 : decode code 123 = .ok (.invokevirtual 13, 3) := by decide +kernel
theorem d_L_law_126 : decode code 126 = .ok (.aload_n 2, 1) := by decide +kernel
theorem d_L_law_127 : decode code 127 = .ok (.aload_n 0, 1) := by decide +kernel
theorem d_L_law_128 : decode code 128 = .ok (.iload_n 3, 1) := by decide +kernel
theorem d_L_law_129 : decode code 129 = .ok (.iconst 1, 1) := by decide +kernel
theorem d_L_law_130 : decode code 130 = .ok (.iadd, 1) := by decide +kernel
theorem d_L_law_131 : decode code 131 = .ok (.iaload, 1) := by decide +kernel
theorem d_L_law_132 : decode code 132 = .ok (.aload_n 0, 1) := by decide +kernel
theorem d_L_law_133 : decode code 133 = .ok (.iload_n 3, 1) := by decide +kernel
theorem d_L_law_134 : decode code 134 = .ok (.iconst 2, 1) := by decide +kernel
theorem d_L_law_135 : decode code 135 = .ok (.iadd, 1) := by decide +kernel
theorem d_L_law_136 : decode code 136 = .ok (.iaload, 1) := by decide +kernel
theorem d_L_law_137 : decode code 137 = .ok (.invokevirtual 17, 3) := by decide +kernel
theorem d_L_law_140 : decode code 140 = .ok (.if_icmp .eq 558, 3) := by decide +kernel
theorem d_L_law_143 : decode code 143 = .ok (.iconst 0, 1) := by decide +kernel
theorem d_L_law_144 : decode code 144 = .ok (.ireturn, 1) := by decide +kernel
theorem d_L_law_145 : decode code 145 = .ok (.aload_n 1, 1) := by decide +kernel
theorem d_L_law_146 : decode code 146 = .ok (.aload_n 0, 1) := by decide +kernel
theorem d_L_law_147 : decode code 147 = .ok (.iload_n 3, 1) := by decide +kernel
theorem d_L_law_148 : decode code 148 = .ok (.iconst 1, 1) := by decide +kernel
theorem d_L_law_149 : decode code 149 = .ok (.iadd, 1) := by decide +kernel
theorem d_L_law_150 : decode code 150 = .ok (.iaload, 1) := by decide +kernel
theorem d_L_law_151 : decode code 151 = .ok (.aload_n 0, 1) := by decide +kernel
theorem d_L_law_152 : decode code 152 = .ok (.iload_n 3, 1) := by decide +kernel
theorem d_L_law_153 : decode code 153 = .ok (.iconst 2, 1) := by decide +kernel
theorem d_L_law_154 : decode code 154 = .ok (.iadd, 1) := by decide +kernel
theorem d_L_law_155 : decode code 155 = .ok (.iaload, 1) := by decide +kernel
theorem d_L_law_156 : decode code 156 = .ok (.invokevirtual 18, 3) := by decide +kernel
theorem d_L_law_159 : decode code 159 = .ok (.aload_n 2, 1) := by decide +kernel
theorem d_L_law_160 : decode code 160 = .ok (.aload_n 0, 1) := by decide +kernel
theorem d_L_law_161 : decode code 161 = .ok (.iload_n 3, 1) := by decide +kernel
theorem d_L_law_162 : decode code 162 = .ok (.iconst 1, 1) := by decide +kernel
theorem d_L_law_163 : decode code 163 = .ok (.iadd, 1) := by decide +kernel
theorem d_L_law_164 : decode code 164 = .ok (.iaload, 1) := by decide +kernel
theorem d_L_law_165 : decode code 165 = .ok (.aload_n 0, 1) := by decide +kernel
theorem d_L_law_166 : decode code 166 = .ok (.iload_n 3, 1) := by decide +kernel
theorem d_L_law_167 : decode code 167 = .ok (.iconst 2, 1) := by decide +kernel
theorem d_L_law_168 : decode code 168 = .ok (.iadd, 1) := by decide +kernel
theorem d_L_law_169 : decode code 169 = .ok (.iaload, 1) := by decide +kernel
theorem d_L_law_170 : decode code 170 = .ok (.invokevirtual 22, 3) := by decide +kernel
theorem d_L_law_173 : decode code 173 = .ok (.if_icmp .eq 525, 3) := by decide +kernel
theorem d_L_law_176 : decode code 176 = .ok (.iconst 0, 1) := by decide +kernel
theorem d_L_law_177 : decode code 177 = .ok (.ireturn, 1) := by decide +kernel
theorem d_L_law_178 : decode code 178 = .ok (.aload_n 1, 1) := by decide +kernel
theorem d_L_law_179 : decode code 179 = .ok (.aload_n 0, 1) := by decide +kernel
theorem d_L_law_180 : decode code 180 = .ok (.iload_n 3, 1) := by decide +kernel
theorem d_L_law_181 : decode code 181 = .ok (.iconst 1, 1) := by decide +kernel
theorem d_L_law_182 : decode code 182 = .ok (.iadd, 1) := by decide +kernel
theorem d_L_law_183 : decode code 183 = .ok (.iaload, 1) := by decide +kernel
theorem d_L_law_184 : decode code 184 = .ok (.aload_n 0, 1) := by decide +kernel
theorem d_L_law_185 : decode code 185 = .ok (.iload_n 3, 1) := by decide +kernel
theorem d_L_law_186 : decode code 186 = .ok (.iconst 2, 1) := by decide +kernel
theorem d_L_law_187 : decode code 187 = .ok (.iadd, 1) := by decide +kernel
theorem d_L_law_188 : decode code 188 = .ok (.iaload, 1) := by decide +kernel
theorem d_L_law_189 : decode code 189 = .ok (.aload_n 0, 1) := by decide +kernel
theorem d_L_law_190 : decode code 190 = .ok (.iload_n 3, 1) := by decide +kernel
theorem d_L_law_191 : decode code 191 = .ok (.iconst 3, 1) := by decide +kernel
theorem d_L_law_192 : decode code 192 = .ok (.iadd, 1) := by decide +kernel
theorem d_L_law_193 : decode code 193 = .ok (.iaload, 1) := by decide +kernel
theorem d_L_law_194 : decode code 194 = .ok (.ifCond .eq 7, 3) := by decide +kernel
theorem d_L_law_197 : decode code 197 = .ok (.iconst 1, 1) := by decide +kernel
theorem d_L_law_198 : decode code 198 = .ok (.goto 4, 3) := by decide +kernel
theorem d_L_law_201 : decode code 201 = .ok (.iconst 0, 1) := by decide +kernel
theorem d_L_law_202 : decode code 202 = .ok (.invokevirtual 23, 3) := by decide +kernel
theorem d_L_law_205 : decode code 205 = .ok (.aload_n 2, 1) := by decide +kernel
theorem d_L_law_206 : decode code 206 = .ok (.aload_n 0, 1) := by decide +kernel
theorem d_L_law_207 : decode code 207 = .ok (.iload_n 3, 1) := by decide +kernel
theorem d_L_law_208 : decode code 208 = .ok (.iconst 1, 1) := by decide +kernel
theorem d_L_law_209 : decode code 209 = .ok (.iadd, 1) := by decide +kernel
theorem d_L_law_210 : decode code 210 = .ok (.iaload, 1) := by decide +kernel
theorem d_L_law_211 : decode code 211 = .ok (.aload_n 0, 1) := by decide +kernel
theorem d_L_law_212 : decode code 212 = .ok (.iload_n 3, 1) := by decide +kernel
theorem d_L_law_213 : decode code 213 = .ok (.iconst 2, 1) := by decide +kernel
theorem d_L_law_214 : decode code 214 = .ok (.iadd, 1) := by decide +kernel
theorem d_L_law_215 : decode code 215 = .ok (.iaload, 1) := by decide +kernel
theorem d_L_law_216 : decode code 216 = .ok (.aload_n 0, 1) := by decide +kernel
theorem d_L_law_217 : decode code 217 = .ok (.iload_n 3, 1) := by decide +kernel
theorem d_L_law_218 : decode code 218 = .ok (.iconst 3, 1) := by decide +kernel
theorem d_L_law_219 : decode code 219 = .ok (.iadd, 1) := by decide +kernel
theorem d_L_law_220 : decode code 220 = .ok (.iaload, 1) := by decide +kernel
theorem d_L_law_221 : decode code 221 = .ok (.ifCond .eq 7, 3) := by decide +kernel
theorem d_L_law_224 : decode code 224 = .ok (.iconst 1, 1) := by decide +kernel
theorem d_L_law_225 : decode code 225 = .ok (.goto 4, 3) := by decide +kernel
theorem d_L_law_228 : decode code 228 = .ok (.iconst 0, 1) := by decide +kernel
theorem d_L_law_229 : decode code 229 = .ok (.invokevirtual 27, 3) := by decide +kernel
theorem d_L_law_232 : decode code 232 = .ok (.if_icmp .eq 466, 3) := by decide +kernel
theorem d_L_law_235 : decode code 235 = .ok (.iconst 0, 1) := by decide +kernel
theorem d_L_law_236 : decode code 236 = .ok (.ireturn, 1) := by decide +kernel
theorem d_L_law_237 : decode code 237 = .ok (.aload_n 1, 1) := by decide +kernel
theorem d_L_law_238 : decode code 238 = .ok (.aload_n 0, 1) := by decide +kernel
theorem d_L_law_239 : decode code 239 = .ok (.iload_n 3, 1) := by decide +kernel
theorem d_L_law_240 : decode code 240 = .ok (.iconst 1, 1) := by decide +kernel
theorem d_L_law_241 : decode code 241 = .ok (.iadd, 1) := by decide +kernel
theorem d_L_law_242 : decode code 242 = .ok (.iaload, 1) := by decide +kernel
theorem d_L_law_243 : decode code 243 = .ok (.aload_n 0, 1) := by decide +kernel
theorem d_L_law_244 : decode code 244 = .ok (.iload_n 3, 1) := by decide +kernel
theorem d_L_law_245 : decode code 245 = .ok (.iconst 2, 1) := by decide +kernel
theorem d_L_law_246 : decode code 246 = .ok (.iadd, 1) := by decide +kernel
theorem d_L_law_247 : decode code 247 = .ok (.iaload, 1) := by decide +kernel
theorem d_L_law_248 : decode code 248 = .ok (.invokevirtual 28, 3) := by decide +kernel
theorem d_L_law_251 : decode code 251 = .ok (.aload_n 2, 1) := by decide +kernel
theorem d_L_law_252 : decode code 252 = .ok (.aload_n 0, 1) := by decide +kernel
theorem d_L_law_253 : decode code 253 = .ok (.iload_n 3, 1) := by decide +kernel
theorem d_L_law_254 : decode code 254 = .ok (.iconst 1, 1) := by decide +kernel
theorem d_L_law_255 : decode code 255 = .ok (.iadd, 1) := by decide +kernel
theorem d_L_law_256 : decode code 256 = .ok (.iaload, 1) := by decide +kernel
theorem d_L_law_257 : decode code 257 = .ok (.aload_n 0, 1) := by decide +kernel
theorem d_L_law_258 : decode code 258 = .ok (.iload_n 3, 1) := by decide +kernel
theorem d_L_law_259 : decode code 259 = .ok (.iconst 2, 1) := by decide +kernel
theorem d_L_law_260 : decode code 260 = .ok (.iadd, 1) := by decide +kernel
theorem d_L_law_261 : decode code 261 = .ok (.iaload, 1) := by decide +kernel
theorem d_L_law_262 : decode code 262 = .ok (.invokevirtual 31, 3) := by decide +kernel
theorem d_L_law_265 : decode code 265 = .ok (.if_icmp .eq 433, 3) := by decide +kernel
theorem d_L_law_268 : decode code 268 = .ok (.iconst 0, 1) := by decide +kernel
theorem d_L_law_269 : decode code 269 = .ok (.ireturn, 1) := by decide +kernel
theorem d_L_law_270 : decode code 270 = .ok (.aload_n 1, 1) := by decide +kernel
theorem d_L_law_271 : decode code 271 = .ok (.aload_n 0, 1) := by decide +kernel
theorem d_L_law_272 : decode code 272 = .ok (.iload_n 3, 1) := by decide +kernel
theorem d_L_law_273 : decode code 273 = .ok (.iconst 1, 1) := by decide +kernel
theorem d_L_law_274 : decode code 274 = .ok (.iadd, 1) := by decide +kernel
theorem d_L_law_275 : decode code 275 = .ok (.iaload, 1) := by decide +kernel
theorem d_L_law_276 : decode code 276 = .ok (.aload_n 0, 1) := by decide +kernel
theorem d_L_law_277 : decode code 277 = .ok (.iload_n 3, 1) := by decide +kernel
theorem d_L_law_278 : decode code 278 = .ok (.iconst 2, 1) := by decide +kernel
theorem d_L_law_279 : decode code 279 = .ok (.iadd, 1) := by decide +kernel
theorem d_L_law_280 : decode code 280 = .ok (.iaload, 1) := by decide +kernel
theorem d_L_law_281 : decode code 281 = .ok (.invokevirtual 32, 3) := by decide +kernel
theorem d_L_law_284 : decode code 284 = .ok (.aload_n 2, 1) := by decide +kernel
theorem d_L_law_285 : decode code 285 = .ok (.aload_n 0, 1) := by decide +kernel
theorem d_L_law_286 : decode code 286 = .ok (.iload_n 3, 1) := by decide +kernel
theorem d_L_law_287 : decode code 287 = .ok (.iconst 1, 1) := by decide +kernel
theorem d_L_law_288 : decode code 288 = .ok (.iadd, 1) := by decide +kernel
theorem d_L_law_289 : decode code 289 = .ok (.iaload, 1) := by decide +kernel
theorem d_L_law_290 : decode code 290 = .ok (.aload_n 0, 1) := by decide +kernel
theorem d_L_law_291 : decode code 291 = .ok (.iload_n 3, 1) := by decide +kernel
theorem d_L_law_292 : decode code 292 = .ok (.iconst 2, 1) := by decide +kernel
theorem d_L_law_293 : decode code 293 = .ok (.iadd, 1) := by decide +kernel
theorem d_L_law_294 : decode code 294 = .ok (.iaload, 1) := by decide +kernel
theorem d_L_law_295 : decode code 295 = .ok (.invokevirtual 35, 3) := by decide +kernel
theorem d_L_law_298 : decode code 298 = .ok (.if_icmp .eq 400, 3) := by decide +kernel
theorem d_L_law_301 : decode code 301 = .ok (.iconst 0, 1) := by decide +kernel
theorem d_L_law_302 : decode code 302 = .ok (.ireturn, 1) := by decide +kernel
theorem d_L_law_303 : decode code 303 = .ok (.aload_n 1, 1) := by decide +kernel
theorem d_L_law_304 : decode code 304 = .ok (.aload_n 0, 1) := by decide +kernel
theorem d_L_law_305 : decode code 305 = .ok (.iload_n 3, 1) := by decide +kernel
theorem d_L_law_306 : decode code 306 = .ok (.iconst 1, 1) := by decide +kernel
theorem d_L_law_307 : decode code 307 = .ok (.iadd, 1) := by decide +kernel
theorem d_L_law_308 : decode code 308 = .ok (.iaload, 1) := by decide +kernel
theorem d_L_law_309 : decode code 309 = .ok (.aload_n 0, 1) := by decide +kernel
theorem d_L_law_310 : decode code 310 = .ok (.iload_n 3, 1) := by decide +kernel
theorem d_L_law_311 : decode code 311 = .ok (.iconst 2, 1) := by decide +kernel
theorem d_L_law_312 : decode code 312 = .ok (.iadd, 1) := by decide +kernel
theorem d_L_law_313 : decode code 313 = .ok (.iaload, 1) := by decide +kernel
theorem d_L_law_314 : decode code 314 = .ok (.invokevirtual 36, 3) := by decide +kernel
theorem d_L_law_317 : decode code 317 = .ok (.aload_n 2, 1) := by decide +kernel
theorem d_L_law_318 : decode code 318 = .ok (.aload_n 0, 1) := by decide +kernel
theorem d_L_law_319 : decode code 319 = .ok (.iload_n 3, 1) := by decide +kernel
theorem d_L_law_320 : decode code 320 = .ok (.iconst 1, 1) := by decide +kernel
theorem d_L_law_321 : decode code 321 = .ok (.iadd, 1) := by decide +kernel
theorem d_L_law_322 : decode code 322 = .ok (.iaload, 1) := by decide +kernel
theorem d_L_law_323 : decode code 323 = .ok (.aload_n 0, 1) := by decide +kernel
theorem d_L_law_324 : decode code 324 = .ok (.iload_n 3, 1) := by decide +kernel
theorem d_L_law_325 : decode code 325 = .ok (.iconst 2, 1) := by decide +kernel
theorem d_L_law_326 : decode code 326 = .ok (.iadd, 1) := by decide +kernel
theorem d_L_law_327 : decode code 327 = .ok (.iaload, 1) := by decide +kernel
theorem d_L_law_328 : decode code 328 = .ok (.invokevirtual 39, 3) := by decide +kernel
theorem d_L_law_331 : decode code 331 = .ok (.if_icmp .eq 367, 3) := by decide +kernel
theorem d_L_law_334 : decode code 334 = .ok (.iconst 0, 1) := by decide +kernel
theorem d_L_law_335 : decode code 335 = .ok (.ireturn, 1) := by decide +kernel
theorem d_L_law_336 : decode code 336 = .ok (.aload_n 1, 1) := by decide +kernel
theorem d_L_law_337 : decode code 337 = .ok (.aload_n 0, 1) := by decide +kernel
theorem d_L_law_338 : decode code 338 = .ok (.iload_n 3, 1) := by decide +kernel
theorem d_L_law_339 : decode code 339 = .ok (.iconst 1, 1) := by decide +kernel
theorem d_L_law_340 : decode code 340 = .ok (.iadd, 1) := by decide +kernel
theorem d_L_law_341 : decode code 341 = .ok (.iaload, 1) := by decide +kernel
theorem d_L_law_342 : decode code 342 = .ok (.aload_n 0, 1) := by decide +kernel
theorem d_L_law_343 : decode code 343 = .ok (.iload_n 3, 1) := by decide +kernel
theorem d_L_law_344 : decode code 344 = .ok (.iconst 2, 1) := by decide +kernel
theorem d_L_law_345 : decode code 345 = .ok (.iadd, 1) := by decide +kernel
theorem d_L_law_346 : decode code 346 = .ok (.iaload, 1) := by decide +kernel
theorem d_L_law_347 : decode code 347 = .ok (.ifCond .eq 7, 3) := by decide +kernel
theorem d_L_law_350 : decode code 350 = .ok (.iconst 1, 1) := by decide +kernel
theorem d_L_law_351 : decode code 351 = .ok (.goto 4, 3) := by decide +kernel
theorem d_L_law_354 : decode code 354 = .ok (.iconst 0, 1) := by decide +kernel
theorem d_L_law_355 : decode code 355 = .ok (.invokevirtual 40, 3) := by decide +kernel
theorem d_L_law_358 : decode code 358 = .ok (.aload_n 2, 1) := by decide +kernel
theorem d_L_law_359 : decode code 359 = .ok (.aload_n 0, 1) := by decide +kernel
theorem d_L_law_360 : decode code 360 = .ok (.iload_n 3, 1) := by decide +kernel
theorem d_L_law_361 : decode code 361 = .ok (.iconst 1, 1) := by decide +kernel
theorem d_L_law_362 : decode code 362 = .ok (.iadd, 1) := by decide +kernel
theorem d_L_law_363 : decode code 363 = .ok (.iaload, 1) := by decide +kernel
theorem d_L_law_364 : decode code 364 = .ok (.aload_n 0, 1) := by decide +kernel
theorem d_L_law_365 : decode code 365 = .ok (.iload_n 3, 1) := by decide +kernel
theorem d_L_law_366 : decode code 366 = .ok (.iconst 2, 1) := by decide +kernel
theorem d_L_law_367 : decode code 367 = .ok (.iadd, 1) := by decide +kernel
theorem d_L_law_368 : decode code 368 = .ok (.iaload, 1) := by decide +kernel
theorem d_L_law_369 : decode code 369 = .ok (.ifCond .eq 7, 3) := by decide +kernel
theorem d_L_law_372 : decode code 372 = .ok (.iconst 1, 1) := by decide +kernel
theorem d_L_law_373 : decode code 373 = .ok (.goto 4, 3) := by decide +kernel
theorem d_L_law_376 : decode code 376 = .ok (.iconst 0, 1) := by decide +kernel
theorem d_L_law_377 : decode code 377 = .ok (.invokevirtual 44, 3) := by decide +kernel
theorem d_L_law_380 : decode code 380 = .ok (.if_icmp .eq 318, 3) := by decide +kernel
theorem d_L_law_383 : decode code 383 = .ok (.iconst 0, 1) := by decide +kernel
theorem d_L_law_384 : decode code 384 = .ok (.ireturn, 1) := by decide +kernel
theorem d_L_law_385 : decode code 385 = .ok (.aload_n 1, 1) := by decide +kernel
theorem d_L_law_386 : decode code 386 = .ok (.aload_n 0, 1) := by decide +kernel
theorem d_L_law_387 : decode code 387 = .ok (.iload_n 3, 1) := by decide +kernel
theorem d_L_law_388 : decode code 388 = .ok (.iconst 1, 1) := by decide +kernel
theorem d_L_law_389 : decode code 389 = .ok (.iadd, 1) := by decide +kernel
theorem d_L_law_390 : decode code 390 = .ok (.iaload, 1) := by decide +kernel
theorem d_L_law_391 : decode code 391 = .ok (.aload_n 0, 1) := by decide +kernel
theorem d_L_law_392 : decode code 392 = .ok (.iload_n 3, 1) := by decide +kernel
theorem d_L_law_393 : decode code 393 = .ok (.iconst 2, 1) := by decide +kernel
theorem d_L_law_394 : decode code 394 = .ok (.iadd, 1) := by decide +kernel
theorem d_L_law_395 : decode code 395 = .ok (.iaload, 1) := by decide +kernel
theorem d_L_law_396 : decode code 396 = .ok (.ifCond .eq 7, 3) := by decide +kernel
theorem d_L_law_399 : decode code 399 = .ok (.iconst 1, 1) := by decide +kernel
theorem d_L_law_400 : decode code 400 = .ok (.goto 4, 3) := by decide +kernel
theorem d_L_law_403 : decode code 403 = .ok (.iconst 0, 1) := by decide +kernel
theorem d_L_law_404 : decode code 404 = .ok (.invokevirtual 45, 3) := by decide +kernel
theorem d_L_law_407 : decode code 407 = .ok (.aload_n 2, 1) := by decide +kernel
theorem d_L_law_408 : decode code 408 = .ok (.aload_n 0, 1) := by decide +kernel
theorem d_L_law_409 : decode code 409 = .ok (.iload_n 3, 1) := by decide +kernel
theorem d_L_law_410 : decode code 410 = .ok (.iconst 1, 1) := by decide +kernel
theorem d_L_law_411 : decode code 411 = .ok (.iadd, 1) := by decide +kernel
theorem d_L_law_412 : decode code 412 = .ok (.iaload, 1) := by decide +kernel
theorem d_L_law_413 : decode code 413 = .ok (.aload_n 0, 1) := by decide +kernel
theorem d_L_law_414 : decode code 414 = .ok (.iload_n 3, 1) := by decide +kernel
theorem d_L_law_415 : decode code 415 = .ok (.iconst 2, 1) := by decide +kernel
theorem d_L_law_416 : decode code 416 = .ok (.iadd, 1) := by decide +kernel
theorem d_L_law_417 : decode code 417 = .ok (.iaload, 1) := by decide +kernel
theorem d_L_law_418 : decode code 418 = .ok (.ifCond .eq 7, 3) := by decide +kernel
theorem d_L_law_421 : decode code 421 = .ok (.iconst 1, 1) := by decide +kernel
theorem d_L_law_422 : decode code 422 = .ok (.goto 4, 3) := by decide +kernel
theorem d_L_law_425 : decode code 425 = .ok (.iconst 0, 1) := by decide +kernel
theorem d_L_law_426 : decode code 426 = .ok (.invokevirtual 49, 3) := by decide +kernel
theorem d_L_law_429 : decode code 429 = .ok (.if_icmp .eq 269, 3) := by decide +kernel
theorem d_L_law_432 : decode code 432 = .ok (.iconst 0, 1) := by decide +kernel
theorem d_L_law_433 : decode code 433 = .ok (.ireturn, 1) := by decide +kernel
theorem d_L_law_434 : decode code 434 = .ok (.aload_n 1, 1) := by decide +kernel
theorem d_L_law_435 : decode code 435 = .ok (.aload_n 0, 1) := by decide +kernel
theorem d_L_law_436 : decode code 436 = .ok (.iload_n 3, 1) := by decide +kernel
theorem d_L_law_437 : decode code 437 = .ok (.iconst 1, 1) := by decide +kernel
theorem d_L_law_438 : decode code 438 = .ok (.iadd, 1) := by decide +kernel
theorem d_L_law_439 : decode code 439 = .ok (.iaload, 1) := by decide +kernel
theorem d_L_law_440 : decode code 440 = .ok (.aload_n 0, 1) := by decide +kernel
theorem d_L_law_441 : decode code 441 = .ok (.iload_n 3, 1) := by decide +kernel
theorem d_L_law_442 : decode code 442 = .ok (.iconst 2, 1) := by decide +kernel
theorem d_L_law_443 : decode code 443 = .ok (.iadd, 1) := by decide +kernel
theorem d_L_law_444 : decode code 444 = .ok (.iaload, 1) := by decide +kernel
theorem d_L_law_445 : decode code 445 = .ok (.invokevirtual 50, 3) := by decide +kernel
theorem d_L_law_448 : decode code 448 = .ok (.aload_n 2, 1) := by decide +kernel
theorem d_L_law_449 : decode code 449 = .ok (.aload_n 0, 1) := by decide +kernel
theorem d_L_law_450 : decode code 450 = .ok (.iload_n 3, 1) := by decide +kernel
theorem d_L_law_451 : decode code 451 = .ok (.iconst 1, 1) := by decide +kernel
theorem d_L_law_452 : decode code 452 = .ok (.iadd, 1) := by decide +kernel
theorem d_L_law_453 : decode code 453 = .ok (.iaload, 1) := by decide +kernel
theorem d_L_law_454 : decode code 454 = .ok (.aload_n 0, 1) := by decide +kernel
theorem d_L_law_455 : decode code 455 = .ok (.iload_n 3, 1) := by decide +kernel
theorem d_L_law_456 : decode code 456 = .ok (.iconst 2, 1) := by decide +kernel
theorem d_L_law_457 : decode code 457 = .ok (.iadd, 1) := by decide +kernel
theorem d_L_law_458 : decode code 458 = .ok (.iaload, 1) := by decide +kernel
theorem d_L_law_459 : decode code 459 = .ok (.invokevirtual 53, 3) := by decide +kernel
theorem d_L_law_462 : decode code 462 = .ok (.if_icmp .eq 236, 3) := by decide +kernel
theorem d_L_law_465 : decode code 465 = .ok (.iconst 0, 1) := by decide +kernel
theorem d_L_law_466 : decode code 466 = .ok (.ireturn, 1) := by decide +kernel
theorem d_L_law_467 : decode code 467 = .ok (.aload_n 1, 1) := by decide +kernel
theorem d_L_law_468 : decode code 468 = .ok (.aload_n 0, 1) := by decide +kernel
theorem d_L_law_469 : decode code 469 = .ok (.iload_n 3, 1) := by decide +kernel
theorem d_L_law_470 : decode code 470 = .ok (.iconst 1, 1) := by decide +kernel
theorem d_L_law_471 : decode code 471 = .ok (.iadd, 1) := by decide +kernel
theorem d_L_law_472 : decode code 472 = .ok (.iaload, 1) := by decide +kernel
theorem d_L_law_473 : decode code 473 = .ok (.aload_n 0, 1) := by decide +kernel
theorem d_L_law_474 : decode code 474 = .ok (.iload_n 3, 1) := by decide +kernel
theorem d_L_law_475 : decode code 475 = .ok (.iconst 2, 1) := by decide +kernel
theorem d_L_law_476 : decode code 476 = .ok (.iadd, 1) := by decide +kernel
theorem d_L_law_477 : decode code 477 = .ok (.iaload, 1) := by decide +kernel
theorem d_L_law_478 : decode code 478 = .ok (.invokevirtual 54, 3) := by decide +kernel
theorem d_L_law_481 : decode code 481 = .ok (.aload_n 2, 1) := by decide +kernel
theorem d_L_law_482 : decode code 482 = .ok (.aload_n 0, 1) := by decide +kernel
theorem d_L_law_483 : decode code 483 = .ok (.iload_n 3, 1) := by decide +kernel
theorem d_L_law_484 : decode code 484 = .ok (.iconst 1, 1) := by decide +kernel
theorem d_L_law_485 : decode code 485 = .ok (.iadd, 1) := by decide +kernel
theorem d_L_law_486 : decode code 486 = .ok (.iaload, 1) := by decide +kernel
theorem d_L_law_487 : decode code 487 = .ok (.aload_n 0, 1) := by decide +kernel
theorem d_L_law_488 : decode code 488 = .ok (.iload_n 3, 1) := by decide +kernel
theorem d_L_law_489 : decode code 489 = .ok (.iconst 2, 1) := by decide +kernel
theorem d_L_law_490 : decode code 490 = .ok (.iadd, 1) := by decide +kernel
theorem d_L_law_491 : decode code 491 = .ok (.iaload, 1) := by decide +kernel
theorem d_L_law_492 : decode code 492 = .ok (.invokevirtual 57, 3) := by decide +kernel
theorem d_L_law_495 : decode code 495 = .ok (.if_icmp .eq 203, 3) := by decide +kernel
theorem d_L_law_498 : decode code 498 = .ok (.iconst 0, 1) := by decide +kernel
theorem d_L_law_499 : decode code 499 = .ok (.ireturn, 1) := by decide +kernel
theorem d_L_law_500 : decode code 500 = .ok (.aload_n 1, 1) := by decide +kernel
theorem d_L_law_501 : decode code 501 = .ok (.aload_n 0, 1) := by decide +kernel
theorem d_L_law_502 : decode code 502 = .ok (.iload_n 3, 1) := by decide +kernel
theorem d_L_law_503 : decode code 503 = .ok (.iconst 1, 1) := by decide +kernel
theorem d_L_law_504 : decode code 504 = .ok (.iadd, 1) := by decide +kernel
theorem d_L_law_505 : decode code 505 = .ok (.iaload, 1) := by decide +kernel
theorem d_L_law_506 : decode code 506 = .ok (.aload_n 0, 1) := by decide +kernel
theorem d_L_law_507 : decode code 507 = .ok (.iload_n 3, 1) := by decide +kernel
theorem d_L_law_508 : decode code 508 = .ok (.iconst 2, 1) := by decide +kernel
theorem d_L_law_509 : decode code 509 = .ok (.iadd, 1) := by decide +kernel
theorem d_L_law_510 : decode code 510 = .ok (.iaload, 1) := by decide +kernel
theorem d_L_law_511 : decode code 511 = .ok (.invokevirtual 58, 3) := by decide +kernel
theorem d_L_law_514 : decode code 514 = .ok (.aload_n 2, 1) := by decide +kernel
theorem d_L_law_515 : decode code 515 = .ok (.aload_n 0, 1) := by decide +kernel
theorem d_L_law_516 : decode code 516 = .ok (.iload_n 3, 1) := by decide +kernel
theorem d_L_law_517 : decode code 517 = .ok (.iconst 1, 1) := by decide +kernel
theorem d_L_law_518 : decode code 518 = .ok (.iadd, 1) := by decide +kernel
theorem d_L_law_519 : decode code 519 = .ok (.iaload, 1) := by decide +kernel
theorem d_L_law_520 : decode code 520 = .ok (.aload_n 0, 1) := by decide +kernel
theorem d_L_law_521 : decode code 521 = .ok (.iload_n 3, 1) := by decide +kernel
theorem d_L_law_522 : decode code 522 = .ok (.iconst 2, 1) := by decide +kernel
theorem d_L_law_523 : decode code 523 = .ok (.iadd, 1) := by decide +kernel
theorem d_L_law_524 : decode code 524 = .ok (.iaload, 1) := by decide +kernel
theorem d_L_law_525 : decode code 525 = .ok (.invokevirtual 61, 3) := by decide +kernel
theorem d_L_law_528 : decode code 528 = .ok (.if_icmp .eq 170, 3) := by decide +kernel
theorem d_L_law_531 : decode code 531 = .ok (.iconst 0, 1) := by decide +kernel
theorem d_L_law_532 : decode code 532 = .ok (.ireturn, 1) := by decide +kernel
theorem d_L_law_533 : decode code 533 = .ok (.aload_n 1, 1) := by decide +kernel
theorem d_L_law_534 : decode code 534 = .ok (.aload_n 0, 1) := by decide +kernel
theorem d_L_law_535 : decode code 535 = .ok (.iload_n 3, 1) := by decide +kernel
theorem d_L_law_536 : decode code 536 = .ok (.iconst 1, 1) := by decide +kernel
theorem d_L_law_537 : decode code 537 = .ok (.iadd, 1) := by decide +kernel
theorem d_L_law_538 : decode code 538 = .ok (.iaload, 1) := by decide +kernel
theorem d_L_law_539 : decode code 539 = .ok (.invokevirtual 62, 3) := by decide +kernel
theorem d_L_law_542 : decode code 542 = .ok (.aload_n 2, 1) := by decide +kernel
theorem d_L_law_543 : decode code 543 = .ok (.aload_n 0, 1) := by decide +kernel
theorem d_L_law_544 : decode code 544 = .ok (.iload_n 3, 1) := by decide +kernel
theorem d_L_law_545 : decode code 545 = .ok (.iconst 1, 1) := by decide +kernel
theorem d_L_law_546 : decode code 546 = .ok (.iadd, 1) := by decide +kernel
theorem d_L_law_547 : decode code 547 = .ok (.iaload, 1) := by decide +kernel
theorem d_L_law_548 : decode code 548 = .ok (.invokevirtual 66, 3) := by decide +kernel
theorem d_L_law_551 : decode code 551 = .ok (.if_icmp .eq 147, 3) := by decide +kernel
theorem d_L_law_554 : decode code 554 = .ok (.iconst 0, 1) := by decide +kernel
theorem d_L_law_555 : decode code 555 = .ok (.ireturn, 1) := by decide +kernel
theorem d_L_law_556 : decode code 556 = .ok (.aload_n 1, 1) := by decide +kernel
theorem d_L_law_557 : decode code 557 = .ok (.aload_n 0, 1) := by decide +kernel
theorem d_L_law_558 : decode code 558 = .ok (.iload_n 3, 1) := by decide +kernel
theorem d_L_law_559 : decode code 559 = .ok (.iconst 1, 1) := by decide +kernel
theorem d_L_law_560 : decode code 560 = .ok (.iadd, 1) := by decide +kernel
theorem d_L_law_561 : decode code 561 = .ok (.iaload, 1) := by decide +kernel
theorem d_L_law_562 : decode code 562 = .ok (.aload_n 0, 1) := by decide +kernel
theorem d_L_law_563 : decode code 563 = .ok (.iload_n 3, 1) := by decide +kernel
theorem d_L_law_564 : decode code 564 = .ok (.iconst 2, 1) := by decide +kernel
theorem d_L_law_565 : decode code 565 = .ok (.iadd, 1) := by decide +kernel
theorem d_L_law_566 : decode code 566 = .ok (.iaload, 1) := by decide +kernel
theorem d_L_law_567 : decode code 567 = .ok (.invokevirtual 67, 3) := by decide +kernel
theorem d_L_law_570 : decode code 570 = .ok (.aload_n 2, 1) := by decide +kernel
theorem d_L_law_571 : decode code 571 = .ok (.aload_n 0, 1) := by decide +kernel
theorem d_L_law_572 : decode code 572 = .ok (.iload_n 3, 1) := by decide +kernel
theorem d_L_law_573 : decode code 573 = .ok (.iconst 1, 1) := by decide +kernel
theorem d_L_law_574 : decode code 574 = .ok (.iadd, 1) := by decide +kernel
theorem d_L_law_575 : decode code 575 = .ok (.iaload, 1) := by decide +kernel
theorem d_L_law_576 : decode code 576 = .ok (.aload_n 0, 1) := by decide +kernel
theorem d_L_law_577 : decode code 577 = .ok (.iload_n 3, 1) := by decide +kernel
theorem d_L_law_578 : decode code 578 = .ok (.iconst 2, 1) := by decide +kernel
theorem d_L_law_579 : decode code 579 = .ok (.iadd, 1) := by decide +kernel
theorem d_L_law_580 : decode code 580 = .ok (.iaload, 1) := by decide +kernel
theorem d_L_law_581 : decode code 581 = .ok (.invokevirtual 70, 3) := by decide +kernel
theorem d_L_law_584 : decode code 584 = .ok (.if_icmp .eq 114, 3) := by decide +kernel
theorem d_L_law_587 : decode code 587 = .ok (.iconst 0, 1) := by decide +kernel
theorem d_L_law_588 : decode code 588 = .ok (.ireturn, 1) := by decide +kernel
theorem d_L_law_589 : decode code 589 = .ok (.aload_n 1, 1) := by decide +kernel
theorem d_L_law_590 : decode code 590 = .ok (.aload_n 0, 1) := by decide +kernel
theorem d_L_law_591 : decode code 591 = .ok (.iload_n 3, 1) := by decide +kernel
theorem d_L_law_592 : decode code 592 = .ok (.iconst 1, 1) := by decide +kernel
theorem d_L_law_593 : decode code 593 = .ok (.iadd, 1) := by decide +kernel
theorem d_L_law_594 : decode code 594 = .ok (.iaload, 1) := by decide +kernel
theorem d_L_law_595 : decode code 595 = .ok (.aload_n 0, 1) := by decide +kernel
theorem d_L_law_596 : decode code 596 = .ok (.iload_n 3, 1) := by decide +kernel
theorem d_L_law_597 : decode code 597 = .ok (.iconst 2, 1) := by decide +kernel
theorem d_L_law_598 : decode code 598 = .ok (.iadd, 1) := by decide +kernel
theorem d_L_law_599 : decode code 599 = .ok (.iaload, 1) := by decide +kernel
theorem d_L_law_600 : decode code 600 = .ok (.aload_n 0, 1) := by decide +kernel
theorem d_L_law_601 : decode code 601 = .ok (.iload_n 3, 1) := by decide +kernel
theorem d_L_law_602 : decode code 602 = .ok (.iconst 3, 1) := by decide +kernel
theorem d_L_law_603 : decode code 603 = .ok (.iadd, 1) := by decide +kernel
theorem d_L_law_604 : decode code 604 = .ok (.iaload, 1) := by decide +kernel
theorem d_L_law_605 : decode code 605 = .ok (.invokevirtual 71, 3) := by decide +kernel
theorem d_L_law_608 : decode code 608 = .ok (.aload_n 2, 1) := by decide +kernel
theorem d_L_law_609 : decode code 609 = .ok (.aload_n 0, 1) := by decide +kernel
theorem d_L_law_610 : decode code 610 = .ok (.iload_n 3, 1) := by decide +kernel
theorem d_L_law_611 : decode code 611 = .ok (.iconst 1, 1) := by decide +kernel
theorem d_L_law_612 : decode code 612 = .ok (.iadd, 1) := by decide +kernel
theorem d_L_law_613 : decode code 613 = .ok (.iaload, 1) := by decide +kernel
theorem d_L_law_614 : decode code 614 = .ok (.aload_n 0, 1) := by decide +kernel
theorem d_L_law_615 : decode code 615 = .ok (.iload_n 3, 1) := by decide +kernel
theorem d_L_law_616 : decode code 616 = .ok (.iconst 2, 1) := by decide +kernel
theorem d_L_law_617 : decode code 617 = .ok (.iadd, 1) := by decide +kernel
theorem d_L_law_618 : decode code 618 = .ok (.iaload, 1) := by decide +kernel
theorem d_L_law_619 : decode code 619 = .ok (.aload_n 0, 1) := by decide +kernel
theorem d_L_law_620 : decode code 620 = .ok (.iload_n 3, 1) := by decide +kernel
theorem d_L_law_621 : decode code 621 = .ok (.iconst 3, 1) := by decide +kernel
theorem d_L_law_622 : decode code 622 = .ok (.iadd, 1) := by decide +kernel
theorem d_L_law_623 : decode code 623 = .ok (.iaload, 1) := by decide +kernel
theorem d_L_law_624 : decode code 624 = .ok (.invokevirtual 75, 3) := by decide +kernel
theorem d_L_law_627 : decode code 627 = .ok (.if_icmp .eq 71, 3) := by decide +kernel
theorem d_L_law_630 : decode code 630 = .ok (.iconst 0, 1) := by decide +kernel
theorem d_L_law_631 : decode code 631 = .ok (.ireturn, 1) := by decide +kernel
theorem d_L_law_632 : decode code 632 = .ok (.aload_n 1, 1) := by decide +kernel
theorem d_L_law_633 : decode code 633 = .ok (.aload_n 0, 1) := by decide +kernel
theorem d_L_law_634 : decode code 634 = .ok (.iload_n 3, 1) := by decide +kernel
theorem d_L_law_635 : decode code 635 = .ok (.iconst 1, 1) := by decide +kernel
theorem d_L_law_636 : decode code 636 = .ok (.iadd, 1) := by decide +kernel
theorem d_L_law_637 : decode code 637 = .ok (.iaload, 1) := by decide +kernel
theorem d_L_law_638 : decode code 638 = .ok (.invokevirtual 76, 3) := by decide +kernel
theorem d_L_law_641 : decode code 641 = .ok (.aload_n 2, 1) := by decide +kernel
theorem d_L_law_642 : decode code 642 = .ok (.aload_n 0, 1) := by decide +kernel
theorem d_L_law_643 : decode code 643 = .ok (.iload_n 3, 1) := by decide +kernel
theorem d_L_law_644 : decode code 644 = .ok (.iconst 1, 1) := by decide +kernel
theorem d_L_law_645 : decode code 645 = .ok (.iadd, 1) := by decide +kernel
theorem d_L_law_646 : decode code 646 = .ok (.iaload, 1) := by decide +kernel
theorem d_L_law_647 : decode code 647 = .ok (.invokevirtual 80, 3) := by decide +kernel
theorem d_L_law_650 : decode code 650 = .ok (.if_icmp .eq 48, 3) := by decide +kernel
theorem d_L_law_653 : decode code 653 = .ok (.iconst 0, 1) := by decide +kernel
theorem d_L_law_654 : decode code 654 = .ok (.ireturn, 1) := by decide +kernel
theorem d_L_law_655 : decode code 655 = .ok (.aload_n 1, 1) := by decide +kernel
theorem d_L_law_656 : decode code 656 = .ok (.aload_n 0, 1) := by decide +kernel
theorem d_L_law_657 : decode code 657 = .ok (.iload_n 3, 1) := by decide +kernel
theorem d_L_law_658 : decode code 658 = .ok (.iconst 1, 1) := by decide +kernel
theorem d_L_law_659 : decode code 659 = .ok (.iadd, 1) := by decide +kernel
theorem d_L_law_660 : decode code 660 = .ok (.iaload, 1) := by decide +kernel
theorem d_L_law_661 : decode code 661 = .ok (.aload_n 0, 1) := by decide +kernel
theorem d_L_law_662 : decode code 662 = .ok (.iload_n 3, 1) := by decide +kernel
theorem d_L_law_663 : decode code 663 = .ok (.iconst 2, 1) := by decide +kernel
theorem d_L_law_664 : decode code 664 = .ok (.iadd, 1) := by decide +kernel
theorem d_L_law_665 : decode code 665 = .ok (.iaload, 1) := by decide +kernel
theorem d_L_law_666 : decode code 666 = .ok (.aload_n 0, 1) := by decide +kernel
theorem d_L_law_667 : decode code 667 = .ok (.iload_n 3, 1) := by decide +kernel
theorem d_L_law_668 : decode code 668 = .ok (.iconst 3, 1) := by decide +kernel
theorem d_L_law_669 : decode code 669 = .ok (.iadd, 1) := by decide +kernel
theorem d_L_law_670 : decode code 670 = .ok (.iaload, 1) := by decide +kernel
theorem d_L_law_671 : decode code 671 = .ok (.invokevirtual 81, 3) := by decide +kernel
theorem d_L_law_674 : decode code 674 = .ok (.aload_n 2, 1) := by decide +kernel
theorem d_L_law_675 : decode code 675 = .ok (.aload_n 0, 1) := by decide +kernel
theorem d_L_law_676 : decode code 676 = .ok (.iload_n 3, 1) := by decide +kernel
theorem d_L_law_677 : decode code 677 = .ok (.iconst 1, 1) := by decide +kernel
theorem d_L_law_678 : decode code 678 = .ok (.iadd, 1) := by decide +kernel
theorem d_L_law_679 : decode code 679 = .ok (.iaload, 1) := by decide +kernel
theorem d_L_law_680 : decode code 680 = .ok (.aload_n 0, 1) := by decide +kernel
theorem d_L_law_681 : decode code 681 = .ok (.iload_n 3, 1) := by decide +kernel
theorem d_L_law_682 : decode code 682 = .ok (.iconst 2, 1) := by decide +kernel
theorem d_L_law_683 : decode code 683 = .ok (.iadd, 1) := by decide +kernel
theorem d_L_law_684 : decode code 684 = .ok (.iaload, 1) := by decide +kernel
theorem d_L_law_685 : decode code 685 = .ok (.aload_n 0, 1) := by decide +kernel
theorem d_L_law_686 : decode code 686 = .ok (.iload_n 3, 1) := by decide +kernel
theorem d_L_law_687 : decode code 687 = .ok (.iconst 3, 1) := by decide +kernel
theorem d_L_law_688 : decode code 688 = .ok (.iadd, 1) := by decide +kernel
theorem d_L_law_689 : decode code 689 = .ok (.iaload, 1) := by decide +kernel
theorem d_L_law_690 : decode code 690 = .ok (.invokevirtual 84, 3) := by decide +kernel
theorem d_L_law_693 : decode code 693 = .ok (.if_icmp .eq 5, 3) := by decide +kernel
theorem d_L_law_696 : decode code 696 = .ok (.iconst 0, 1) := by decide +kernel
theorem d_L_law_697 : decode code 697 = .ok (.ireturn, 1) := by decide +kernel
theorem d_L_law_698 : decode code 698 = .ok (.iinc 3 4, 3) := by decide +kernel
theorem d_L_law_701 : decode code 701 = .ok (.goto (-683), 3) := by decide +kernel
theorem d_L_law_704 : decode code 704 = .ok (.iconst 1, 1) := by decide +kernel
theorem d_L_law_705 : decode code 705 = .ok (.ireturn, 1) := by decide +kernel
end
section
/-! Numbers of the machine as whole numbers: iI z is the int z; rows for arithmetic and branches in these words. -/
def iI (z : Int) : Int32 := Int32.ofInt z
def iR (z : Int) : Prop := -2147483648 ≤ z ∧ z < 2147483648
def bI (b : Bool) : Int := if b then 1 else 0
theorem bI_t : bI true = 1 := rfl
theorem bI_f : bI false = 0 := rfl
theorem iI_add (a b : Int) : iI a + iI b = iI (a + b) := (Int32.ofInt_add a b).symm
theorem iI_sub (a b : Int) : iI a - iI b = iI (a - b) := (Int32.ofInt_sub a b).symm
theorem iI_mul (a b : Int) : iI a * iI b = iI (a * b) := (Int32.ofInt_mul a b).symm
theorem iI_neg (a : Int) : -iI a = iI (-a) := (Int32.ofInt_neg a).symm
theorem iI_toInt {z : Int} (h : iR z) : (iI z).toInt = z := Int32.toInt_ofInt_of_le h.1 h.2
theorem iI_of (x : Int32) : iI x.toInt = x := Int32.ofInt_toInt x
theorem iR_of (x : Int32) : iR x.toInt := ⟨x.le_toInt, x.toInt_lt⟩
theorem iI_lt {a b : Int} (ha : iR a) (hb : iR b) : iI a < iI b ↔ a < b := by rw [Int32.lt_iff_toInt_lt, iI_toInt ha, iI_toInt hb]
theorem iI_le {a b : Int} (ha : iR a) (hb : iR b) : iI a ≤ iI b ↔ a ≤ b := by rw [Int32.le_iff_toInt_le, iI_toInt ha, iI_toInt hb]
theorem iI_eq {a b : Int} (ha : iR a) (hb : iR b) : iI a = iI b ↔ a = b := by rw [← Int32.toInt_inj, iI_toInt ha, iI_toInt hb]
theorem iI_0 : iI 0 = 0 := rfl
theorem iR_0 : iR 0 := by unfold iR; omega
theorem iI_nI (k : Nat) : iI (k : Int) = nI k := Int32.ofInt_eq_ofNat
theorem iI_cl {z : Int} {k : Nat} (hk : z = (k : Int)) (h : k < 2147483648) : (iI z).toNatClampNeg = k := by rw [hk, iI_nI]; exact nI_clamp h
theorem iI_in {z : Int} {k n : Nat} (hk : z = (k : Int)) (h : k < n) (hn : n < 2147483648) : vp_in (iI z) n := by rw [hk, iI_nI]; exact vp_in_nI h hn
section HA
variable {p : Program} {l : Launch} {e : Env} {R : Room} {s : State} {m : MethodId} {args : Array Value} {below : List Frame} {meth : Method} {c : Code} {H : Heap} {locs : List Loc} {cells slots : Nat} {Q : State → Prop}
variable {cc : ByteArray} {pc : Nat} {ls : Array Slot} {rest : List Value}
theorem hp_iconst (hexec : p.tables.exec = Jvm.exec) (hb : c.code = cc) {n z : Int} (hdg : decode cc pc = .ok (.iconst n, 1)) (hv : Int32.ofInt n = iI z) (k : W p l e R s m args below meth c H locs cells slots Q (F0 m (pc + 1) ls (.int (iI z) :: rest))) : W p l e R s m args below meth c H locs cells slots Q (F0 m pc ls rest) := lv_iconst hexec hb hdg hv k
theorem hp_bipush (hexec : p.tables.exec = Jvm.exec) (hb : c.code = cc) {n z : Int} (hdg : decode cc pc = .ok (.bipush n, 2)) (hv : (Int8.ofInt n).toInt32 = iI z) (k : W p l e R s m args below meth c H locs cells slots Q (F0 m (pc + 2) ls (.int (iI z) :: rest))) : W p l e R s m args below meth c H locs cells slots Q (F0 m pc ls rest) := lv_bipush hexec hb hdg hv k
theorem hp_sipush (hexec : p.tables.exec = Jvm.exec) (hb : c.code = cc) {n z : Int} (hdg : decode cc pc = .ok (.sipush n, 3)) (hv : (Int16.ofInt n).toInt32 = iI z) (k : W p l e R s m args below meth c H locs cells slots Q (F0 m (pc + 3) ls (.int (iI z) :: rest))) : W p l e R s m args below meth c H locs cells slots Q (F0 m pc ls rest) := lv_sipush hexec hb hdg hv k
theorem hp_iadd (hexec : p.tables.exec = Jvm.exec) (hb : c.code = cc) {a b : Int} (hdg : decode cc pc = .ok (.iadd, 1)) (k : W p l e R s m args below meth c H locs cells slots Q (F0 m (pc + 1) ls (.int (iI (a + b)) :: rest))) : W p l e R s m args below meth c H locs cells slots Q (F0 m pc ls (.int (iI b) :: .int (iI a) :: rest)) := lv_iadd hexec hb hdg (by rw [iI_add]; exact k)
theorem hp_isub (hexec : p.tables.exec = Jvm.exec) (hb : c.code = cc) {a b : Int} (hdg : decode cc pc = .ok (.isub, 1)) (k : W p l e R s m args below meth c H locs cells slots Q (F0 m (pc + 1) ls (.int (iI (a - b)) :: rest))) : W p l e R s m args below meth c H locs cells slots Q (F0 m pc ls (.int (iI b) :: .int (iI a) :: rest)) := lv_isub hexec hb hdg (by rw [iI_sub]; exact k)
theorem hp_imul (hexec : p.tables.exec = Jvm.exec) (hb : c.code = cc) {a b : Int} (hdg : decode cc pc = .ok (.imul, 1)) (k : W p l e R s m args below meth c H locs cells slots Q (F0 m (pc + 1) ls (.int (iI (a * b)) :: rest))) : W p l e R s m args below meth c H locs cells slots Q (F0 m pc ls (.int (iI b) :: .int (iI a) :: rest)) := lv_imul hexec hb hdg (by rw [iI_mul]; exact k)
theorem hp_ineg (hexec : p.tables.exec = Jvm.exec) (hb : c.code = cc) {a : Int} (hdg : decode cc pc = .ok (.ineg, 1)) (k : W p l e R s m args below meth c H locs cells slots Q (F0 m (pc + 1) ls (.int (iI (-a)) :: rest))) : W p l e R s m args below meth c H locs cells slots Q (F0 m pc ls (.int (iI a) :: rest)) := lv_ineg hexec hb hdg (by rw [iI_neg]; exact k)
theorem hp_icmp_eq (hexec : p.tables.exec = Jvm.exec) (hb : c.code = cc) {a b : Int} {off : Int} {tgt : Nat} (hdg : decode cc pc = .ok (.if_icmp .eq off, 3)) (ht : (pc : Int) + off = (tgt : Int)) (ha : iR a) (hb2 : iR b) (kt : a = b → W p l e R s m args below meth c H locs cells slots Q (F0 m tgt ls rest)) (kf : ¬ a = b → W p l e R s m args below meth c H locs cells slots Q (F0 m (pc + 3) ls rest)) : W p l e R s m args below meth c H locs cells slots Q (F0 m pc ls (.int (iI b) :: .int (iI a) :: rest)) := lv_icmp_eq hexec hb hdg ht (fun h => kt ((iI_eq ha hb2).mp h)) (fun h => kf (fun q => h ((iI_eq ha hb2).mpr q)))
theorem hp_if_eq (hexec : p.tables.exec = Jvm.exec) (hb : c.code = cc) {a : Int} {off : Int} {tgt : Nat} (hdg : decode cc pc = .ok (.ifCond .eq off, 3)) (ht : (pc : Int) + off = (tgt : Int)) (ha : iR a) (kt : a = 0 → W p l e R s m args below meth c H locs cells slots Q (F0 m tgt ls rest)) (kf : ¬ a = 0 → W p l e R s m args below meth c H locs cells slots Q (F0 m (pc + 3) ls rest)) : W p l e R s m args below meth c H locs cells slots Q (F0 m pc ls (.int (iI a) :: rest)) := lv_if_eq hexec hb hdg ht (fun h => kt ((iI_eq ha iR_0).mp h)) (fun h => kf (fun q => h ((iI_eq ha iR_0).mpr q)))
theorem hp_icmp_ne (hexec : p.tables.exec = Jvm.exec) (hb : c.code = cc) {a b : Int} {off : Int} {tgt : Nat} (hdg : decode cc pc = .ok (.if_icmp .ne off, 3)) (ht : (pc : Int) + off = (tgt : Int)) (ha : iR a) (hb2 : iR b) (kt : ¬ a = b → W p l e R s m args below meth c H locs cells slots Q (F0 m tgt ls rest)) (kf : a = b → W p l e R s m args below meth c H locs cells slots Q (F0 m (pc + 3) ls rest)) : W p l e R s m args below meth c H locs cells slots Q (F0 m pc ls (.int (iI b) :: .int (iI a) :: rest)) := lv_icmp_ne hexec hb hdg ht (fun h => kt (fun q => h ((iI_eq ha hb2).mpr q))) (fun h => kf ((iI_eq ha hb2).mp h))
theorem hp_if_ne (hexec : p.tables.exec = Jvm.exec) (hb : c.code = cc) {a : Int} {off : Int} {tgt : Nat} (hdg : decode cc pc = .ok (.ifCond .ne off, 3)) (ht : (pc : Int) + off = (tgt : Int)) (ha : iR a) (kt : ¬ a = 0 → W p l e R s m args below meth c H locs cells slots Q (F0 m tgt ls rest)) (kf : a = 0 → W p l e R s m args below meth c H locs cells slots Q (F0 m (pc + 3) ls rest)) : W p l e R s m args below meth c H locs cells slots Q (F0 m pc ls (.int (iI a) :: rest)) := lv_if_ne hexec hb hdg ht (fun h => kt (fun q => h ((iI_eq ha iR_0).mpr q))) (fun h => kf ((iI_eq ha iR_0).mp h))
theorem hp_icmp_lt (hexec : p.tables.exec = Jvm.exec) (hb : c.code = cc) {a b : Int} {off : Int} {tgt : Nat} (hdg : decode cc pc = .ok (.if_icmp .lt off, 3)) (ht : (pc : Int) + off = (tgt : Int)) (ha : iR a) (hb2 : iR b) (kt : a < b → W p l e R s m args below meth c H locs cells slots Q (F0 m tgt ls rest)) (kf : b ≤ a → W p l e R s m args below meth c H locs cells slots Q (F0 m (pc + 3) ls rest)) : W p l e R s m args below meth c H locs cells slots Q (F0 m pc ls (.int (iI b) :: .int (iI a) :: rest)) := lv_icmp_lt hexec hb hdg ht (fun h => kt ((iI_lt ha hb2).mp h)) (fun h => kf (Int.not_lt.mp (fun q => h ((iI_lt ha hb2).mpr q))))
theorem hp_if_lt (hexec : p.tables.exec = Jvm.exec) (hb : c.code = cc) {a : Int} {off : Int} {tgt : Nat} (hdg : decode cc pc = .ok (.ifCond .lt off, 3)) (ht : (pc : Int) + off = (tgt : Int)) (ha : iR a) (kt : a < 0 → W p l e R s m args below meth c H locs cells slots Q (F0 m tgt ls rest)) (kf : 0 ≤ a → W p l e R s m args below meth c H locs cells slots Q (F0 m (pc + 3) ls rest)) : W p l e R s m args below meth c H locs cells slots Q (F0 m pc ls (.int (iI a) :: rest)) := lv_if_lt hexec hb hdg ht (fun h => kt ((iI_lt ha iR_0).mp h)) (fun h => kf (Int.not_lt.mp (fun q => h ((iI_lt ha iR_0).mpr q))))
theorem hp_icmp_ge (hexec : p.tables.exec = Jvm.exec) (hb : c.code = cc) {a b : Int} {off : Int} {tgt : Nat} (hdg : decode cc pc = .ok (.if_icmp .ge off, 3)) (ht : (pc : Int) + off = (tgt : Int)) (ha : iR a) (hb2 : iR b) (kt : b ≤ a → W p l e R s m args below meth c H locs cells slots Q (F0 m tgt ls rest)) (kf : a < b → W p l e R s m args below meth c H locs cells slots Q (F0 m (pc + 3) ls rest)) : W p l e R s m args below meth c H locs cells slots Q (F0 m pc ls (.int (iI b) :: .int (iI a) :: rest)) := lv_icmp_ge hexec hb hdg ht (fun h => kt ((iI_le hb2 ha).mp h)) (fun h => kf (Int.not_le.mp (fun q => h ((iI_le hb2 ha).mpr q))))
theorem hp_if_ge (hexec : p.tables.exec = Jvm.exec) (hb : c.code = cc) {a : Int} {off : Int} {tgt : Nat} (hdg : decode cc pc = .ok (.ifCond .ge off, 3)) (ht : (pc : Int) + off = (tgt : Int)) (ha : iR a) (kt : 0 ≤ a → W p l e R s m args below meth c H locs cells slots Q (F0 m tgt ls rest)) (kf : a < 0 → W p l e R s m args below meth c H locs cells slots Q (F0 m (pc + 3) ls rest)) : W p l e R s m args below meth c H locs cells slots Q (F0 m pc ls (.int (iI a) :: rest)) := lv_if_ge hexec hb hdg ht (fun h => kt ((iI_le iR_0 ha).mp h)) (fun h => kf (Int.not_le.mp (fun q => h ((iI_le iR_0 ha).mpr q))))
theorem hp_icmp_gt (hexec : p.tables.exec = Jvm.exec) (hb : c.code = cc) {a b : Int} {off : Int} {tgt : Nat} (hdg : decode cc pc = .ok (.if_icmp .gt off, 3)) (ht : (pc : Int) + off = (tgt : Int)) (ha : iR a) (hb2 : iR b) (kt : b < a → W p l e R s m args below meth c H locs cells slots Q (F0 m tgt ls rest)) (kf : a ≤ b → W p l e R s m args below meth c H locs cells slots Q (F0 m (pc + 3) ls rest)) : W p l e R s m args below meth c H locs cells slots Q (F0 m pc ls (.int (iI b) :: .int (iI a) :: rest)) := lv_icmp_gt hexec hb hdg ht (fun h => kt ((iI_lt hb2 ha).mp h)) (fun h => kf (Int.not_lt.mp (fun q => h ((iI_lt hb2 ha).mpr q))))
theorem hp_if_gt (hexec : p.tables.exec = Jvm.exec) (hb : c.code = cc) {a : Int} {off : Int} {tgt : Nat} (hdg : decode cc pc = .ok (.ifCond .gt off, 3)) (ht : (pc : Int) + off = (tgt : Int)) (ha : iR a) (kt : 0 < a → W p l e R s m args below meth c H locs cells slots Q (F0 m tgt ls rest)) (kf : a ≤ 0 → W p l e R s m args below meth c H locs cells slots Q (F0 m (pc + 3) ls rest)) : W p l e R s m args below meth c H locs cells slots Q (F0 m pc ls (.int (iI a) :: rest)) := lv_if_gt hexec hb hdg ht (fun h => kt ((iI_lt iR_0 ha).mp h)) (fun h => kf (Int.not_lt.mp (fun q => h ((iI_lt iR_0 ha).mpr q))))
theorem hp_icmp_le (hexec : p.tables.exec = Jvm.exec) (hb : c.code = cc) {a b : Int} {off : Int} {tgt : Nat} (hdg : decode cc pc = .ok (.if_icmp .le off, 3)) (ht : (pc : Int) + off = (tgt : Int)) (ha : iR a) (hb2 : iR b) (kt : a ≤ b → W p l e R s m args below meth c H locs cells slots Q (F0 m tgt ls rest)) (kf : b < a → W p l e R s m args below meth c H locs cells slots Q (F0 m (pc + 3) ls rest)) : W p l e R s m args below meth c H locs cells slots Q (F0 m pc ls (.int (iI b) :: .int (iI a) :: rest)) := lv_icmp_le hexec hb hdg ht (fun h => kt ((iI_le ha hb2).mp h)) (fun h => kf (Int.not_le.mp (fun q => h ((iI_le ha hb2).mpr q))))
theorem hp_if_le (hexec : p.tables.exec = Jvm.exec) (hb : c.code = cc) {a : Int} {off : Int} {tgt : Nat} (hdg : decode cc pc = .ok (.ifCond .le off, 3)) (ht : (pc : Int) + off = (tgt : Int)) (ha : iR a) (kt : a ≤ 0 → W p l e R s m args below meth c H locs cells slots Q (F0 m tgt ls rest)) (kf : 0 < a → W p l e R s m args below meth c H locs cells slots Q (F0 m (pc + 3) ls rest)) : W p l e R s m args below meth c H locs cells slots Q (F0 m pc ls (.int (iI a) :: rest)) := lv_if_le hexec hb hdg ht (fun h => kt ((iI_le ha iR_0).mp h)) (fun h => kf (Int.not_le.mp (fun q => h ((iI_le ha iR_0).mpr q))))
theorem hp_ifb_eq (hexec : p.tables.exec = Jvm.exec) (hb : c.code = cc) {b : Bool} {off : Int} {tgt : Nat} (hdg : decode cc pc = .ok (.ifCond .eq off, 3)) (ht : (pc : Int) + off = (tgt : Int)) (kt : b = false → W p l e R s m args below meth c H locs cells slots Q (F0 m tgt ls rest)) (kf : b = true → W p l e R s m args below meth c H locs cells slots Q (F0 m (pc + 3) ls rest)) : W p l e R s m args below meth c H locs cells slots Q (F0 m pc ls (.int (iI (bI b)) :: rest)) := lv_if_eq hexec hb hdg ht (fun h => kt (by cases b; rfl; exact absurd h (by decide))) (fun h => kf (by cases b; exact absurd rfl h; rfl))
theorem hp_ifb_ne (hexec : p.tables.exec = Jvm.exec) (hb : c.code = cc) {b : Bool} {off : Int} {tgt : Nat} (hdg : decode cc pc = .ok (.ifCond .ne off, 3)) (ht : (pc : Int) + off = (tgt : Int)) (kt : b = true → W p l e R s m args below meth c H locs cells slots Q (F0 m tgt ls rest)) (kf : b = false → W p l e R s m args below meth c H locs cells slots Q (F0 m (pc + 3) ls rest)) : W p l e R s m args below meth c H locs cells slots Q (F0 m pc ls (.int (iI (bI b)) :: rest)) := lv_if_ne hexec hb hdg ht (fun h => kt (by cases b; exact absurd rfl h; rfl)) (fun h => kf (by cases b; rfl; exact absurd h (by decide)))
theorem hp_iinc (hexec : p.tables.exec = Jvm.exec) (hb : c.code = cc) {i nL k : Nat} {n x z : Int} {lv lv' : List (Nat × Value)} (hdg : decode cc pc = .ok (.iinc i n, 3)) (h : lv_has ls nL lv) (hk : lv[k]? = some (i, .int (iI x))) (hv : x + n = z) (hn : i < nL) (hl : (i, Value.int (iI z)) :: lv.filter (fun q => !(q.1 == i) && !(q.1 + 1 == i && q.2.category == 2)) = lv') (kk : ∀ ls' : Array Slot, lv_has ls' nL lv' → W p l e R s m args below meth c H locs cells slots Q (F0 m (pc + 3) ls' rest)) : W p l e R s m args below meth c H locs cells slots Q (F0 m pc ls rest) := lv_iinc hexec hb hdg h hk (by rw [← hv]; exact iI_add x n) hn hl kk
end HA
end
section
/-! The heap cell by cell: 'va_at D cl (a, what) H' says what lies at a; a write names the cell, and says that all others are as they were. -/
theorem hp_one {D : va_G} {cl : List vw_C} {q : Nat × va_E} {H : Heap} (h : va_at D cl q H) : va_P D cl [q] H := fun k x hx => by
  match k, hx with
  | 0, hx => cases hx; exact h
  | k + 1, hx => simp at hx
def hp_up {α : Type} (f : Nat → α) (k : Nat) (v : α) : Nat → α := fun j => if j = k then v else f j
theorem hp_up_s {α : Type} (f : Nat → α) (k : Nat) (v : α) : hp_up f k v k = v := by simp [hp_up]
theorem hp_up_n {α : Type} (f : Nat → α) {k j : Nat} (v : α) (h : j ≠ k) : hp_up f k v j = f j := by simp [hp_up, h]
/-- an array of ints of which all are known as whole numbers -/
abbrev hp_ai (cI : ClassId) (n : Nat) (f : Nat → Int) : va_E := .inl (cI, n, .inl (fun k => iI (f k)))
/-- an array of references -/
abbrev hp_aq (cA : ClassId) (n : Nat) (f : Nat → Option Nat) : va_E := .inl (cA, n, .inr (.inr (.inr (.inr f))))
section HB
variable {p : Program} {l : Launch} {e : Env} {R : Room} {s : State} {m : MethodId} {args : Array Value} {below : List Frame} {meth : Method} {c : Code} {H : Heap} {locs : List Loc} {cells slots : Nat} {Q : State → Prop}
variable {cc : ByteArray} {pc : Nat} {ls : Array Slot} {rest : List Value} {D : va_G} {cl : List vw_C} {A : Nat → Prop} {a : Nat} {tys : List (ClassId × FieldType)} {H0 : Heap}
theorem hp_get (hexec : p.tables.exec = Jvm.exec) (hb : c.code = cc) {own ref C : String} {T : u_T} {N ci index : Nat} {Ts : List Cond} (hts : ∀ w ∈ Ts, w.before args s = true) (hin : ∀ w ∈ u_ws C T N, w ∈ Ts) (hown : s.vm.findClass own = some m.cls) (hK : va_K D cl tys s) {fs : List Value} (hP : va_at D cl (a, .inr (ci, fs)) H) (hc : cl[ci]? = some (C, T, N)) (k : Nat) (hk : k < N) (hlink : (Cond.fieldLink own index ref (T k).2.1 (T k).2.2.1).before args s = true) (hsame : ∀ x, s.fieldFound? (T k).1 (T k).2.1 (T k).2.2.1 = some x → s.fieldFound? ref (T k).2.1 (T k).2.2.1 = some x) {v : Value} (hv : fs[k]? = some v) (hdg : decode cc pc = .ok (.getfield index, 3))
    (kk : W p l e R s m args below meth c H locs cells slots Q (F0 m (pc + 3) ls (v :: rest))) : W p l e R s m args below meth c H locs cells slots Q (F0 m pc ls (.ref a :: rest)) :=
  va_get hexec hb hts hin hown hK (hp_one hP) 0 rfl hc k hk hlink hsame hv hdg kk
theorem hp_put (hexec : p.tables.exec = Jvm.exec) (hb : c.code = cc) {own ref C : String} {T : u_T} {N ci index : Nat} {Ts : List Cond} (hts : ∀ w ∈ Ts, w.before args s = true) (hin : ∀ w ∈ u_ws C T N, w ∈ Ts) (ty0 : Nat → FieldType) (hty : ∀ k, k < N → parseFieldDescriptor (T k).2.2.1 = some (ty0 k)) (hnm : ∀ a, a < N → ∀ b, b < N → a ≠ b → (T a).2.1 ≠ (T b).2.1) (hown : s.vm.findClass own = some m.cls) (hK : va_K D cl tys s) {fs : List Value} (hP : va_at D cl (a, .inr (ci, fs)) H) (hS0 : va_S A H0 H locs) (hA : A a) (hc : cl[ci]? = some (C, T, N)) (k : Nat) (hk : k < N) (hlink : (Cond.fieldLink own index ref (T k).2.1 (T k).2.2.1).before args s = true) (hsame : ∀ x, s.fieldFound? (T k).1 (T k).2.1 (T k).2.2.1 = some x → s.fieldFound? ref (T k).2.1 (T k).2.2.1 = some x) (hfin : (T k).2.2.2 = false) {ty : FieldType} {v : Value} (hd : parseFieldDescriptor (T k).2.2.1 = some ty) (hn : narrow ty v = v) (hfit : fits ty v = true) (hl : k < fs.length)
    (hdg : decode cc pc = .ok (.putfield index, 3)) (kk : ∀ (H1 : Heap) (locs1 : List Loc), va_at D cl (a, .inr (ci, fs.set k v)) H1 → H1.size = H.size → (∀ q, q ≠ a → H1[q]? = H[q]?) → va_S A H0 H1 locs1 → W p l e R s m args below meth c H1 locs1 cells slots Q (F0 m (pc + 3) ls rest)) : W p l e R s m args below meth c H locs cells slots Q (F0 m pc ls (v :: .ref a :: rest)) := by
  have hap := va_apart (own := own) hts hin ty0 hty hnm hK hc
  obtain ⟨r, h1, cell, q1, q2, q3, q4⟩ := hP
  have hr : r = (C, T, N) := Option.some.inj (h1.symm.trans hc)
  subst hr
  obtain ⟨hS, hfc, kC, hkC, hkind⟩ := hK.1 ci _ hc
  obtain ⟨cf, kf, fi, f, hi, hsl⟩ := hS k hk
  have hlay := hts _ (hin _ (u_in_lay hk))
  unfold u_lay at hlay
  rw [if_neg (by rw [hfin]; decide)] at hlay
  have hst := (u_facts hfc hkC (u_lays hts hin hk) hi).1
  have h6 := u_store hfc hkC hkind hlay hi hd hn hfit
  refine W.putK hexec hb (f := f) ⟨hown, hlink, ⟨_, _, _, hsame _ hi⟩, hst⟩ (by rw [q2]; exact h6) q1 q3 (by rw [hsl]; exact k2_hasslot (q4 k hk)) rfl rfl hdg fun H' e1 e2 e3 => ?_
  rw [hsl] at e1 ⊢
  exact kk H' _ ⟨_, hc, t_OB.to (V := updV (vp_V fs) k v) ⟨_, e1, q2, q3, t_set q4 hap hk v⟩ (fun j _ => vp_updV_set hl v j)⟩ e2 e3 (hS0.put e2 e3 hA)
theorem hp_putF (hexec : p.tables.exec = Jvm.exec) (hb : c.code = cc) {own ref C : String} {T : u_T} {N ci index : Nat} {Ts : List Cond} (hts : ∀ w ∈ Ts, w.before args s = true) (hin : ∀ w ∈ u_ws C T N, w ∈ Ts) (ty0 : Nat → FieldType) (hty : ∀ k, k < N → parseFieldDescriptor (T k).2.2.1 = some (ty0 k)) (hnm : ∀ a, a < N → ∀ b, b < N → a ≠ b → (T a).2.1 ≠ (T b).2.1) (hown : s.vm.findClass own = some m.cls) (hK : va_K D cl tys s) {fs : List Value} (hP : va_at D cl (a, .inr (ci, fs)) H) (hS0 : va_S A H0 H locs) (hA : A a) (hc : cl[ci]? = some (C, T, N)) (k : Nat) (hk : k < N) (hlink : (Cond.fieldLink own index ref (T k).2.1 (T k).2.2.1).before args s = true) (hsame : ∀ x, s.fieldFound? (T k).1 (T k).2.1 (T k).2.2.1 = some x → s.fieldFound? ref (T k).2.1 (T k).2.2.1 = some x) (hfin : (T k).2.2.2 = true) (hin2 : meth.name = "<init>") (hdecl : (T k).1 = own) {ty : FieldType} {v : Value} (hd : parseFieldDescriptor (T k).2.2.1 = some ty) (hn : narrow ty v = v) (hfit : fits ty v = true) (hl : k < fs.length)
    (hdg : decode cc pc = .ok (.putfield index, 3)) (kk : ∀ (H1 : Heap) (locs1 : List Loc), va_at D cl (a, .inr (ci, fs.set k v)) H1 → H1.size = H.size → (∀ q, q ≠ a → H1[q]? = H[q]?) → va_S A H0 H1 locs1 → W p l e R s m args below meth c H1 locs1 cells slots Q (F0 m (pc + 3) ls rest)) : W p l e R s m args below meth c H locs cells slots Q (F0 m pc ls (v :: .ref a :: rest)) := by
  have hap := va_apart (own := own) hts hin ty0 hty hnm hK hc
  obtain ⟨r, h1, cell, q1, q2, q3, q4⟩ := hP
  have hr : r = (C, T, N) := Option.some.inj (h1.symm.trans hc)
  subst hr
  obtain ⟨hS, hfc, kC, hkC, hkind⟩ := hK.1 ci _ hc
  obtain ⟨cf, kf, fi, f, hi, hsl⟩ := hS k hk
  have hlay := hts _ (hin _ (u_in_lay hk))
  unfold u_lay at hlay
  rw [if_pos hfin] at hlay
  have hst := (u_facts hfc hkC (u_lays hts hin hk) hi).1
  have hcf : m.cls = cf := by
    obtain ⟨_, _, c', _, _, _, -, -, hf', -, -, -, hown2, -⟩ := Cond.laysFinal_spec hlay
    have e1 : c' = cf := by have := hi.symm.trans hf'; simp at this; exact this.1.symm
    rw [hdecl] at hown2
    rw [← e1]; exact Option.some.inj (hown.symm.trans hown2)
  have h6 := u_fits hfc hkC hkind (Or.inr hlay) hi hd hn hfit
  refine W.putFinK hexec hb hown hlink (hsame _ hi) hst hcf hin2 (by rw [q2]; exact h6) q1 q3 (by rw [hsl]; exact k2_hasslot (q4 k hk)) rfl rfl hdg fun H' e1 e2 e3 => ?_
  rw [hsl] at e1 ⊢
  exact kk H' _ ⟨_, hc, t_OB.to (V := updV (vp_V fs) k v) ⟨_, e1, q2, q3, t_set q4 hap hk v⟩ (fun j _ => vp_updV_set hl v j)⟩ e2 e3 (hS0.put e2 e3 hA)
theorem hp_iald (hexec : p.tables.exec = Jvm.exec) (hb : c.code = cc) (hK : va_K D cl tys s) (t0 : Nat) {cI : ClassId} {n : Nat} {f : Nat → Int} (hP : va_at D cl (a, hp_ai cI n f) H) (ht : tys[t0]? = some (cI, .int)) (hdg : decode cc pc = .ok (.iaload, 1)) (hn : n < 2147483648) {z : Int} (k : Nat) (hz : z = (k : Int)) (hk : k < n)
    (kk : W p l e R s m args below meth c H locs cells slots Q (F0 m (pc + 1) ls (.int (iI (f k)) :: rest))) : W p l e R s m args below meth c H locs cells slots Q (F0 m pc ls (.int (iI z) :: .ref a :: rest)) := by
  refine va_iald hexec hb hK (hp_one hP) 0 t0 rfl ht (iI_in hz hk hn) hdg ?_
  rw [iI_cl hz (by omega)]
  exact kk
theorem hp_iast (hexec : p.tables.exec = Jvm.exec) (hb : c.code = cc) (hK : va_K D cl tys s) (t0 : Nat) {cI : ClassId} {n : Nat} {f : Nat → Int} (hP : va_at D cl (a, hp_ai cI n f) H) (hS : va_S A H0 H locs) (hA : A a) (ht : tys[t0]? = some (cI, .int)) (hdg : decode cc pc = .ok (.iastore, 1)) (hn : n < 2147483648) {z x : Int} (k : Nat) (hz : z = (k : Int)) (hk : k < n)
    (kk : ∀ (H1 : Heap) (locs1 : List Loc), va_at D cl (a, hp_ai cI n (hp_up f k x)) H1 → H1.size = H.size → (∀ q, q ≠ a → H1[q]? = H[q]?) → va_S A H0 H1 locs1 → W p l e R s m args below meth c H1 locs1 cells slots Q (F0 m (pc + 1) ls rest)) : W p l e R s m args below meth c H locs cells slots Q (F0 m pc ls (.int (iI x) :: .int (iI z) :: .ref a :: rest)) := by
  have hi := iI_in hz hk hn
  have hc := iI_cl hz (show k < 2147483648 by omega)
  refine W.iast hexec hb hP ((hK.2 t0 _ ht).1 n (fun j => .int (iI (f j)))) (fun q => by cases q) (by show ¬ (iI z < 0 ∨ (arrV _ _ _).slots.size ≤ _); rw [arrV_size]; exact hi) rfl rfl hdg fun H1 e1 z1 oq => ?_
  refine kk H1 _ ?_ z1 oq (hS.put z1 oq hA)
  show H1[a]? = some (vp_cell _ _)
  rw [e1, vp_cell_i, vp_cell_i, arrV_store, hc]
  congr 2
  funext q
  by_cases hq : q = k
  · subst hq
    simp [updV, hp_up]
  · simp [updV, hp_up, hq]
theorem hp_aald (hexec : p.tables.exec = Jvm.exec) (hb : c.code = cc) (hK : va_K D cl tys s) (t0 : Nat) {cA : ClassId} {ty : FieldType} {n : Nat} {f : Nat → Option Nat} (hP : va_at D cl (a, hp_aq cA n f) H) (ht : tys[t0]? = some (cA, ty)) (hty : ty.isReference = true) (hdg : decode cc pc = .ok (.aaload, 1)) (hn : n < 2147483648) {z : Int} (k : Nat) (hz : z = (k : Int)) (hk : k < n) {v : Value} (hv : va_rf (f k) = v)
    (kk : W p l e R s m args below meth c H locs cells slots Q (F0 m (pc + 1) ls (v :: rest))) : W p l e R s m args below meth c H locs cells slots Q (F0 m pc ls (.int (iI z) :: .ref a :: rest)) := by
  have hi := iI_in hz hk hn
  have hc := iI_cl hz (show k < 2147483648 by omega)
  exact W.aald (v := v) hexec hb hP ((hK.2 t0 _ ht).1 n (fun j => va_rf (f j))) hty (fun q => by cases q) (by show ¬ (iI z < 0 ∨ (arrV _ _ _).slots.size ≤ _); rw [arrV_size]; exact hi) (by show (arrV _ _ _).slots[_]? = _; rw [hc, arrV_read _ _ hk, hv]) rfl rfl hdg kk
theorem hp_alen (hexec : p.tables.exec = Jvm.exec) (hb : c.code = cc) (hK : va_K D cl tys s) (t0 : Nat) {cA : ClassId} {x : vp_A} (hP : va_at D cl (a, .inl (cA, x)) H) {ty : FieldType} (ht : tys[t0]? = some (cA, ty)) (hdg : decode cc pc = .ok (.arraylength, 1))
    (kk : W p l e R s m args below meth c H locs cells slots Q (F0 m (pc + 1) ls (.int (iI (x.1 : Int)) :: rest))) : W p l e R s m args below meth c H locs cells slots Q (F0 m pc ls (.ref a :: rest)) :=
  va_alen hexec hb hK (hp_one hP) 0 t0 rfl ht (v := iI (x.1 : Int)) (iI_nI x.1).symm hdg kk
theorem hp_newa (hexec : p.tables.exec = Jvm.exec) (hb : c.code = cc) (harr : (Cond.arrayClass .int).before args s = true) (hK : va_K D cl tys s) (t0 : Nat) {cI : ClassId} (ht : tys[t0]? = some (cI, .int)) (hS : va_S A H0 H locs) (hA : ∀ q, H0.size ≤ q → A q) {z : Int} (n : Nat) (hz : z = (n : Int)) (hn : n < 100000000) (hcells : cells + 1 ≤ R.cells) (hslots : slots + n ≤ R.slots) (hdg : decode cc pc = .ok (.newarray .int, 2))
    (kk : ∀ (H1 : Heap), va_at D cl (H.size, hp_ai cI n (fun _ => 0)) H1 → H1.size = H.size + 1 → (∀ q, q < H.size → H1[q]? = H[q]?) → va_S A H0 H1 locs → W p l e R s m args below meth c H1 locs (cells + 1) (slots + n) Q (F0 m (pc + 2) ls (.ref H.size :: rest))) : W p l e R s m args below meth c H locs cells slots Q (F0 m pc ls (.int (iI z) :: rest)) := by
  have hcl := iI_cl hz (show n < 2147483648 by omega)
  refine va_newaK (atype := .int) hexec hb harr rfl hdg rfl (fun h => (iI_in hz (Nat.lt_succ_self n) (by omega)) (Or.inl h)) hcl (by show n * 4 ≤ _; omega) hcells hslots rfl fun H1 cA e1 z1 o1 hAr hNm => ?_
  have hc : cA = cI := by
    have h2 : s.vm.findClass ("[" ++ FieldType.int.toString) = some cI := (hK.2 t0 _ ht).2
    exact Option.some.inj (hNm.symm.trans h2)
  subst hc
  refine kk H1 ?_ z1 o1 ⟨Nat.le_trans hS.1 (by omega), fun x h1 h2 => (o1 x (Nat.lt_of_lt_of_le h1 hS.1)).trans (hS.2.1 x h1 h2), hS.2.2⟩
  show H1[H.size]? = some (vp_cell _ _)
  rw [vp_cell_i]
  exact e1
theorem hp_new (hexec : p.tables.exec = Jvm.exec) (hb : c.code = cc) {own C : String} {T : u_T} {N ci index : Nat} {Ts : List Cond} (hts : ∀ w ∈ Ts, w.before args s = true) (hin : ∀ w ∈ u_ws C T N, w ∈ Ts) (ty : Nat → FieldType) (hty : ∀ k, k < N → parseFieldDescriptor (T k).2.2.1 = some (ty k)) (hown : s.vm.findClass own = some m.cls) (hcl : (Cond.classLink own index C).before args s = true) (hinst : (Cond.instantiable C N).before args s = true) (hini : (Cond.initialized C).before args s = true)
    (hK : va_K D cl tys s) (hS : va_S A H0 H locs) (hc : cl[ci]? = some (C, T, N)) {fs : List Value} (hfs : ∀ j, j < N → defaultValue (ty j) = vp_V fs j) (hcells : cells + 1 ≤ R.cells) (hslots : slots + N ≤ R.slots) (hdg : decode cc pc = .ok (.new index, 3))
    (kk : ∀ (H1 : Heap), va_at D cl (H.size, .inr (ci, fs)) H1 → H1.size = H.size + 1 → (∀ q, q < H.size → H1[q]? = H[q]?) → va_S A H0 H1 locs → W p l e R s m args below meth c H1 locs (cells + 1) (slots + N) Q (F0 m (pc + 3) ls (.ref H.size :: rest))) : W p l e R s m args below meth c H locs cells slots Q (F0 m pc ls rest) := by
  have hKn := hK.1 ci _ hc
  refine W.newcK hexec hb hown hcl hinst hini rfl hdg hcells hslots hKn.2.1 rfl fun H1 kC hkC e1 z1 o1 => ?_
  exact kk H1 ⟨_, hc, (u_born ty hts hin hKn hkC e1 hty).to hfs⟩ z1 o1 ⟨Nat.le_trans hS.1 (by omega), fun x h1 h2 => (o1 x (Nat.lt_of_lt_of_le h1 hS.1)).trans (hS.2.1 x h1 h2), hS.2.2⟩
end HB
end
section
/-! Calls: of a method that changes nothing, and of one that writes cells of M alone. -/
abbrev hp_Si (r : Int) : Array Value → State → Outcome → State → Prop := vp_Si (fun x => x = iI r)
def hp_Qv (M : Nat → Prop) (post : Heap → Prop) : Array Value → State → Outcome → State → Prop := fun _ st oc t => oc = .returned none ∧ post t.heap ∧ t.heap.size = st.heap.size ∧ ∀ q, ¬ M q → t.heap[q]? = st.heap[q]?
def hp_Qi (M : Nat → Prop) (post : Int → Heap → Prop) : Array Value → State → Outcome → State → Prop := fun _ st oc t => ∃ r : Int, oc = .returned (some (.int (iI r))) ∧ post r t.heap ∧ t.heap.size = st.heap.size ∧ ∀ q, ¬ M q → t.heap[q]? = st.heap[q]?
def hp_Qr (M : Nat → Prop) (post : Nat → Heap → Prop) : Array Value → State → Outcome → State → Prop := fun _ st oc t => ∃ r : Nat, oc = .returned (some (.ref r)) ∧ post r t.heap ∧ t.heap.size = st.heap.size ∧ ∀ q, ¬ M q → t.heap[q]? = st.heap[q]?
def hp_KK (D : va_G) (cl : List vw_C) (tys : List (ClassId × FieldType)) (ns : List Cond) (U : State) : Prop := va_K D cl tys U ∧ ∀ w ∈ ns, va_Nw w U
def hp_nest (ns : List Cond) : Prop := ∀ w ∈ ns, ∃ (a : String) (i : Nat) (x : MethodName) (h : String), w = Cond.methodLinkNest a i x h
theorem hp_KK.warm {D : va_G} {cl : List vw_C} {tys : List (ClassId × FieldType)} {ns : List Cond} (hn : hp_nest ns) {s U : State} (hW : s.WarmedH U.vm) (h : hp_KK D cl tys ns s) : hp_KK D cl tys ns U := ⟨va_K.moved hW.alike h.1, fun w hw => by
  obtain ⟨a, i, x, y, rfl⟩ := hn w hw
  exact va_Nw.warmM hW (h.2 _ hw)⟩
theorem hp_KK.call {D : va_G} {cl : List vw_C} {tys : List (ClassId × FieldType)} {ns : List Cond} (hn : hp_nest ns) {U : State} (h : hp_KK D cl tys ns U) (g : JFrame) (mk : MethodId) (a : Array Value) : hp_KK D cl tys ns (U.calling g mk a) := ⟨va_K.moved (u := U) (U := U.calling g mk a) (Vm.Alike.refl U.vm) h.1, fun w hw => by
  obtain ⟨a, i, x, y, rfl⟩ := hn w hw
  exact va_Nw.same rfl (u := U) rfl (h.2 _ hw)⟩
/-- the start of a contract: the arguments, what lies in the heap, the tables -/
def hp_Pc (D : va_G) (cl : List vw_C) (tys : List (ClassId × FieldType)) (ns : List Cond) (av : List Value) (B : Heap → Prop) : Array Value → State → Prop := fun v U => v = av.toArray ∧ B U.heap ∧ hp_KK D cl tys ns U
theorem hp_blind {D : va_G} {cl : List vw_C} {tys : List (ClassId × FieldType)} {ns : List Cond} (hn : hp_nest ns) {av : List Value} {B : Heap → Prop} : FrameBlind (hp_Pc D cl tys ns av B) := fun a _ g mk h => ⟨h.1, h.2.1, h.2.2.call hn g mk a⟩
theorem hp_preS {D : va_G} {cl : List vw_C} {tys : List (ClassId × FieldType)} {ns : List Cond} (hn : hp_nest ns) {As : List Value} {B : Heap → Prop} {s : State} {H : Heap} (hK : hp_KK D cl tys ns s) (hB : B H) : PreS s H (hp_Pc D cl tys ns As B) As := ⟨hp_blind hn, fun U hU hW => ⟨rfl, by rw [hU]; exact hB, hK.warm hn hW⟩⟩
theorem hp_preV {D : va_G} {cl : List vw_C} {tys : List (ClassId × FieldType)} {ns : List Cond} (hn : hp_nest ns) {b ci : Nat} {fs : List Value} {q : vw_C} {As : List Value} {B : Heap → Prop} {s : State} {H : Heap} (hK : hp_KK D cl tys ns s) (hc : cl[ci]? = some q) (hP : va_at D cl (b, .inr (ci, fs)) H) (hB : B H) : PreV s H q.1 b (hp_Pc D cl tys ns (.ref b :: As) B) As := ⟨hp_blind hn, va_recv hK.1 (hp_one hP) hc (q0 := 0) rfl, fun U hU hW => ⟨rfl, by rw [hU]; exact hB, hK.warm hn hW⟩⟩
section HC
variable {p : Program} {l : Launch} {e : Env} {R : Room} {s : State} {m : MethodId} {args : Array Value} {below : List Frame} {meth : Method} {c : Code} {H : Heap} {locs : List Loc} {cells slots : Nat} {Q : State → Prop}
variable {pc : Nat} {ls : Array Slot} {rest st0 : List Value} {A M : Nat → Prop} {H0 : Heap} {a : Array Value}
theorem hp_callS {r : Int} (hr : CallRun p l e R s m args below meth c H locs cells slots 0 0 (F0 m pc ls st0) rest (hp_Si r a) (fun _ => False))
    (kk : W p l e R s m args below meth c H locs cells slots Q (F0 m (pc + 3) ls (.int (iI r) :: rest))) : W p l e R s m args below meth c H locs cells slots Q (F0 m pc ls st0) := vp_callSi hr (fun x hx => by rw [hx]; exact kk)
theorem hp_callv {post : Heap → Prop} (hr : CallRun p l e R s m args below meth c H locs cells slots 0 0 (F0 m pc ls st0) rest (hp_Qv M post a) M) (hS : va_S A H0 H locs) (hM : ∀ q, M q → A q)
    (kk : ∀ (H1 : Heap) (locs1 : List Loc), post H1 → H1.size = H.size → (∀ q, ¬ M q → H1[q]? = H[q]?) → va_S A H0 H1 locs1 → W p l e R s m args below meth c H1 locs1 cells slots Q (F0 m (pc + 3) ls rest)) : W p l e R s m args below meth c H locs cells slots Q (F0 m pc ls st0) := by
  intro T hT X
  obtain ⟨v, st₀, t, T', L, h0, X', hL, e1, ⟨hv, hp, hz, hk⟩, st⟩ := hr T hT X
  cases hv
  rw [h0] at hz hk
  obtain ⟨t2, a1, b1⟩ := kk t.heap (locs ++ L) hp hz hk ⟨by rw [hz]; exact hS.1, fun q _ h2 => (hk q (fun z => h2 (hM q z))).trans (hS.2.1 q (by assumption) h2), fun q hq => by
    rcases List.mem_append.mp hq with h | h
    · exact hS.2.2 q h
    · exact hM _ (hL q h)⟩ T' e1 X'
  exact ⟨t2, st t2 a1, b1⟩
theorem hp_calli {post : Int → Heap → Prop} (hr : CallRun p l e R s m args below meth c H locs cells slots 0 0 (F0 m pc ls st0) rest (hp_Qi M post a) M) (hS : va_S A H0 H locs) (hM : ∀ q, M q → A q)
    (kk : ∀ (r : Int) (H1 : Heap) (locs1 : List Loc), post r H1 → H1.size = H.size → (∀ q, ¬ M q → H1[q]? = H[q]?) → va_S A H0 H1 locs1 → W p l e R s m args below meth c H1 locs1 cells slots Q (F0 m (pc + 3) ls (.int (iI r) :: rest))) : W p l e R s m args below meth c H locs cells slots Q (F0 m pc ls st0) := by
  intro T hT X
  obtain ⟨v, st₀, t, T', L, h0, X', hL, e1, ⟨r, hv, hp, hz, hk⟩, st⟩ := hr T hT X
  cases hv
  rw [h0] at hz hk
  obtain ⟨t2, a1, b1⟩ := kk r t.heap (locs ++ L) hp hz hk ⟨by rw [hz]; exact hS.1, fun q _ h2 => (hk q (fun z => h2 (hM q z))).trans (hS.2.1 q (by assumption) h2), fun q hq => by
    rcases List.mem_append.mp hq with h | h
    · exact hS.2.2 q h
    · exact hM _ (hL q h)⟩ T' e1 X'
  exact ⟨t2, st t2 a1, b1⟩
theorem hp_callr {post : Nat → Heap → Prop} (hr : CallRun p l e R s m args below meth c H locs cells slots 0 0 (F0 m pc ls st0) rest (hp_Qr M post a) M) (hS : va_S A H0 H locs) (hM : ∀ q, M q → A q)
    (kk : ∀ (r : Nat) (H1 : Heap) (locs1 : List Loc), post r H1 → H1.size = H.size → (∀ q, ¬ M q → H1[q]? = H[q]?) → va_S A H0 H1 locs1 → W p l e R s m args below meth c H1 locs1 cells slots Q (F0 m (pc + 3) ls (.ref r :: rest))) : W p l e R s m args below meth c H locs cells slots Q (F0 m pc ls st0) := by
  intro T hT X
  obtain ⟨v, st₀, t, T', L, h0, X', hL, e1, ⟨r, hv, hp, hz, hk⟩, st⟩ := hr T hT X
  cases hv
  rw [h0] at hz hk
  obtain ⟨t2, a1, b1⟩ := kk r t.heap (locs ++ L) hp hz hk ⟨by rw [hz]; exact hS.1, fun q _ h2 => (hk q (fun z => h2 (hM q z))).trans (hS.2.1 q (by assumption) h2), fun q hq => by
    rcases List.mem_append.mp hq with h | h
    · exact hS.2.2 q h
    · exact hM _ (hL q h)⟩ T' e1 X'
  exact ⟨t2, st t2 a1, b1⟩
end HC
/-- the end of a method that changes nothing -/
theorem hp_endS {s t : State} {as : Array Value} {r : Int} (ht : t.heap = s.heap) : hp_Si r as s (.returned (some (.int (iI r)))) t := ⟨iI r, rfl, rfl, ht⟩
end
section
/-! The words of this claim: what the tables give, array classes, a cell at an address, ends of methods. -/
abbrev hp_E : Type := va_G × (Nat → ClassId)
def hp_tys (E : hp_E) : List (ClassId × FieldType) := [(E.2 0, .int), (E.2 1, .boolean), (E.2 2, .object R_W), (E.2 3, .object R_N), (E.2 4, .array .int)]
def hp_ns : List Cond := [Cond.methodLinkNest R_B 21 y_W_init R_B, Cond.methodLinkNest R_B 22 y_N_init R_B, Cond.methodLinkNest R_N 11 y_W_init R_B, Cond.methodLinkNest R_W 59 y_B_swapAt R_B, Cond.methodLinkNest R_N 80 y_B_swapAt R_B]
theorem hp_nsn : hp_nest hp_ns := by
  intro w hw
  simp only [hp_ns, List.mem_cons, List.not_mem_nil, or_false] at hw
  rcases hw with rfl | rfl | rfl | rfl | rfl <;> exact ⟨_, _, _, _, rfl⟩
theorem ns_B_21 : Cond.methodLinkNest R_B 21 y_W_init R_B ∈ hp_ns := List.mem_of_getElem? (i := 0) rfl
theorem ns_B_22 : Cond.methodLinkNest R_B 22 y_N_init R_B ∈ hp_ns := List.mem_of_getElem? (i := 1) rfl
theorem ns_N_11 : Cond.methodLinkNest R_N 11 y_W_init R_B ∈ hp_ns := List.mem_of_getElem? (i := 2) rfl
theorem ns_W_59 : Cond.methodLinkNest R_W 59 y_B_swapAt R_B ∈ hp_ns := List.mem_of_getElem? (i := 3) rfl
theorem ns_N_80 : Cond.methodLinkNest R_N 80 y_B_swapAt R_B ∈ hp_ns := List.mem_of_getElem? (i := 4) rfl
abbrev hp_K (E : hp_E) (U : State) : Prop := hp_KK E.1 classes (hp_tys E) hp_ns U
abbrev hp_P (E : hp_E) (av : List Value) (B : Heap → Prop) : Array Value → State → Prop := hp_Pc E.1 classes (hp_tys E) hp_ns av B
abbrev ca (E : hp_E) (H : Heap) (a : Nat) (x : va_E) : Prop := va_at E.1 classes (a, x) H
abbrev ai (E : hp_E) (n : Nat) (f : Nat → Int) : va_E := hp_ai (E.2 0) n f
theorem ca.keep {E : hp_E} {H H1 : Heap} {a : Nat} {x : va_E} (h : ca E H a x) (hq : H1[a]? = H[a]?) : ca E H1 a x := va_at.kept h hq
theorem G0_in {w : Cond} (h : w ∈ G0) : w ∈ G0 ∧ ((w.onTables && w.keeps) = true ∨ ∃ ty, w = .arrayClass ty) := ⟨h, good_of_word (G0_good w h)⟩
theorem hp_goodC {y : MethodName} {b : ByteArray} {n : Nat} {ret : Option FieldType} (h : Cond.code y b n ret ∈ G0) : GoodIn G0 (Cond.code y b n ret :: G0) := fun w hw => by
  rcases List.mem_cons.mp hw with rfl | h2
  · exact G0_in h
  · exact G0_in h2
theorem hp_goodV {own C : String} {ix : Nat} {y : MethodName} {b : ByteArray} {n : Nat} {ret : Option FieldType} (h1 : Cond.methodLink own ix y ∈ G0) (h2 : Cond.instanceMethod y ∈ G0) (h3 : Cond.selects C y y ∈ G0) (h4 : Cond.initialized C ∈ G0) (h5 : Cond.code y b n ret ∈ G0) : GoodIn G0 (wsV own ix C y (Cond.code y b n ret :: G0)) := by
  intro w hw
  unfold wsV at hw
  rcases List.mem_append.mp hw with h | h
  · simp only [List.mem_cons, List.not_mem_nil, or_false] at h
    rcases h with rfl | rfl | rfl | rfl
    · exact G0_in h1
    · exact G0_in h2
    · exact G0_in h3
    · exact G0_in h4
  · exact hp_goodC h5 w h
theorem hp_goodS {own : String} {ix : Nat} {y : MethodName} {b : ByteArray} {n : Nat} {ret : Option FieldType} (h1 : Cond.methodLink own ix y ∈ G0) (h2 : Cond.static y ∈ G0) (h3 : Cond.initialized own ∈ G0) (h5 : Cond.code y b n ret ∈ G0) : GoodIn G0 (wsS own ix y (Cond.code y b n ret :: G0)) := by
  intro w hw
  unfold wsS at hw
  rcases List.mem_append.mp hw with h | h
  · simp only [List.mem_cons, List.not_mem_nil, or_false] at h
    rcases h with rfl | rfl | rfl
    · exact G0_in h1
    · exact G0_in h2
    · exact G0_in h3
  · exact hp_goodC h5 w h
theorem hp_goodT {own : String} {ix : Nat} {y : MethodName} {b : ByteArray} {n : Nat} {ret : Option FieldType} (h1 : Cond.methodLink own ix y ∈ G0) (h2 : Cond.static y ∈ G0) (h3 : Cond.initialized y.cls ∈ G0) (h5 : Cond.code y b n ret ∈ G0) : GoodIn G0 (va_wsS own ix y (Cond.code y b n ret :: G0)) := by
  intro w hw
  unfold va_wsS at hw
  rcases List.mem_append.mp hw with h | h
  · simp only [List.mem_cons, List.not_mem_nil, or_false] at h
    rcases h with rfl | rfl | rfl
    · exact G0_in h1
    · exact G0_in h2
    · exact G0_in h3
  · exact hp_goodC h5 w h
theorem hp_fr {M : Nat → Prop} {H0 H : Heap} {locs : List Loc} (hS : va_S M H0 H locs) (hZ : H.size = H0.size) (q : Nat) (h : ¬ M q) : H[q]? = H0[q]? := by
  by_cases hq : q < H0.size
  · exact hS.2.1 q hq h
  · rw [Array.getElem?_eq_none (by omega), Array.getElem?_eq_none (by omega)]
section HD
variable {p : Program} {l : Launch} {e : Env} {R : Room} {s : State} {m : MethodId} {args : Array Value} {below : List Frame} {meth : Method} {c : Code} {H : Heap} {locs : List Loc}
variable {cc : ByteArray} {pc : Nat} {ls : Array Slot} {M : Nat → Prop}
theorem hp_iretS (hexec : p.tables.exec = Jvm.exec) (hb : c.code = cc) (hr : meth.sig.returnType = some .int) (hlocks : meth.locks = false) (hdg : decode cc pc = .ok (.ireturn, 1)) {z r : Int} (heq : z = r) : W p l e R s m args below meth c s.heap [] 0 0 (MQ below (hp_Si r) args s 0 0 (fun _ => False)) (F0 m pc ls [.int (iI z)]) := by
  subst heq
  exact W.iret hexec hb hr (fun t ht _ => hp_endS ht) (fun q h => by cases h) hdg
theorem hp_zretS (hexec : p.tables.exec = Jvm.exec) (hb : c.code = cc) (hr : meth.sig.returnType = some .boolean) (hlocks : meth.locks = false) (hdg : decode cc pc = .ok (.ireturn, 1)) {z : Int} {b : Bool} (heq : z = bI b) : W p l e R s m args below meth c s.heap [] 0 0 (MQ below (hp_Si (bI b)) args s 0 0 (fun _ => False)) (F0 m pc ls [.int (iI z)]) := by
  subst heq
  exact W.zret hexec hb hr (by cases b <;> rfl) (fun t ht _ => hp_endS ht) (fun q h => by cases h) hdg
theorem hp_vretQ (hexec : p.tables.exec = Jvm.exec) (hb : c.code = cc) (hr : meth.sig.returnType = none) (hlocks : meth.locks = false) (hdg : decode cc pc = .ok (.return_, 1)) {post : Heap → Prop} (hS : va_S M s.heap H locs) (hZ : H.size = s.heap.size) (hp : post H) : W p l e R s m args below meth c H locs 0 0 (MQ below (hp_Qv M post) args s 0 0 M) (F0 m pc ls []) :=
  W.vret hexec hb hr (fun t ht _ => ⟨rfl, by rw [ht]; exact hp, by rw [ht]; exact hZ, fun q h => by rw [ht]; exact hp_fr hS hZ q h⟩) hS.2.2 hdg
theorem hp_iretQ (hexec : p.tables.exec = Jvm.exec) (hb : c.code = cc) (hr : meth.sig.returnType = some .int) (hlocks : meth.locks = false) (hdg : decode cc pc = .ok (.ireturn, 1)) {post : Int → Heap → Prop} {z : Int} (hS : va_S M s.heap H locs) (hZ : H.size = s.heap.size) (hp : post z H) : W p l e R s m args below meth c H locs 0 0 (MQ below (hp_Qi M post) args s 0 0 M) (F0 m pc ls [.int (iI z)]) :=
  W.iret hexec hb hr (fun t ht _ => ⟨z, rfl, by rw [ht]; exact hp, by rw [ht]; exact hZ, fun q h => by rw [ht]; exact hp_fr hS hZ q h⟩) hS.2.2 hdg
theorem hp_zretQ (hexec : p.tables.exec = Jvm.exec) (hb : c.code = cc) (hr : meth.sig.returnType = some .boolean) (hlocks : meth.locks = false) (hdg : decode cc pc = .ok (.ireturn, 1)) {post : Int → Heap → Prop} {z : Int} (b : Bool) (hz : z = bI b) (hS : va_S M s.heap H locs) (hZ : H.size = s.heap.size) (hp : post z H) : W p l e R s m args below meth c H locs 0 0 (MQ below (hp_Qi M post) args s 0 0 M) (F0 m pc ls [.int (iI z)]) :=
  W.zret hexec hb hr (by subst hz; cases b <;> rfl) (fun t ht _ => ⟨z, rfl, by rw [ht]; exact hp, by rw [ht]; exact hZ, fun q h => by rw [ht]; exact hp_fr hS hZ q h⟩) hS.2.2 hdg
theorem hp_mabs (hexec : p.tables.exec = Jvm.exec) (hb : c.code = cc) (hml : c.maxLocals = ls.size) {own : String} {index cells slots : Nat} {rest : List Value} {Q : State → Prop} (hown : s.vm.findClass own = some m.cls) (hlink : (Cond.methodLink own index Lib.Math.abs.name).before args s = true) (hstat : (Cond.static Lib.Math.abs.name).before args s = true) (hini : (Cond.initialized "java/lang/Math").before args s = true) (hcode : (Cond.code Lib.Math.abs.name Lib.Math.abs.code 1 (some .int)).before args s = true)
    (hframes : 1 ≤ R.frames) (hlocals : (rest.map fun v => v.category).sum + 13 ≤ R.locals) (hc : cells ≤ R.cells) (hs : slots ≤ R.slots) (hdg : decode cc pc = .ok (.invokestatic index, 3)) {z : Int} (hz : iR z)
    (kk : W p l e R s m args below meth c H locs cells slots Q (F0 m (pc + 3) ls (.int (iI (z.natAbs : Int)) :: rest))) : W p l e R s m args below meth c H locs cells slots Q (F0 m pc ls (.int (iI z) :: rest)) := by
  refine va_mabs hexec hb hml hown hlink hstat hini hcode hframes hlocals hc hs hdg ?_
  have e : (if 0 ≤ iI z then iI z else 0 - iI z) = iI (z.natAbs : Int) := by
    have h0 : (0 ≤ iI z) ↔ 0 ≤ z := by rw [← iI_0]; exact iI_le iR_0 hz
    by_cases h : 0 ≤ z
    · rw [if_pos (h0.mpr h), show ((z.natAbs : Nat) : Int) = z by omega]
    · rw [if_neg (fun q => h (h0.mp q)), ← iI_0, iI_sub, show (0 : Int) - z = (z.natAbs : Int) by omega]
  rw [e]
  exact kk
end HD
/-- a Word at a (its letters at a + 1): w strands, k letters, f its letters -/
abbrev oW (a : Nat) (w k : Nat) : va_E := .inr (0, [.ref (a + 1), .int (iI (w : Int)), .int (iI (k : Int))])
def wAt (E : hp_E) (H : Heap) (a w k : Nat) (f : Nat → Int) : Prop := ca E H a (oW a w k) ∧ ca E H (a + 1) (ai E 32 f)
/-- letters are small -/
def bd (f : Nat → Int) : Prop := ∀ j, -8 < f j ∧ f j < 8
end
section
/-! What the words' methods answer. -/
def bw_sgn (z : Int) : Int := if 0 < z then 1 else if z < 0 then -1 else 0
def bw_stp (v q : Int) : Int := if q = v then q + 1 else if q = v + 1 then q - 1 else q
def bw_end (f : Nat → Int) : Nat → Int → Int
  | 0, p => p
  | k + 1, p => bw_stp ((f k).natAbs : Int) (bw_end f k p)
def bw_sum (f : Nat → Int) : Nat → Int
  | 0 => 0
  | k + 1 => bw_sum f k + bw_sgn (f k)
def bw_t (f : Nat → Int) (k : Nat) (p : Int) : Bool := decide (p = ((f k).natAbs : Int) ∨ p = ((f k).natAbs : Int) + 1)
/-- whether a letter from j on, ahead of k, touches the place p -/
def bw_tf (f : Nat → Int) (p : Int) (j : Nat) : Nat → Bool
  | 0 => false
  | k + 1 => bw_tf f p j k || (decide (j ≤ k) && bw_t f k p)
theorem bw_tf_iff {f : Nat → Int} {p : Int} {j : Nat} : ∀ {k : Nat}, bw_tf f p j k = true ↔ ∃ i, j ≤ i ∧ i < k ∧ bw_t f i p = true
  | 0 => ⟨fun h => (by cases h), fun h => (by obtain ⟨_, _, h, _⟩ := h; omega)⟩
  | k + 1 => by
    rw [bw_tf, Bool.or_eq_true, Bool.and_eq_true, bw_tf_iff]
    constructor
    · intro h; rcases h with ⟨i, h1, h2, h3⟩ | ⟨h1, h2⟩
      · exact ⟨i, h1, by omega, h3⟩
      · exact ⟨k, of_decide_eq_true h1, by omega, h2⟩
    · intro h; obtain ⟨i, h1, h2, h3⟩ := h
      by_cases e : i = k
      · subst e; exact Or.inr ⟨decide_eq_true h1, h3⟩
      · exact Or.inl ⟨i, h1, by omega, h3⟩
def bw_cir (f : Nat → Int) (c : Nat) : Nat → Int
  | 0 => 0
  | p + 1 => bw_cir f c p + (if bw_tf f ((p + 1 : Nat) : Int) 0 c then 0 else 1)
theorem bw_sum_rng (f : Nat → Int) : ∀ k : Nat, -(k : Int) ≤ bw_sum f k ∧ bw_sum f k ≤ k
  | 0 => by simp [bw_sum]
  | k + 1 => by
    have := bw_sum_rng f k
    have h : -1 ≤ bw_sgn (f k) ∧ bw_sgn (f k) ≤ 1 := by unfold bw_sgn; split <;> (try split) <;> omega
    simp only [bw_sum]
    omega
theorem bw_end_rng {f : Nat → Int} {w : Nat} (hf : ∀ j, f j ≠ 0 → (f j).natAbs < w) (h0 : ∀ j, f j ≠ 0) (p : Int) (h1 : 1 ≤ p) (h2 : p ≤ w) : ∀ k : Nat, 1 ≤ bw_end f k p ∧ bw_end f k p ≤ w
  | 0 => ⟨h1, h2⟩
  | k + 1 => by
    have := bw_end_rng hf h0 p h1 h2 k
    have h3 := hf k (h0 k)
    have h4 := h0 k
    simp only [bw_end, bw_stp]
    split
    · omega
    · split <;> omega
theorem bw_end_small {f : Nat → Int} (hf : bd f) (p : Int) : ∀ k : Nat, p - k ≤ bw_end f k p ∧ bw_end f k p ≤ p + k
  | 0 => by simp [bw_end]
  | k + 1 => by
    have := bw_end_small hf p k
    simp only [bw_end, bw_stp]
    split
    · omega
    · split <;> omega
theorem bw_cir_rng (f : Nat → Int) (c : Nat) : ∀ p : Nat, 0 ≤ bw_cir f c p ∧ bw_cir f c p ≤ p
  | 0 => by simp [bw_cir]
  | p + 1 => by
    have := bw_cir_rng f c p
    simp only [bw_cir]
    split <;> omega
/-- Integer.signum of a small int -/
theorem bw_signum : ∀ k : Fin 15, (iI ((k.val : Int) - 7) >>> ((31 : Int32) &&& 31)) ||| ((-iI ((k.val : Int) - 7)).toUInt32 >>> ((31 : Int32).toUInt32 &&& Int32.toUInt32 31)).toInt32 = iI (bw_sgn ((k.val : Int) - 7)) := by decide
end
section
/-! System.arraycopy between int arrays known as whole numbers -/
theorem va_cpy_iI (f g : Nat → Int) (sp dp n : Nat) : va_cpy (fun k => iI (f k)) (fun k => iI (g k)) sp dp n = fun k => iI (va_cpy f g sp dp n k) := by
  funext k
  unfold va_cpy
  split <;> rfl
section HF
variable {p : Program} {l : Launch} {e : Env} {R : Room} {s : State} {m : MethodId} {args : Array Value} {below : List Frame} {meth : Method} {c : Code} {H : Heap} {locs : List Loc} {cells slots : Nat} {Q : State → Prop}
variable {cc : ByteArray} {pc : Nat} {ls : Array Slot} {rest : List Value} {D : va_G} {cl : List vw_C} {A : Nat → Prop} {a : Nat} {tys : List (ClassId × FieldType)} {H0 : Heap}
theorem hp_copy (hexec : p.tables.exec = Jvm.exec) (hb : c.code = cc) (hml : c.maxLocals = ls.size) {own : String} {index : Nat} (hown : s.vm.findClass own = some m.cls) (hlink : (Cond.methodLink own index arraycopyName).before args s = true) (hnat : (Cond.native arraycopyName).before args s = true) (hstat : (Cond.static arraycopyName).before args s = true) (hini : (Cond.initialized "java/lang/System").before args s = true)
    (hK : va_K D cl tys s) (t0 : Nat) {a0 : Nat} {cI : ClassId} {n0 n1 : Nat} {f g : Nat → Int} (hP0 : va_at D cl (a0, hp_ai cI n0 f) H) (hP1 : va_at D cl (a, hp_ai cI n1 g) H) (hS : va_S A H0 H locs) (hA : A a) (ht0 : tys[t0]? = some (cI, .int))
    (hframes : 1 ≤ R.frames) (hlocals : (rest.map fun v => v.category).sum + (nativeFrameWords "java/lang/System" "arraycopy" 5 + 11) ≤ R.locals) (hdg : decode cc pc = .ok (.invokestatic index, 3))
    {sp dp n : Int} (i j k : Nat) (e1 : sp = (i : Int)) (e2 : dp = (j : Int)) (e3 : n = (k : Int)) (h4 : i + k ≤ n0) (h5 : j + k ≤ n1) (h6 : n0 < 2147483000) (h7 : n1 < 2147483000)
    (kk : ∀ (H1 : Heap) (locs1 : List Loc), va_at D cl (a, hp_ai cI n1 (va_cpy f g i j k)) H1 → H1.size = H.size → (∀ q, q ≠ a → H1[q]? = H[q]?) → va_S A H0 H1 locs1 → W p l e R s m args below meth c H1 locs1 cells slots Q (F0 m (pc + 3) ls rest)) : W p l e R s m args below meth c H locs cells slots Q (F0 m pc ls (.int (iI n) :: .int (iI dp) :: .ref a :: .int (iI sp) :: .ref a0 :: rest)) := by
  have c1 := iI_cl e1 (show i < 2147483648 by omega)
  have c2 := iI_cl e2 (show j < 2147483648 by omega)
  have c3 := iI_cl e3 (show k < 2147483648 by omega)
  have g1 : ¬ iI sp < 0 := fun h => iI_in e1 (Nat.lt_succ_self i) (by omega) (Or.inl h)
  have g2 : ¬ iI dp < 0 := fun h => iI_in e2 (Nat.lt_succ_self j) (by omega) (Or.inl h)
  have g3 : ¬ iI n < 0 := fun h => iI_in e3 (Nat.lt_succ_self k) (by omega) (Or.inl h)
  have t1 : (iI sp).toInt = (i : Int) := by rw [e1]; exact iI_toInt ⟨by omega, by omega⟩
  have t2 : (iI dp).toInt = (j : Int) := by rw [e2]; exact iI_toInt ⟨by omega, by omega⟩
  have t3 : (iI n).toInt = (k : Int) := by rw [e3]; exact iI_toInt ⟨by omega, by omega⟩
  intro T hT X
  have hc0 : H[a0]? = some (vp_cell cI (n0, .inl (fun k => iI (f k)))) := hP0
  have hc1 : H[a]? = some (vp_cell cI (n1, .inl (fun k => iI (g k)))) := hP1
  obtain ⟨-, k0, hk0, cm0, hkk0⟩ := (hK.2 t0 _ ht0).1 n0 (fun j => .int (iI (f j)))
  obtain ⟨-, k1, hk1, cm1, hkk1⟩ := (hK.2 t0 _ ht0).1 n1 (fun j => .int (iI (g j)))
  obtain ⟨vm', X', step⟩ := X.arraycopy hexec hown hlink hnat hstat hini (src := a0) (dst := a) (cs := vp_cell cI (n0, .inl (fun k => iI (f k)))) (cd := vp_cell cI (n1, .inl (fun k => iI (g k)))) (srcPos := iI sp) (destPos := iI dp) (n := iI n) (by rw [hT]; exact hc0) (by rw [hT]; exact hc1)
    (fun _ h => by cases h) (fun _ h => by cases h) (fun h => by cases h) (fun h => by cases h) hk0 hk1 hkk0 hkk1 (by simp [refKind]) g1 g2 g3
    (by rw [t1, t3]; show ¬ _ > ((arrV cI n0 (fun j => .int (iI (f j)))).slots.size : Int); rw [arrV_size]; omega)
    (by rw [t2, t3]; show ¬ _ > ((arrV cI n1 (fun j => .int (iI (g j)))).slots.size : Int); rw [arrV_size]; omega)
    (fun vm₁ _ x hx => by
      rw [c3] at hx
      have e : (vp_cell cI (n0, .inl (fun k => iI (f k)))).slots.getD ((iI sp).toNatClampNeg + x) .null = .int (iI (f ((iI sp).toNatClampNeg + x))) := by
        show (arrV cI n0 (fun j => .int (iI (f j)))).slots.getD _ _ = _
        rw [Array.getD_eq_getD_getElem?, arrV_read _ _ (by rw [c1]; omega)]
        rfl
      refine ⟨?_, ?_⟩
      · rw [e]
        rfl
      · rw [e]
        exact trivial)
    (g := F0 m pc ls (.int (iI n) :: .int (iI dp) :: .ref a :: .int (iI sp) :: .ref a0 :: rest)) rfl (by rw [hml]) (rest := rest) rfl (by rw [hb]; exact hdg) hframes (by show 2 * 0 + _ + _ ≤ _; omega)
  have ec : copied (vp_cell cI (n0, .inl (fun k => iI (f k)))) (vp_cell cI (n1, .inl (fun k => iI (g k)))) (iI sp) (iI dp) (iI n) = vp_cell cI (n1, .inl (fun x => iI (va_cpy f g i j k x))) := by
    have h := va_copied (fun z => Value.int z) cI cI (n0 := n0) (n1 := n1) (sp := (iI sp).toNatClampNeg) (dp := (iI dp).toNatClampNeg) (n := (iI n).toNatClampNeg) (fun k => iI (f k)) (fun k => iI (g k)) (by rw [c1, c3]; exact h4)
    have h2 : copied (vp_cell cI (n0, .inl (fun k => iI (f k)))) (vp_cell cI (n1, .inl (fun k => iI (g k)))) (iI sp) (iI dp) (iI n) = arrV cI n1 (fun j => .int (va_cpy (fun k => iI (f k)) (fun k => iI (g k)) (iI sp).toNatClampNeg (iI dp).toNatClampNeg (iI n).toNatClampNeg j)) := h
    rw [h2, c1, c2, c3, va_cpy_iI]
    rfl
  rw [ec] at X' step
  have hl : a < H.size := (Array.getElem?_eq_some_iff.mp hc1).1
  have hheap : ((T.setVm vm').setCell a (vp_cell cI (n1, .inl (fun x => iI (va_cpy f g i j k x))))).heap = H.setIfInBounds a (vp_cell cI (n1, .inl (fun x => iI (va_cpy f g i j k x)))) := by rw [← hT]; rfl
  have oq : ∀ q : Nat, q ≠ a → (H.setIfInBounds a (vp_cell cI (n1, .inl (fun x => iI (va_cpy f g i j k x)))))[q]? = H[q]? := fun q hq => by simp [Array.getElem?_setIfInBounds, Ne.symm hq]
  obtain ⟨t, a1, b1⟩ := kk _ _ (show (H.setIfInBounds a _)[a]? = some _ by simp [Array.getElem?_setIfInBounds, hl]) (by simp) oq ⟨by simp; exact hS.1, fun q g1 g2 => by
      rw [oq q (fun e => g2 (by rw [e]; exact hA))]
      exact hS.2.1 q g1 g2, fun q hq => by
      rcases List.mem_append.mp hq with h | h
      · exact hS.2.2 q h
      · obtain ⟨z, -, hz⟩ := List.mem_map.mp h
        rw [← hz]
        exact hA⟩ _ hheap X'
  exact ⟨t, step t a1, b1⟩
end HF
end
section
/-! What the writing methods of a word do. -/
/-- reduction as a stack, the last letter first -/
def bw_psh (s : List Int) (x : Int) : List Int := match s with
  | [] => [x]
  | y :: t => if y = -x then t else x :: y :: t
def bw_rs (f : Nat → Int) : Nat → List Int
  | 0 => []
  | k + 1 => bw_psh (bw_rs f k) (f k)
theorem bw_psh_len (s : List Int) (x : Int) : (bw_psh s x).length ≤ s.length + 1 := by
  match s with
  | [] => simp [bw_psh]
  | y :: t => simp only [bw_psh]; split <;> simp <;> omega
theorem bw_rs_len (f : Nat → Int) : ∀ k, (bw_rs f k).length ≤ k
  | 0 => Nat.le_refl 0
  | k + 1 => by
    have := bw_rs_len f k
    have := bw_psh_len (bw_rs f k) (f k)
    show (bw_psh (bw_rs f k) (f k)).length ≤ k + 1
    omega
theorem bw_psh_mem {s : List Int} {x y : Int} (h : y ∈ bw_psh s x) : y ∈ s ∨ y = x := by
  match s with
  | [] => simp [bw_psh] at h; exact Or.inr h
  | z :: t =>
    simp only [bw_psh] at h
    split at h
    · exact Or.inl (List.mem_cons_of_mem _ h)
    · rcases List.mem_cons.mp h with h | h
      · exact Or.inr h
      · exact Or.inl h
theorem bw_rs_mem {f : Nat → Int} : ∀ {k : Nat} {x : Int}, x ∈ bw_rs f k → ∃ j, j < k ∧ x = f j
  | 0, _, h => by cases h
  | k + 1, _, h => by
    rcases bw_psh_mem h with h | h
    · obtain ⟨j, h1, h2⟩ := bw_rs_mem h
      exact ⟨j, by omega, h2⟩
    · exact ⟨k, by omega, h⟩
/-- an array's first i places hold a stack, its bottom first -/
def bw_st (g : Nat → Int) (i : Nat) (s : List Int) : Prop := i = s.length ∧ ∀ j, j < i → g j = s.getD (i - 1 - j) 0
theorem bw_st_0 (g : Nat → Int) : bw_st g 0 [] := ⟨rfl, fun j h => by omega⟩
theorem bw_st_pop {g : Nat → Int} {i : Nat} {s : List Int} {x : Int} (h : bw_st g i s) (hi : 0 < i) (hx : g (i - 1) = -x) : bw_st g (i - 1) (bw_psh s x) := by
  obtain ⟨h1, h2⟩ := h
  match s with
  | [] => simp at h1; omega
  | y :: t =>
    have hy : y = -x := by
      have := h2 (i - 1) (by omega)
      rw [show i - 1 - (i - 1) = 0 by omega] at this
      simp at this
      omega
    simp only [bw_psh, hy, if_true]
    simp at h1
    refine ⟨by omega, fun j hj => ?_⟩
    rw [h2 j (by omega), show i - 1 - j = (i - 1 - 1 - j) + 1 by omega]
    simp
theorem bw_st_push {g : Nat → Int} {i : Nat} {s : List Int} {x : Int} (h : bw_st g i s) (hx : i = 0 ∨ ¬ g (i - 1) = -x) : bw_st (hp_up g i x) (i + 1) (bw_psh s x) := by
  obtain ⟨h1, h2⟩ := h
  have e : bw_psh s x = x :: s := by
    match s with
    | [] => rfl
    | y :: t =>
      simp only [bw_psh]
      rw [if_neg]
      intro hy
      simp at h1
      rcases hx with hx | hx
      · omega
      · refine hx ?_
        rw [h2 (i - 1) (by omega), show i - 1 - (i - 1) = 0 by omega]
        simpa using hy
  rw [e]
  refine ⟨by simp; omega, fun j hj => ?_⟩
  by_cases q : j = i
  · subst q
    rw [hp_up_s, show j + 1 - 1 - j = 0 by omega]
    rfl
  · rw [hp_up_n _ _ q, h2 j (by omega), show i + 1 - 1 - j = (i - 1 - j) + 1 by omega]
    simp
/-- how many letters go at both ends -/
def bw_gone (f : Nat → Int) (c g : Nat) : Prop := (∀ i, i < g → i + i + 1 < c ∧ f i = -f (c - 1 - i)) ∧ ¬ (g + g + 1 < c ∧ f g = -f (c - 1 - g))
theorem bw_gone_uniq {f : Nat → Int} {c g h : Nat} (h1 : bw_gone f c g) (h2 : bw_gone f c h) : g = h := by
  rcases Nat.lt_trichotomy g h with q | q | q
  · exact absurd (h2.1 g q) h1.2
  · exact q
  · exact absurd (h1.1 h q) h2.2
theorem bd_up {f : Nat → Int} {k : Nat} {x : Int} (h : bd f) (h1 : -8 < x) (h2 : x < 8) : bd (hp_up f k x) := fun j => by
  unfold hp_up
  split
  · exact ⟨h1, h2⟩
  · exact h j
theorem bd_cpy {f g : Nat → Int} {i j k : Nat} (hf : bd f) (hg : bd g) : bd (va_cpy f g i j k) := fun x => by
  unfold va_cpy
  split
  · exact hf _
  · exact hg _
/-- may letters k, k + 1, k + 2 pass -/
def bw_can (f : Nat → Int) (k : Nat) : Bool := decide (((f k).natAbs = (f (k + 2)).natAbs ∧ ((f k).natAbs = (f (k + 1)).natAbs + 1 ∨ (f (k + 1)).natAbs = (f k).natAbs + 1)) ∧ (f k = f (k + 2) → bw_sgn (f k) = bw_sgn (f (k + 1))))
def bw_mk (w : Nat) (f : Nat → Int) (k : Nat) (p : Int) : Int := (w : Int) + 1 + 2 * k + (p - (f k).natAbs)
/-- the label that place p bears ahead of letter k -/
def bw_lab (w : Nat) (f : Nat → Int) (p : Int) : Nat → Int
  | 0 => p
  | k + 1 => if bw_t f k p then bw_mk w f k p else bw_lab w f p k
theorem bw_lab_skip {w : Nat} {f : Nat → Int} {p : Int} {m : Nat} : ∀ {k : Nat}, m ≤ k → (∀ i, m ≤ i → i < k → bw_t f i p = false) → bw_lab w f p k = bw_lab w f p m
  | 0, h, _ => by rw [show m = 0 by omega]
  | k + 1, h, hn => by
    by_cases e : m = k + 1
    · rw [e]
    · simp only [bw_lab]
      rw [hn k (by omega) (by omega)]
      exact bw_lab_skip (by omega) (fun i h1 h2 => hn i h1 (by omega))
/-- the label that place p bears below letter k -/
def bw_low (w c : Nat) (f : Nat → Int) (k : Nat) (p : Int) : Int := if bw_tf f p (k + 1) c then bw_mk w f k p else p
def bw_cor (w c : Nat) (f : Nat → Int) (k : Nat) (what : Int) : Int :=
  let v : Int := ((f k).natAbs : Int)
  let q := if 0 < f k then what else (what + 3) % 4
  if q = 0 then bw_lab w f v k else if q = 1 then bw_low w c f k v else if q = 2 then bw_low w c f k (v + 1) else bw_lab w f (v + 1) k
end
section
/-! Rows of a normal form and simple braids -/
def bw_sw (f : Nat → Int) (k : Nat) : Nat → Int := hp_up (hp_up f k (f (k + 1))) (k + 1) (f k)
theorem bn_sw (g : Nat → Int) (i p : Nat) : bw_sw g i p = g (gs_sw i p) := by
  unfold bw_sw hp_up gs_sw
  by_cases h1 : p = i
  · subst h1
    rw [if_neg (by omega), if_pos rfl, if_pos rfl]
  · by_cases h2 : p = i + 1
    · subst h2
      rw [if_pos rfl, if_neg (by omega), if_pos rfl]
    · rw [if_neg h2, if_neg h1, if_neg h1, if_neg h2]
theorem gs_sw_rng {i q w : Nat} (h1 : 1 ≤ i) (h2 : i < w) (h3 : 1 ≤ q) (h4 : q ≤ w) : 1 ≤ gs_sw i q ∧ gs_sw i q ≤ w := by
  have := gs_sw_cases i q
  omega
/-- an array holds a function at the places 1 .. w -/
def bn_h (w : Nat) (g : Nat → Int) (F : Nat → Nat) : Prop := ∀ p, 1 ≤ p → p ≤ w → g p = (F p : Int)
theorem bn_h_R {w i : Nat} {g : Nat → Int} {T : gs_P} (h : bn_h w g T.1) (h1 : 1 ≤ i) (h2 : i < w) : bn_h w (bw_sw g i) (gs_R i T).1 := fun p h3 h4 => by
  have := gs_sw_rng h1 h2 h3 h4
  rw [bn_sw]
  exact h _ this.1 this.2
theorem bn_h_L {w i : Nat} {g : Nat → Int} {S : gs_P} (h : bn_h w g S.2) (h1 : 1 ≤ i) (h2 : i < w) : bn_h w (bw_sw g i) (gs_L i S).2 := fun p h3 h4 => by
  have := gs_sw_rng h1 h2 h3 h4
  rw [bn_sw]
  exact h _ this.1 this.2
theorem gs_pr_snoc {n k i : Nat} {S T S1 T1 : gs_P} (h : gs_pr n k S T S1 T1) (h1 : 1 ≤ i) (h2 : i < n) (hc : gs_can i S1 T1) : gs_pr n (k + 1) S T (gs_L i S1) (gs_R i T1) := gs_pr_app k h ⟨i, h1, h2, hc, rfl, rfl⟩
theorem gs_rng {n : Nat} {S : gs_P} (h : gs_ok n S) {p : Nat} (h1 : 1 ≤ p) (h2 : p ≤ n) : 1 ≤ S.1 p ∧ S.1 p ≤ n := by
  refine Decidable.byContradiction fun hn => ?_
  have e := h.2.2 (S.1 p) (by omega)
  have := congrArg S.2 e
  rw [h.1, h.1] at this
  omega
theorem gs_inv_rng {n : Nat} {S : gs_P} (h : gs_ok n S) {q : Nat} (h1 : 1 ≤ q) (h2 : q ≤ n) : 1 ≤ S.2 q ∧ S.2 q ≤ n := by
  refine Decidable.byContradiction fun hn => ?_
  have e := h.2.2 (S.2 q) (by omega)
  rw [h.2.1] at e
  omega
/-- one place more of the inverse -/
theorem bn_inv {n p : Nat} {S : gs_P} (hS : gs_ok n S) {sf : Nat → Int} (h : ∀ q, 1 ≤ q → q < p → sf (S.1 q) = (q : Int)) : ∀ q, 1 ≤ q → q < p + 1 → hp_up sf (S.1 p) (p : Int) (S.1 q) = (q : Int) := by
  intro q h1 h2
  by_cases e : q = p
  · rw [e, hp_up_s]
  · rw [hp_up_n _ _ (fun z => e (by have := congrArg S.2 z; rwa [hS.1, hS.1] at this)), h q h1 (by omega)]
theorem bn_inv_all {n : Nat} {S : gs_P} (hS : gs_ok n S) {sf : Nat → Int} (h : ∀ q, 1 ≤ q → q < n + 1 → sf (S.1 q) = (q : Int)) : bn_h n sf S.2 := fun q h1 h2 => by
  have r := gs_inv_rng hS h1 h2
  have := h (S.2 q) r.1 (by omega)
  rwa [hS.2.1] at this
theorem bn_out {n q : Nat} {S : gs_P} (hS : gs_ok n S) {g : Nat → Int} (h : ∀ r, 1 ≤ r → r < q → g (S.2 r) = (r : Int)) : ∀ r, 1 ≤ r → r < q + 1 → hp_up g (S.2 q) (q : Int) (S.2 r) = (r : Int) := by
  intro r h1 h2
  by_cases e : r = q
  · rw [e, hp_up_s]
  · rw [hp_up_n _ _ (fun z => e (by have := congrArg S.1 z; rwa [hS.2.1, hS.2.1] at this)), h r h1 (by omega)]
theorem bn_out_all {n : Nat} {S : gs_P} (hS : gs_ok n S) {g : Nat → Int} (h : ∀ r, 1 ≤ r → r < n + 1 → g (S.2 r) = (r : Int)) : bn_h n g S.1 := fun p h1 h2 => by
  have r := gs_rng hS h1 h2
  have := h (S.1 p) r.1 (by omega)
  rwa [hS.1] at this
theorem gs_lw_of {n : Nat} {S T : gs_P} (h : ∀ i, 1 ≤ i → i < n → ¬ gs_can i S T) : gs_lw n S T := h
abbrev oN (b fr to : Nat) (pw : Int) : va_E := .inr (1, [.ref (b + 1), .ref (b + 3), .ref (b + 36), .int (iI (fr : Int)), .int (iI (to : Int)), .int (iI pw)])
theorem bI_k {k : Nat} {z : Int} (h : z = bI (decide (k ≠ 0))) : (z = 0 ∧ k = 0) ∨ (z = 1 ∧ k ≠ 0) := by
  by_cases e : k = 0
  · rw [decide_eq_false (by omega)] at h; exact Or.inl ⟨h, e⟩
  · rw [decide_eq_true e] at h; exact Or.inr ⟨h, e⟩
theorem gs_few {n k : Nat} {S T S1 T1 : gs_P} (h : gs_pr n k S T S1 T1) (hn : n ≤ 8) : k ≤ 28 := by
  have h1 := gs_inv_pr k h
  have h2 := gs_inv_28 hn T.1
  omega
def bw_far (f : Nat → Int) (c : Nat) (k0 : Int) : Prop := 0 ≤ k0 ∧ k0 ≤ (c : Int) - 2 ∧ 1 < (((f k0.toNat).natAbs : Int) - ((f (k0.toNat + 1)).natAbs : Int)).natAbs
def bw_pas (f : Nat → Int) (k : Nat) : Nat → Int := hp_up (hp_up (hp_up f k (bw_sgn (f (k + 2)) * ((f (k + 1)).natAbs : Int))) (k + 1) (bw_sgn (f (k + 1)) * ((f k).natAbs : Int))) (k + 2) (bw_sgn (f k) * ((f (k + 1)).natAbs : Int))
def bw_iv (f : Nat → Int) (c i k : Nat) : Int := if k < c ∧ (k < i ∨ c < k + 1 + i) then -f (c - 1 - k) else f k
theorem bw_iv_bd {f : Nat → Int} {c i : Nat} (h : bd f) : bd (bw_iv f c i) := fun k => by
  unfold bw_iv
  split
  · have := h (c - 1 - k); omega
  · exact h k
end
section
/-! NONE and TURN; a simple braid goes past NONEs; irreducible rows have TURNs first and NONEs last. -/
def gs_id : gs_P := (fun p => p, fun p => p)
def gs_tn (w p : Nat) : Nat := if 1 ≤ p ∧ p ≤ w then w + 1 - p else p
def gs_T (w : Nat) : gs_P := (gs_tn w, gs_tn w)
theorem gs_tn_in {w p : Nat} (h1 : 1 ≤ p) (h2 : p ≤ w) : gs_tn w p = w + 1 - p := by unfold gs_tn; rw [if_pos ⟨h1, h2⟩]
theorem gs_tn_out {w p : Nat} (h : p < 1 ∨ w < p) : gs_tn w p = p := by unfold gs_tn; rw [if_neg (by omega)]
theorem gs_tn_tn (w p : Nat) : gs_tn w (gs_tn w p) = p := by
  by_cases h : 1 ≤ p ∧ p ≤ w
  · rw [gs_tn_in h.1 h.2, gs_tn_in (by omega) (by omega)]; omega
  · rw [gs_tn_out (p := p) (by omega), gs_tn_out (by omega)]
theorem gs_ok_id (w : Nat) : gs_ok w gs_id := ⟨fun _ => rfl, fun _ => rfl, fun _ _ => rfl⟩
theorem gs_ok_T (w : Nat) : gs_ok w (gs_T w) := ⟨gs_tn_tn w, gs_tn_tn w, fun _ h => gs_tn_out h⟩
theorem gs_ext {n : Nat} {S T : gs_P} (hS : gs_ok n S) (hT : gs_ok n T) (h : ∀ p, 1 ≤ p → p ≤ n → S.1 p = T.1 p) : S = T := by
  have e : ∀ p, S.1 p = T.1 p := fun p => by
    by_cases q : 1 ≤ p ∧ p ≤ n
    · exact h p q.1 q.2
    · rw [hS.2.2 p (by omega), hT.2.2 p (by omega)]
  refine Prod.ext (funext e) (funext fun q => ?_)
  have := hS.2.1 q
  rw [← hT.1 (S.2 q), ← e, hS.2.1]
theorem gs_id_of {n : Nat} {T : gs_P} (hT : gs_ok n T) (h : ∀ i, 1 ≤ i → i < n → ¬ T.1 (i + 1) < T.1 i) : T = gs_id := by
  have hlt : ∀ i, 1 ≤ i → i < n → T.1 i < T.1 (i + 1) := fun i h1 h2 => by
    have := h i h1 h2
    have hne : T.1 i ≠ T.1 (i + 1) := fun e => by have := congrArg T.2 e; rw [hT.1, hT.1] at this; omega
    omega
  have lo : ∀ p, 1 ≤ p → p ≤ n → p ≤ T.1 p := by
    intro p
    induction p with
    | zero => intro h; omega
    | succ p ih =>
      intro _ h2
      by_cases e : p = 0
      · subst e; exact (gs_rng hT (by omega) h2).1
      · have := ih (by omega) (by omega)
        have := hlt p (by omega) (by omega)
        omega
  have hi : ∀ d p, p + d = n → 1 ≤ p → T.1 p ≤ p := by
    intro d
    induction d with
    | zero => intro p h1 h2; have := (gs_rng hT h2 (by omega)).2; omega
    | succ d ih =>
      intro p h1 h2
      have := ih (p + 1) (by omega) (by omega)
      have := hlt p h2 (by omega)
      omega
  refine gs_ext hT (gs_ok_id n) (fun p h1 h2 => ?_)
  have := lo p h1 h2
  have := hi (n - p) p (by omega) h1
  show T.1 p = p
  omega
theorem gs_T_of {n : Nat} {T : gs_P} (hT : gs_ok n T) (h : ∀ i, 1 ≤ i → i < n → T.1 (i + 1) < T.1 i) : T = gs_T n := by
  have hi : ∀ p, 1 ≤ p → p ≤ n → T.1 p + p ≤ n + 1 := by
    intro p
    induction p with
    | zero => intro h; omega
    | succ p ih =>
      intro _ h2
      by_cases e : p = 0
      · subst e; have := (gs_rng hT (by omega) h2).2; omega
      · have := ih (by omega) (by omega)
        have := h p (by omega) (by omega)
        omega
  have lo : ∀ d p, p + d = n → 1 ≤ p → n + 1 ≤ T.1 p + p := by
    intro d
    induction d with
    | zero => intro p h1 h2; have := (gs_rng hT h2 (by omega)).1; omega
    | succ d ih =>
      intro p h1 h2
      have := ih (p + 1) (by omega) (by omega)
      have := h p h2 (by omega)
      omega
  refine gs_ext hT (gs_ok_T n) (fun p h1 h2 => ?_)
  have := hi p h1 h2
  have := lo (n - p) p (by omega) h1
  show T.1 p = gs_tn n p
  rw [gs_tn_in h1 h2]
  omega
/-- behind NONE comes NONE -/
theorem gs_lw_id {n : Nat} {T : gs_P} (hT : gs_ok n T) (h : gs_lw n gs_id T) : T = gs_id := gs_id_of hT (fun i h1 h2 hd => h i h1 h2 ⟨by show i < i + 1; omega, hd⟩)
/-- ahead of TURN comes TURN -/
theorem gs_lw_T {n : Nat} {S : gs_P} (hS : gs_ok n S) (h : gs_lw n S (gs_T n)) : S = gs_T n := by
  have hd : ∀ i, 1 ≤ i → i < n → S.2 (i + 1) < S.2 i := fun i h1 h2 => by
    have hn := h i h1 h2
    unfold gs_can at hn
    have e : (gs_T n).1 (i + 1) < (gs_T n).1 i := by
      show gs_tn n (i + 1) < gs_tn n i
      rw [gs_tn_in (by omega) (by omega), gs_tn_in (by omega) (by omega)]; omega
    have hne : S.2 i ≠ S.2 (i + 1) := fun e => by have := congrArg S.1 e; rw [hS.2.1, hS.2.1] at this; omega
    have hn2 : ¬ S.2 i < S.2 (i + 1) := fun q => hn ⟨q, e⟩
    omega
  have hS2 : gs_ok n (S.2, S.1) := ⟨hS.2.1, hS.1, fun p hp => by have := congrArg S.2 (hS.2.2 p hp); rw [hS.1] at this; exact this.symm⟩
  have e := gs_T_of hS2 hd
  have e1 : S.2 = gs_tn n := congrArg Prod.fst e
  have e2 : S.1 = gs_tn n := congrArg Prod.snd e
  exact Prod.ext e2 e1
theorem gs_lw_Tl {n : Nat} (T : gs_P) : gs_lw n (gs_T n) T := fun i h1 h2 hc => by
  have : gs_tn n i < gs_tn n (i + 1) := hc.1
  rw [gs_tn_in (by omega) (by omega), gs_tn_in (by omega) (by omega)] at this
  omega
theorem gs_lw_idr {n : Nat} (S : gs_P) : gs_lw n S gs_id := fun i _ _ hc => by
  have : i + 1 < i := hc.2
  omega
theorem gs_push {n : Nat} : ∀ (N : Nat) {S T : gs_P}, gs_ok n S → gs_ok n T → gs_inv n T.1 ≤ N → (∀ x y, x < y → T.1 y < T.1 x → S.2 x < S.2 y) → ∃ (k : Nat) (S' : gs_P), gs_pr n k S T S' gs_id := by
  intro N
  induction N with
  | zero =>
    intro S T hS hT hN _
    refine ⟨0, S, rfl, gs_id_of hT (fun i h1 h2 hd => ?_)⟩
    have := gs_inv_R h1 h2 hd
    omega
  | succ N ih =>
    intro S T hS hT hN hc
    by_cases hx : ∃ i, 1 ≤ i ∧ i < n ∧ T.1 (i + 1) < T.1 i
    · obtain ⟨i, h1, h2, hd⟩ := hx
      have hcan : gs_can i S T := ⟨hc i (i + 1) (by omega) hd, hd⟩
      have hi := gs_inv_R h1 h2 hd
      obtain ⟨k, S', hk⟩ := ih (gs_ok_L hS h1 h2) (gs_ok_R hT h1 h2) (show gs_inv n (fun p => T.1 (gs_sw i p)) ≤ N by omega) (fun x y hxy hl => by
        show S.2 (gs_sw i x) < S.2 (gs_sw i y)
        have hl : T.1 (gs_sw i y) < T.1 (gs_sw i x) := hl
        by_cases q : x = i ∧ y = i + 1
        · rw [q.1, q.2, gs_sw_a, gs_sw_b] at hl
          omega
        · exact hc _ _ (gs_sw_lt hxy q) hl)
      exact ⟨k + 1, S', i, h1, h2, hcan, hk⟩
    · exact ⟨0, S, rfl, gs_id_of hT (fun i h1 h2 hd => hx ⟨i, h1, h2, hd⟩)⟩
theorem gs_past {n : Nat} {T : gs_P} (hT : gs_ok n T) : ∃ k, gs_pr n k gs_id T T gs_id := by
  obtain ⟨k, S', h⟩ := gs_push (gs_inv n T.1) (gs_ok_id n) hT (Nat.le_refl _) (fun x y hxy _ => hxy)
  obtain ⟨a, b, ba, ab, e1, e2, e3, e4, -⟩ := gs_pr_way k h
  have h1 : ∀ p, S'.1 p = T.1 p := fun p => by
    have e : gs_id.1 (a p) = T.1 (b (a p)) := e3 (a p)
    rw [ba] at e
    rw [e1 p]
    exact e
  have h2 : ∀ q, S'.2 q = T.2 q := fun q => by
    have e : gs_id.2 q = a (T.2 q) := e4 q
    have e' : q = a (T.2 q) := e
    rw [e2 q]
    show b q = T.2 q
    rw [e', ba, ← e']
  have : S' = T := Prod.ext (funext h1) (funext h2)
  rw [this] at h
  exact ⟨k, h⟩
/-- moves on a pair within a row -/
def gs_set2 (A : Nat → gs_P) (j : Nat) (S T : gs_P) : Nat → gs_P := fun k => if k = j then S else if k = j + 1 then T else A k
theorem gs_pr_to {n m j : Nat} (hj : j + 1 < m) : ∀ (k : Nat) {A : Nat → gs_P} {S T : gs_P}, gs_pr n k (A j) (A (j + 1)) S T → gs_to n m k A (gs_set2 A j S T)
  | 0, A, S, T, h => by
    obtain ⟨rfl, rfl⟩ := h
    show A = _
    funext k
    unfold gs_set2
    by_cases e : k = j
    · rw [if_pos e, e]
    · by_cases e2 : k = j + 1
      · rw [if_neg e, if_pos e2, e2]
      · rw [if_neg e, if_neg e2]
  | k + 1, A, S, T, ⟨i, h1, h2, hc, h⟩ => by
    refine ⟨gs_mv A j i, ⟨j, i, hj, h1, h2, hc, rfl⟩, ?_⟩
    have h' : gs_pr n k (gs_mv A j i j) (gs_mv A j i (j + 1)) S T := by rw [gs_mv_0, gs_mv_1]; exact h
    have := gs_pr_to hj k h'
    have e : gs_set2 (gs_mv A j i) j S T = gs_set2 A j S T := by
      funext q
      unfold gs_set2
      by_cases e : q = j
      · rw [if_pos e, if_pos e]
      · by_cases e2 : q = j + 1
        · rw [if_neg e, if_neg e, if_pos e2, if_pos e2]
        · rw [if_neg e, if_neg e, if_neg e2, if_neg e2, gs_mv_n _ _ e e2]
    rw [e] at this
    exact this
theorem gs_st_mono {n m m' : Nat} (h : m ≤ m') {A B : Nat → gs_P} (hs : gs_st n m A B) : gs_st n m' A B := by
  obtain ⟨j, i, hj, r⟩ := hs
  exact ⟨j, i, by omega, r⟩
theorem gs_to_mono {n m m' : Nat} (h : m ≤ m') : ∀ (k : Nat) {A B : Nat → gs_P}, gs_to n m k A B → gs_to n m' k A B
  | 0, _, _, e => e
  | k + 1, _, _, ⟨C, hs, ht⟩ => ⟨C, gs_st_mono h hs, gs_to_mono h k ht⟩
theorem gs_to_out {n m : Nat} : ∀ (k : Nat) {A B : Nat → gs_P}, gs_to n m k A B → ∀ j, m ≤ j → B j = A j
  | 0, _, _, e, j, _ => by rw [(show _ = _ from e)]
  | k + 1, A, B, ⟨C, hs, ht⟩, j, hj => by
    rw [gs_to_out k ht j hj]
    obtain ⟨j', i, h1, -, -, -, rfl⟩ := hs
    exact gs_mv_n _ _ (by omega) (by omega)
/-- a simple braid at place k goes past the NONEs at to .. k - 1 -/
theorem gs_tr {n m : Nat} {T : gs_P} (hT : gs_ok n T) : ∀ (e to : Nat) {A : Nat → gs_P}, to + e < m → (∀ j, to ≤ j → j < to + e → A j = gs_id) → A (to + e) = T → ∃ (d : Nat) (A' : Nat → gs_P), gs_to n m d A A' ∧ A' to = T ∧ (∀ j, to < j → j ≤ to + e → A' j = gs_id) ∧ ∀ j, j < to ∨ to + e < j → A' j = A j
  | 0, to, A, _, _, h2 => ⟨0, A, rfl, h2, fun j h1 h3 => by omega, fun _ _ => rfl⟩
  | e + 1, to, A, hm, h1, h2 => by
    obtain ⟨k, hk⟩ := gs_past hT
    have e1 : A (to + e) = gs_id := h1 _ (by omega) (by omega)
    have e2 : A (to + e + 1) = T := h2
    have hp := gs_pr_to (m := m) (j := to + e) (by omega) k (A := A) (by rw [e1, e2]; exact hk)
    obtain ⟨d, A', g1, g2, g3, g4⟩ := gs_tr (m := m) hT e to (A := gs_set2 A (to + e) T gs_id) (by omega) (fun j q1 q2 => by unfold gs_set2; rw [if_neg (by omega), if_neg (by omega)]; exact h1 j q1 (by omega)) (by unfold gs_set2; rw [if_pos rfl])
    refine ⟨k + d, A', gs_to_app k hp g1, g2, fun j q1 q2 => ?_, fun j q => ?_⟩
    · by_cases q : j = to + e + 1
      · rw [g4 j (by omega)]
        unfold gs_set2
        rw [if_neg (by omega), if_pos q]
      · exact g3 j q1 (by omega)
    · rw [g4 j (by omega)]
      unfold gs_set2
      rw [if_neg (by omega), if_neg (by omega)]
/-- the simple braid of a letter: i, or TURN and then -i -/
def gs_si (w i : Nat) (ng : Bool) : gs_P := if ng then (fun p => gs_tn w (gs_sw (w - i) p), fun q => gs_sw (w - i) (gs_tn w q)) else (gs_sw i, gs_sw i)
theorem gs_ok_si {w i : Nat} (ng : Bool) (h1 : 1 ≤ i) (h2 : i < w) : gs_ok w (gs_si w i ng) := by
  cases ng with
  | false => exact ⟨gs_sw_sw i, gs_sw_sw i, fun p hp => gs_sw_n (by omega) (by omega)⟩
  | true => exact ⟨fun p => by show gs_sw (w - i) (gs_tn w (gs_tn w (gs_sw (w - i) p))) = p; rw [gs_tn_tn, gs_sw_sw], fun q => by show gs_tn w (gs_sw (w - i) (gs_sw (w - i) (gs_tn w q))) = q; rw [gs_sw_sw, gs_tn_tn], fun p hp => by show gs_tn w (gs_sw (w - i) p) = p; rw [gs_sw_n (by omega) (by omega), gs_tn_out hp]⟩
/-- the row before the swap -/
def bn_pre (w : Nat) (ng : Bool) (r : Nat) : Int := if ng then (w : Int) + 1 - r else (r : Int)
theorem bn_si_t {w i : Nat} {g : Nat → Int} (h1 : 1 ≤ i) (h2 : i < w) (hg : ∀ r, 1 ≤ r → r < w + 1 → g r = bn_pre w true r) : bn_h w (bw_sw g (w - i)) (gs_si w i true).1 := fun p h3 h4 => by
  have := gs_sw_rng (i := w - i) (by omega) (by omega) h3 h4
  rw [bn_sw, hg _ this.1 (by omega)]
  show (w : Int) + 1 - ((gs_sw (w - i) p : Nat) : Int) = ((gs_tn w (gs_sw (w - i) p) : Nat) : Int)
  rw [gs_tn_in this.1 this.2]
  omega
theorem bn_si_f {w i : Nat} {g : Nat → Int} (h1 : 1 ≤ i) (h2 : i < w) (hg : ∀ r, 1 ≤ r → r < w + 1 → g r = bn_pre w false r) : bn_h w (bw_sw g i) (gs_si w i false).1 := fun p h3 h4 => by
  have := gs_sw_rng h1 h2 h3 h4
  rw [bn_sw, hg _ this.1 (by omega)]
  rfl
theorem bn_isT {w : Nat} {g : Nat → Int} {S : gs_P} (hS : gs_ok w S) (h : bn_h w g S.1) : (∀ p : Nat, p < w + 1 → 1 ≤ p → g p = (w : Int) + 1 - p) ↔ S = gs_T w := by
  constructor
  · intro q
    refine gs_ext hS (gs_ok_T w) (fun p h1 h2 => ?_)
    have e1 := h p h1 h2
    have e2 := q p (by omega) h1
    show S.1 p = gs_tn w p
    rw [gs_tn_in h1 h2]
    omega
  · intro q p h1 h2
    have e1 := h p h2 (by omega)
    rw [q] at e1
    rw [e1]
    show ((gs_tn w p : Nat) : Int) = _
    rw [gs_tn_in h2 (by omega)]
    omega
theorem bn_isN {w : Nat} {g : Nat → Int} {S : gs_P} (hS : gs_ok w S) (h : bn_h w g S.1) : (∀ p : Nat, p < w + 1 → 1 ≤ p → g p = (p : Int)) ↔ S = gs_id := by
  constructor
  · intro q
    refine gs_ext hS (gs_ok_id w) (fun p h1 h2 => ?_)
    have e1 := h p h1 h2
    have e2 := q p (by omega) h1
    show S.1 p = p
    omega
  · intro q p h1 h2
    have e1 := h p h2 (by omega)
    rw [q] at e1
    exact e1
abbrev oR (E : hp_E) (b : Nat) : va_E := hp_aq (E.2 4) 32 (fun i => if i < 32 then some (b + 4 + i) else none)
end
section
/-! What settle does to a row of simple braids -/
theorem gs_set2_0 (A : Nat → gs_P) (j : Nat) (S T : gs_P) : gs_set2 A j S T j = S := by unfold gs_set2; rw [if_pos rfl]
theorem gs_set2_1 (A : Nat → gs_P) (j : Nat) (S T : gs_P) : gs_set2 A j S T (j + 1) = T := by unfold gs_set2; rw [if_neg (by omega), if_pos rfl]
theorem gs_set2_n (A : Nat → gs_P) {j k : Nat} (S T : gs_P) (h : k ≠ j) (h2 : k ≠ j + 1) : gs_set2 A j S T k = A k := by unfold gs_set2; rw [if_neg h, if_neg h2]
def st_I (w fr to j : Nat) (B B1 : Nat → gs_P) : Prop := (∀ i, j < i → i + 1 < to → gs_lw w (B1 i) (B1 (i + 1))) ∧ (∀ i, i < j → B1 i = B i) ∧ (j + 1 = to ∨ ∃ (S2 T2 : gs_P) (kk : Nat), gs_ok w S2 ∧ (fr < j → gs_lw w (B1 (j - 1)) S2) ∧ gs_pr w kk S2 T2 (B1 j) (B1 (j + 1)) ∧ gs_lw w (B1 j) (B1 (j + 1)))
theorem st_I0 {w fr to : Nat} {B : Nat → gs_P} (h : 1 ≤ to) : st_I w fr to (to - 1) B B := ⟨fun i h1 h2 => by omega, fun _ _ => rfl, Or.inl (by omega)⟩
theorem st_Is {w fr to j k : Nat} {B B1 : Nat → gs_P} {S T : gs_P} (hB : ∀ i, fr ≤ i → i + 2 < to → gs_lw w (B i) (B (i + 1))) (hok : ∀ i, i < to → gs_ok w (B1 i)) (h : st_I w fr to j B B1) (hj : fr < j) (hj2 : j < to) (hp : gs_pr w k (B1 (j - 1)) (B1 j) S T) (hl : gs_lw w S T) : st_I w fr to (j - 1) B (gs_set2 B1 (j - 1) S T) := by
  obtain ⟨i, rfl⟩ : ∃ i, j = i + 1 := ⟨j - 1, by omega⟩
  rw [show i + 1 - 1 = i by omega] at hp ⊢
  obtain ⟨h1, h2, h3⟩ := h
  refine ⟨fun a q1 q2 => ?_, fun a q => ?_, Or.inr ⟨B1 i, B1 (i + 1), k, hok i (by omega), fun q => ?_, ?_, ?_⟩⟩
  · by_cases e : a = i + 1
    · subst e
      rw [gs_set2_1, gs_set2_n _ _ _ (by omega) (by omega)]
      rcases h3 with h3 | ⟨S2, T2, kk, o2, g1, g2, g3⟩
      · omega
      · have g1 := g1 hj
        rw [show i + 1 - 1 = i by omega] at g1
        exact gs_domino o2 (hok (i + 1) hj2) g1 g2 g3 hp
    · rw [gs_set2_n _ _ _ (by omega) (by omega), gs_set2_n _ _ _ (by omega) (by omega)]
      exact h1 a (by omega) q2
  · rw [gs_set2_n _ _ _ (by omega) (by omega)]
    exact h2 a (by omega)
  · rw [gs_set2_n _ _ _ (by omega) (by omega), h2 (i - 1) (by omega), h2 i (by omega)]
    have := hB (i - 1) (by omega) (by omega)
    rwa [show i - 1 + 1 = i by omega] at this
  · rw [gs_set2_0, gs_set2_1]; exact hp
  · rw [gs_set2_0, gs_set2_1]; exact hl
theorem st_Iend {w fr to : Nat} {B B1 : Nat → gs_P} (h : st_I w fr to fr B B1) : ∀ i, fr ≤ i → i + 1 < to → gs_lw w (B1 i) (B1 (i + 1)) := fun i h1 h2 => by
  obtain ⟨g1, g2, g3⟩ := h
  by_cases e : i = fr
  · subst e
    rcases g3 with g3 | ⟨_, _, _, _, _, _, g3⟩
    · omega
    · exact g3
  · exact g1 i (by omega) h2
theorem st_Ibrk {w fr to j : Nat} {B B1 : Nat → gs_P} (hB : ∀ i, fr ≤ i → i + 2 < to → gs_lw w (B i) (B (i + 1))) (h : st_I w fr to j B B1) (hj : fr < j) (hj2 : j < to) (hl : gs_lw w (B1 (j - 1)) (B1 j)) : ∀ i, fr ≤ i → i + 1 < to → gs_lw w (B1 i) (B1 (i + 1)) := fun i h1 h2 => by
  obtain ⟨g1, g2, g3⟩ := h
  rcases (show j < i ∨ i = j ∨ i + 1 = j ∨ i + 1 < j by omega) with e | e | e | e
  · exact g1 i e h2
  · subst e
    rcases g3 with g3 | ⟨_, _, _, _, _, _, g3⟩
    · omega
    · exact g3
  · subst e; exact hl
  · rw [g2 i (by omega), g2 (i + 1) e]
    exact hB i h1 (by omega)
theorem st_ok {w to d : Nat} {B B1 : Nat → gs_P} (h : gs_to w to d B B1) (hB : ∀ i, i < to → gs_ok w (B i)) : ∀ i, i < to → gs_ok w (B1 i) := gs_al_to d hB h
/-- rows of the heap after one moveOver -/
def st_X (X : Nat → Nat → Int) (j : Nat) (g h : Nat → Int) : Nat → Nat → Int := fun i => if i = j - 1 then g else if i = j then h else X i
theorem st_Xh {w to j : Nat} {B1 : Nat → gs_P} {X : Nat → Nat → Int} {g h : Nat → Int} {S T : gs_P} (hj : 1 ≤ j) (hX : ∀ i, i < to → bn_h w (X i) (B1 i).1) (hg : bn_h w g S.1) (hh : bn_h w h T.1) : ∀ i, i < to → bn_h w (st_X X j g h i) (gs_set2 B1 (j - 1) S T i).1 := fun i hi => by
  unfold st_X
  by_cases e : i = j - 1
  · rw [if_pos e, e, gs_set2_0]; exact hg
  · by_cases e2 : i = j
    · rw [if_neg e, if_pos e2, show i = j - 1 + 1 by omega, gs_set2_1]; exact hh
    · rw [if_neg e, if_neg e2, gs_set2_n _ _ _ e (by omega)]; exact hX i hi
theorem st_Xc {E : hp_E} {H H1 : Heap} {b j : Nat} {X : Nat → Nat → Int} {g h : Nat → Int} (hr : ∀ i, i < 32 → ca E H (b + 4 + i) (ai E 9 (X i))) (ho : ∀ q, ¬ (q = b + 4 + (j - 1) ∨ q = b + 4 + j ∨ q = b + 36) → H1[q]? = H[q]?) (hg : ca E H1 (b + 4 + (j - 1)) (ai E 9 g)) (hh : ca E H1 (b + 4 + j) (ai E 9 h)) : ∀ i, i < 32 → ca E H1 (b + 4 + i) (ai E 9 (st_X X j g h i)) := fun i hi => by
  unfold st_X
  by_cases e : i = j - 1
  · rw [if_pos e, e]; exact hg
  · by_cases e2 : i = j
    · rw [if_neg e, if_pos e2, e2]; exact hh
    · rw [if_neg e, if_neg e2]; exact (hr i hi).keep (ho _ (by omega))
theorem gs_set2_self (A : Nat → gs_P) (j : Nat) : gs_set2 A j (A j) (A (j + 1)) = A := by
  funext k
  by_cases e : k = j
  · subst e; rw [gs_set2_0]
  · by_cases e2 : k = j + 1
    · subst e2; rw [gs_set2_1]
    · rw [gs_set2_n _ _ _ e e2]
end
section
/-! The normal form of a word, letter by letter -/
def bw_neg (f : Nat → Int) : Nat → Nat
  | 0 => 0
  | k + 1 => bw_neg f k + (if f k < 0 then 1 else 0)
theorem bw_neg_le (f : Nat → Int) : ∀ k, bw_neg f k ≤ k
  | 0 => Nat.le_refl 0
  | k + 1 => by
    have := bw_neg_le f k
    simp only [bw_neg]
    split <;> omega
theorem bw_neg_mono (f : Nat → Int) {j : Nat} : ∀ {k : Nat}, j ≤ k → bw_neg f j ≤ bw_neg f k
  | 0, h => by rw [show j = 0 by omega]; exact Nat.le_refl _
  | k + 1, h => by
    by_cases e : j = k + 1
    · rw [e]; exact Nat.le_refl _
    · have := bw_neg_mono f (show j ≤ k by omega)
      simp only [bw_neg]
      omega
theorem bw_neg_congr {f g : Nat → Int} : ∀ {k : Nat}, (∀ j, j < k → f j = g j) → bw_neg f k = bw_neg g k
  | 0, _ => rfl
  | k + 1, h => by
    simp only [bw_neg]
    rw [bw_neg_congr (fun j hj => h j (by omega)), h k (by omega)]
/-- letters that are there are not 0 -/
theorem bw_sum_neg {f : Nat → Int} : ∀ {k : Nat}, (∀ j, j < k → f j ≠ 0) → bw_sum f k = (k : Int) - 2 * (bw_neg f k : Int)
  | 0, _ => rfl
  | k + 1, h => by
    have e := bw_sum_neg (f := f) (k := k) (fun j hj => h j (by omega))
    have h0 := h k (by omega)
    simp only [bw_sum, bw_neg]
    unfold bw_sgn
    split
    · rw [if_neg (by omega)]; omega
    · rw [if_pos (by omega), if_pos (by omega)]; omega
/-- whether an odd number of inverse TURNs go past letter k -/
def bw_mir (f : Nat → Int) (c k : Nat) : Bool := decide ((bw_neg f c - bw_neg f k) % 2 = 1)
def bn_i (w c : Nat) (f : Nat → Int) (k : Nat) : Nat := if bw_mir f c (k + 1) then w - (f k).natAbs else (f k).natAbs
def bn_X (w c : Nat) (f : Nat → Int) (k : Nat) : gs_P := if k < c then gs_si w (bn_i w c f k) (decide (f k < 0)) else gs_id
/-- letters of a word with w strands -/
def okw (w c : Nat) (f : Nat → Int) : Prop := ∀ k, k < c → f k ≠ 0 ∧ (f k).natAbs < w
theorem okw_congr {w c : Nat} {f g : Nat → Int} (h : okw w c f) (e : ∀ k, k < c → f k = g k) : okw w c g := fun k hk => by rw [← e k hk]; exact h k hk
theorem bn_i_rng {w c : Nat} {f : Nat → Int} (h : okw w c f) {k : Nat} (hk : k < c) : 1 ≤ bn_i w c f k ∧ bn_i w c f k < w := by
  have := h k hk
  unfold bn_i
  split <;> omega
theorem bn_X_ok {w c : Nat} {f : Nat → Int} (h : okw w c f) (k : Nat) : gs_ok w (bn_X w c f k) := by
  unfold bn_X
  split
  · have := bn_i_rng h (by assumption)
    exact gs_ok_si _ this.1 this.2
  · exact gs_ok_id w
theorem bn_X_congr {w c : Nat} {f g : Nat → Int} (e : ∀ k, k < c → f k = g k) : bn_X w c f = bn_X w c g := by
  funext k
  unfold bn_X
  by_cases h : k < c
  · rw [if_pos h, if_pos h]
    unfold bn_i bw_mir
    rw [bw_neg_congr e, bw_neg_congr (k := k + 1) (fun j hj => e j (by omega)), e k h]
  · rw [if_neg h, if_neg h]
def nf_I (w k : Nat) (Xs : Nat → gs_P) (fr to : Nat) (A : Nat → gs_P) : Prop := (∃ d, gs_to w k d Xs A) ∧ gs_ir w k A ∧ (∀ i, i < fr → A i = gs_T w) ∧ (∀ i, to ≤ i → i < k → A i = gs_id) ∧ (fr < to → A fr ≠ gs_T w ∧ A (to - 1) ≠ gs_id) ∧ fr ≤ to ∧ to ≤ k
theorem nf_I0 (w : Nat) (Xs : Nat → gs_P) : nf_I w 0 Xs 0 0 Xs := ⟨⟨0, rfl⟩, fun j i h => by omega, fun i h => by omega, fun i h1 h2 => by omega, fun h => by omega, Nat.le_refl 0, Nat.le_refl 0⟩
theorem nf_tr {w k fr to : Nat} {Xs A : Nat → gs_P} (h : nf_I w k Xs fr to A) (hal : ∀ i, gs_ok w (Xs i)) : ∃ A' : Nat → gs_P, (∃ d, gs_to w (k + 1) d Xs A') ∧ A' to = Xs k ∧ (∀ j, to < j → j ≤ k → A' j = gs_id) ∧ ∀ j, j < to → A' j = A j := by
  obtain ⟨⟨d, h1⟩, h2, h3, h4, h5, h6, h7⟩ := h
  have e : A k = Xs k := gs_to_out d h1 k (Nat.le_refl k)
  obtain ⟨d2, A', g1, g2, g3, g4⟩ := gs_tr (n := w) (m := k + 1) (hal k) (k - to) to (A := A) (by omega) (fun j q1 q2 => h4 j q1 (by omega)) (by rw [show to + (k - to) = k by omega]; exact e)
  exact ⟨A', ⟨d + d2, gs_to_app d (gs_to_mono (by omega) d h1) g1⟩, g2, fun j q1 q2 => g3 j q1 (by omega), fun j q => g4 j (Or.inl q)⟩
theorem nf_ok {w k d : Nat} {Xs A : Nat → gs_P} (h : gs_to w k d Xs A) (hal : ∀ i, gs_ok w (Xs i)) : ∀ i, gs_ok w (A i) := fun i => by
  by_cases q : i < k
  · exact gs_al_to d (fun j _ => hal j) h i q
  · rw [gs_to_out d h i (by omega)]; exact hal i
theorem nf_low {w k fr to : Nat} {Xs A A' : Nat → gs_P} (h : nf_I w k Xs fr to A) (h4 : ∀ j, j < to → A' j = A j) : ∀ i, fr ≤ i → i + 2 < to + 1 → gs_lw w (A' i) (A' (i + 1)) := fun i _ q2 => by
  obtain ⟨-, h2, -, -, -, -, h7⟩ := h
  rw [h4 i (by omega), h4 (i + 1) (by omega)]
  exact fun a r1 r2 => h2 i a (by omega) r1 r2
theorem nf_step {w k fr to d fr1 to1 : Nat} {Xs A A' B1 : Nat → gs_P} (h : nf_I w k Xs fr to A) (hA : ∃ d, gs_to w (k + 1) d Xs A') (hid : ∀ j, to < j → j ≤ k → A' j = gs_id) (hlo : ∀ j, j < to → A' j = A j) (s1 : gs_to w (to + 1) d A' B1) (s2 : ∀ i, fr ≤ i → i + 1 < to + 1 → gs_lw w (B1 i) (B1 (i + 1))) (s3 : fr ≤ fr1 ∧ fr1 ≤ to1 ∧ to1 ≤ to + 1) (s4 : ∀ i, fr ≤ i → i < fr1 → B1 i = gs_T w) (s5 : ∀ i, to1 ≤ i → i < to + 1 → B1 i = gs_id) (s6 : fr1 < to1 → B1 fr1 ≠ gs_T w ∧ B1 (to1 - 1) ≠ gs_id) (s7 : ∀ i, i < fr → B1 i = A' i) : nf_I w (k + 1) Xs fr1 to1 B1 := by
  obtain ⟨-, h2, h3, h4, h5, h6, h7⟩ := h
  obtain ⟨d2, hA⟩ := hA
  have hT : ∀ i, i < fr1 → B1 i = gs_T w := fun i q => by
    by_cases e : i < fr
    · rw [s7 i e, hlo i (by omega)]; exact h3 i e
    · exact s4 i (by omega) q
  have hN : ∀ i, to1 ≤ i → i < k + 1 → B1 i = gs_id := fun i q1 q2 => by
    by_cases e : i < to + 1
    · exact s5 i q1 e
    · rw [gs_to_out d s1 i (by omega)]; exact hid i (by omega) (by omega)
  refine ⟨⟨d2 + d, gs_to_app d2 hA (gs_to_mono (by omega) d s1)⟩, fun j i g1 g2 g3 hc => ?_, hT, hN, s6, by omega, by omega⟩
  by_cases e1 : j < fr
  · rw [show B1 j = gs_T w by rw [s7 j e1, hlo j (by omega)]; exact h3 j e1] at hc
    exact gs_lw_Tl _ i g2 g3 hc
  · by_cases e2 : j + 1 < to + 1
    · exact s2 j (by omega) e2 i g2 g3 hc
    · rw [show B1 (j + 1) = gs_id by rw [gs_to_out d s1 (j + 1) (by omega)]; exact hid _ (by omega) (by omega)] at hc
      exact gs_lw_idr _ i g2 g3 hc
/-- a normal form's object holds the normal form of a word -/
def nfS (w c : Nat) (f : Nat → Int) (fr to : Nat) (pw : Int) (X : Nat → Nat → Int) : Prop := ∃ A : Nat → gs_P, nf_I w c (bn_X w c f) fr to A ∧ (∀ i, i < to → bn_h w (X i) (A i).1) ∧ pw = (fr : Int) - (bw_neg f c : Int)
def nAt (E : hp_E) (H : Heap) (b w c : Nat) (f : Nat → Int) (fr to : Nat) (pw : Int) (X : Nat → Nat → Int) (sf : Nat → Int) : Prop := ca E H b (oN b fr to pw) ∧ wAt E H (b + 1) w c f ∧ ca E H (b + 3) (oR E b) ∧ ca E H (b + 36) (ai E 9 sf) ∧ ∀ i, i < 32 → ca E H (b + 4 + i) (ai E 9 (X i))
theorem nfS_congr {w c : Nat} {f g : Nat → Int} {fr to : Nat} {pw : Int} {X : Nat → Nat → Int} (e : ∀ k, k < c → f k = g k) (h : nfS w c f fr to pw X) : nfS w c g fr to pw X := by
  unfold nfS at h ⊢
  rw [bn_X_congr e, bw_neg_congr e] at h
  exact h
/-- one answer alone: normal forms of one word -/
theorem nf_uniq {w c fr to fr' to' : Nat} {Xs A A' : Nat → gs_P} (hal : ∀ i, gs_ok w (Xs i)) (h : nf_I w c Xs fr to A) (h' : nf_I w c Xs fr' to' A') : A = A' := by
  obtain ⟨⟨d, h1⟩, h2, -⟩ := h
  obtain ⟨⟨d', h1'⟩, h2', -⟩ := h'
  exact gs_uniq (fun j _ => hal j) h2 h2' h1 h1'
section HG
variable {p : Program} {l : Launch} {e : Env} {R : Room} {s : State} {m : MethodId} {args : Array Value} {below : List Frame} {meth : Method} {c : Code} {H : Heap} {locs : List Loc} {cells slots : Nat} {Q : State → Prop}
variable {cc : ByteArray} {pc : Nat} {ls : Array Slot} {rest : List Value}
theorem hp_idivN (hexec : p.tables.exec = Jvm.exec) (hb : c.code = cc) {a d : Nat} (hdg : decode cc pc = .ok (.idiv, 1)) (ha : a < 2147483648) (h0 : 0 < d) (hd : d < 2147483648) (k : W p l e R s m args below meth c H locs cells slots Q (F0 m (pc + 1) ls (.int (iI ((a / d : Nat) : Int)) :: rest))) : W p l e R s m args below meth c H locs cells slots Q (F0 m pc ls (.int (iI (d : Int)) :: .int (iI (a : Int)) :: rest)) := by
  refine lv_idiv hexec hb hdg (by rw [iI_nI]; exact nI_ne0 h0 hd) ?_
  rw [iI_nI, iI_nI, pk_div ha h0 hd, ← iI_nI]
  exact k
theorem hp_iremN (hexec : p.tables.exec = Jvm.exec) (hb : c.code = cc) {a d : Nat} (hdg : decode cc pc = .ok (.irem, 1)) (ha : a < 2147483648) (h0 : 0 < d) (hd : d < 2147483648) (k : W p l e R s m args below meth c H locs cells slots Q (F0 m (pc + 1) ls (.int (iI ((a % d : Nat) : Int)) :: rest))) : W p l e R s m args below meth c H locs cells slots Q (F0 m pc ls (.int (iI (d : Int)) :: .int (iI (a : Int)) :: rest)) := by
  refine lv_irem hexec hb hdg (by rw [iI_nI]; exact nI_ne0 h0 hd) ?_
  rw [iI_nI, iI_nI, pk_rem ha h0 hd, ← iI_nI]
  exact k
end HG
theorem bw_mir_pos {f : Nat → Int} {c k : Nat} (h : ¬ f k < 0) : bw_mir f c (k + 1) = bw_mir f c k := by
  unfold bw_mir
  rw [show bw_neg f (k + 1) = bw_neg f k by simp only [bw_neg]; rw [if_neg h]; rfl]
theorem bw_mir_neg {f : Nat → Int} {c k : Nat} (hk : k < c) (h : f k < 0) : bw_mir f c (k + 1) = !bw_mir f c k := by
  have e : bw_neg f (k + 1) = bw_neg f k + 1 := by simp only [bw_neg]; rw [if_pos h]
  have := bw_neg_mono f (show k + 1 ≤ c by omega)
  unfold bw_mir
  by_cases q : (bw_neg f c - bw_neg f k) % 2 = 1
  · rw [decide_eq_true q, decide_eq_false (by omega)]; rfl
  · rw [decide_eq_false q, decide_eq_true (by omega)]; rfl
theorem bw_mir_0 {f : Nat → Int} {c : Nat} : bw_mir f c 0 = decide (bw_neg f c % 2 = 1) := rfl
theorem bn_X_is {w c k i : Nat} {f : Nat → Int} {ng : Bool} (hk : k < c) (hi : bn_i w c f k = i) (hn : decide (f k < 0) = ng) : bn_X w c f k = gs_si w i ng := by
  unfold bn_X
  rw [if_pos hk, hi, hn]
theorem bn_i_t {w c k : Nat} {f : Nat → Int} (h : bw_mir f c (k + 1) = true) : bn_i w c f k = w - (f k).natAbs := by unfold bn_i; rw [if_pos h]
theorem bn_i_f {w c k : Nat} {f : Nat → Int} (h : bw_mir f c (k + 1) = false) : bn_i w c f k = (f k).natAbs := by unfold bn_i; rw [h]; rfl
theorem st_Xa {E : hp_E} {H H1 : Heap} {b t : Nat} {X : Nat → Nat → Int} {g : Nat → Int} (hr : ∀ i, i < 32 → ca E H (b + 4 + i) (ai E 9 (X i))) (ho : ∀ q, ¬ (q = b ∨ q = b + 4 + t) → H1[q]? = H[q]?) (hg : ca E H1 (b + 4 + t) (ai E 9 g)) : ∀ i, i < 32 → ca E H1 (b + 4 + i) (ai E 9 (hp_up X t g i)) := fun i hi => by
  by_cases e : i = t
  · rw [e, hp_up_s]; exact hg
  · rw [hp_up_n _ _ e]; exact (hr i hi).keep (ho _ (by omega))
theorem st_Xb {w t : Nat} {A A' : Nat → gs_P} {X : Nat → Nat → Int} {g : Nat → Int} (hX : ∀ i, i < t → bn_h w (X i) (A i).1) (hA : ∀ j, j < t → A' j = A j) (hg : bn_h w g (A' t).1) : ∀ i, i < t + 1 → bn_h w (hp_up X t g i) (A' i).1 := fun i hi => by
  by_cases e : i = t
  · rw [e, hp_up_s]; exact hg
  · rw [hp_up_n _ _ e, hA i (by omega)]; exact hX i (by omega)
end
section
/-! The object of the class: four words and four normal forms at fixed distances from its address o -/
def nOk (E : hp_E) (H : Heap) (b : Nat) : Prop := ∃ (w c : Nat) (f : Nat → Int) (fr to : Nat) (pw : Int) (X : Nat → Nat → Int) (sf : Nat → Int), nAt E H b w c f fr to pw X sf ∧ w ≤ 8 ∧ c ≤ 32 ∧ bd f ∧ nfS w c f fr to pw X
def vW (w c : Nat) (f : Nat → Int) : Prop := 1 ≤ w ∧ w ≤ 8 ∧ c ≤ 32 ∧ bd f ∧ okw w c f
abbrev oB (o : Nat) : va_E := .inr (2, [.ref (o + 1), .ref (o + 2)])
abbrev oBw (E : hp_E) (o : Nat) : va_E := hp_aq (E.2 2) 4 (fun i => if i < 4 then some (o + 3 + 39 * i) else none)
abbrev oBn (E : hp_E) (o : Nat) : va_E := hp_aq (E.2 3) 4 (fun i => if i < 4 then some (o + 5 + 39 * i) else none)
def bAt (E : hp_E) (H : Heap) (o : Nat) (w c : Nat → Nat) (f : Nat → Nat → Int) : Prop := ca E H o (oB o) ∧ ca E H (o + 1) (oBw E o) ∧ ca E H (o + 2) (oBn E o) ∧ (∀ i, i < 4 → wAt E H (o + 3 + 39 * i) (w i) (c i) (f i) ∧ vW (w i) (c i) (f i)) ∧ ∀ i, i < 4 → nOk E H (o + 5 + 39 * i)
theorem wAt.keep {E : hp_E} {H H1 : Heap} {a w c : Nat} {f : Nat → Int} (h : wAt E H a w c f) (h0 : H1[a]? = H[a]?) (h1 : H1[a + 1]? = H[a + 1]?) : wAt E H1 a w c f := ⟨h.1.keep h0, h.2.keep h1⟩
theorem nAt.keep {E : hp_E} {H H1 : Heap} {b w c : Nat} {f : Nat → Int} {fr to : Nat} {pw : Int} {X : Nat → Nat → Int} {sf : Nat → Int} (h : nAt E H b w c f fr to pw X sf) (hq : ∀ q, b ≤ q → q ≤ b + 36 → H1[q]? = H[q]?) : nAt E H1 b w c f fr to pw X sf :=
  ⟨h.1.keep (hq _ (by omega) (by omega)), h.2.1.keep (hq _ (by omega) (by omega)) (hq _ (by omega) (by omega)), h.2.2.1.keep (hq _ (by omega) (by omega)), h.2.2.2.1.keep (hq _ (by omega) (by omega)), fun i hi => (h.2.2.2.2 i hi).keep (hq _ (by omega) (by omega))⟩
theorem nOk.keep {E : hp_E} {H H1 : Heap} {b : Nat} (h : nOk E H b) (hq : ∀ q, b ≤ q → q ≤ b + 36 → H1[q]? = H[q]?) : nOk E H1 b := by
  obtain ⟨w, c, f, fr, to, pw, X, sf, h1, h2⟩ := h
  exact ⟨w, c, f, fr, to, pw, X, sf, h1.keep hq, h2⟩
/-- one word has changed -/
theorem bAt.word {E : hp_E} {H H1 : Heap} {o s w1 c1 : Nat} {w c : Nat → Nat} {f : Nat → Nat → Int} {f1 : Nat → Int} (h : bAt E H o w c f) (hs : s < 4) (hq : ∀ q, ¬ (q = o + 3 + 39 * s ∨ q = o + 3 + 39 * s + 1) → H1[q]? = H[q]?) (hw : wAt E H1 (o + 3 + 39 * s) w1 c1 f1) (hv : vW w1 c1 f1) : bAt E H1 o (hp_up w s w1) (hp_up c s c1) (hp_up f s f1) := by
  refine ⟨h.1.keep (hq _ (by omega)), h.2.1.keep (hq _ (by omega)), h.2.2.1.keep (hq _ (by omega)), fun i hi => ?_, fun i hi => (h.2.2.2.2 i hi).keep (fun q g1 g2 => hq q (by omega))⟩
  by_cases e : i = s
  · subst e
    rw [hp_up_s, hp_up_s, hp_up_s]
    exact ⟨hw, hv⟩
  · rw [hp_up_n _ _ e, hp_up_n _ _ e, hp_up_n _ _ e]
    exact ⟨(h.2.2.2.1 i hi).1.keep (hq _ (by omega)) (hq _ (by omega)), (h.2.2.2.1 i hi).2⟩
/-- one normal form has changed -/
theorem bAt.nform {E : hp_E} {H H1 : Heap} {o s : Nat} {w c : Nat → Nat} {f : Nat → Nat → Int} (h : bAt E H o w c f) (hs : s < 4) (hq : ∀ q, ¬ (o + 5 + 39 * s ≤ q ∧ q ≤ o + 5 + 39 * s + 36) → H1[q]? = H[q]?) (hn : nOk E H1 (o + 5 + 39 * s)) : bAt E H1 o w c f := by
  refine ⟨h.1.keep (hq _ (by omega)), h.2.1.keep (hq _ (by omega)), h.2.2.1.keep (hq _ (by omega)), fun i hi => ?_, fun i hi => ?_⟩
  · exact ⟨(h.2.2.2.1 i hi).1.keep (hq _ (by omega)) (hq _ (by omega)), (h.2.2.2.1 i hi).2⟩
  · by_cases e : i = s
    · subst e; exact hn
    · exact (h.2.2.2.2 i hi).keep (fun q g1 g2 => hq q (by omega))
theorem bAt.same {E : hp_E} {H : Heap} {o s : Nat} {w c : Nat → Nat} {f : Nat → Nat → Int} (h : bAt E H o w c f) : bAt E H o (hp_up w s (w s)) (hp_up c s (c s)) (hp_up f s (f s)) := by
  have e : ∀ {α : Type} (g : Nat → α), hp_up g s (g s) = g := fun g => by funext i; unfold hp_up; split <;> simp_all
  rw [e, e, e]; exact h
end
section
/-! Words stay words -/
theorem bAt.word0 {E : hp_E} {H H1 : Heap} {o s : Nat} {w c : Nat → Nat} {f : Nat → Nat → Int} (h : bAt E H o w c f) (hs : s < 4) (hq : ∀ q, ¬ (q = o + 3 + 39 * s ∨ q = o + 3 + 39 * s + 1) → H1[q]? = H[q]?) (hw : wAt E H1 (o + 3 + 39 * s) (w s) (c s) (f s)) : bAt E H1 o w c f := by
  have := h.word hs hq hw (h.2.2.2.1 s hs).2
  have e : ∀ {α : Type} (g : Nat → α), hp_up g s (g s) = g := fun g => by funext i; unfold hp_up; split <;> simp_all
  rwa [e, e, e] at this
theorem vW_app {w c : Nat} {f : Nat → Int} {x : Int} (h : vW w c f) (h0 : x ≠ 0) (h1 : -(w : Int) < x) (h2 : x < (w : Int)) (h3 : c < 32) : vW w (c + 1) (hp_up f c x) := by
  obtain ⟨g1, g2, g3, g4, g5⟩ := h
  refine ⟨g1, g2, by omega, bd_up g4 (by omega) (by omega), fun k hk => ?_⟩
  by_cases e : k = c
  · subst e; rw [hp_up_s]; omega
  · rw [hp_up_n _ _ e]; exact g5 k (by omega)
theorem vW_cpy {w c : Nat} {f g : Nat → Int} (h : vW w c f) (hg : bd g) : vW w c (va_cpy f g 0 0 c) := by
  obtain ⟨g1, g2, g3, g4, g5⟩ := h
  refine ⟨g1, g2, g3, bd_cpy g4 hg, fun k hk => ?_⟩
  rw [pk_cpy_in (Nat.zero_le k) (by omega), show 0 + (k - 0) = k by omega]
  exact g5 k hk
theorem bw_iv_all {f : Nat → Int} {c k : Nat} (h : k < c) : bw_iv f c c k = -f (c - 1 - k) := by unfold bw_iv; rw [if_pos ⟨h, Or.inl h⟩]
theorem vW_iv {w c : Nat} {f : Nat → Int} (h : vW w c f) : vW w c (bw_iv f c c) := by
  obtain ⟨g1, g2, g3, g4, g5⟩ := h
  refine ⟨g1, g2, g3, bw_iv_bd g4, fun k hk => ?_⟩
  rw [bw_iv_all hk]
  have := g5 (c - 1 - k) (by omega)
  omega
theorem vW_red {w c : Nat} {f g : Nat → Int} (h : vW w c f) (hg : bd g) (hs : bw_st g (bw_rs f c).length (bw_rs f c)) : vW w (bw_rs f c).length g := by
  obtain ⟨g1, g2, g3, g4, g5⟩ := h
  refine ⟨g1, g2, Nat.le_trans (bw_rs_len f c) g3, hg, fun k hk => ?_⟩
  rw [hs.2 k hk]
  have hm : (bw_rs f c).getD ((bw_rs f c).length - 1 - k) 0 ∈ bw_rs f c := by
    rw [List.getD_eq_getElem?_getD, List.getElem?_eq_getElem (by omega)]
    exact List.getElem_mem _
  obtain ⟨j, hj, e⟩ := bw_rs_mem hm
  rw [e]
  exact g5 j hj
theorem vW_ends {w c n : Nat} {f : Nat → Int} (h : vW w c f) (hn : 2 * n ≤ c) : vW w (c - 2 * n) (va_cpy f f n 0 (c - 2 * n)) := by
  obtain ⟨g1, g2, g3, g4, g5⟩ := h
  refine ⟨g1, g2, by omega, bd_cpy g4 g4, fun k hk => ?_⟩
  rw [pk_cpy_in (Nat.zero_le k) (by omega)]
  exact g5 _ (by omega)
theorem bw_ftb {f : Nat → Int} {c k : Nat} (hk : k < c) : hp_up (va_cpy f f 1 0 (c - 1)) (c - 1) (f 0) k = if k + 1 < c then f (k + 1) else f 0 := by
  by_cases e : k = c - 1
  · rw [e, hp_up_s, if_neg (by omega)]
  · rw [hp_up_n _ _ e, if_pos (by omega), pk_cpy_in (Nat.zero_le k) (by omega)]
    congr 1; omega
theorem bw_ltf {f : Nat → Int} {c k : Nat} (hk : k < c) : hp_up (va_cpy f f 0 1 (c - 1)) 0 (f (c - 1)) k = if k = 0 then f (c - 1) else f (k - 1) := by
  by_cases e : k = 0
  · rw [e, hp_up_s, if_pos rfl]
  · rw [hp_up_n _ _ e, if_neg e, pk_cpy_in (by omega) (by omega)]
    congr 1; omega
theorem vW_ftb {w c : Nat} {f : Nat → Int} (h : vW w c f) (hc : 0 < c) : vW w c (hp_up (va_cpy f f 1 0 (c - 1)) (c - 1) (f 0)) := by
  obtain ⟨g1, g2, g3, g4, g5⟩ := h
  refine ⟨g1, g2, g3, bd_up (bd_cpy g4 g4) (g4 0).1 (g4 0).2, fun k hk => ?_⟩
  rw [bw_ftb hk]
  split
  · exact g5 _ (by omega)
  · exact g5 _ (by omega)
theorem vW_ltf {w c : Nat} {f : Nat → Int} (h : vW w c f) (hc : 0 < c) : vW w c (hp_up (va_cpy f f 0 1 (c - 1)) 0 (f (c - 1))) := by
  obtain ⟨g1, g2, g3, g4, g5⟩ := h
  refine ⟨g1, g2, g3, bd_up (bd_cpy g4 g4) (g4 _).1 (g4 _).2, fun k hk => ?_⟩
  rw [bw_ltf hk]
  split
  · exact g5 _ (by omega)
  · exact g5 _ (by omega)
theorem vW_sw {w c k : Nat} {f : Nat → Int} (h : vW w c f) (hk : k + 1 < c) : vW w c (bw_sw f k) := by
  obtain ⟨g1, g2, g3, g4, g5⟩ := h
  refine ⟨g1, g2, g3, fun j => by rw [bn_sw]; exact g4 _, fun j hj => ?_⟩
  rw [bn_sw]
  have := gs_sw_cases k j
  exact g5 _ (by omega)
theorem bw_sgn_ne {z : Int} (h : z ≠ 0) : bw_sgn z = 1 ∨ bw_sgn z = -1 := by
  unfold bw_sgn
  split
  · exact Or.inl rfl
  · rw [if_pos (by omega)]; exact Or.inr rfl
theorem vW_pas {w c k : Nat} {f : Nat → Int} (h : vW w c f) (hk : k + 2 < c) : vW w c (bw_pas f k) := by
  obtain ⟨g1, g2, g3, g4, g5⟩ := h
  have a0 := g5 k (by omega)
  have a1 := g5 (k + 1) (by omega)
  have a2 := g5 (k + 2) (by omega)
  have s0 := bw_sgn_ne a0.1
  have s1 := bw_sgn_ne a1.1
  have s2 := bw_sgn_ne a2.1
  have e0 : ∀ (x : Int) (v : Nat), (x = 1 ∨ x = -1) → v ≠ 0 → v < w → x * (v : Int) ≠ 0 ∧ (x * (v : Int)).natAbs < w ∧ -8 < x * (v : Int) ∧ x * (v : Int) < 8 := by
    intro x v hx hv hw
    rcases hx with rfl | rfl <;> omega
  have b1 := e0 _ _ s2 (show (f (k + 1)).natAbs ≠ 0 by omega) a1.2
  have b2 := e0 _ _ s1 (show (f k).natAbs ≠ 0 by omega) a0.2
  have b3 := e0 _ _ s0 (show (f (k + 1)).natAbs ≠ 0 by omega) a1.2
  unfold bw_pas
  refine ⟨g1, g2, g3, bd_up (bd_up (bd_up g4 b1.2.2.1 b1.2.2.2) b2.2.2.1 b2.2.2.2) b3.2.2.1 b3.2.2.2, fun j hj => ?_⟩
  unfold hp_up
  split
  · exact ⟨b3.1, b3.2.1⟩
  · split
    · exact ⟨b2.1, b2.2.1⟩
    · split
      · exact ⟨b1.1, b1.2.1⟩
      · exact g5 j hj
theorem vW_grow {w c : Nat} {f : Nat → Int} {x : Int} (h : vW w c f) (hx : x = 1 ∨ x = -1) (hw : w < 8) (hc : c < 32) : vW (w + 1) (c + 1) (hp_up f c (x * (w : Int))) := by
  obtain ⟨g1, g2, g3, g4, g5⟩ := h
  have e : x * (w : Int) = w ∨ x * (w : Int) = -w := by rcases hx with rfl | rfl <;> omega
  refine ⟨by omega, by omega, by omega, bd_up g4 (by omega) (by omega), fun k hk => ?_⟩
  by_cases q : k = c
  · subst q; rw [hp_up_s]; omega
  · rw [hp_up_n _ _ q]
    have := g5 k (by omega)
    omega
theorem vW_drop {w c : Nat} {f : Nat → Int} (h : vW w c f) (hc : 0 < c) (h1 : (f (c - 1)).natAbs + 1 = w) (h2 : ∀ i, i < c - 1 → (f i).natAbs + 1 ≠ w) : vW (w - 1) (c - 1) f := by
  obtain ⟨g1, g2, g3, g4, g5⟩ := h
  have := g5 (c - 1) (by omega)
  refine ⟨by omega, by omega, by omega, g4, fun k hk => ?_⟩
  have := g5 k (by omega)
  have := h2 k hk
  omega
section HH
variable {p : Program} {l : Launch} {e : Env} {R : Room} {s : State} {m : MethodId} {args : Array Value} {below : List Frame} {meth : Method} {c : Code} {H : Heap} {locs : List Loc}
variable {cc : ByteArray} {pc : Nat} {ls : Array Slot} {M : Nat → Prop}
theorem hp_aretQ (hexec : p.tables.exec = Jvm.exec) (hb : c.code = cc) {nm : String} (hr : meth.sig.returnType = some (.object nm)) (hlocks : meth.locks = false) (hdg : decode cc pc = .ok (.areturn, 1)) {post : Nat → Heap → Prop} {a : Nat} (hS : va_S M s.heap H locs) (hZ : H.size = s.heap.size) (hp : post a H) : W p l e R s m args below meth c H locs 0 0 (MQ below (hp_Qr M post) args s 0 0 M) (F0 m pc ls [.ref a]) :=
  W.aret hexec hb hr (Or.inl ⟨nm, rfl⟩) (Or.inr ⟨a, rfl⟩) (fun t ht _ => ⟨a, rfl, by rw [ht]; exact hp, by rw [ht]; exact hZ, fun q h => by rw [ht]; exact hp_fr hS hZ q h⟩) hS.2.2 hdg
end HH
theorem hp_up_up {α : Type} (g : Nat → α) (k : Nat) (v v' : α) : hp_up (hp_up g k v) k v' = hp_up g k v' := by
  funext j
  unfold hp_up
  split <;> rfl
theorem hp_up_self {α : Type} (g : Nat → α) (k : Nat) : hp_up g k (g k) = g := by
  funext i
  unfold hp_up
  split <;> simp_all
theorem nfS_rng {w c : Nat} {f : Nat → Int} {fr to : Nat} {pw : Int} {X : Nat → Nat → Int} (h : nfS w c f fr to pw X) : fr ≤ to ∧ to ≤ c := by
  obtain ⟨A, h1, -⟩ := h
  exact h1.2.2.2.2.2
theorem nfS_X {w c : Nat} {f : Nat → Int} {fr to : Nat} {pw : Int} {X : Nat → Nat → Int} (hok : okw w c f) (h : nfS w c f fr to pw X) {i p : Nat} (hi : i < to) (h1 : 1 ≤ p) (h2 : p ≤ w) : 1 ≤ X i p ∧ X i p ≤ w := by
  obtain ⟨A, ⟨⟨d, g1⟩, -⟩, g2, -⟩ := h
  have o := nf_ok g1 (bn_X_ok hok) i
  have r := gs_rng o h1 h2
  have e := g2 i hi p h1 h2
  omega
end
section
/-! Where strands end, again and again: the rounds of a word's permutation -/
theorem bw_php : ∀ (n : Nat) (g : Nat → Int), (∀ i, i ≤ n → 1 ≤ g i ∧ g i ≤ n) → ∃ i j, i < j ∧ j ≤ n ∧ g i = g j
  | 0, g, h => by have := h 0 (Nat.le_refl 0); omega
  | n + 1, g, h => by
    by_cases hx : ∃ i, i ≤ n ∧ g i = g (n + 1)
    · obtain ⟨i, h1, h2⟩ := hx
      exact ⟨i, n + 1, by omega, by omega, h2⟩
    · have hne : ∀ i, i ≤ n → g i ≠ g (n + 1) := fun i hi e => hx ⟨i, hi, e⟩
      have hl := h (n + 1) (Nat.le_refl _)
      obtain ⟨i, j, h1, h2, h3⟩ := bw_php n (fun i => if g i = ((n + 1 : Nat) : Int) then g (n + 1) else g i) (fun i hi => by
        have h1 := h i (by omega)
        have h2 := hne i hi
        show 1 ≤ (if g i = ((n + 1 : Nat) : Int) then g (n + 1) else g i) ∧ (if g i = ((n + 1 : Nat) : Int) then g (n + 1) else g i) ≤ n
        split <;> omega)
      have h3 : (if g i = ((n + 1 : Nat) : Int) then g (n + 1) else g i) = (if g j = ((n + 1 : Nat) : Int) then g (n + 1) else g j) := h3
      have e1 := hne i (by omega)
      have e2 := hne j h2
      refine ⟨i, j, h1, by omega, ?_⟩
      split at h3 <;> split at h3 <;> omega
theorem bw_stp_stp (v q : Int) : bw_stp v (bw_stp v q) = q := by
  unfold bw_stp
  split
  · split <;> (try split) <;> omega
  · split
    · split <;> (try split) <;> omega
    · rfl
theorem bw_end_inj (f : Nat → Int) : ∀ (k : Nat) {p q : Int}, bw_end f k p = bw_end f k q → p = q
  | 0, _, _, h => h
  | k + 1, _, _, h => bw_end_inj f k (by have := congrArg (bw_stp ((f k).natAbs : Int)) h; simp only [bw_end] at this; rwa [bw_stp_stp, bw_stp_stp] at this)
theorem bw_end_in {f : Nat → Int} {w c : Nat} (hf : okw w c f) {p : Int} (h1 : 1 ≤ p) (h2 : p ≤ w) : ∀ k : Nat, k ≤ c → 1 ≤ bw_end f k p ∧ bw_end f k p ≤ w
  | 0, _ => ⟨h1, h2⟩
  | k + 1, hk => by
    have := bw_end_in hf h1 h2 k (by omega)
    have h3 := hf k (by omega)
    simp only [bw_end, bw_stp]
    split
    · omega
    · split <;> omega
theorem bw_end_congr {f g : Nat → Int} (p : Int) : ∀ k : Nat, (∀ j, j < k → f j = g j) → bw_end f k p = bw_end g k p
  | 0, _ => rfl
  | k + 1, h => by
    simp only [bw_end]
    rw [bw_end_congr p k (fun j hj => h j (by omega)), h k (by omega)]
def bw_it (f : Nat → Int) (c : Nat) : Nat → Int → Int
  | 0, p => p
  | m + 1, p => bw_end f c (bw_it f c m p)
theorem bw_it_add (f : Nat → Int) (c : Nat) (a : Nat) (p : Int) : ∀ b, bw_it f c (a + b) p = bw_it f c b (bw_it f c a p)
  | 0 => rfl
  | b + 1 => by
    show bw_end f c (bw_it f c (a + b) p) = bw_end f c (bw_it f c b (bw_it f c a p))
    rw [bw_it_add f c a p b]
theorem bw_it_inj (f : Nat → Int) (c : Nat) : ∀ (m : Nat) {p q : Int}, bw_it f c m p = bw_it f c m q → p = q
  | 0, _, _, h => h
  | m + 1, _, _, h => bw_it_inj f c m (bw_end_inj f c h)
theorem bw_it_in {f : Nat → Int} {w c : Nat} (hf : okw w c f) {p : Int} (h1 : 1 ≤ p) (h2 : p ≤ w) : ∀ m : Nat, 1 ≤ bw_it f c m p ∧ bw_it f c m p ≤ w
  | 0 => ⟨h1, h2⟩
  | m + 1 => by
    have := bw_it_in hf h1 h2 m
    exact bw_end_in hf this.1 this.2 c (Nat.le_refl c)
/-- each place comes again, after at most as many steps as there are places -/
theorem bw_back {f : Nat → Int} {w c : Nat} (hf : okw w c f) {p : Int} (h1 : 1 ≤ p) (h2 : p ≤ w) : ∃ N, 0 < N ∧ N ≤ w ∧ bw_it f c N p = p := by
  obtain ⟨i, j, hij, hj, e⟩ := bw_php w (fun m => bw_it f c m p) (fun m _ => bw_it_in hf h1 h2 m)
  refine ⟨j - i, by omega, by omega, ?_⟩
  have e : bw_it f c i p = bw_it f c j p := e
  rw [show j = (j - i) + i by omega, bw_it_add] at e
  exact (bw_it_inj f c i e).symm
theorem bw_it_mul {f : Nat → Int} {c N : Nat} {p : Int} (h : bw_it f c N p = p) : ∀ k, bw_it f c (N * k) p = p
  | 0 => rfl
  | k + 1 => by rw [Nat.mul_succ, bw_it_add, bw_it_mul h k, h]
/-- who is reached reaches back -/
theorem bw_sym {f : Nat → Int} {w c m : Nat} (hf : okw w c f) {p q : Int} (h1 : 1 ≤ p) (h2 : p ≤ w) (h : bw_it f c m p = q) : ∃ m', bw_it f c m' q = p := by
  obtain ⟨N, g1, g2, g3⟩ := bw_back hf h1 h2
  refine ⟨N * m - m, ?_⟩
  have hle : m ≤ N * m := Nat.le_mul_of_pos_left m g1
  rw [← h, ← bw_it_add, show m + (N * m - m) = N * m by omega]
  exact bw_it_mul g3 m
def bw_lst (f : Nat → Int) (c : Nat) (p : Int) : Prop := ∀ m, p ≤ bw_it f c m p
noncomputable def bw_cmp (f : Nat → Int) (c : Nat) : Nat → Int
  | 0 => 0
  | k + 1 => bw_cmp f c k + @ite Int (bw_lst f c ((k + 1 : Nat) : Int)) (Classical.propDecidable _) 1 0
theorem bw_cmp_t {f : Nat → Int} {c k : Nat} (h : bw_lst f c ((k + 1 : Nat) : Int)) : bw_cmp f c (k + 1) = bw_cmp f c k + 1 := by
  show bw_cmp f c k + @ite Int _ (Classical.propDecidable _) 1 0 = _
  rw [if_pos h]
theorem bw_cmp_f {f : Nat → Int} {c k : Nat} (h : ¬ bw_lst f c ((k + 1 : Nat) : Int)) : bw_cmp f c (k + 1) = bw_cmp f c k := by
  show bw_cmp f c k + @ite Int _ (Classical.propDecidable _) 1 0 = _
  rw [if_neg h]
  omega
theorem bw_it_congr {f g : Nat → Int} {c : Nat} (h : ∀ j, j < c → f j = g j) (p : Int) : ∀ m, bw_it f c m p = bw_it g c m p
  | 0 => rfl
  | m + 1 => by
    show bw_end f c (bw_it f c m p) = bw_end g c (bw_it g c m p)
    rw [bw_it_congr h p m, bw_end_congr _ c h]
theorem bw_lst_congr {f g : Nat → Int} {c : Nat} (h : ∀ j, j < c → f j = g j) (p : Int) : bw_lst f c p ↔ bw_lst g c p := by
  unfold bw_lst
  constructor
  · intro q m; rw [← bw_it_congr h]; exact q m
  · intro q m; rw [bw_it_congr h]; exact q m
theorem bw_cmp_congr {f g : Nat → Int} {c : Nat} (h : ∀ j, j < c → f j = g j) : ∀ k, bw_cmp f c k = bw_cmp g c k
  | 0 => rfl
  | k + 1 => by
    have e := bw_lst_congr h ((k + 1 : Nat) : Int)
    have ih := bw_cmp_congr h k
    by_cases q : bw_lst f c ((k + 1 : Nat) : Int)
    · rw [bw_cmp_t q, bw_cmp_t (e.mp q), ih]
    · rw [bw_cmp_f q, bw_cmp_f (fun z => q (e.mpr z)), ih]
theorem bw_cmp_rng (f : Nat → Int) (c : Nat) : ∀ k : Nat, 0 ≤ bw_cmp f c k ∧ bw_cmp f c k ≤ k
  | 0 => by simp [bw_cmp]
  | k + 1 => by
    have := bw_cmp_rng f c k
    by_cases q : bw_lst f c ((k + 1 : Nat) : Int)
    · rw [bw_cmp_t q]; omega
    · rw [bw_cmp_f q]; omega
/-! bits of a small mask -/
theorem bb_shr {n p : Nat} (hn : n < 2147483648) (hp : p < 16) : nI n >>> (nI p &&& 31) = nI (n / 2 ^ p) := pk_shrN hn _ p (by
  have : ∀ p, p < 16 → ((nI p &&& 31).toBitVec.smod 32).toNat = p := by decide
  exact this p hp)
theorem bb_shl {p : Nat} (hp : p < 16) : nI 1 <<< (nI p &&& 31) = nI (2 ^ p) := by
  have : ∀ p, p < 16 → nI 1 <<< (nI p &&& 31) = nI (2 ^ p) := by decide
  exact this p hp
theorem bb_and1 {n : Nat} (hn : n < 4294967296) : nI n &&& 1 = nI (n % 2) := pk_andN hn 1 (by decide)
theorem bb_or (a b : Nat) : nI a ||| nI b = nI (a ||| b) := by
  apply Int32.toBitVec_inj.1
  show BitVec.ofNat 32 a ||| BitVec.ofNat 32 b = BitVec.ofNat 32 (a ||| b)
  exact BitVec.ofNat_or.symm
section HJ
variable {p : Program} {l : Launch} {e : Env} {R : Room} {s : State} {m : MethodId} {args : Array Value} {below : List Frame} {meth : Method} {c : Code} {H : Heap} {locs : List Loc} {cells slots : Nat} {Q : State → Prop}
variable {cc : ByteArray} {pc : Nat} {ls : Array Slot} {rest : List Value}
theorem hp_bit (hexec : p.tables.exec = Jvm.exec) (hb : c.code = cc) {n q : Nat} (hn : n < 1024) (hq : q < 16) (h1 : decode cc pc = .ok (.ishr, 1)) (h2 : decode cc (pc + 1) = .ok (.iconst 1, 1)) (h3 : decode cc (pc + 1 + 1) = .ok (.iand, 1)) (k : W p l e R s m args below meth c H locs cells slots Q (F0 m (pc + 1 + 1 + 1) ls (.int (iI (bI (n.testBit q))) :: rest))) : W p l e R s m args below meth c H locs cells slots Q (F0 m pc ls (.int (iI (q : Int)) :: .int (iI (n : Int)) :: rest)) := by
  refine lv_ishr hexec hb h1 ?_
  refine lv_iconst (v := 1) hexec hb h2 rfl ?_
  refine lv_iand hexec hb h3 ?_
  have hlt : n / 2 ^ q < 4294967296 := Nat.lt_of_le_of_lt (Nat.div_le_self _ _) (by omega)
  have hm : n / 2 ^ q % 2 < 2 := Nat.mod_lt _ (by omega)
  rw [iI_nI, iI_nI, bb_shr (by omega) hq, bb_and1 hlt]
  have e : nI (n / 2 ^ q % 2) = iI (bI (n.testBit q)) := by
    rw [Nat.testBit_eq_decide_div_mod_eq]
    by_cases z : n / 2 ^ q % 2 = 1
    · rw [decide_eq_true z, z]; rfl
    · rw [decide_eq_false z, show n / 2 ^ q % 2 = 0 by omega]; rfl
  rw [e]
  exact k
theorem hp_setbit (hexec : p.tables.exec = Jvm.exec) (hb : c.code = cc) {n q : Nat} (hq : q < 16) (h1 : decode cc pc = .ok (.ishl, 1)) (h2 : decode cc (pc + 1) = .ok (.ior, 1)) (k : W p l e R s m args below meth c H locs cells slots Q (F0 m (pc + 1 + 1) ls (.int (iI ((n ||| 2 ^ q : Nat) : Int)) :: rest))) : W p l e R s m args below meth c H locs cells slots Q (F0 m pc ls (.int (iI (q : Int)) :: .int (iI 1) :: .int (iI (n : Int)) :: rest)) := by
  refine lv_ishl hexec hb h1 ?_
  refine lv_ior hexec hb h2 ?_
  rw [iI_nI, iI_nI, show iI 1 = nI 1 from rfl, bb_shl hq, bb_or, ← iI_nI]
  exact k
end HJ
theorem bb_lt {n q : Nat} (hn : n < 1024) (hq : q < 10) : n ||| 2 ^ q < 1024 := Nat.or_lt_two_pow (n := 10) hn (Nat.pow_lt_pow_right (by omega) hq)
theorem bb_tb (n q x : Nat) : (n ||| 2 ^ q).testBit x = (n.testBit x || decide (q = x)) := by rw [Nat.testBit_or, Nat.testBit_two_pow]
end
