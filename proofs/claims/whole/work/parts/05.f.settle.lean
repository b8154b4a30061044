/-! What settle does to a row of simple braids -/
theorem gs_set2_0 (A : Nat → gs_P) (j : Nat) (S T : gs_P) : gs_set2 A j S T j = S := by unfold gs_set2; rw [if_pos rfl]
theorem gs_set2_1 (A : Nat → gs_P) (j : Nat) (S T : gs_P) : gs_set2 A j S T (j + 1) = T := by unfold gs_set2; rw [if_neg (by omega), if_pos rfl]
theorem gs_set2_n (A : Nat → gs_P) {j k : Nat} (S T : gs_P) (h : k ≠ j) (h2 : k ≠ j + 1) : gs_set2 A j S T k = A k := by unfold gs_set2; rw [if_neg h, if_neg h2]
def st_I (w fr to j : Nat) (B B1 : Nat → gs_P) : Prop := (∀ i, j < i → i + 1 < to → gs_lw w (B1 i) (B1 (i + 1))) ∧ (∀ i, i < j → B1 i = B i) ∧ (j + 1 = to ∨ ∃ (S2 T2 : gs_P) (kk : Nat), gs_ok w S2 ∧ (fr < j → gs_lw w (B1 (j - 1)) S2) ∧ gs_pr w kk S2 T2 (B1 j) (B1 (j + 1)) ∧ gs_lw w (B1 j) (B1 (j + 1)))
theorem st_I0 {w fr to : Nat} {B : Nat → gs_P} (h : 1 ≤ to) : st_I w fr to (to - 1) B B := ⟨fun i h1 h2 => by omega, fun _ _ => rfl, Or.inl (by omega)⟩
theorem st_Is {w fr to j k : Nat} {B B1 : Nat → gs_P} {S T : gs_P} (hB : ∀ i, fr ≤ i → i + 2 < to → gs_lw w (B i) (B (i + 1))) (hok : ∀ i, i < to → gs_ok w (B1 i)) (h : st_I w fr to j B B1) (hj : fr < j) (hj2 : j < to) (hp : gs_pr w k (B1 (j - 1)) (B1 j) S T) (hl : gs_lw w S T) : st_I w fr to (j - 1) B (gs_set2 B1 (j - 1) S T) := by
  obtain ⟨i, rfl⟩ : ∃ i, j = i + 1 := ⟨j - 1, by omega⟩
  rw [show i + 1 - 1 = i by omega] at hp ⊢
  obtain ⟨h1, h2, h3⟩ := h
  refine ⟨fun a q1 q2 => ?_, fun a q => ?_, Or.inr ⟨B1 i, B1 (i + 1), k, hok i (by omega), fun q => ?_, ?_, ?_⟩⟩
  · by_cases e : a = i + 1
    · subst e
      rw [gs_set2_1, gs_set2_n _ _ _ (by omega) (by omega)]
      rcases h3 with h3 | ⟨S2, T2, kk, o2, g1, g2, g3⟩
      · omega
      · have g1 := g1 hj
        rw [show i + 1 - 1 = i by omega] at g1
        exact gs_domino o2 (hok (i + 1) hj2) g1 g2 g3 hp
    · rw [gs_set2_n _ _ _ (by omega) (by omega), gs_set2_n _ _ _ (by omega) (by omega)]
      exact h1 a (by omega) q2
  · rw [gs_set2_n _ _ _ (by omega) (by omega)]
    exact h2 a (by omega)
  · rw [gs_set2_n _ _ _ (by omega) (by omega), h2 (i - 1) (by omega), h2 i (by omega)]
    have := hB (i - 1) (by omega) (by omega)
    rwa [show i - 1 + 1 = i by omega] at this
  · rw [gs_set2_0, gs_set2_1]; exact hp
  · rw [gs_set2_0, gs_set2_1]; exact hl
theorem st_Iend {w fr to : Nat} {B B1 : Nat → gs_P} (h : st_I w fr to fr B B1) : ∀ i, fr ≤ i → i + 1 < to → gs_lw w (B1 i) (B1 (i + 1)) := fun i h1 h2 => by
  obtain ⟨g1, g2, g3⟩ := h
  by_cases e : i = fr
  · subst e
    rcases g3 with g3 | ⟨_, _, _, _, _, _, g3⟩
    · omega
    · exact g3
  · exact g1 i (by omega) h2
theorem st_Ibrk {w fr to j : Nat} {B B1 : Nat → gs_P} (hB : ∀ i, fr ≤ i → i + 2 < to → gs_lw w (B i) (B (i + 1))) (h : st_I w fr to j B B1) (hj : fr < j) (hj2 : j < to) (hl : gs_lw w (B1 (j - 1)) (B1 j)) : ∀ i, fr ≤ i → i + 1 < to → gs_lw w (B1 i) (B1 (i + 1)) := fun i h1 h2 => by
  obtain ⟨g1, g2, g3⟩ := h
  rcases (show j < i ∨ i = j ∨ i + 1 = j ∨ i + 1 < j by omega) with e | e | e | e
  · exact g1 i e h2
  · subst e
    rcases g3 with g3 | ⟨_, _, _, _, _, _, g3⟩
    · omega
    · exact g3
  · subst e; exact hl
  · rw [g2 i (by omega), g2 (i + 1) e]
    exact hB i h1 (by omega)
theorem st_ok {w to d : Nat} {B B1 : Nat → gs_P} (h : gs_to w to d B B1) (hB : ∀ i, i < to → gs_ok w (B i)) : ∀ i, i < to → gs_ok w (B1 i) := gs_al_to d hB h
/-- rows of the heap after one moveOver -/
def st_X (X : Nat → Nat → Int) (j : Nat) (g h : Nat → Int) : Nat → Nat → Int := fun i => if i = j - 1 then g else if i = j then h else X i
theorem st_Xh {w to j : Nat} {B1 : Nat → gs_P} {X : Nat → Nat → Int} {g h : Nat → Int} {S T : gs_P} (hj : 1 ≤ j) (hX : ∀ i, i < to → bn_h w (X i) (B1 i).1) (hg : bn_h w g S.1) (hh : bn_h w h T.1) : ∀ i, i < to → bn_h w (st_X X j g h i) (gs_set2 B1 (j - 1) S T i).1 := fun i hi => by
  unfold st_X
  by_cases e : i = j - 1
  · rw [if_pos e, e, gs_set2_0]; exact hg
  · by_cases e2 : i = j
    · rw [if_neg e, if_pos e2, show i = j - 1 + 1 by omega, gs_set2_1]; exact hh
    · rw [if_neg e, if_neg e2, gs_set2_n _ _ _ e (by omega)]; exact hX i hi
theorem st_Xc {E : hp_E} {H H1 : Heap} {b j : Nat} {X : Nat → Nat → Int} {g h : Nat → Int} (hr : ∀ i, i < 32 → ca E H (b + 4 + i) (ai E 9 (X i))) (ho : ∀ q, ¬ (q = b + 4 + (j - 1) ∨ q = b + 4 + j ∨ q = b + 36) → H1[q]? = H[q]?) (hg : ca E H1 (b + 4 + (j - 1)) (ai E 9 g)) (hh : ca E H1 (b + 4 + j) (ai E 9 h)) : ∀ i, i < 32 → ca E H1 (b + 4 + i) (ai E 9 (st_X X j g h i)) := fun i hi => by
  unfold st_X
  by_cases e : i = j - 1
  · rw [if_pos e, e]; exact hg
  · by_cases e2 : i = j
    · rw [if_neg e, if_pos e2, e2]; exact hh
    · rw [if_neg e, if_neg e2]; exact (hr i hi).keep (ho _ (by omega))
theorem gs_set2_self (A : Nat → gs_P) (j : Nat) : gs_set2 A j (A j) (A (j + 1)) = A := by
  funext k
  by_cases e : k = j
  · subst e; rw [gs_set2_0]
  · by_cases e2 : k = j + 1
    · subst e2; rw [gs_set2_1]
    · rw [gs_set2_n _ _ _ e e2]
