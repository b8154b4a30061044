/-! What is read off a word depends on its letters alone -/
section CG
variable {f g : Nat → Int}
theorem bw_sum_cg : ∀ {k : Nat}, (∀ j, j < k → f j = g j) → bw_sum f k = bw_sum g k
  | 0, _ => rfl
  | k + 1, h => by
    show bw_sum f k + bw_sgn (f k) = bw_sum g k + bw_sgn (g k)
    rw [bw_sum_cg (fun j hj => h j (by omega)), h k (by omega)]
theorem bw_end_cg {p : Int} : ∀ {k : Nat}, (∀ j, j < k → f j = g j) → bw_end f k p = bw_end g k p
  | 0, _ => rfl
  | k + 1, h => by
    show bw_stp ((f k).natAbs : Int) (bw_end f k p) = bw_stp ((g k).natAbs : Int) (bw_end g k p)
    rw [bw_end_cg (fun j hj => h j (by omega)), h k (by omega)]
theorem bw_t_cg {k : Nat} (p : Int) (h : f k = g k) : bw_t f k p = bw_t g k p := by unfold bw_t; rw [h]
theorem bw_tf_cg {p : Int} {j : Nat} : ∀ {k : Nat}, (∀ i, i < k → f i = g i) → bw_tf f p j k = bw_tf g p j k
  | 0, _ => rfl
  | k + 1, h => by
    show (bw_tf f p j k || (decide (j ≤ k) && bw_t f k p)) = (bw_tf g p j k || (decide (j ≤ k) && bw_t g k p))
    rw [bw_tf_cg (fun j hj => h j (by omega)), bw_t_cg p (h k (by omega))]
theorem bw_cir_cg {c : Nat} (h : ∀ i, i < c → f i = g i) : ∀ {p : Nat}, bw_cir f c p = bw_cir g c p
  | 0 => rfl
  | p + 1 => by
    show bw_cir f c p + _ = bw_cir g c p + _
    rw [bw_cir_cg h, bw_tf_cg h]
theorem bw_it_cg {c : Nat} (h : ∀ i, i < c → f i = g i) {p : Int} : ∀ {m : Nat}, bw_it f c m p = bw_it g c m p
  | 0 => rfl
  | m + 1 => by
    show bw_end f c (bw_it f c m p) = bw_end g c (bw_it g c m p)
    rw [bw_it_cg h, bw_end_cg h]
theorem bw_lst_cg {c : Nat} (h : ∀ i, i < c → f i = g i) {p : Int} : bw_lst f c p = bw_lst g c p := by
  unfold bw_lst
  refine propext ⟨fun q m => ?_, fun q m => ?_⟩
  · rw [← bw_it_cg h]; exact q m
  · rw [bw_it_cg h]; exact q m
theorem bw_cmp_cg {c : Nat} (h : ∀ i, i < c → f i = g i) : ∀ {k : Nat}, bw_cmp f c k = bw_cmp g c k
  | 0 => rfl
  | k + 1 => by
    by_cases q : bw_lst f c ((k + 1 : Nat) : Int)
    · rw [bw_cmp_t q, bw_cmp_t (by rw [← bw_lst_cg h]; exact q), bw_cmp_cg h]
    · rw [bw_cmp_f q, bw_cmp_f (by rw [← bw_lst_cg h]; exact q), bw_cmp_cg h]
theorem bw_neg_cg : ∀ {k : Nat}, (∀ j, j < k → f j = g j) → bw_neg f k = bw_neg g k
  | 0, _ => rfl
  | k + 1, h => by
    show bw_neg f k + _ = bw_neg g k + _
    rw [bw_neg_cg (fun j hj => h j (by omega)), h k (by omega)]
theorem bn_X_cg {w c : Nat} (h : ∀ j, j < c → f j = g j) : bn_X w c f = bn_X w c g := by
  funext k
  unfold bn_X
  by_cases q : k < c
  · rw [if_pos q, if_pos q, h k q]
    congr 1
    unfold bn_i bw_mir
    rw [bw_neg_cg h, bw_neg_cg (f := f) (g := g) (k := k + 1) (fun j hj => h j (by omega)), h k q]
  · rw [if_neg q, if_neg q]
theorem kN_cf {w c : Nat} {z : Int} {n : Nat} {X : Nat → Nat → Int} (h : ∀ j, j < c → f j = g j) (q : kN w c f z n X) : kN w c g z n X := by
  unfold kN at q ⊢
  rw [← bn_X_cg h, ← bw_neg_cg h]
  exact q
theorem bw_lab_cg {w : Nat} {p : Int} : ∀ {k : Nat}, (∀ j, j < k → f j = g j) → bw_lab w f p k = bw_lab w g p k
  | 0, _ => rfl
  | k + 1, h => by
    show (if bw_t f k p then bw_mk w f k p else bw_lab w f p k) = (if bw_t g k p then bw_mk w g k p else bw_lab w g p k)
    rw [bw_lab_cg (fun j hj => h j (by omega)), bw_t_cg p (h k (by omega))]
    unfold bw_mk
    rw [h k (by omega)]
theorem bw_cor_cg {w c k : Nat} {x : Int} (h : ∀ j, j < c → f j = g j) (hk : k < c) : bw_cor w c f k x = bw_cor w c g k x := by
  unfold bw_cor bw_low
  rw [h k hk]
  simp only [bw_lab_cg (w := w) (fun j hj => h j (show j < c by omega)), bw_tf_cg h]
  have hm : ∀ p : Int, bw_mk w f k p = bw_mk w g k p := fun p => by unfold bw_mk; rw [h k hk]
  have hl : ∀ p : Int, bw_lab w f p k = bw_lab w g p k := fun p => bw_lab_cg (fun j hj => h j (by omega))
  simp only [hm, hl]
theorem bw_far_cg {c : Nat} {k0 : Int} (h : ∀ j, j < c → f j = g j) : bw_far f c k0 ↔ bw_far g c k0 := by
  unfold bw_far
  constructor
  · intro ⟨a, b, d⟩
    rw [h _ (by omega), h _ (by omega)] at d
    exact ⟨a, b, d⟩
  · intro ⟨a, b, d⟩
    rw [← h _ (by omega), ← h _ (by omega)] at d
    exact ⟨a, b, d⟩
theorem bw_can_cg {k : Nat} (h0 : f k = g k) (h1 : f (k + 1) = g (k + 1)) (h2 : f (k + 2) = g (k + 2)) : bw_can f k = bw_can g k := by unfold bw_can; rw [h0, h1, h2]
theorem bw_st_eq {a b : Nat → Int} {i j : Nat} {s : List Int} (h1 : bw_st a i s) (h2 : bw_st b j s) : i = j ∧ ∀ k, k < i → a k = b k := by
  have e : i = j := h1.1.trans h2.1.symm
  subst e
  exact ⟨rfl, fun k hk => (h1.2 k hk).trans (h2.2 k hk).symm⟩
theorem bw_gone_cg {c n : Nat} (h : ∀ j, j < c → f j = g j) (q : bw_gone f c n) : bw_gone g c n := by
  refine ⟨fun i hi => ?_, fun z => q.2 ?_⟩
  · have := q.1 i hi
    refine ⟨this.1, ?_⟩
    rw [← h i (by omega), ← h (c - 1 - i) (by omega)]
    exact this.2
  · refine ⟨z.1, ?_⟩
    rw [h n (by omega), h (c - 1 - n) (by omega)]
    exact z.2
end CG
