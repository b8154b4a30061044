/-! Letters taken out, put round, copied: what the reference's writing methods make -/
def bw_rmv (g : Nat → Int) (a b : Nat) : Nat → Int := fun q => if a ≤ q ∧ q < b then g (q + 1) else g q
theorem bw_rmv_0 (g : Nat → Int) (a : Nat) : bw_rmv g a a = g := by funext q; unfold bw_rmv; rw [if_neg (by omega)]
theorem bw_rmv_s (g : Nat → Int) {a b : Nat} (h : a ≤ b) : hp_up (bw_rmv g a b) b (bw_rmv g a b (b + 1)) = bw_rmv g a (b + 1) := by
  funext q
  by_cases e : q = b
  · subst e
    rw [hp_up_s]
    unfold bw_rmv
    rw [if_neg (by omega), if_pos (by omega)]
  · rw [hp_up_n _ _ e]
    unfold bw_rmv
    by_cases e2 : a ≤ q ∧ q < b
    · rw [if_pos e2, if_pos (by omega)]
    · rw [if_neg e2, if_neg (by omega)]
theorem bd_rmv {g : Nat → Int} {a b : Nat} (h : bd g) : bd (bw_rmv g a b) := fun q => by
  unfold bw_rmv
  split <;> exact h _
def bw_out (t : Nat) (g g' : Nat → Int) : Prop := ∀ q, q < 32 * t ∨ 32 * t + 32 ≤ q → g' q = g q
theorem bw_out_rf (t : Nat) (g : Nat → Int) : bw_out t g g := fun _ _ => rfl
theorem bw_out_tr {t : Nat} {g g1 g2 : Nat → Int} (h : bw_out t g g1) (h2 : bw_out t g1 g2) : bw_out t g g2 := fun q hq => (h2 q hq).trans (h q hq)
theorem bw_out_rmv {t : Nat} {g : Nat → Int} {a b : Nat} (h1 : 32 * t ≤ a) (h2 : b ≤ 32 * t + 32) : bw_out t g (bw_rmv g a b) := fun q hq => by
  unfold bw_rmv
  rw [if_neg (by omega)]
theorem bw_out_up {t : Nat} {g : Nat → Int} {a : Nat} {x : Int} (h1 : 32 * t ≤ a) (h2 : a < 32 * t + 32) : bw_out t g (hp_up g a x) := fun q hq => hp_up_n _ _ (by omega)
theorem bw_mulp {x v : Int} (h : 0 < x) : v = bw_sgn x * v := by unfold bw_sgn; rw [if_pos h, Int.one_mul]
theorem bw_muln {x v : Int} (h : x < 0) : -v = bw_sgn x * v := by unfold bw_sgn; rw [if_neg (by omega), if_pos h]; omega
theorem bw_can_i {f : Nat → Int} {k : Nat} (h0 : f k ≠ 0) (h1 : f (k + 1) ≠ 0) (h2 : f (k + 2) ≠ 0) : bw_can f k = true ↔ ((f k).natAbs = (f (k + 2)).natAbs ∧ ((f k).natAbs = (f (k + 1)).natAbs + 1 ∨ (f (k + 1)).natAbs = (f k).natAbs + 1)) ∧ ((0 < f k ↔ 0 < f (k + 2)) → (0 < f k ↔ 0 < f (k + 1))) := by
  unfold bw_can
  rw [decide_eq_true_iff]
  have hs : ∀ x y : Int, x ≠ 0 → y ≠ 0 → (bw_sgn x = bw_sgn y ↔ (0 < x ↔ 0 < y)) := by
    intro x y hx hy
    unfold bw_sgn
    by_cases a : 0 < x
    · by_cases b : 0 < y
      · rw [if_pos a, if_pos b]; simp [a, b]
      · rw [if_pos a, if_neg b, if_pos (by omega)]; simp [a, b]
    · by_cases b : 0 < y
      · rw [if_neg a, if_pos (by omega), if_pos b]; simp [a, b]
      · rw [if_neg a, if_pos (by omega), if_neg b, if_pos (by omega)]; simp [a, b]
  rw [hs _ _ h0 h1]
  constructor
  · intro h
    refine ⟨h.1, fun q => h.2 (by omega)⟩
  · intro h
    refine ⟨h.1, fun q => h.2 (by rw [q])⟩
/-! free reduction: taking out a letter and its inverse does not change the reduced word -/
def bw_nr : List Int → Prop
  | x :: y :: s => x ≠ -y ∧ bw_nr (y :: s)
  | _ => True
theorem bw_nr_t {x : Int} {s : List Int} (h : bw_nr (x :: s)) : bw_nr s := by
  match s with
  | [] => trivial
  | y :: s => exact h.2
theorem bw_nr_psh {s : List Int} {x : Int} (h : bw_nr s) : bw_nr (bw_psh s x) := by
  match s with
  | [] => trivial
  | y :: t =>
    simp only [bw_psh]
    split
    · exact bw_nr_t h
    · exact ⟨fun q => by omega, h⟩
theorem bw_nr_rs (f : Nat → Int) : ∀ k, bw_nr (bw_rs f k)
  | 0 => trivial
  | k + 1 => bw_nr_psh (bw_nr_rs f k)
theorem bw_psh2 {s : List Int} {x y : Int} (h : bw_nr s) (e : x = -y) : bw_psh (bw_psh s x) y = s := by
  match s with
  | [] => simp only [bw_psh]; rw [if_pos e]
  | z :: t =>
    by_cases q : z = -x
    · have e1 : bw_psh (z :: t) x = t := by simp only [bw_psh]; rw [if_pos q]
      rw [e1]
      match t, h with
      | [], _ => simp only [bw_psh]; rw [show y = z by omega]
      | a :: t, h =>
        have := h.1
        simp only [bw_psh]
        rw [if_neg (by omega), show y = z by omega]
    · have e1 : bw_psh (z :: t) x = x :: z :: t := by simp only [bw_psh]; rw [if_neg q]
      rw [e1]
      simp only [bw_psh]
      rw [if_pos e]
theorem bw_rs_cg {f g : Nat → Int} : ∀ {k : Nat}, (∀ j, j < k → f j = g j) → bw_rs f k = bw_rs g k
  | 0, _ => rfl
  | k + 1, h => by
    show bw_psh (bw_rs f k) (f k) = bw_psh (bw_rs g k) (g k)
    rw [bw_rs_cg (fun j hj => h j (by omega)), h k (by omega)]
theorem bw_rs_cut {f g : Nat → Int} {k : Nat} (h1 : ∀ j, j < k → g j = f j) (h2 : ∀ j, k ≤ j → g j = f (j + 2)) (e : f k = -f (k + 1)) : ∀ j, bw_rs g (k + j) = bw_rs f (k + j + 2)
  | 0 => by
    show bw_rs g k = bw_psh (bw_psh (bw_rs f k) (f k)) (f (k + 1))
    rw [bw_psh2 (bw_nr_rs f k) e, bw_rs_cg h1]
  | j + 1 => by
    show bw_psh (bw_rs g (k + j)) (g (k + j)) = bw_psh (bw_rs f (k + j + 2)) (f (k + j + 2))
    rw [bw_rs_cut h1 h2 e j, h2 _ (by omega)]
theorem bw_rs_st {f : Nat → Int} : ∀ {c : Nat}, (∀ i, i + 1 < c → f i ≠ -f (i + 1)) → bw_st f c (bw_rs f c)
  | 0, _ => bw_st_0 f
  | c + 1, h => by
    have ih := bw_rs_st (f := f) (c := c) (fun i hi => h i (by omega))
    have := bw_st_push (x := f c) ih (by
      by_cases q : c = 0
      · exact Or.inl q
      · have := h (c - 1) (by omega)
        rw [show c - 1 + 1 = c by omega] at this
        exact Or.inr this)
    rw [hp_up_self] at this
    exact this
/-- the two letters k, k + 1 of slot t taken out: first the second, then the first -/
theorem gw_rm2 {g : Nat → Int} {t k n : Nat} (hk : k + 1 < n) (j : Nat) : gw (bw_rmv (bw_rmv g (32 * t + (k + 1)) (32 * t + n - 1)) (32 * t + k) (32 * t + (n - 1) - 1)) t j = if j < k then gw g t j else if j + 2 < n then gw g t (j + 2) else gw (bw_rmv (bw_rmv g (32 * t + (k + 1)) (32 * t + n - 1)) (32 * t + k) (32 * t + (n - 1) - 1)) t j := by
  by_cases h1 : j < k
  · rw [if_pos h1]
    unfold gw bw_rmv
    rw [if_neg (by omega), if_neg (by omega)]
  · by_cases h2 : j + 2 < n
    · rw [if_neg h1, if_pos h2]
      unfold gw bw_rmv
      rw [if_pos (by omega), if_pos (by omega)]
      congr 1
    · rw [if_neg h1, if_neg h2]
theorem bw_rs_rm2 {g g' : Nat → Int} {k n : Nat} (hk : k + 1 < n) (h1 : ∀ j, j < k → g' j = g j) (h2 : ∀ j, k ≤ j → j + 2 < n → g' j = g (j + 2)) (e : g k = -g (k + 1)) : bw_rs g' (n - 2) = bw_rs g n := by
  have hc := bw_rs_cut (f := g) (g := fun j => if j < k then g j else g (j + 2)) (k := k) (fun j hj => by simp [hj]) (fun j hj => by rw [if_neg (by omega)]) e (n - 2 - k)
  rw [show k + (n - 2 - k) = n - 2 by omega, show n - 2 + 2 = n by omega] at hc
  rw [← hc]
  refine bw_rs_cg fun j hj => ?_
  by_cases q : j < k
  · rw [if_pos q, h1 j q]
  · rw [if_neg q, h2 j (by omega) (by omega)]
def bw_shr (g : Nat → Int) (a b : Nat) : Nat → Int := fun q => if a < q ∧ q < b then g (q - 1) else g q
theorem bw_shr_0 (g : Nat → Int) {a b : Nat} (h : b ≤ a + 1) : bw_shr g a b = g := by funext q; unfold bw_shr; rw [if_neg (by omega)]
theorem bw_shr_s (g : Nat → Int) {a b : Nat} (h : 0 < a) (h2 : a < b) : hp_up (bw_shr g a b) a (bw_shr g a b (a - 1)) = bw_shr g (a - 1) b := by
  funext q
  by_cases e : q = a
  · subst e
    rw [hp_up_s]
    unfold bw_shr
    rw [if_neg (by omega), if_pos (by omega)]
  · rw [hp_up_n _ _ e]
    unfold bw_shr
    by_cases e2 : a < q ∧ q < b
    · rw [if_pos e2, if_pos (by omega)]
    · rw [if_neg e2, if_neg (by omega)]
theorem bd_shr {g : Nat → Int} {a b : Nat} (h : bd g) : bd (bw_shr g a b) := fun q => by
  unfold bw_shr
  split <;> exact h _
theorem bw_out_shr {t : Nat} {g : Nat → Int} {a b : Nat} (h1 : 32 * t ≤ a) (h2 : b ≤ 32 * t + 32) : bw_out t g (bw_shr g a b) := fun q hq => by
  unfold bw_shr
  rw [if_neg (by omega)]
