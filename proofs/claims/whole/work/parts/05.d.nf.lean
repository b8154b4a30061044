/-! Rows of a normal form and simple braids -/
def bw_sw (f : Nat → Int) (k : Nat) : Nat → Int := hp_up (hp_up f k (f (k + 1))) (k + 1) (f k)
theorem bn_sw (g : Nat → Int) (i p : Nat) : bw_sw g i p = g (gs_sw i p) := by
  unfold bw_sw hp_up gs_sw
  by_cases h1 : p = i
  · subst h1
    rw [if_neg (by omega), if_pos rfl, if_pos rfl]
  · by_cases h2 : p = i + 1
    · subst h2
      rw [if_pos rfl, if_neg (by omega), if_pos rfl]
    · rw [if_neg h2, if_neg h1, if_neg h1, if_neg h2]
theorem gs_sw_rng {i q w : Nat} (h1 : 1 ≤ i) (h2 : i < w) (h3 : 1 ≤ q) (h4 : q ≤ w) : 1 ≤ gs_sw i q ∧ gs_sw i q ≤ w := by
  have := gs_sw_cases i q
  omega
/-- an array holds a function at the places 1 .. w -/
def bn_h (w : Nat) (g : Nat → Int) (F : Nat → Nat) : Prop := ∀ p, 1 ≤ p → p ≤ w → g p = (F p : Int)
theorem bn_h_R {w i : Nat} {g : Nat → Int} {T : gs_P} (h : bn_h w g T.1) (h1 : 1 ≤ i) (h2 : i < w) : bn_h w (bw_sw g i) (gs_R i T).1 := fun p h3 h4 => by
  have := gs_sw_rng h1 h2 h3 h4
  rw [bn_sw]
  exact h _ this.1 this.2
theorem bn_h_L {w i : Nat} {g : Nat → Int} {S : gs_P} (h : bn_h w g S.2) (h1 : 1 ≤ i) (h2 : i < w) : bn_h w (bw_sw g i) (gs_L i S).2 := fun p h3 h4 => by
  have := gs_sw_rng h1 h2 h3 h4
  rw [bn_sw]
  exact h _ this.1 this.2
theorem gs_pr_snoc {n k i : Nat} {S T S1 T1 : gs_P} (h : gs_pr n k S T S1 T1) (h1 : 1 ≤ i) (h2 : i < n) (hc : gs_can i S1 T1) : gs_pr n (k + 1) S T (gs_L i S1) (gs_R i T1) := gs_pr_app k h ⟨i, h1, h2, hc, rfl, rfl⟩
theorem gs_rng {n : Nat} {S : gs_P} (h : gs_ok n S) {p : Nat} (h1 : 1 ≤ p) (h2 : p ≤ n) : 1 ≤ S.1 p ∧ S.1 p ≤ n := by
  refine Decidable.byContradiction fun hn => ?_
  have e := h.2.2 (S.1 p) (by omega)
  have := congrArg S.2 e
  rw [h.1, h.1] at this
  omega
theorem gs_inv_rng {n : Nat} {S : gs_P} (h : gs_ok n S) {q : Nat} (h1 : 1 ≤ q) (h2 : q ≤ n) : 1 ≤ S.2 q ∧ S.2 q ≤ n := by
  refine Decidable.byContradiction fun hn => ?_
  have e := h.2.2 (S.2 q) (by omega)
  rw [h.2.1] at e
  omega
/-- one place more of the inverse -/
theorem bn_inv {n p : Nat} {S : gs_P} (hS : gs_ok n S) {sf : Nat → Int} (h : ∀ q, 1 ≤ q → q < p → sf (S.1 q) = (q : Int)) : ∀ q, 1 ≤ q → q < p + 1 → hp_up sf (S.1 p) (p : Int) (S.1 q) = (q : Int) := by
  intro q h1 h2
  by_cases e : q = p
  · rw [e, hp_up_s]
  · rw [hp_up_n _ _ (fun z => e (by have := congrArg S.2 z; rwa [hS.1, hS.1] at this)), h q h1 (by omega)]
theorem bn_inv_all {n : Nat} {S : gs_P} (hS : gs_ok n S) {sf : Nat → Int} (h : ∀ q, 1 ≤ q → q < n + 1 → sf (S.1 q) = (q : Int)) : bn_h n sf S.2 := fun q h1 h2 => by
  have r := gs_inv_rng hS h1 h2
  have := h (S.2 q) r.1 (by omega)
  rwa [hS.2.1] at this
theorem bn_out {n q : Nat} {S : gs_P} (hS : gs_ok n S) {g : Nat → Int} (h : ∀ r, 1 ≤ r → r < q → g (S.2 r) = (r : Int)) : ∀ r, 1 ≤ r → r < q + 1 → hp_up g (S.2 q) (q : Int) (S.2 r) = (r : Int) := by
  intro r h1 h2
  by_cases e : r = q
  · rw [e, hp_up_s]
  · rw [hp_up_n _ _ (fun z => e (by have := congrArg S.1 z; rwa [hS.2.1, hS.2.1] at this)), h r h1 (by omega)]
theorem bn_out_all {n : Nat} {S : gs_P} (hS : gs_ok n S) {g : Nat → Int} (h : ∀ r, 1 ≤ r → r < n + 1 → g (S.2 r) = (r : Int)) : bn_h n g S.1 := fun p h1 h2 => by
  have r := gs_rng hS h1 h2
  have := h (S.1 p) r.1 (by omega)
  rwa [hS.1] at this
theorem gs_lw_of {n : Nat} {S T : gs_P} (h : ∀ i, 1 ≤ i → i < n → ¬ gs_can i S T) : gs_lw n S T := h
abbrev oN (b fr to : Nat) (pw : Int) : va_E := .inr (1, [.ref (b + 1), .ref (b + 3), .ref (b + 36), .int (iI (fr : Int)), .int (iI (to : Int)), .int (iI pw)])
theorem bI_k {k : Nat} {z : Int} (h : z = bI (decide (k ≠ 0))) : (z = 0 ∧ k = 0) ∨ (z = 1 ∧ k ≠ 0) := by
  by_cases e : k = 0
  · rw [decide_eq_false (by omega)] at h; exact Or.inl ⟨h, e⟩
  · rw [decide_eq_true e] at h; exact Or.inr ⟨h, e⟩
theorem gs_few {n k : Nat} {S T S1 T1 : gs_P} (h : gs_pr n k S T S1 T1) (hn : n ≤ 8) : k ≤ 28 := by
  have h1 := gs_inv_pr k h
  have h2 := gs_inv_28 hn T.1
  omega
def bw_far (f : Nat → Int) (c : Nat) (k0 : Int) : Prop := 0 ≤ k0 ∧ k0 ≤ (c : Int) - 2 ∧ 1 < (((f k0.toNat).natAbs : Int) - ((f (k0.toNat + 1)).natAbs : Int)).natAbs
def bw_pas (f : Nat → Int) (k : Nat) : Nat → Int := hp_up (hp_up (hp_up f k (bw_sgn (f (k + 2)) * ((f (k + 1)).natAbs : Int))) (k + 1) (bw_sgn (f (k + 1)) * ((f k).natAbs : Int))) (k + 2) (bw_sgn (f k) * ((f (k + 1)).natAbs : Int))
def bw_iv (f : Nat → Int) (c i k : Nat) : Int := if k < c ∧ (k < i ∨ c < k + 1 + i) then -f (c - 1 - k) else f k
theorem bw_iv_bd {f : Nat → Int} {c i : Nat} (h : bd f) : bd (bw_iv f c i) := fun k => by
  unfold bw_iv
  split
  · have := h (c - 1 - k); omega
  · exact h k
