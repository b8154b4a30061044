/-- slot t's letters in the reference's array -/
def gw (g : Nat → Int) (t : Nat) : Nat → Int := fun k => g (32 * t + k)
theorem gw_bd {g : Nat → Int} (h : bd g) (t : Nat) : bd (gw g t) := fun k => h _
/-- whether the first j - 1 steps from p stay above p -/
def bw_ab (f : Nat → Int) (c : Nat) (p : Int) (j : Nat) : Prop := ∀ i, 1 ≤ i → i < j → p < bw_it f c i p
theorem bw_ab_lst {f : Nat → Int} {c j : Nat} {p : Int} (hj : 1 ≤ j) (h : bw_it f c j p = p) (hn : ∀ i, 1 ≤ i → i < j → bw_it f c i p ≠ p) : bw_ab f c p j ↔ bw_lst f c p := by
  constructor
  · intro q m
    rw [bw_it_mod h m]
    have hm := Nat.mod_lt m hj
    by_cases e : m % j = 0
    · rw [e]; exact Int.le_refl _
    · have := q (m % j) (by omega) hm
      omega
  · intro q i h1 h2
    have := q i
    have := hn i h1 h2
    omega
theorem bw_tf_s (f : Nat → Int) (p : Int) (k : Nat) : bw_tf f p 0 (k + 1) = (bw_tf f p 0 k || bw_t f k p) := by simp [bw_tf]
theorem bw_un0 {x : Bool} (h : false = !x) : x = true := by cases x; cases h; rfl
theorem bw_un1 {x : Bool} (h : true = !x) : x = false := by cases x; rfl; cases h
theorem bw_t_t {f : Nat → Int} {k : Nat} {p : Int} (h : p = ((f k).natAbs : Int) ∨ p = ((f k).natAbs : Int) + 1) : bw_t f k p = true := decide_eq_true h
theorem bw_t_f {f : Nat → Int} {k : Nat} {p : Int} (h : ¬ (p = ((f k).natAbs : Int) ∨ p = ((f k).natAbs : Int) + 1)) : bw_t f k p = false := decide_eq_false h
