/-! What the words' methods answer. -/
def bw_sgn (z : Int) : Int := if 0 < z then 1 else if z < 0 then -1 else 0
def bw_stp (v q : Int) : Int := if q = v then q + 1 else if q = v + 1 then q - 1 else q
def bw_end (f : Nat → Int) : Nat → Int → Int
  | 0, p => p
  | k + 1, p => bw_stp ((f k).natAbs : Int) (bw_end f k p)
def bw_sum (f : Nat → Int) : Nat → Int
  | 0 => 0
  | k + 1 => bw_sum f k + bw_sgn (f k)
def bw_t (f : Nat → Int) (k : Nat) (p : Int) : Bool := decide (p = ((f k).natAbs : Int) ∨ p = ((f k).natAbs : Int) + 1)
/-- whether a letter from j on, ahead of k, touches the place p -/
def bw_tf (f : Nat → Int) (p : Int) (j : Nat) : Nat → Bool
  | 0 => false
  | k + 1 => bw_tf f p j k || (decide (j ≤ k) && bw_t f k p)
theorem bw_tf_iff {f : Nat → Int} {p : Int} {j : Nat} : ∀ {k : Nat}, bw_tf f p j k = true ↔ ∃ i, j ≤ i ∧ i < k ∧ bw_t f i p = true
  | 0 => ⟨fun h => (by cases h), fun h => (by obtain ⟨_, _, h, _⟩ := h; omega)⟩
  | k + 1 => by
    rw [bw_tf, Bool.or_eq_true, Bool.and_eq_true, bw_tf_iff]
    constructor
    · intro h; rcases h with ⟨i, h1, h2, h3⟩ | ⟨h1, h2⟩
      · exact ⟨i, h1, by omega, h3⟩
      · exact ⟨k, of_decide_eq_true h1, by omega, h2⟩
    · intro h; obtain ⟨i, h1, h2, h3⟩ := h
      by_cases e : i = k
      · subst e; exact Or.inr ⟨decide_eq_true h1, h3⟩
      · exact Or.inl ⟨i, h1, by omega, h3⟩
def bw_cir (f : Nat → Int) (c : Nat) : Nat → Int
  | 0 => 0
  | p + 1 => bw_cir f c p + (if bw_tf f ((p + 1 : Nat) : Int) 0 c then 0 else 1)
theorem bw_sum_rng (f : Nat → Int) : ∀ k : Nat, -(k : Int) ≤ bw_sum f k ∧ bw_sum f k ≤ k
  | 0 => by simp [bw_sum]
  | k + 1 => by
    have := bw_sum_rng f k
    have h : -1 ≤ bw_sgn (f k) ∧ bw_sgn (f k) ≤ 1 := by unfold bw_sgn; split <;> (try split) <;> omega
    simp only [bw_sum]
    omega
theorem bw_end_rng {f : Nat → Int} {w : Nat} (hf : ∀ j, f j ≠ 0 → (f j).natAbs < w) (h0 : ∀ j, f j ≠ 0) (p : Int) (h1 : 1 ≤ p) (h2 : p ≤ w) : ∀ k : Nat, 1 ≤ bw_end f k p ∧ bw_end f k p ≤ w
  | 0 => ⟨h1, h2⟩
  | k + 1 => by
    have := bw_end_rng hf h0 p h1 h2 k
    have h3 := hf k (h0 k)
    have h4 := h0 k
    simp only [bw_end, bw_stp]
    split
    · omega
    · split <;> omega
theorem bw_end_small {f : Nat → Int} (hf : bd f) (p : Int) : ∀ k : Nat, p - k ≤ bw_end f k p ∧ bw_end f k p ≤ p + k
  | 0 => by simp [bw_end]
  | k + 1 => by
    have := bw_end_small hf p k
    simp only [bw_end, bw_stp]
    split
    · omega
    · split <;> omega
theorem bw_cir_rng (f : Nat → Int) (c : Nat) : ∀ p : Nat, 0 ≤ bw_cir f c p ∧ bw_cir f c p ≤ p
  | 0 => by simp [bw_cir]
  | p + 1 => by
    have := bw_cir_rng f c p
    simp only [bw_cir]
    split <;> omega
/-- Integer.signum of a small int -/
theorem bw_signum : ∀ k : Fin 15, (iI ((k.val : Int) - 7) >>> ((31 : Int32) &&& 31)) ||| ((-iI ((k.val : Int) - 7)).toUInt32 >>> ((31 : Int32).toUInt32 &&& Int32.toUInt32 31)).toInt32 = iI (bw_sgn ((k.val : Int) - 7)) := by decide
