/-! What the writing methods of a word do. -/
/-- reduction as a stack, the last letter first -/
def bw_psh (s : List Int) (x : Int) : List Int := match s with
  | [] => [x]
  | y :: t => if y = -x then t else x :: y :: t
def bw_rs (f : Nat → Int) : Nat → List Int
  | 0 => []
  | k + 1 => bw_psh (bw_rs f k) (f k)
theorem bw_psh_len (s : List Int) (x : Int) : (bw_psh s x).length ≤ s.length + 1 := by
  match s with
  | [] => simp [bw_psh]
  | y :: t => simp only [bw_psh]; split <;> simp <;> omega
theorem bw_rs_len (f : Nat → Int) : ∀ k, (bw_rs f k).length ≤ k
  | 0 => Nat.le_refl 0
  | k + 1 => by
    have := bw_rs_len f k
    have := bw_psh_len (bw_rs f k) (f k)
    show (bw_psh (bw_rs f k) (f k)).length ≤ k + 1
    omega
theorem bw_psh_mem {s : List Int} {x y : Int} (h : y ∈ bw_psh s x) : y ∈ s ∨ y = x := by
  match s with
  | [] => simp [bw_psh] at h; exact Or.inr h
  | z :: t =>
    simp only [bw_psh] at h
    split at h
    · exact Or.inl (List.mem_cons_of_mem _ h)
    · rcases List.mem_cons.mp h with h | h
      · exact Or.inr h
      · exact Or.inl h
theorem bw_rs_mem {f : Nat → Int} : ∀ {k : Nat} {x : Int}, x ∈ bw_rs f k → ∃ j, j < k ∧ x = f j
  | 0, _, h => by cases h
  | k + 1, _, h => by
    rcases bw_psh_mem h with h | h
    · obtain ⟨j, h1, h2⟩ := bw_rs_mem h
      exact ⟨j, by omega, h2⟩
    · exact ⟨k, by omega, h⟩
/-- an array's first i places hold a stack, its bottom first -/
def bw_st (g : Nat → Int) (i : Nat) (s : List Int) : Prop := i = s.length ∧ ∀ j, j < i → g j = s.getD (i - 1 - j) 0
theorem bw_st_0 (g : Nat → Int) : bw_st g 0 [] := ⟨rfl, fun j h => by omega⟩
theorem bw_st_pop {g : Nat → Int} {i : Nat} {s : List Int} {x : Int} (h : bw_st g i s) (hi : 0 < i) (hx : g (i - 1) = -x) : bw_st g (i - 1) (bw_psh s x) := by
  obtain ⟨h1, h2⟩ := h
  match s with
  | [] => simp at h1; omega
  | y :: t =>
    have hy : y = -x := by
      have := h2 (i - 1) (by omega)
      rw [show i - 1 - (i - 1) = 0 by omega] at this
      simp at this
      omega
    simp only [bw_psh, hy, if_true]
    simp at h1
    refine ⟨by omega, fun j hj => ?_⟩
    rw [h2 j (by omega), show i - 1 - j = (i - 1 - 1 - j) + 1 by omega]
    simp
theorem bw_st_push {g : Nat → Int} {i : Nat} {s : List Int} {x : Int} (h : bw_st g i s) (hx : i = 0 ∨ ¬ g (i - 1) = -x) : bw_st (hp_up g i x) (i + 1) (bw_psh s x) := by
  obtain ⟨h1, h2⟩ := h
  have e : bw_psh s x = x :: s := by
    match s with
    | [] => rfl
    | y :: t =>
      simp only [bw_psh]
      rw [if_neg]
      intro hy
      simp at h1
      rcases hx with hx | hx
      · omega
      · refine hx ?_
        rw [h2 (i - 1) (by omega), show i - 1 - (i - 1) = 0 by omega]
        simpa using hy
  rw [e]
  refine ⟨by simp; omega, fun j hj => ?_⟩
  by_cases q : j = i
  · subst q
    rw [hp_up_s, show j + 1 - 1 - j = 0 by omega]
    rfl
  · rw [hp_up_n _ _ q, h2 j (by omega), show i + 1 - 1 - j = (i - 1 - j) + 1 by omega]
    simp
/-- how many letters go at both ends -/
def bw_gone (f : Nat → Int) (c g : Nat) : Prop := (∀ i, i < g → i + i + 1 < c ∧ f i = -f (c - 1 - i)) ∧ ¬ (g + g + 1 < c ∧ f g = -f (c - 1 - g))
theorem bw_gone_uniq {f : Nat → Int} {c g h : Nat} (h1 : bw_gone f c g) (h2 : bw_gone f c h) : g = h := by
  rcases Nat.lt_trichotomy g h with q | q | q
  · exact absurd (h2.1 g q) h1.2
  · exact q
  · exact absurd (h1.1 h q) h2.2
theorem bd_up {f : Nat → Int} {k : Nat} {x : Int} (h : bd f) (h1 : -8 < x) (h2 : x < 8) : bd (hp_up f k x) := fun j => by
  unfold hp_up
  split
  · exact ⟨h1, h2⟩
  · exact h j
theorem bd_cpy {f g : Nat → Int} {i j k : Nat} (hf : bd f) (hg : bd g) : bd (va_cpy f g i j k) := fun x => by
  unfold va_cpy
  split
  · exact hf _
  · exact hg _
/-- may letters k, k + 1, k + 2 pass -/
def bw_can (f : Nat → Int) (k : Nat) : Bool := decide (((f k).natAbs = (f (k + 2)).natAbs ∧ ((f k).natAbs = (f (k + 1)).natAbs + 1 ∨ (f (k + 1)).natAbs = (f k).natAbs + 1)) ∧ (f k = f (k + 2) → bw_sgn (f k) = bw_sgn (f (k + 1))))
def bw_mk (w : Nat) (f : Nat → Int) (k : Nat) (p : Int) : Int := (w : Int) + 1 + 2 * k + (p - (f k).natAbs)
/-- the label that place p bears ahead of letter k -/
def bw_lab (w : Nat) (f : Nat → Int) (p : Int) : Nat → Int
  | 0 => p
  | k + 1 => if bw_t f k p then bw_mk w f k p else bw_lab w f p k
theorem bw_lab_skip {w : Nat} {f : Nat → Int} {p : Int} {m : Nat} : ∀ {k : Nat}, m ≤ k → (∀ i, m ≤ i → i < k → bw_t f i p = false) → bw_lab w f p k = bw_lab w f p m
  | 0, h, _ => by rw [show m = 0 by omega]
  | k + 1, h, hn => by
    by_cases e : m = k + 1
    · rw [e]
    · simp only [bw_lab]
      rw [hn k (by omega) (by omega)]
      exact bw_lab_skip (by omega) (fun i h1 h2 => hn i h1 (by omega))
/-- the label that place p bears below letter k -/
def bw_low (w c : Nat) (f : Nat → Int) (k : Nat) (p : Int) : Int := if bw_tf f p (k + 1) c then bw_mk w f k p else p
def bw_cor (w c : Nat) (f : Nat → Int) (k : Nat) (what : Int) : Int :=
  let v : Int := ((f k).natAbs : Int)
  let q := if 0 < f k then what else (what + 3) % 4
  if q = 0 then bw_lab w f v k else if q = 1 then bw_low w c f k v else if q = 2 then bw_low w c f k (v + 1) else bw_lab w f (v + 1) k
