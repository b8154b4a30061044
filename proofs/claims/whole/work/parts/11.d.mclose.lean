/-! Corners as the reference makes them: labels first, then those that run on to the ends are given the first labels -/
def bw_raw (w : Nat) (f : Nat → Int) (k x : Nat) : Int :=
  let v : Int := ((f k).natAbs : Int)
  let q := if 0 < f k then x else (x + 3) % 4
  if q = 0 then bw_lab w f v k else if q = 1 then bw_mk w f k v else if q = 2 then bw_mk w f k (v + 1) else bw_lab w f (v + 1) k
def bw_clr (w c : Nat) (f : Nat → Int) (n : Nat) (R X : Int) : Prop := (X = R ∧ ∀ p : Nat, 1 ≤ p → p ≤ n → ¬ ((w : Int) < R ∧ R = bw_lab w f p c)) ∨ ∃ p : Nat, 1 ≤ p ∧ p ≤ n ∧ (w : Int) < R ∧ R = bw_lab w f p c ∧ X = (p : Int)
theorem bw_lab_cases (w : Nat) (f : Nat → Int) (p : Int) : ∀ k, (bw_lab w f p k = p ∧ ∀ m, m < k → bw_t f m p = false) ∨ ∃ m, m < k ∧ bw_t f m p = true ∧ (∀ i, m < i → i < k → bw_t f i p = false) ∧ bw_lab w f p k = bw_mk w f m p
  | 0 => Or.inl ⟨rfl, fun m h => by omega⟩
  | k + 1 => by
    by_cases ht : bw_t f k p = true
    · exact Or.inr ⟨k, by omega, ht, fun i h1 h2 => by omega, by simp only [bw_lab]; rw [if_pos ht]⟩
    · have ht' : bw_t f k p = false := by simpa using ht
      have e : bw_lab w f p (k + 1) = bw_lab w f p k := by simp only [bw_lab]; rw [if_neg ht]
      rw [e]
      rcases bw_lab_cases w f p k with h | ⟨m, h1, h2, h3, h4⟩
      · exact Or.inl ⟨h.1, fun m hm => by
          by_cases q : m = k
          · rw [q]; exact ht'
          · exact h.2 m (by omega)⟩
      · exact Or.inr ⟨m, by omega, h2, fun i h5 h6 => by
          by_cases q : i = k
          · rw [q]; exact ht'
          · exact h3 i h5 (by omega), h4⟩
theorem bw_t_i {f : Nat → Int} {k : Nat} {p : Int} (h : bw_t f k p = true) : p = ((f k).natAbs : Int) ∨ p = ((f k).natAbs : Int) + 1 := of_decide_eq_true h
theorem bw_mk_inj {w : Nat} {f : Nat → Int} {m m' : Nat} {p p' : Int} (h : bw_t f m p = true) (h' : bw_t f m' p' = true) (e : bw_mk w f m p = bw_mk w f m' p') : m = m' ∧ p = p' := by
  have h1 := bw_t_i h
  have h2 := bw_t_i h'
  unfold bw_mk at e
  have : m = m' := by omega
  subst this
  exact ⟨rfl, by omega⟩
theorem bw_mk_gt {w : Nat} {f : Nat → Int} {m : Nat} {p : Int} (h : bw_t f m p = true) : (w : Int) < bw_mk w f m p := by
  have h1 := bw_t_i h
  unfold bw_mk
  omega
/-- a label above a letter doesn't run to the end -/
theorem bw_clr_lab {w c k : Nat} {f : Nat → Int} {X p : Int} (hk : k < c) (ht : bw_t f k p = true) (hp : p ≤ (w : Int)) (h : bw_clr w c f w (bw_lab w f p k) X) : X = bw_lab w f p k := by
  rcases h with h | ⟨q, h1, h2, h3, h4, h5⟩
  · exact h.1
  · exfalso
    rcases bw_lab_cases w f p k with a | ⟨m, a1, a2, a3, a4⟩
    · rw [a.1] at h3; omega
    · rw [a4] at h3 h4
      rcases bw_lab_cases w f (q : Int) c with b | ⟨m', b1, b2, b3, b4⟩
      · rw [b.1] at h4; omega
      · rw [b4] at h4
        obtain ⟨e1, e2⟩ := bw_mk_inj a2 b2 h4
        subst e1
        rw [e2] at ht
        have := b3 k a1 hk
        rw [this] at ht
        cases ht
theorem bw_clr_low {w c k : Nat} {f : Nat → Int} {X p : Int} (hk : k < c) (ht : bw_t f k p = true) (h1p : 1 ≤ p) (hp : p ≤ (w : Int)) (h : bw_clr w c f w (bw_mk w f k p) X) : X = bw_low w c f k p := by
  have hgt := bw_mk_gt (w := w) ht
  have key : bw_tf f p (k + 1) c = false → bw_lab w f p c = bw_mk w f k p := fun hf => by
    have hno : ∀ i, k + 1 ≤ i → i < c → bw_t f i p = false := fun i a1 a2 => by
      cases hb : bw_t f i p with
      | false => rfl
      | true => rw [bw_tf_iff.mpr ⟨i, a1, a2, hb⟩] at hf; cases hf
    rw [bw_lab_skip (m := k + 1) (by omega) hno]
    simp only [bw_lab]
    rw [if_pos ht]
  unfold bw_low
  rcases h with ⟨h1, h2⟩ | ⟨q, h1, h2, h3, h4, h5⟩
  · cases hb : bw_tf f p (k + 1) c with
    | true => rw [if_pos rfl]; exact h1
    | false =>
      obtain ⟨q, rfl⟩ : ∃ q : Nat, p = (q : Int) := ⟨p.toNat, by omega⟩
      exact absurd ⟨hgt, (key hb).symm⟩ (h2 q (by omega) (by omega))
  · rcases bw_lab_cases w f (q : Int) c with b | ⟨m', b1, b2, b3, b4⟩
    · rw [b.1] at h4; omega
    · rw [b4] at h4
      obtain ⟨e1, e2⟩ := bw_mk_inj ht b2 h4
      subst e1
      cases hb : bw_tf f p (k + 1) c with
      | false => rw [if_neg (by decide), h5, e2]
      | true =>
        obtain ⟨i, i1, i2, i3⟩ := bw_tf_iff.mp hb
        rw [e2] at i3
        have := b3 i (by omega) i2
        rw [this] at i3
        cases i3
theorem bw_clr_cor {w c k x : Nat} {f : Nat → Int} {X : Int} (hok : okw w c f) (hk : k < c) (h : bw_clr w c f w (bw_raw w f k x) X) (hx : x < 4) : X = bw_cor w c f k (x : Int) := by
  have h0 := hok k hk
  have t0 : bw_t f k ((f k).natAbs : Int) = true := bw_t_t (Or.inl rfl)
  have t1 : bw_t f k (((f k).natAbs : Int) + 1) = true := bw_t_t (Or.inr rfl)
  unfold bw_raw at h
  unfold bw_cor
  simp only at h ⊢
  have ez : (if 0 < f k then (x : Int) else ((x : Int) + 3) % 4) = (((if 0 < f k then x else (x + 3) % 4) : Nat) : Int) := by
    split <;> omega
  generalize (if 0 < f k then x else (x + 3) % 4) = q at h ez
  generalize (if 0 < f k then (x : Int) else ((x : Int) + 3) % 4) = z at ez ⊢
  have e0 : z = 0 ↔ q = 0 := by omega
  have e1 : z = 1 ↔ q = 1 := by omega
  have e2 : z = 2 ↔ q = 2 := by omega
  by_cases q0 : q = 0
  · rw [if_pos q0] at h
    rw [if_pos (e0.mpr q0)]
    exact bw_clr_lab hk t0 (by omega) h
  · rw [if_neg q0] at h
    rw [if_neg (fun z => q0 (e0.mp z))]
    by_cases q1 : q = 1
    · rw [if_pos q1] at h
      rw [if_pos (e1.mpr q1)]
      exact bw_clr_low hk t0 (by omega) (by omega) h
    · rw [if_neg q1] at h
      rw [if_neg (fun z => q1 (e1.mp z))]
      by_cases q2 : q = 2
      · rw [if_pos q2] at h
        rw [if_pos (e2.mpr q2)]
        exact bw_clr_low hk t1 (by omega) (by omega) h
      · rw [if_neg q2] at h
        rw [if_neg (fun z => q2 (e2.mp z))]
        exact bw_clr_lab hk t1 (by omega) h
/-- the labels after one letter more -/
theorem bw_lab_up {w k v : Nat} {f la : Nat → Int} (hv : (f k).natAbs = v) (h : ∀ p : Nat, 1 ≤ p → p ≤ w → la p = bw_lab w f p k) : ∀ p : Nat, 1 ≤ p → p ≤ w → hp_up (hp_up la v ((w : Int) + 2 * k + 1)) (v + 1) ((w : Int) + 2 * k + 1 + 1) p = bw_lab w f p (k + 1) := fun p h1 h2 => by
  simp only [bw_lab]
  by_cases e1 : p = v + 1
  · rw [e1, hp_up_s, if_pos (bw_t_t (by omega))]
    unfold bw_mk
    omega
  · rw [hp_up_n _ _ e1]
    by_cases e2 : p = v
    · rw [e2, hp_up_s, if_pos (bw_t_t (by omega))]
      unfold bw_mk
      omega
    · rw [hp_up_n _ _ e2, if_neg (by rw [bw_t_f (by omega)]; decide)]
      exact h p h1 h2
theorem bw_raw_p {w k : Nat} {f : Nat → Int} (h : 0 < f k) : bw_raw w f k 0 = bw_lab w f ((f k).natAbs : Int) k ∧ bw_raw w f k 1 = (w : Int) + 2 * k + 1 ∧ bw_raw w f k 2 = (w : Int) + 2 * k + 1 + 1 ∧ bw_raw w f k 3 = bw_lab w f (((f k).natAbs : Int) + 1) k := by
  unfold bw_raw bw_mk
  simp only [if_pos h]
  refine ⟨by simp, ?_, ?_, by simp⟩
  · simp; omega
  · simp; omega
theorem bw_raw_n {w k : Nat} {f : Nat → Int} (h : ¬ 0 < f k) : bw_raw w f k 1 = bw_lab w f ((f k).natAbs : Int) k ∧ bw_raw w f k 2 = (w : Int) + 2 * k + 1 ∧ bw_raw w f k 3 = (w : Int) + 2 * k + 1 + 1 ∧ bw_raw w f k 0 = bw_lab w f (((f k).natAbs : Int) + 1) k := by
  unfold bw_raw bw_mk
  simp only [if_neg h]
  refine ⟨by simp, ?_, ?_, by simp⟩
  · simp; omega
  · simp; omega
theorem bw_raw_up {w k : Nat} {f co : Nat → Int} {a0 a1 a2 a3 : Nat} {r0 r1 r2 r3 : Int} (h : ∀ j x, j < k → x < 4 → co (4 * j + x) = bw_raw w f j x) (h0 : a0 < 4 ∧ r0 = bw_raw w f k a0) (h1 : a1 < 4 ∧ r1 = bw_raw w f k a1) (h2 : a2 < 4 ∧ r2 = bw_raw w f k a2) (h3 : a3 < 4 ∧ r3 = bw_raw w f k a3) (hd : ∀ x, x < 4 → x = a0 ∨ x = a1 ∨ x = a2 ∨ x = a3) (b0 b1 b2 b3 : Nat) (e0 : b0 = 4 * k + a0) (e1 : b1 = 4 * k + a1) (e2 : b2 = 4 * k + a2) (e3 : b3 = 4 * k + a3) : ∀ j x, j < k + 1 → x < 4 → hp_up (hp_up (hp_up (hp_up co b0 r0) b1 r1) b2 r2) b3 r3 (4 * j + x) = bw_raw w f j x := fun j x hj hx => by
  subst e0 e1 e2 e3
  by_cases q : j = k
  · subst q
    by_cases x3 : x = a3
    · rw [x3, hp_up_s]; exact h3.2
    rw [hp_up_n _ _ (by omega)]
    by_cases x2 : x = a2
    · rw [x2, hp_up_s]; exact h2.2
    rw [hp_up_n _ _ (by omega)]
    by_cases x1 : x = a1
    · rw [x1, hp_up_s]; exact h1.2
    rw [hp_up_n _ _ (by omega)]
    have x0 : x = a0 := by have := hd x hx; omega
    rw [x0, hp_up_s]; exact h0.2
  · rw [hp_up_n _ _ (by omega), hp_up_n _ _ (by omega), hp_up_n _ _ (by omega), hp_up_n _ _ (by omega)]
    exact h j x (by omega) hx
