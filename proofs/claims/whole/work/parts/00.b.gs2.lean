/-! Moves on a pair of simple braids; what a whole row of them does; the domino rule; and the number of crossings, which each move lowers by one on the right. -/
def gs_pr (n : Nat) : Nat → gs_P → gs_P → gs_P → gs_P → Prop
  | 0, S, T, S', T' => S = S' ∧ T = T'
  | k + 1, S, T, S', T' => ∃ i, 1 ≤ i ∧ i < n ∧ gs_can i S T ∧ gs_pr n k (gs_L i S) (gs_R i T) S' T'
theorem gs_pr_app {n : Nat} : ∀ (k : Nat) {l : Nat} {S T S1 T1 S2 T2 : gs_P}, gs_pr n k S T S1 T1 → gs_pr n l S1 T1 S2 T2 → gs_pr n (k + l) S T S2 T2
  | 0, l, S, T, S1, T1, S2, T2, h, h2 => by
    obtain ⟨rfl, rfl⟩ := h
    rw [Nat.zero_add]; exact h2
  | k + 1, l, S, T, S1, T1, S2, T2, ⟨i, h1, h2, hc, h⟩, h3 => by
    rw [show k + 1 + l = (k + l) + 1 by omega]
    exact ⟨i, h1, h2, hc, gs_pr_app k h h3⟩
theorem gs_pr_ok {n : Nat} : ∀ (k : Nat) {S T S1 T1 : gs_P}, gs_ok n S → gs_ok n T → gs_pr n k S T S1 T1 → gs_ok n S1 ∧ gs_ok n T1
  | 0, S, T, S1, T1, h1, h2, h => by
    obtain ⟨rfl, rfl⟩ := h
    exact ⟨h1, h2⟩
  | k + 1, S, T, S1, T1, o1, o2, ⟨i, h1, h2, _, h⟩ => gs_pr_ok k (gs_ok_L o1 h1 h2) (gs_ok_R o2 h1 h2) h
theorem gs_pr_way {n : Nat} : ∀ (k : Nat) {S T S' T' : gs_P}, gs_pr n k S T S' T' → ∃ a b : Nat → Nat, (∀ p, b (a p) = p) ∧ (∀ p, a (b p) = p) ∧ (∀ p, S'.1 p = a (S.1 p)) ∧ (∀ q, S'.2 q = S.2 (b q)) ∧ (∀ p, T'.1 p = T.1 (b p)) ∧ (∀ q, T'.2 q = a (T.2 q)) ∧ ∀ x y, x < y → a y < a x → S.2 x < S.2 y ∧ T.1 y < T.1 x
  | 0, S, T, S', T', h => by
    obtain ⟨rfl, rfl⟩ := h
    exact ⟨id, id, fun _ => rfl, fun _ => rfl, fun _ => rfl, fun _ => rfl, fun _ => rfl, fun _ => rfl, fun x y h1 h2 => absurd h2 (by simp only [id]; omega)⟩
  | k + 1, S, T, S', T', ⟨i, _, _, hc, h⟩ => by
    obtain ⟨a, b, ba, ab, e1, e2, e3, e4, hw⟩ := gs_pr_way k h
    refine ⟨fun p => a (gs_sw i p), fun p => gs_sw i (b p), fun p => ?_, fun p => ?_, e1, e2, e3, e4, fun x y hxy hl => ?_⟩
    · show gs_sw i (b (a (gs_sw i p))) = p
      rw [ba, gs_sw_sw]
    · show a (gs_sw i (gs_sw i (b p))) = p
      rw [gs_sw_sw, ab]
    · by_cases hq : x = i ∧ y = i + 1
      · rw [hq.1, hq.2]; exact hc
      · have := hw (gs_sw i x) (gs_sw i y) (gs_sw_lt hxy hq) hl
        have h1 : S.2 (gs_sw i (gs_sw i x)) < S.2 (gs_sw i (gs_sw i y)) := this.1
        have h2 : T.1 (gs_sw i (gs_sw i y)) < T.1 (gs_sw i (gs_sw i x)) := this.2
        rw [gs_sw_sw, gs_sw_sw] at h1 h2
        exact ⟨h1, h2⟩
def gs_lw (n : Nat) (S T : gs_P) : Prop := ∀ i, 1 ≤ i → i < n → ¬ gs_can i S T
theorem gs_edge (P : Nat → Prop) (p : Nat) (hp : P p) : ∀ d, ¬ P (p + d) → ∃ x, p ≤ x ∧ x < p + d ∧ P x ∧ ¬ P (x + 1)
  | 0, h => absurd hp h
  | d + 1, h => by
    by_cases hd : P (p + d)
    · exact ⟨p + d, by omega, by omega, hd, h⟩
    · obtain ⟨x, h1, h2, h3, h4⟩ := gs_edge P p hp d hd
      exact ⟨x, h1, by omega, h3, h4⟩
theorem gs_domino {n k l : Nat} {S1 S2 T S2' T' S1' S2'' : gs_P} (o2 : gs_ok n S2) (o2' : gs_ok n S2') (hw : gs_lw n S1 S2) (r1 : gs_pr n k S2 T S2' T') (hw1 : gs_lw n S2' T') (r2 : gs_pr n l S1 S2' S1' S2'') : gs_lw n S2'' T' := by
  intro i h1 h2 hc
  obtain ⟨a1, b1, ba1, ab1, e11, e12, e13, e14, w1⟩ := gs_pr_way k r1
  obtain ⟨a2, b2, ba2, ab2, e21, e22, e23, e24, w2⟩ := gs_pr_way l r2
  have fq : S2'.1 (S2'.2 i) = i := o2'.2.1 i
  have fp : S2'.1 (S2'.2 (i + 1)) = i + 1 := o2'.2.1 (i + 1)
  generalize hq : S2'.2 i = q at fq
  generalize hp : S2'.2 (i + 1) = p at fp
  have hpq : p < q := by
    have hn := hw1 i h1 h2
    unfold gs_can at hn
    rw [hq, hp] at hn
    have hne : p ≠ q := fun e => by rw [e, fq] at fp; omega
    have hc2 := hc.2
    omega
  have hinj : ∀ u v, S2'.1 u = S2'.1 v → u = v := fun u v e => by
    have := congrArg S2'.2 e
    rwa [o2'.1, o2'.1] at this
  have ha2 : a2 q < a2 p := by
    have := hc.1
    rw [e24, e24, hq, hp] at this
    exact this
  have eT1 : T'.1 (i + 1) = T.1 (S2.1 p) := by rw [e13, ← fp, e11, ba1]
  have eT0 : T'.1 i = T.1 (S2.1 q) := by rw [e13, ← fq, e11, ba1]
  have hne2 : S2.1 p ≠ S2.1 q := fun e => by
    have := congrArg S2.2 e
    rw [o2.1, o2.1] at this
    omega
  have hf : S2.1 q < S2.1 p := by
    rcases Nat.lt_or_gt_of_ne hne2 with hlt | hgt
    · have := (w1 (S2.1 p) (S2.1 q) hlt (by rw [← e11, ← e11, fp, fq]; omega)).2
      have hc2 := hc.2
      rw [eT1, eT0] at hc2
      omega
    · exact hgt
  have pf : ∀ u v, u < v → S2.1 v < S2.1 u → S2'.1 v < S2'.1 u := by
    intro u v huv hlt
    rcases Nat.lt_trichotomy (S2'.1 v) (S2'.1 u) with h | h | h
    · exact h
    · exact absurd (hinj _ _ h) (by omega)
    · have := (w1 (S2.1 v) (S2.1 u) hlt (by rw [← e11, ← e11]; exact h)).1
      rw [o2.1, o2.1] at this
      omega
  have pa : ∀ u v, u < v → a2 v < a2 u → S2'.1 v < S2'.1 u := fun u v huv hlt => (w2 u v huv hlt).2
  have hp1 : 1 ≤ p ∧ p ≤ n := by
    refine Decidable.byContradiction fun hn => ?_
    have := o2'.2.2 p (by omega)
    omega
  have hq1 : 1 ≤ q ∧ q ≤ n := by
    refine Decidable.byContradiction fun hn => ?_
    have := o2'.2.2 q (by omega)
    omega
  obtain ⟨x, x1, x2, x3, x4⟩ := gs_edge (fun x => x = p ∨ i + 1 < S2'.1 x) p (Or.inl rfl) (q - p) (by
    rw [show p + (q - p) = q by omega, fq]
    omega)
  have x5 : x + 1 = q ∨ S2'.1 (x + 1) < i := by
    by_cases e : x + 1 = q
    · exact Or.inl e
    · right
      have n1 : S2'.1 (x + 1) ≠ i := fun e2 => e (hinj _ _ (by rw [e2, fq]))
      have n2 : S2'.1 (x + 1) ≠ i + 1 := fun e2 => by
        have := hinj (x + 1) p (by rw [e2, fp])
        omega
      omega
  have key : ∀ φ : Nat → Nat, φ q < φ p → (∀ u v, u < v → φ v < φ u → S2'.1 v < S2'.1 u) → φ (x + 1) < φ x := by
    intro φ h0 hφ
    have c1 : φ p ≤ φ x := by
      rcases x3 with e | e
      · rw [e]; exact Nat.le_refl _
      · refine Nat.le_of_not_lt fun hlt => ?_
        have := hφ p x (by
          rcases Nat.lt_or_ge p x with h | h
          · exact h
          · have : x = p := by omega
            rw [this, fp] at e
            omega) hlt
        omega
    have c2 : φ (x + 1) ≤ φ q := by
      rcases x5 with e | e
      · rw [e]; exact Nat.le_refl _
      · refine Nat.le_of_not_lt fun hlt => ?_
        have := hφ (x + 1) q (by
          rcases Nat.lt_or_ge (x + 1) q with h | h
          · exact h
          · have : x + 1 = q := by omega
            rw [this, fq] at e
            omega) hlt
        omega
    omega
  have k1 := key a2 ha2 pa
  have k2 := key S2.1 hf pf
  exact hw x (by omega) (by omega) ⟨(w2 x (x + 1) (by omega) k1).1, k2⟩
/-! the number of crossings -/
def gs_sum (h : Nat → Nat) : Nat → Nat
  | 0 => 0
  | k + 1 => gs_sum h k + h (k + 1)
theorem gs_sum_congr {h g : Nat → Nat} : ∀ n, (∀ p, 1 ≤ p → p ≤ n → h p = g p) → gs_sum h n = gs_sum g n
  | 0, _ => rfl
  | n + 1, e => by
    show gs_sum h n + h (n + 1) = gs_sum g n + g (n + 1)
    rw [gs_sum_congr n (fun p h1 h2 => e p h1 (by omega)), e (n + 1) (by omega) (by omega)]
theorem gs_sum_one {h g : Nat → Nat} {k : Nat} (h1 : 1 ≤ k) (e : ∀ p, p ≠ k → h p = g p) (ek : h k = g k + 1) : ∀ n, k ≤ n → gs_sum h n = gs_sum g n + 1
  | 0, hk => absurd hk (by omega)
  | n + 1, hk => by
    show gs_sum h n + h (n + 1) = gs_sum g n + g (n + 1) + 1
    by_cases q : k = n + 1
    · subst q
      rw [gs_sum_congr n (fun p _ h2 => e p (by omega)), ek]
      omega
    · rw [gs_sum_one h1 e ek n (by omega), e (n + 1) (by omega)]
      omega
theorem gs_sum_sw {h : Nat → Nat} {i : Nat} (h1 : 1 ≤ i) : ∀ n, i < n → gs_sum (fun p => h (gs_sw i p)) n = gs_sum h n
  | 0, hi => absurd hi (by omega)
  | n + 1, hi => by
    show gs_sum (fun p => h (gs_sw i p)) n + h (gs_sw i (n + 1)) = gs_sum h n + h (n + 1)
    by_cases q : i < n
    · rw [gs_sum_sw h1 n q, gs_sw_n (by omega) (by omega)]
    · obtain ⟨m, rfl⟩ : ∃ m, n = m + 1 := ⟨n - 1, by omega⟩
      obtain rfl : i = m + 1 := by omega
      show gs_sum (fun p => h (gs_sw (m + 1) p)) m + h (gs_sw (m + 1) (m + 1)) + h (gs_sw (m + 1) (m + 1 + 1)) = gs_sum h m + h (m + 1) + h (m + 1 + 1)
      rw [gs_sw_a, gs_sw_b, gs_sum_congr (g := h) m (fun p _ h2 => by rw [gs_sw_n (by omega) (by omega)])]
      omega
theorem gs_sum_le {h g : Nat → Nat} : ∀ n, (∀ p, 1 ≤ p → p ≤ n → h p ≤ g p) → gs_sum h n ≤ gs_sum g n
  | 0, _ => Nat.le_refl _
  | n + 1, e => by
    show gs_sum h n + h (n + 1) ≤ gs_sum g n + g (n + 1)
    have := gs_sum_le n (fun p h1 h2 => e p h1 (by omega))
    have := e (n + 1) (by omega) (by omega)
    omega
def gs_x (f : Nat → Nat) (p q : Nat) : Nat := if p < q ∧ f q < f p then 1 else 0
def gs_inv (n : Nat) (f : Nat → Nat) : Nat := gs_sum (fun q => gs_sum (fun p => gs_x f p q) n) n
theorem gs_inv_R {n i : Nat} {f : Nat → Nat} (h1 : 1 ≤ i) (h2 : i < n) (hd : f (i + 1) < f i) : gs_inv n f = gs_inv n (fun p => f (gs_sw i p)) + 1 := by
  have e : gs_inv n (fun p => f (gs_sw i p)) = gs_sum (fun q => gs_sum (fun p => if gs_sw i p < gs_sw i q ∧ f q < f p then 1 else 0) n) n := by
    have s1 : ∀ q, gs_sum (fun p => gs_x (fun p => f (gs_sw i p)) p q) n = gs_sum (fun p => if gs_sw i p < gs_sw i (gs_sw i q) ∧ f (gs_sw i q) < f p then 1 else 0) n := by
      intro q
      rw [← gs_sum_sw (h := fun p => if gs_sw i p < gs_sw i (gs_sw i q) ∧ f (gs_sw i q) < f p then 1 else 0) h1 n h2]
      refine gs_sum_congr n (fun p _ _ => ?_)
      show (if p < q ∧ f (gs_sw i q) < f (gs_sw i p) then 1 else 0) = _
      rw [gs_sw_sw, gs_sw_sw]
    unfold gs_inv
    rw [gs_sum_congr n (fun q _ _ => s1 q)]
    exact gs_sum_sw (h := fun q => gs_sum (fun p => if gs_sw i p < gs_sw i q ∧ f q < f p then 1 else 0) n) h1 n h2
  rw [e]
  unfold gs_inv
  refine gs_sum_one (k := i + 1) (by omega) (fun q hq => ?_) ?_ n h2
  · refine gs_sum_congr n (fun p _ _ => ?_)
    show (if p < q ∧ f q < f p then 1 else 0) = _
    by_cases hx : p = i + 1 ∧ q = i
    · rw [if_neg (by omega), if_neg (by rw [hx.1, hx.2]; omega)]
    · have hiff : p < q ↔ gs_sw i p < gs_sw i q := by
        have c1 := gs_sw_cases i p
        have c2 := gs_sw_cases i q
        omega
      simp only [hiff]
  · refine gs_sum_one (k := i) h1 (fun p hp => ?_) ?_ n (by omega)
    · show (if p < i + 1 ∧ f (i + 1) < f p then 1 else 0) = _
      have hiff : p < i + 1 ↔ gs_sw i p < gs_sw i (i + 1) := by
        have c1 := gs_sw_cases i p
        have c2 := gs_sw_cases i (i + 1)
        omega
      simp only [hiff]
    · show (if i < i + 1 ∧ f (i + 1) < f i then 1 else 0) = (if gs_sw i i < gs_sw i (i + 1) ∧ f (i + 1) < f i then 1 else 0) + 1
      rw [if_pos ⟨by omega, hd⟩, if_neg (by rw [gs_sw_a, gs_sw_b]; omega)]
theorem gs_inv_row (f : Nat → Nat) (q : Nat) : ∀ n, gs_sum (fun p => gs_x f p q) n ≤ n ∧ gs_sum (fun p => gs_x f p q) n ≤ q - 1
  | 0 => ⟨Nat.le_refl _, Nat.zero_le _⟩
  | n + 1 => by
    have ih := gs_inv_row f q n
    show gs_sum (fun p => gs_x f p q) n + gs_x f (n + 1) q ≤ n + 1 ∧ gs_sum (fun p => gs_x f p q) n + gs_x f (n + 1) q ≤ q - 1
    unfold gs_x at ih ⊢
    by_cases h : n + 1 < q ∧ f q < f (n + 1)
    · rw [if_pos h]; omega
    · rw [if_neg h]; omega
theorem gs_inv_28 {n : Nat} (h : n ≤ 8) (f : Nat → Nat) : gs_inv n f ≤ 28 := by
  refine Nat.le_trans (gs_sum_le n (fun q _ _ => (gs_inv_row f q n).2)) ?_
  have : ∀ n, n < 9 → gs_sum (fun q => q - 1) n ≤ 28 := by decide
  exact this n (by omega)
theorem gs_inv_pr {n : Nat} : ∀ (k : Nat) {S T S' T' : gs_P}, gs_pr n k S T S' T' → gs_inv n T.1 = gs_inv n T'.1 + k
  | 0, S, T, S', T', h => by
    obtain ⟨rfl, rfl⟩ := h
    rfl
  | k + 1, S, T, S', T', ⟨i, h1, h2, hc, h⟩ => by
    have e1 := gs_inv_pr k h
    have e2 := gs_inv_R (f := T.1) h1 h2 hc.2
    have e3 : gs_inv n (gs_R i T).1 = gs_inv n (fun p => T.1 (gs_sw i p)) := rfl
    omega
