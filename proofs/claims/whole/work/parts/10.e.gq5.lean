/-! TURN goes past letters; the head of a positive word, by two turnings; heads make an irreducible row -/
theorem gs_T_d {n i : Nat} (h1 : 1 ≤ i) (h2 : i < n) : (gs_T n).1 (i + 1) < (gs_T n).1 i := by
  show gs_tn n (i + 1) < gs_tn n i
  rw [gs_tn_in (by omega) (by omega), gs_tn_in (by omega) (by omega)]; omega
theorem gs_w_sn : ∀ (u : List Nat) (i : Nat), gs_w (u ++ [i]) = gs_L i (gs_w u)
  | [], _ => rfl
  | j :: u, i => by
    show gs_R j (gs_w (u ++ [i])) = gs_L i (gs_R j (gs_w u))
    rw [gs_w_sn u i]; rfl
/-- a word of TURN -/
def gs_tw (n : Nat) (T : List Nat) : Prop := rz_in n T ∧ gs_r T ∧ gs_w T = gs_T n
theorem gs_tw_1 {n i : Nat} {T : List Nat} (h : gs_tw n T) (h1 : 1 ≤ i) (h2 : i < n) : bq (i :: T) (T ++ [n - i]) := by
  obtain ⟨hn, hr, hw⟩ := h
  obtain ⟨F, hF⟩ := gs_M1 T.length (i := i) (Nat.le_refl _) hn hr (by rw [hw]; exact gs_T_d h1 h2)
  have hnF := rz_in_c (rz_in_q hF hn)
  have hw2 : gs_w (F ++ [n - i]) = gs_T n := by
    rw [gs_w_sn]
    have e : gs_w F = gs_R i (gs_T n) := by
      have := gs_w_q hF
      rw [hw] at this
      have h3 : gs_T n = gs_R i (gs_w F) := this
      rw [h3, gs_R_R]
    rw [e]
    refine gs_ext (gs_ok_L (gs_ok_R (gs_ok_T n) h1 h2) (by omega) (by omega)) (gs_ok_T n) (fun p hp1 hp2 => ?_)
    show gs_sw (n - i) (gs_tn n (gs_sw i p)) = gs_tn n p
    have r := gs_sw_rng h1 h2 hp1 hp2
    rw [gs_tn_in r.1 r.2, gs_tn_in hp1 hp2]
    have c1 := gs_sw_cases i p
    have c2 := gs_sw_cases (n - i) (n + 1 - gs_sw i p)
    omega
  have hn2 : rz_in n (F ++ [n - i]) := rz_in_a.mpr ⟨hnF.2, rz_in_cons (by omega) (fun _ h => by simp at h)⟩
  have hr2 : gs_r (F ++ [n - i]) := by
    rw [(gs_r_inv hn2).2, hw2, ← hw, (gs_r_inv hn).2.mp hr, hF.len]
    simp
  have q := gs_M2 hn hn2 hr hr2 (hw.trans hw2.symm)
  have s : bq (i :: (F ++ [n - i])) (T ++ [n - i]) := hF.sy.cr [n - i]
  exact (q.c1 i).tr s
def gs_mi (n : Nat) (Y : List Nat) : List Nat := Y.map (fun i => n - i)
theorem gs_tw_Y {n : Nat} {T : List Nat} (h : gs_tw n T) : ∀ {Y : List Nat}, rz_in n Y → bq (T ++ gs_mi n Y) (Y ++ T)
  | [], _ => by
    show bq (T ++ []) ([] ++ T)
    simpa using bq.rf T
  | i :: Y, hY => by
    obtain ⟨hi, hY'⟩ := rz_in_c hY
    have ih := gs_tw_Y h hY'
    have s1 : bq (T ++ (n - i) :: gs_mi n Y) (i :: T ++ gs_mi n Y) := by
      have := (gs_tw_1 h hi.1 hi.2).sy.cr (gs_mi n Y)
      simpa using this
    exact s1.tr (ih.c1 i)
/-- E is the greatest simple braid that Y begins with, and D what is left -/
def gs_hd (n : Nat) (Y D : List Nat) (S : gs_P) : Prop := ∃ e C, rz_in n e ∧ rz_in n C ∧ rz_in n D ∧ gs_tw n (e ++ C) ∧ bq Y (e ++ D) ∧ S = gs_w e ∧ ∀ i F G, bq C (i :: F) → bq D (i :: G) → False
theorem gs_hd_ok {n : Nat} {Y D : List Nat} {S : gs_P} (h : gs_hd n Y D S) : gs_ok n S ∧ rz_in n D := by
  obtain ⟨e, C, he, -, hD, -, -, rfl, -⟩ := h
  exact ⟨gs_w_ok he, hD⟩
theorem gs_hd_cn {n : Nat} {Y D : List Nat} {S : gs_P} (h : gs_hd n Y D S) (hY : rz_in n Y) {a : List gs_P} (ha : gs_lo n a) : gs_cn n (gs_rw (a ++ Y.map gs_l)) (gs_rw (a ++ S :: D.map gs_l)) := by
  obtain ⟨e, C, he, hC, hD, ht, hq, rfl, -⟩ := h
  have hn : gs_lo n [] := fun _ h => by simp at h
  have s1 := gs_cn_q hq a [] hY ha hn
  have s2 := gs_cn_r a (D.map gs_l) he (gs_r_pre ht.1 ht.2.1) ha (gs_lo_m hD)
  simp only [List.append_nil, List.map_append] at s1
  exact s1.tr s2
/-- what is behind e in TURN can begin with whatever may still be put behind e -/
theorem gs_hd_C {n i : Nat} {e C : List Nat} (he : rz_in n e) (hC : rz_in n C) (ht : gs_tw n (e ++ C)) (h1 : 1 ≤ i) (h2 : i < n) (hc : (gs_w e).2 i < (gs_w e).2 (i + 1)) : ∃ F, bq C (i :: F) := by
  have oe := gs_w_ok he
  have key : ∀ q, (gs_w C).1 q = gs_tn n ((gs_w e).2 q) := fun q => by
    have h3 : (gs_w (e ++ C)).1 ((gs_w e).2 q) = gs_tn n ((gs_w e).2 q) := by rw [ht.2.2]; rfl
    rw [gs_w_ap1, oe.2.1] at h3
    exact h3
  refine gs_M1 C.length (Nat.le_refl _) hC (gs_r_suf e ht.2.1) ?_
  have r1 := gs_inv_rng oe (q := i) (by omega) (by omega)
  have r2 := gs_inv_rng oe (q := i + 1) (by omega) (by omega)
  rw [key, key, gs_tn_in r1.1 r1.2, gs_tn_in r2.1 r2.2]
  omega
theorem gs_hd_lw {n : Nat} {Y D D' : List Nat} {S S' : gs_P} (h : gs_hd n Y D S) (h' : gs_hd n D D' S') : gs_lw n S S' := by
  obtain ⟨e, C, he, hC, hD, ht, hq, rfl, hx⟩ := h
  obtain ⟨e', C', he', hC', hD', ht', hq', rfl, -⟩ := h'
  intro i h1 h2 hc
  obtain ⟨F, hF⟩ := gs_hd_C he hC ht h1 h2 hc.1
  obtain ⟨G, hG⟩ := gs_M1 e'.length (Nat.le_refl _) he' (gs_r_pre ht'.1 ht'.2.1) hc.2
  exact hx i F (G ++ D') hF (hq'.tr (hG.cr D'))
theorem gs_hd_ne {n : Nat} {Y D : List Nat} {S : gs_P} (h : gs_hd n Y D S) (hY : rz_in n Y) (h0 : Y ≠ []) : D.length < Y.length ∧ S ≠ gs_id := by
  obtain ⟨e, C, he, hC, hD, ht, hq, rfl, hx⟩ := h
  match e, Y, h0, hY, he, ht, hq with
  | [], y :: Y, _, hY, he, ht, hq =>
    have hy := (rz_in_c hY).1
    obtain ⟨F, hF⟩ := gs_hd_C he hC ht hy.1 hy.2 (by show y < y + 1; omega)
    exact absurd (hx y F Y hF hq.sy) id
  | i :: e, Y, _, hY, he, ht, hq =>
    have hl := hq.len
    simp only [List.length_append, List.length_cons] at hl
    refine ⟨by omega, fun q => ?_⟩
    have hr := gs_r_pre ht.1 ht.2.1
    have e1 : (gs_w (i :: e)).1 (i + 1) = i + 1 := by rw [q]; rfl
    have e2 : (gs_w (i :: e)).1 i = i := by rw [q]; rfl
    have e1 : (gs_w e).1 (gs_sw i (i + 1)) = i + 1 := e1
    have e2 : (gs_w e).1 (gs_sw i i) = i := e2
    rw [gs_sw_b] at e1
    rw [gs_sw_a] at e2
    have := hr.2
    omega
theorem rz_mvl {b : Nat} : ∀ (l : List Int) {t : Nat} {L Y W : List Int}, (∀ x, x ∈ l → x ≤ 0) → rz b t (l.reverse ++ L) Y W → ∃ t', rz b t' L (l ++ Y) W
  | [], t, L, Y, W, _, h => ⟨t, by simpa using h⟩
  | y :: l, t, L, Y, W, hl, h => by
    obtain ⟨t1, h1⟩ := rz_mvl l (L := y :: L) (Y := Y) (W := W) (t := t) (fun x hx => hl x (by simp [hx])) (by simpa using h)
    exact rz_mvn (hl y (by simp)) h1
/-- both turnings: from TURN's inverse and Y to what is left -/
theorem gs_turn {n : Nat} {T Y : List Nat} (hT : gs_tw n T) (hY : rz_in n Y) {bd : Nat} (hbd : 6 * T.length + 6 * Y.length + 10 ≤ bd) : ∃ A B A' B', rz_in n A ∧ rz_in n B ∧ rz_in n A' ∧ rz_in n B' ∧ A.length ≤ Y.length ∧ B.length ≤ T.length ∧ A'.length ≤ T.length ∧ B'.length ≤ Y.length ∧ (∃ t, rz bd t [] ((rz_ng T).reverse ++ rz_ps Y) (rz_ps A ++ (rz_ng B).reverse)) ∧ (∃ t, rz bd t [] (rz_ng A ++ (rz_ps B).reverse) (rz_ps A' ++ (rz_ng B').reverse)) ∧ ∃ S, gs_hd n Y B'.reverse S ∧ ∀ p, (gs_w A').2 (S.1 p) = gs_tn n p := by
  obtain ⟨A, B, hA, hB, hAB, hm, hp⟩ := rz_all (n := n) (bd := bd) (T.length + (gs_mi n Y).length) T Y (gs_mi n Y) T (Nat.le_refl _) hT.1 hY (gs_tw_Y hT hY)
  obtain ⟨c, c1, c2⟩ := hm _ _ (gs_tw_Y hT hY)
  have l1 := c1.len
  have l2 := c2.len
  have l3 := hAB.len
  have lm : (gs_mi n Y).length = Y.length := by simp [gs_mi]
  simp only [List.length_append] at l1 l2 l3
  have hq2 : bq (A.reverse ++ T.reverse) (B.reverse ++ Y.reverse) := by
    have := hAB.rv
    simpa using this
  obtain ⟨A', B', hA', hB', hAB', hm', hp'⟩ := rz_all (n := n) (bd := bd) (A.reverse.length + T.reverse.length) A.reverse B.reverse T.reverse Y.reverse (Nat.le_refl _) (rz_in_r hA) (rz_in_r hB) hq2
  obtain ⟨d, d1, d2⟩ := hm' _ _ hq2
  have l4 := d1.len
  have l5 := d2.len
  simp only [List.length_append, List.length_reverse] at l4 l5
  have q1 : bq T (d.reverse ++ A'.reverse) := by simpa using d1.rv
  have q2 : bq Y (d.reverse ++ B'.reverse) := by simpa using d2.rv
  have nd := rz_in_a.mp (rz_in_q q1 hT.1)
  refine ⟨A, B, A', B', hA, hB, hA', hB', by omega, by omega, by omega, by omega, ?_, ?_, gs_w d.reverse, ⟨d.reverse, A'.reverse, nd.1, nd.2, rz_in_r hB', ⟨rz_in_q q1 hT.1, gs_r_q q1 hT.1 hT.2.1, by rw [← gs_w_q q1]; exact hT.2.2⟩, q2, rfl, fun i F G hF hG => ?_⟩, fun p => ?_⟩
  · obtain ⟨t, ht⟩ := hp [] [] (rz_ps A ++ (rz_ng B).reverse) 0 (fun _ h => by simp at h) (by simp; omega) (by
      have := rz_dn (b := bd) (rz_ng B ++ (rz_ps A).reverse)
      simpa using this)
    refine rz_mvl ((rz_ng T).reverse) (t := t) (L := []) (fun x hx => ?_) (by simpa using ht)
    simp [rz_ng] at hx
    obtain ⟨a, -, ha⟩ := hx
    omega
  · obtain ⟨t, ht⟩ := hp' [] [] (rz_ps A' ++ (rz_ng B').reverse) 0 (fun _ h => by simp at h) (by simp; omega) (by
      have := rz_dn (b := bd) (rz_ng B' ++ (rz_ps A').reverse)
      simpa using this)
    have e1 : (rz_ps B).reverse = rz_ps B.reverse := by simp [rz_ps]
    have e2 : rz_ng A.reverse = (rz_ng A).reverse := by simp [rz_ng]
    rw [e1]
    refine rz_mvl (rz_ng A) (t := t) (L := []) (fun x hx => ?_) (by rw [← e2]; simpa using ht)
    simp [rz_ng] at hx
    obtain ⟨a, -, ha⟩ := hx
    omega
  · -- what is left has no first letter in common
    have h1 : bq (F ++ A) (G ++ B) := by
      have s0 : bq (A'.reverse ++ A) (B'.reverse ++ B) := by
        have := hAB'.rv
        simpa using this
      have s1 : bq (i :: (F ++ A)) (i :: (G ++ B)) := (hF.cr A).sy.tr (s0.tr (hG.cr B))
      exact (bq_ld s1).1 rfl
    obtain ⟨k, k1, -⟩ := hm' F.reverse G.reverse (by
      have := h1.rv
      simpa using this)
    have l6 := k1.len
    have l7 := hF.len
    simp only [List.length_append, List.length_reverse, List.length_cons] at l6 l7
    omega
  · have rev2 : ∀ (u : List Nat) (p : Nat), (gs_w u).2 p = (gs_w u.reverse).1 p := by
      intro u
      induction u with
      | nil => intro p; rfl
      | cons i u ih =>
        intro p
        show gs_sw i ((gs_w u).2 p) = _
        rw [ih, List.reverse_cons, gs_w_sn]
        rfl
    rw [rev2, ← gs_w_ap1, ← gs_w_q q1, hT.2.2]
    rfl
