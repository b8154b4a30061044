/-! A positive word made of words of simple braids, and its mirror; sorting -/
def gs_ws (n : Nat) (X : Nat → gs_P) : Nat → List Nat → Prop
  | 0, Y => Y = []
  | k + 1, Y => ∃ Y' u, Y = Y' ++ u ∧ gs_ws n X k Y' ∧ rz_in n u ∧ gs_r u ∧ gs_w u = X k
theorem gs_ws_cg {n : Nat} {X X' : Nat → gs_P} : ∀ {k : Nat} {Y : List Nat}, (∀ j, j < k → X j = X' j) → gs_ws n X k Y → gs_ws n X' k Y
  | 0, _, _, h => h
  | k + 1, _, e, ⟨Y', u, h1, h2, h3, h4, h5⟩ => ⟨Y', u, h1, gs_ws_cg (fun j hj => e j (by omega)) h2, h3, h4, by rw [h5, e k (by omega)]⟩
theorem gs_ws_in {n : Nat} {X : Nat → gs_P} : ∀ {k : Nat} {Y : List Nat}, gs_ws n X k Y → rz_in n Y
  | 0, _, h => by rw [(show _ = _ from h)]; exact fun _ h => by simp at h
  | k + 1, _, ⟨Y', u, h1, h2, h3, _, _⟩ => by rw [h1]; exact rz_in_a.mpr ⟨gs_ws_in h2, h3⟩
theorem gs_ws_len {n : Nat} (hn : n ≤ 8) {X : Nat → gs_P} : ∀ {k : Nat} {Y : List Nat}, gs_ws n X k Y → Y.length ≤ 28 * k
  | 0, _, h => by rw [(show _ = _ from h)]; exact Nat.zero_le _
  | k + 1, _, ⟨Y', u, h1, h2, h3, h4, _⟩ => by
    have := gs_ws_len hn h2
    have h5 := (gs_r_inv h3).2.mp h4
    have h6 := gs_inv_28 hn (gs_w u).1
    rw [h1, List.length_append]
    omega
def gs_lx (X : Nat → gs_P) : Nat → List gs_P
  | 0 => []
  | k + 1 => gs_lx X k ++ [X k]
theorem gs_lx_len (X : Nat → gs_P) : ∀ k, (gs_lx X k).length = k
  | 0 => rfl
  | k + 1 => by show (gs_lx X k ++ [X k]).length = k + 1; rw [List.length_append, gs_lx_len X k]; rfl
theorem gs_lx_rw (X : Nat → gs_P) : ∀ {k j : Nat}, j < k → gs_rw (gs_lx X k) j = X j
  | 0, j, h => absurd h (by omega)
  | k + 1, j, h => by
    show gs_rw (gs_lx X k ++ [X k]) j = X j
    by_cases e : j < k
    · rw [gs_rw_lt _ _ (by rw [gs_lx_len]; exact e), gs_lx_rw X e]
    · have e : j = (gs_lx X k).length := by rw [gs_lx_len]; omega
      rw [e, gs_rw_at, gs_lx_len]
theorem gs_ws_cn {n : Nat} {X : Nat → gs_P} : ∀ {k : Nat} {Y : List Nat} (b : List gs_P), gs_ws n X k Y → gs_lo n b → gs_cn n (gs_rw (Y.map gs_l ++ b)) (gs_rw (gs_lx X k ++ b))
  | 0, _, b, h, _ => by rw [(show _ = _ from h)]; exact gs_cn.rf _
  | k + 1, _, b, ⟨Y', u, h1, h2, h3, h4, h5⟩, hb => by
    have hw := gs_w_ok h3
    have s1 := gs_cn_r (Y'.map gs_l) b h3 h4 (gs_lo_m (gs_ws_in h2)) hb
    have s2 := gs_ws_cn (gs_w u :: b) h2 (gs_lo_c.mpr ⟨hw, hb⟩)
    have := s1.tr s2
    rw [h1]
    show gs_cn n _ (gs_rw (gs_lx X k ++ [X k] ++ b))
    rw [← h5]
    simpa using this
/-- the row of a word's letters, and its positive word -/
theorem gs_ws_J {w c : Nat} {f : Nat → Int} {Y : List Nat} (h : gs_ws w (bn_X w c f) c Y) : gs_J w (bn_X w c f) [] Y := by
  refine gs_J_0 (gs_ws_in h) ?_
  have s := gs_ws_cn [] h (fun _ h => by simp at h)
  simp only [List.append_nil] at s
  have e : gs_rw (gs_lx (bn_X w c f) c) = bn_X w c f := by
    funext j
    by_cases q : j < c
    · exact gs_lx_rw _ q
    · rw [gs_rw_ge _ (by rw [gs_lx_len]; omega)]
      unfold bn_X
      rw [if_neg q]
  rw [e] at s
  exact s.sy
theorem gs_tn_sw {n i : Nat} (h1 : 1 ≤ i) (h2 : i < n) (p : Nat) : gs_sw (n - i) (gs_tn n p) = gs_tn n (gs_sw i p) := by
  by_cases hp : 1 ≤ p ∧ p ≤ n
  · have r := gs_sw_rng h1 h2 hp.1 hp.2
    rw [gs_tn_in r.1 r.2, gs_tn_in hp.1 hp.2]
    have c1 := gs_sw_cases i p
    have c2 := gs_sw_cases (n - i) (n + 1 - p)
    omega
  · rw [gs_tn_out (by omega), gs_sw_n (i := i) (by omega) (by omega), gs_tn_out (by omega), gs_sw_n (by omega) (by omega)]
def gs_cj (n : Nat) (S : gs_P) : gs_P := (fun p => gs_tn n (S.1 (gs_tn n p)), fun q => gs_tn n (S.2 (gs_tn n q)))
theorem gs_mi_w {n : Nat} : ∀ {u : List Nat}, rz_in n u → gs_w (gs_mi n u) = gs_cj n (gs_w u)
  | [], _ => Prod.ext (funext fun p => (gs_tn_tn n p).symm) (funext fun p => (gs_tn_tn n p).symm)
  | i :: u, h => by
    obtain ⟨hi, hu⟩ := rz_in_c h
    show gs_R (n - i) (gs_w (gs_mi n u)) = gs_cj n (gs_R i (gs_w u))
    rw [gs_mi_w hu]
    refine Prod.ext (funext fun p => ?_) (funext fun q => ?_)
    · show gs_tn n ((gs_w u).1 (gs_tn n (gs_sw (n - i) p))) = gs_tn n ((gs_w u).1 (gs_sw i (gs_tn n p)))
      have e := gs_tn_sw hi.1 hi.2 (gs_tn n p)
      rw [gs_tn_tn] at e
      rw [e, gs_tn_tn]
    · show gs_sw (n - i) (gs_tn n ((gs_w u).2 (gs_tn n q))) = gs_tn n (gs_sw i ((gs_w u).2 (gs_tn n q)))
      exact gs_tn_sw hi.1 hi.2 _
theorem gs_mi_in {n : Nat} {u : List Nat} (h : rz_in n u) : rz_in n (gs_mi n u) := fun y hy => by
  obtain ⟨i, hi, rfl⟩ := List.mem_map.mp hy
  have := h i hi
  omega
theorem gs_mi_r {n : Nat} : ∀ {u : List Nat}, rz_in n u → gs_r u → gs_r (gs_mi n u)
  | [], _, _ => trivial
  | i :: u, h, hr => by
    obtain ⟨hi, hu⟩ := rz_in_c h
    refine ⟨gs_mi_r hu hr.1, ?_⟩
    have hw := gs_w_ok hu
    show (gs_w (gs_mi n u)).1 (n - i) < (gs_w (gs_mi n u)).1 (n - i + 1)
    rw [gs_mi_w hu]
    show gs_tn n ((gs_w u).1 (gs_tn n (n - i))) < gs_tn n ((gs_w u).1 (gs_tn n (n - i + 1)))
    rw [gs_tn_in (p := n - i) (by omega) (by omega), gs_tn_in (p := n - i + 1) (by omega) (by omega), show n + 1 - (n - i) = i + 1 by omega, show n + 1 - (n - i + 1) = i by omega]
    have r1 := gs_rng hw (p := i) (by omega) (by omega)
    have r2 := gs_rng hw (p := i + 1) (by omega) (by omega)
    have := hr.2
    rw [gs_tn_in r1.1 r1.2, gs_tn_in r2.1 r2.2]
    omega
theorem gs_ws_mi {n : Nat} {X : Nat → gs_P} : ∀ {k : Nat} {Y : List Nat}, gs_ws n X k Y → gs_ws n (fun j => gs_cj n (X j)) k (gs_mi n Y)
  | 0, _, h => by rw [(show _ = _ from h)]; rfl
  | k + 1, _, ⟨Y', u, h1, h2, h3, h4, h5⟩ => ⟨gs_mi n Y', gs_mi n u, by rw [h1]; simp [gs_mi], gs_ws_mi h2, gs_mi_in h3, gs_mi_r h3 h4, by rw [gs_mi_w h3, h5]⟩
theorem gs_cj_si {w i : Nat} (ng : Bool) (h1 : 1 ≤ i) (h2 : i < w) : gs_cj w (gs_si w i ng) = gs_si w (w - i) ng := by
  have ew : w - (w - i) = i := by omega
  have ta : ∀ p, gs_tn w (gs_sw (w - i) p) = gs_sw i (gs_tn w p) := fun p => by
    have := gs_tn_sw (n := w) (i := w - i) (by omega) (by omega) p
    rw [ew] at this
    exact this.symm
  have tb : ∀ p, gs_tn w (gs_sw i p) = gs_sw (w - i) (gs_tn w p) := fun p => (gs_tn_sw h1 h2 p).symm
  cases ng with
  | false =>
    refine Prod.ext (funext fun p => ?_) (funext fun q => ?_)
    · show gs_tn w (gs_sw i (gs_tn w p)) = gs_sw (w - i) p
      rw [tb, gs_tn_tn]
    · show gs_tn w (gs_sw i (gs_tn w q)) = gs_sw (w - i) q
      rw [tb, gs_tn_tn]
  | true =>
    refine Prod.ext (funext fun p => ?_) (funext fun q => ?_)
    · show gs_tn w (gs_tn w (gs_sw (w - i) (gs_tn w p))) = gs_tn w (gs_sw (w - (w - i)) p)
      rw [ta, gs_tn_tn, ew]
    · show gs_tn w (gs_sw (w - i) (gs_tn w (gs_tn w q))) = gs_sw (w - (w - i)) (gs_tn w q)
      rw [ew, gs_tn_tn, ta]
/-- one letter more -/
theorem gs_ws_pos {w k : Nat} {f : Nat → Int} {Y : List Nat} (hw : rz_in w [(f k).toNat]) (h0 : 0 < f k) (h : gs_ws w (bn_X w k f) k Y) : gs_ws w (bn_X w (k + 1) f) (k + 1) (Y ++ [(f k).toNat]) := by
  have hm : ∀ j, bw_mir f (k + 1) j = bw_mir f k j := fun j => by
    unfold bw_mir
    rw [show bw_neg f (k + 1) = bw_neg f k by simp only [bw_neg]; rw [if_neg (by omega)]; rfl]
  refine ⟨Y, [(f k).toNat], rfl, gs_ws_cg (fun j hj => ?_) h, hw, ⟨trivial, by show (f k).toNat < (f k).toNat + 1; omega⟩, ?_⟩
  · unfold bn_X bn_i
    rw [if_pos hj, if_pos (show j < k + 1 by omega), hm]
  · have e : bw_mir f (k + 1) (k + 1) = false := by unfold bw_mir; simp
    unfold bn_X bn_i
    rw [if_pos (by omega), e, decide_eq_false (by omega), show (f k).natAbs = (f k).toNat by omega]
    rfl
theorem gs_ws_neg {w k : Nat} {f : Nat → Int} {Y u : List Nat} (hok : okw w (k + 1) f) (h0 : f k < 0) (h : gs_ws w (bn_X w k f) k Y) (hu : rz_in w u) (hr : gs_r u) (he : gs_w u = gs_si w (f k).natAbs true) : gs_ws w (bn_X w (k + 1) f) (k + 1) (gs_mi w Y ++ u) := by
  have hn : bw_neg f (k + 1) = bw_neg f k + 1 := by simp only [bw_neg]; rw [if_pos h0]
  refine ⟨gs_mi w Y, u, rfl, gs_ws_cg (fun j hj => ?_) (gs_ws_mi h), hu, hr, ?_⟩
  · have hle := bw_neg_mono f (show j + 1 ≤ k by omega)
    have hm : bw_mir f (k + 1) (j + 1) = !bw_mir f k (j + 1) := by
      unfold bw_mir
      rw [hn]
      by_cases q : (bw_neg f k - bw_neg f (j + 1)) % 2 = 1
      · rw [decide_eq_true q, decide_eq_false (by omega)]; rfl
      · rw [decide_eq_false q, decide_eq_true (by omega)]; rfl
    have hj0 := hok j (by omega)
    have hr1 := bn_i_rng (w := w) (c := k) (f := f) (fun a ha => hok a (by omega)) hj
    show gs_cj w (bn_X w k f j) = bn_X w (k + 1) f j
    unfold bn_X
    rw [if_pos hj, if_pos (by omega), gs_cj_si _ hr1.1 hr1.2]
    congr 1
    unfold bn_i
    rw [hm]
    cases bw_mir f k (j + 1) with
    | true => simp; omega
    | false => simp
  · have e : bw_mir f (k + 1) (k + 1) = false := by unfold bw_mir; simp
    unfold bn_X bn_i
    rw [if_pos (by omega), e, decide_eq_true h0, he]
    rfl
/-! sorting: letters u taken off the front of S, S1 is left -/
def gs_so (n : Nat) (S : gs_P) (u : List Nat) (S1 : gs_P) : Prop := gs_ok n S1 ∧ rz_in n u ∧ (∀ p, S.1 p = S1.1 ((gs_w u).1 p)) ∧ gs_inv n S.1 = gs_inv n S1.1 + u.length
theorem gs_so_0 {n : Nat} {S : gs_P} (h : gs_ok n S) : gs_so n S [] S := ⟨h, fun _ h => by simp at h, fun _ => rfl, rfl⟩
theorem gs_so_st {n i : Nat} {S S1 : gs_P} {u : List Nat} (h : gs_so n S u S1) (h1 : 1 ≤ i) (h2 : i < n) (hd : S1.1 (i + 1) < S1.1 i) : gs_so n S (u ++ [i]) (gs_R i S1) := by
  obtain ⟨a, b, c, d⟩ := h
  have hi := gs_inv_R h1 h2 hd
  refine ⟨gs_ok_R a h1 h2, rz_in_a.mpr ⟨b, rz_in_cons ⟨h1, h2⟩ (fun _ h => by simp at h)⟩, fun p => ?_, ?_⟩
  · rw [c, gs_w_sn]
    show S1.1 ((gs_w u).1 p) = S1.1 (gs_sw i (gs_sw i ((gs_w u).1 p)))
    rw [gs_sw_sw]
  · have e : gs_inv n (gs_R i S1).1 = gs_inv n (fun p => S1.1 (gs_sw i p)) := rfl
    rw [e, List.length_append]
    simp only [List.length_cons, List.length_nil]
    omega
theorem gs_so_end {n : Nat} {S S1 : gs_P} {u : List Nat} (hS : gs_ok n S) (h : gs_so n S u S1) (hs : ∀ i, 1 ≤ i → i < n → ¬ S1.1 (i + 1) < S1.1 i) : gs_r u ∧ gs_w u = S ∧ rz_in n u := by
  obtain ⟨a, b, c, d⟩ := h
  have e := gs_id_of a hs
  subst e
  have ew : gs_w u = S := gs_ext (gs_w_ok b) hS (fun p _ _ => (c p).symm)
  refine ⟨?_, ew, b⟩
  rw [(gs_r_inv b).2, ew, d]
  show gs_inv n (fun p => p) + u.length = u.length
  rw [gs_inv_0]
  omega
theorem gs_so_len {n : Nat} (hn : n ≤ 8) {S S1 : gs_P} {u : List Nat} (h : gs_so n S u S1) : u.length + gs_inv n S1.1 ≤ 28 := by
  have := gs_inv_28 hn S.1
  have := h.2.2.2
  omega
