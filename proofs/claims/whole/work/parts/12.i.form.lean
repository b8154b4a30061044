theorem kz_2 (kz : Nat → Bool) (t u : Nat) : hp_up (hp_up kz t true) u true t = true := by
  unfold hp_up
  split <;> simp
theorem kN_rng {w c : Nat} {f : Nat → Int} {z : Int} {n : Nat} {X : Nat → Nat → Int} (h : kN w c f z n X) {j p : Nat} (hj : j < n) (h1 : 1 ≤ p) (h2 : p ≤ w) : 1 ≤ X j p ∧ X j p ≤ (w : Int) := by
  obtain ⟨a, l, g1, g2, g3, g4, g5⟩ := h
  have ok := (gs_lo_a.mp g1.2.1).2 _ (gs_rw_mem l (j := j) (by omega))
  have := gs_rng ok h1 h2
  have := g5 j hj p h1 h2
  omega

set_option maxHeartbeats 4000000 in
set_option maxRecDepth 100000 in
/-- length(s) -/
theorem c_M_length (l : Launch) (E : hp_E) (mo : Nat) (w c : Nat → Nat) (g : Nat → Int) (kz : Nat → Bool) (s0 : Int) (hs0 : iR s0) (hvm : ∀ i, i < 4 → 1 ≤ w i ∧ w i ≤ 8 ∧ c i ≤ 32) (hbd : bd g) (hok : ∀ i, i < 4 → okw (w i) (c i) (gw g i)) : Met l y_M_length (Cond.code y_M_length b_M_length 2 (some .int) :: G0) ({ frames := 4, cells := 0, slots := 0, locals := 99 }) (hp_P E [.ref mo, .int (iI s0)] (fun H => mG E H mo w c g kz)) (hp_Qi (fun q => q = mo ∨ (mo + 4 ≤ q ∧ q ≤ mo + 13)) (fun r H => (¬ (0 ≤ s0 ∧ s0 < 4) ∧ r = -1 ∧ mG E H mo w c g kz) ∨ ((0 ≤ s0 ∧ s0 < 4) ∧ mG E H mo w c g (hp_up kz s0.toNat true) ∧ ∃ (z : Int) (n : Nat) (X : Nat → Nat → Int), kN (w s0.toNat) (c s0.toNat) (gw g s0.toNat) z n X ∧ r = (n : Int)))) 0 0 (fun q => q = mo ∨ (mo + 4 ≤ q ∧ q ≤ mo + 13)) := by
  refine Met.ofW (cc := b_M_length) (maxL := 2) (ret := some .int) (by decide) rfl ?_
  intro p e s m args below meth cd s₁ Bd hml hv
  obtain ⟨hargs, hB, hK⟩ := hv
  have hx := Bd.exec
  have hb := Bd.bytes
  have hrt := Bd.returns
  have hts := atoms_spec (ws := Cond.code y_M_length b_M_length 2 (some .int) :: G0) Bd.pre
  have hG : ∀ w ∈ G0, w.before args s = true := fun w h => hts w (List.mem_cons_of_mem _ h)
  have hown : s.vm.findClass R_M = some m.cls := findClass_of_methodNamed Bd.named
  have hlocks := Bd.notSynchronized
  have hl := lv_entry ([.ref mo, .int (iI s0)]) (n := 2) (Nat.le_of_ble_eq_true rfl)
  rw [show entryFrame m args 2 = entryFrame m ([.ref mo, .int (iI s0)] : List Value).toArray 2 from by rw [hargs]]
  rw [lg_entry_eq]
  generalize (lg_sl ([.ref mo, .int (iI s0)]) ++ List.replicate (2 - (lg_sl ([.ref mo, .int (iI s0)])).length) Slot.unset).toArray = ls at hl ⊢
  have hl : lv_has ls 2 [(0, .ref mo), (1, .int (iI s0))] := hl
  obtain ⟨R, hR⟩ : ∃ R, R = (headSpec (Cond.code y_M_length b_M_length 2 (some .int) :: G0) { frames := 4, cells := 0, slots := 0, locals := 99 }).room := ⟨_, rfl⟩
  rw [← hR]
  have hRf : R.frames = 4 := by rw [hR]; rfl
  have hRl : R.locals = 99 := by rw [hR]; rfl
  have hRc : R.cells = 0 := by rw [hR]; rfl
  have hRs : R.slots = 0 := by rw [hR]; rfl
  obtain ⟨Q, hQ⟩ : ∃ Q, Q = MQ below (hp_Qi (fun q => q = mo ∨ (mo + 4 ≤ q ∧ q ≤ mo + 13)) (fun r H => (¬ (0 ≤ s0 ∧ s0 < 4) ∧ r = -1 ∧ mG E H mo w c g kz) ∨ ((0 ≤ s0 ∧ s0 < 4) ∧ mG E H mo w c g (hp_up kz s0.toNat true) ∧ ∃ (z : Int) (n : Nat) (X : Nat → Nat → Int), kN (w s0.toNat) (c s0.toNat) (gw g s0.toNat) z n X ∧ r = (n : Int)))) args s 0 0 (fun q => q = mo ∨ (mo + 4 ≤ q ∧ q ≤ mo + 13)) := ⟨_, rfl⟩
  rw [← hQ]
  obtain ⟨H, hH⟩ : ∃ H, H = s.heap := ⟨_, rfl⟩
  obtain ⟨locs, hlocs⟩ : ∃ locs : List Loc, locs = [] := ⟨_, rfl⟩
  have hS : va_S (fun q => q = mo ∨ (mo + 4 ≤ q ∧ q ≤ mo + 13)) s.heap H locs := by rw [hH, hlocs]; exact va_S.rf
  have hZ : H.size = s.heap.size := by rw [hH]
  rw [← hH] at hB
  rw [show W p l e R s m args below meth cd s.heap [] 0 0 Q (F0 m 0 ls []) = W p l e R s m args below meth cd H locs 0 0 Q (F0 m 0 ls []) from by rw [hH, hlocs]]
  obtain ⟨th, md, fe, ps, lf, nx, bf, po, ta, en, tu, si, sm, ⟨⟨hm, hsd, hsz, hwd, hkn⟩, hlf, hnx, hbf, hpo, hta, hen, htu, hsi, hsm⟩, hks⟩ := hB
  refine lv_iload_n hx hb d_M_length_0 rfl (lv_at hl 1 rfl) ?_
  refine hp_callS (W.runS (As := [.int (iI s0)]) (rest := []) ⟨hx, hb, hml, hown, hG⟩ (c_M_isSlot l E s0 (by unfold iR at *; omega)) (cwS 1 hG (hp_goodS ml_M_60 st_M_isSlot in_M co_M_isSlot) rfl rfl rfl hd_M_isSlot ⟨by rw [hRf]; exact Nat.le_of_ble_eq_true rfl, by rw [hRl]; exact Nat.le_of_ble_eq_true rfl⟩) (hp_preS hp_nsn hK trivial) rfl rfl hl.1 rfl (lv_room (Nat.le_of_ble_eq_true rfl)) d_M_length_1 ⟨by rw [hRc]; exact Nat.le_of_ble_eq_true rfl, by rw [hRs]; exact Nat.le_of_ble_eq_true rfl⟩) ?_
  refine hp_ifb_ne (tgt := 9) hx hb d_M_length_4 (by decide) (fun c4 => ?_) (fun c4 => ?_)
  · skip
    have c4 := of_decide_eq_true c4
    obtain ⟨t, rfl⟩ : ∃ q : Nat, s0 = (q : Int) := ⟨s0.toNat, by omega⟩
    have hvt := hvm t (by omega)
    refine lv_aload_n hx hb d_M_length_9 rfl (lv_at hl 0 rfl) ?_
    refine lv_iload_n hx hb d_M_length_10 rfl (lv_at hl 1 rfl) ?_
    refine hp_callv (W.runV (As := [.int (iI (t : Int))]) (rest := []) ⟨hx, hb, hml, hown, hG⟩ (c_M_know l E mo w c g kz t (by omega) (hvm t (by omega)) hbd (hok t (by omega)) (fun i hi => ⟨(hvm i hi).2.1, (hvm i hi).2.2⟩)) (cwV 1 hG (hp_goodV ml_M_129 im_M_know se_M_know in_M co_M_know) rfl rfl rfl hd_M_know ⟨by rw [hRf]; exact Nat.le_of_ble_eq_true rfl, by rw [hRl]; exact Nat.le_of_ble_eq_true rfl⟩) (hp_preV (ci := 3) hp_nsn hK rfl hm ⟨_, _, _, _, _, _, _, _, _, _, _, _, _, ⟨⟨hm, hsd, hsz, hwd, hkn⟩, hlf, hnx, hbf, hpo, hta, hen, htu, hsi, hsm⟩, hks⟩) rfl rfl hl.1 rfl (lv_room (Nat.le_of_ble_eq_true rfl)) d_M_length_11 ⟨by rw [hRc]; exact Nat.le_of_ble_eq_true rfl, by rw [hRs]; exact Nat.le_of_ble_eq_true rfl⟩) hS (fun q h => h) (fun H locs hpost hz1 ho1 hS => ?_)
    have hZ := hz1.trans hZ
    obtain ⟨th, md, fe, ps, lf, nx, bf, po, ta, en, tu, si, sm, ⟨⟨hm, hsd, hsz, hwd, hkn⟩, hlf, hnx, hbf, hpo, hta, hen, htu, hsi, hsm⟩, hks⟩ := hpost
    have hkt := hks t (by omega) (hp_up_s _ _ _)
    have hkf := kN_few (hvm t (by omega)).2.1 hkt
    refine lv_aload_n hx hb d_M_length_14 rfl (lv_at hl 0 rfl) ?_
    refine hp_get (C := R_M) (T := F_M) (N := 19) (v := .ref (mo + 12)) hx hb hG la_M hown hK.1 hm rfl 15 (by decide) (hG _ fl_M_44) (fun _ h9 => h9) rfl d_M_length_15 ?_
    refine lv_iload_n hx hb d_M_length_18 rfl (lv_at hl 1 rfl) ?_
    refine hp_iald hx hb hK.1 0 hsi rfl d_M_length_19 (by omega) t (by omega) (by omega) ?_
    rw [hQ]
    refine hp_iretQ hx hb hrt hlocks d_M_length_20 hS hZ ?_
    rw [Int.toNat_natCast]
    exact Or.inr ⟨by omega, ⟨_, _, _, _, _, _, _, _, _, _, _, _, _, ⟨⟨hm, hsd, hsz, hwd, hkn⟩, hlf, hnx, hbf, hpo, hta, hen, htu, hsi, hsm⟩, hks⟩, _, _, _, hkt, rfl⟩
  · skip
    have c4 := of_decide_eq_false c4
    refine hp_iconst (z := (-1)) hx hb d_M_length_7 (by rfl) ?_
    rw [hQ]
    refine hp_iretQ hx hb hrt hlocks d_M_length_8 hS hZ ?_
    exact Or.inl ⟨by omega, rfl, ⟨_, _, _, _, _, _, _, _, _, _, _, _, _, ⟨⟨hm, hsd, hsz, hwd, hkn⟩, hlf, hnx, hbf, hpo, hta, hen, htu, hsi, hsm⟩, hks⟩⟩

set_option maxHeartbeats 4000000 in
set_option maxRecDepth 100000 in
/-- form(s, j, p) -/
theorem c_M_form (l : Launch) (E : hp_E) (mo : Nat) (w c : Nat → Nat) (g : Nat → Int) (kz : Nat → Bool) (s0 j0 p0 : Int) (hs0 : iR s0) (hj0 : iR j0) (hp0 : iR p0) (hvm : ∀ i, i < 4 → 1 ≤ w i ∧ w i ≤ 8 ∧ c i ≤ 32) (hbd : bd g) (hok : ∀ i, i < 4 → okw (w i) (c i) (gw g i)) : Met l y_M_form (Cond.code y_M_form b_M_form 4 (some .int) :: G0) ({ frames := 4, cells := 0, slots := 0, locals := 99 }) (hp_P E [.ref mo, .int (iI s0), .int (iI j0), .int (iI p0)] (fun H => mG E H mo w c g kz)) (hp_Qi (fun q => q = mo ∨ (mo + 4 ≤ q ∧ q ≤ mo + 13)) (fun r H => (¬ (0 ≤ s0 ∧ s0 < 4) ∧ r = 0 ∧ mG E H mo w c g kz) ∨ ((0 ≤ s0 ∧ s0 < 4) ∧ mG E H mo w c g (hp_up kz s0.toNat true) ∧ ∃ (z : Int) (n : Nat) (X : Nat → Nat → Int), kN (w s0.toNat) (c s0.toNat) (gw g s0.toNat) z n X ∧ r = (if j0 = 0 then z else if 1 ≤ j0 ∧ j0 ≤ (n : Int) ∧ 1 ≤ p0 ∧ p0 ≤ (w s0.toNat : Int) then X (j0.toNat - 1) p0.toNat else 0)))) 0 0 (fun q => q = mo ∨ (mo + 4 ≤ q ∧ q ≤ mo + 13)) := by
  refine Met.ofW (cc := b_M_form) (maxL := 4) (ret := some .int) (by decide) rfl ?_
  intro p e s m args below meth cd s₁ Bd hml hv
  obtain ⟨hargs, hB, hK⟩ := hv
  have hx := Bd.exec
  have hb := Bd.bytes
  have hrt := Bd.returns
  have hts := atoms_spec (ws := Cond.code y_M_form b_M_form 4 (some .int) :: G0) Bd.pre
  have hG : ∀ w ∈ G0, w.before args s = true := fun w h => hts w (List.mem_cons_of_mem _ h)
  have hown : s.vm.findClass R_M = some m.cls := findClass_of_methodNamed Bd.named
  have hlocks := Bd.notSynchronized
  have hl := lv_entry ([.ref mo, .int (iI s0), .int (iI j0), .int (iI p0)]) (n := 4) (Nat.le_of_ble_eq_true rfl)
  rw [show entryFrame m args 4 = entryFrame m ([.ref mo, .int (iI s0), .int (iI j0), .int (iI p0)] : List Value).toArray 4 from by rw [hargs]]
  rw [lg_entry_eq]
  generalize (lg_sl ([.ref mo, .int (iI s0), .int (iI j0), .int (iI p0)]) ++ List.replicate (4 - (lg_sl ([.ref mo, .int (iI s0), .int (iI j0), .int (iI p0)])).length) Slot.unset).toArray = ls at hl ⊢
  have hl : lv_has ls 4 [(0, .ref mo), (1, .int (iI s0)), (2, .int (iI j0)), (3, .int (iI p0))] := hl
  obtain ⟨R, hR⟩ : ∃ R, R = (headSpec (Cond.code y_M_form b_M_form 4 (some .int) :: G0) { frames := 4, cells := 0, slots := 0, locals := 99 }).room := ⟨_, rfl⟩
  rw [← hR]
  have hRf : R.frames = 4 := by rw [hR]; rfl
  have hRl : R.locals = 99 := by rw [hR]; rfl
  have hRc : R.cells = 0 := by rw [hR]; rfl
  have hRs : R.slots = 0 := by rw [hR]; rfl
  obtain ⟨Q, hQ⟩ : ∃ Q, Q = MQ below (hp_Qi (fun q => q = mo ∨ (mo + 4 ≤ q ∧ q ≤ mo + 13)) (fun r H => (¬ (0 ≤ s0 ∧ s0 < 4) ∧ r = 0 ∧ mG E H mo w c g kz) ∨ ((0 ≤ s0 ∧ s0 < 4) ∧ mG E H mo w c g (hp_up kz s0.toNat true) ∧ ∃ (z : Int) (n : Nat) (X : Nat → Nat → Int), kN (w s0.toNat) (c s0.toNat) (gw g s0.toNat) z n X ∧ r = (if j0 = 0 then z else if 1 ≤ j0 ∧ j0 ≤ (n : Int) ∧ 1 ≤ p0 ∧ p0 ≤ (w s0.toNat : Int) then X (j0.toNat - 1) p0.toNat else 0)))) args s 0 0 (fun q => q = mo ∨ (mo + 4 ≤ q ∧ q ≤ mo + 13)) := ⟨_, rfl⟩
  rw [← hQ]
  obtain ⟨H, hH⟩ : ∃ H, H = s.heap := ⟨_, rfl⟩
  obtain ⟨locs, hlocs⟩ : ∃ locs : List Loc, locs = [] := ⟨_, rfl⟩
  have hS : va_S (fun q => q = mo ∨ (mo + 4 ≤ q ∧ q ≤ mo + 13)) s.heap H locs := by rw [hH, hlocs]; exact va_S.rf
  have hZ : H.size = s.heap.size := by rw [hH]
  rw [← hH] at hB
  rw [show W p l e R s m args below meth cd s.heap [] 0 0 Q (F0 m 0 ls []) = W p l e R s m args below meth cd H locs 0 0 Q (F0 m 0 ls []) from by rw [hH, hlocs]]
  obtain ⟨th, md, fe, ps, lf, nx, bf, po, ta, en, tu, si, sm, ⟨⟨hm, hsd, hsz, hwd, hkn⟩, hlf, hnx, hbf, hpo, hta, hen, htu, hsi, hsm⟩, hks⟩ := hB
  refine lv_iload_n hx hb d_M_form_0 rfl (lv_at hl 1 rfl) ?_
  refine hp_callS (W.runS (As := [.int (iI s0)]) (rest := []) ⟨hx, hb, hml, hown, hG⟩ (c_M_isSlot l E s0 (by unfold iR at *; omega)) (cwS 1 hG (hp_goodS ml_M_60 st_M_isSlot in_M co_M_isSlot) rfl rfl rfl hd_M_isSlot ⟨by rw [hRf]; exact Nat.le_of_ble_eq_true rfl, by rw [hRl]; exact Nat.le_of_ble_eq_true rfl⟩) (hp_preS hp_nsn hK trivial) rfl rfl hl.1 rfl (lv_room (Nat.le_of_ble_eq_true rfl)) d_M_form_1 ⟨by rw [hRc]; exact Nat.le_of_ble_eq_true rfl, by rw [hRs]; exact Nat.le_of_ble_eq_true rfl⟩) ?_
  refine hp_ifb_ne (tgt := 9) hx hb d_M_form_4 (by decide) (fun c4 => ?_) (fun c4 => ?_)
  · skip
    have c4 := of_decide_eq_true c4
    obtain ⟨t, rfl⟩ : ∃ q : Nat, s0 = (q : Int) := ⟨s0.toNat, by omega⟩
    have hvt := hvm t (by omega)
    refine lv_aload_n hx hb d_M_form_9 rfl (lv_at hl 0 rfl) ?_
    refine lv_iload_n hx hb d_M_form_10 rfl (lv_at hl 1 rfl) ?_
    refine hp_callv (W.runV (As := [.int (iI (t : Int))]) (rest := []) ⟨hx, hb, hml, hown, hG⟩ (c_M_know l E mo w c g kz t (by omega) (hvm t (by omega)) hbd (hok t (by omega)) (fun i hi => ⟨(hvm i hi).2.1, (hvm i hi).2.2⟩)) (cwV 1 hG (hp_goodV ml_M_129 im_M_know se_M_know in_M co_M_know) rfl rfl rfl hd_M_know ⟨by rw [hRf]; exact Nat.le_of_ble_eq_true rfl, by rw [hRl]; exact Nat.le_of_ble_eq_true rfl⟩) (hp_preV (ci := 3) hp_nsn hK rfl hm ⟨_, _, _, _, _, _, _, _, _, _, _, _, _, ⟨⟨hm, hsd, hsz, hwd, hkn⟩, hlf, hnx, hbf, hpo, hta, hen, htu, hsi, hsm⟩, hks⟩) rfl rfl hl.1 rfl (lv_room (Nat.le_of_ble_eq_true rfl)) d_M_form_11 ⟨by rw [hRc]; exact Nat.le_of_ble_eq_true rfl, by rw [hRs]; exact Nat.le_of_ble_eq_true rfl⟩) hS (fun q h => h) (fun H locs hpost hz1 ho1 hS => ?_)
    have hZ := hz1.trans hZ
    obtain ⟨th, md, fe, ps, lf, nx, bf, po, ta, en, tu, si, sm, ⟨⟨hm, hsd, hsz, hwd, hkn⟩, hlf, hnx, hbf, hpo, hta, hen, htu, hsi, hsm⟩, hks⟩ := hpost
    have hkt := hks t (by omega) (hp_up_s _ _ _)
    have hkf := kN_few (hvm t (by omega)).2.1 hkt
    refine lv_iload_n hx hb d_M_form_14 rfl (lv_at hl 2 rfl) ?_
    refine hp_if_ne (tgt := 25) hx hb d_M_form_15 (by decide) (by unfold iR at *; omega) (fun c15 => ?_) (fun c15 => ?_)
    · skip
      refine lv_iload_n hx hb d_M_form_25 rfl (lv_at hl 2 rfl) ?_
      refine hp_if_lt (tgt := 54) hx hb d_M_form_26 (by decide) (by unfold iR at *; omega) (fun c26 => ?_) (fun c26 => ?_)
      · skip
        refine hp_iconst (z := 0) hx hb d_M_form_54 (by rfl) ?_
        refine lv_goto (tgt := 77) hx hb d_M_form_55 (by decide) ?_
        rw [hQ]
        refine hp_iretQ hx hb hrt hlocks d_M_form_77 hS hZ ?_
        simp only [Int.toNat_natCast]
        first | exact Or.inr ⟨by omega, ⟨_, _, _, _, _, _, _, _, _, _, _, _, _, ⟨⟨hm, hsd, hsz, hwd, hkn⟩, hlf, hnx, hbf, hpo, hta, hen, htu, hsi, hsm⟩, hks⟩, _, _, _, hkt, by rw [if_neg (by omega), if_neg (by omega)]⟩ | exact Or.inr ⟨by omega, ⟨_, _, _, _, _, _, _, _, _, _, _, _, _, ⟨⟨hm, hsd, hsz, hwd, hkn⟩, hlf, hnx, hbf, hpo, hta, hen, htu, hsi, hsm⟩, hks⟩, _, _, _, hkt, by rw [if_neg (by omega), if_pos (by omega)]⟩
      · skip
        refine lv_iload_n hx hb d_M_form_29 rfl (lv_at hl 2 rfl) ?_
        refine lv_aload_n hx hb d_M_form_30 rfl (lv_at hl 0 rfl) ?_
        refine hp_get (C := R_M) (T := F_M) (N := 19) (v := .ref (mo + 12)) hx hb hG la_M hown hK.1 hm rfl 15 (by decide) (hG _ fl_M_44) (fun _ h9 => h9) rfl d_M_form_31 ?_
        refine lv_iload_n hx hb d_M_form_34 rfl (lv_at hl 1 rfl) ?_
        refine hp_iald hx hb hK.1 0 hsi rfl d_M_form_35 (by omega) t (by omega) (by omega) ?_
        refine hp_icmp_gt (tgt := 54) hx hb d_M_form_36 (by decide) (by unfold iR at *; omega) (by unfold iR at *; omega) (fun c36 => ?_) (fun c36 => ?_)
        · skip
          refine hp_iconst (z := 0) hx hb d_M_form_54 (by rfl) ?_
          refine lv_goto (tgt := 77) hx hb d_M_form_55 (by decide) ?_
          rw [hQ]
          refine hp_iretQ hx hb hrt hlocks d_M_form_77 hS hZ ?_
          simp only [Int.toNat_natCast]
          first | exact Or.inr ⟨by omega, ⟨_, _, _, _, _, _, _, _, _, _, _, _, _, ⟨⟨hm, hsd, hsz, hwd, hkn⟩, hlf, hnx, hbf, hpo, hta, hen, htu, hsi, hsm⟩, hks⟩, _, _, _, hkt, by rw [if_neg (by omega), if_neg (by omega)]⟩ | exact Or.inr ⟨by omega, ⟨_, _, _, _, _, _, _, _, _, _, _, _, _, ⟨⟨hm, hsd, hsz, hwd, hkn⟩, hlf, hnx, hbf, hpo, hta, hen, htu, hsi, hsm⟩, hks⟩, _, _, _, hkt, by rw [if_neg (by omega), if_pos (by omega)]⟩
        · skip
          refine lv_iload_n hx hb d_M_form_39 rfl (lv_at hl 3 rfl) ?_
          refine hp_iconst (z := 1) hx hb d_M_form_40 (by rfl) ?_
          refine hp_icmp_lt (tgt := 54) hx hb d_M_form_41 (by decide) (by unfold iR at *; omega) (by unfold iR at *; omega) (fun c41 => ?_) (fun c41 => ?_)
          · skip
            refine hp_iconst (z := 0) hx hb d_M_form_54 (by rfl) ?_
            refine lv_goto (tgt := 77) hx hb d_M_form_55 (by decide) ?_
            rw [hQ]
            refine hp_iretQ hx hb hrt hlocks d_M_form_77 hS hZ ?_
            simp only [Int.toNat_natCast]
            first | exact Or.inr ⟨by omega, ⟨_, _, _, _, _, _, _, _, _, _, _, _, _, ⟨⟨hm, hsd, hsz, hwd, hkn⟩, hlf, hnx, hbf, hpo, hta, hen, htu, hsi, hsm⟩, hks⟩, _, _, _, hkt, by rw [if_neg (by omega), if_neg (by omega)]⟩ | exact Or.inr ⟨by omega, ⟨_, _, _, _, _, _, _, _, _, _, _, _, _, ⟨⟨hm, hsd, hsz, hwd, hkn⟩, hlf, hnx, hbf, hpo, hta, hen, htu, hsi, hsm⟩, hks⟩, _, _, _, hkt, by rw [if_neg (by omega), if_pos (by omega)]⟩
          · skip
            refine lv_iload_n hx hb d_M_form_44 rfl (lv_at hl 3 rfl) ?_
            refine lv_aload_n hx hb d_M_form_45 rfl (lv_at hl 0 rfl) ?_
            refine hp_get (C := R_M) (T := F_M) (N := 19) (v := .ref (mo + 1)) hx hb hG la_M hown hK.1 hm rfl 1 (by decide) (hG _ fl_M_7) (fun _ h9 => h9) rfl d_M_form_46 ?_
            refine lv_iload_n hx hb d_M_form_49 rfl (lv_at hl 1 rfl) ?_
            refine hp_iald hx hb hK.1 0 hsd rfl d_M_form_50 (by omega) t (by omega) (by omega) ?_
            refine hp_icmp_le (tgt := 58) hx hb d_M_form_51 (by decide) (by unfold iR at *; omega) (by unfold iR at *; omega) (fun c51 => ?_) (fun c51 => ?_)
            · skip
              obtain ⟨j, rfl⟩ : ∃ q : Nat, j0 = (q : Int) := ⟨j0.toNat, by omega⟩
              obtain ⟨p9, rfl⟩ : ∃ q : Nat, p0 = (q : Int) := ⟨p0.toNat, by omega⟩
              refine lv_aload_n hx hb d_M_form_58 rfl (lv_at hl 0 rfl) ?_
              refine hp_get (C := R_M) (T := F_M) (N := 19) (v := .ref (mo + 13)) hx hb hG la_M hown hK.1 hm rfl 16 (by decide) (hG _ fl_M_47) (fun _ h9 => h9) rfl d_M_form_59 ?_
              refine hp_sipush (z := 576) hx hb d_M_form_62 (by rfl) ?_
              refine lv_iload_n hx hb d_M_form_65 rfl (lv_at hl 1 rfl) ?_
              refine hp_imul hx hb d_M_form_66 ?_
              refine hp_bipush (z := 9) hx hb d_M_form_67 (by rfl) ?_
              refine lv_iload_n hx hb d_M_form_69 rfl (lv_at hl 2 rfl) ?_
              refine hp_iconst (z := 1) hx hb d_M_form_70 (by rfl) ?_
              refine hp_isub hx hb d_M_form_71 ?_
              refine hp_imul hx hb d_M_form_72 ?_
              refine hp_iadd hx hb d_M_form_73 ?_
              refine lv_iload_n hx hb d_M_form_74 rfl (lv_at hl 3 rfl) ?_
              refine hp_iadd hx hb d_M_form_75 ?_
              refine hp_iald hx hb hK.1 0 hsm rfl d_M_form_76 (by omega) (576 * t + 9 * (j - 1) + p9) (by omega) (by omega) ?_
              rw [hQ]
              refine hp_iretQ hx hb hrt hlocks d_M_form_77 hS hZ ?_
              simp only [Int.toNat_natCast]
              first | exact Or.inr ⟨by omega, ⟨_, _, _, _, _, _, _, _, _, _, _, _, _, ⟨⟨hm, hsd, hsz, hwd, hkn⟩, hlf, hnx, hbf, hpo, hta, hen, htu, hsi, hsm⟩, hks⟩, _, _, _, hkt, by rw [if_neg (by omega), if_neg (by omega)]⟩ | exact Or.inr ⟨by omega, ⟨_, _, _, _, _, _, _, _, _, _, _, _, _, ⟨⟨hm, hsd, hsz, hwd, hkn⟩, hlf, hnx, hbf, hpo, hta, hen, htu, hsi, hsm⟩, hks⟩, _, _, _, hkt, by rw [if_neg (by omega), if_pos (by omega)]⟩
            · skip
              refine hp_iconst (z := 0) hx hb d_M_form_54 (by rfl) ?_
              refine lv_goto (tgt := 77) hx hb d_M_form_55 (by decide) ?_
              rw [hQ]
              refine hp_iretQ hx hb hrt hlocks d_M_form_77 hS hZ ?_
              simp only [Int.toNat_natCast]
              first | exact Or.inr ⟨by omega, ⟨_, _, _, _, _, _, _, _, _, _, _, _, _, ⟨⟨hm, hsd, hsz, hwd, hkn⟩, hlf, hnx, hbf, hpo, hta, hen, htu, hsi, hsm⟩, hks⟩, _, _, _, hkt, by rw [if_neg (by omega), if_neg (by omega)]⟩ | exact Or.inr ⟨by omega, ⟨_, _, _, _, _, _, _, _, _, _, _, _, _, ⟨⟨hm, hsd, hsz, hwd, hkn⟩, hlf, hnx, hbf, hpo, hta, hen, htu, hsi, hsm⟩, hks⟩, _, _, _, hkt, by rw [if_neg (by omega), if_pos (by omega)]⟩
    · skip
      refine lv_aload_n hx hb d_M_form_18 rfl (lv_at hl 0 rfl) ?_
      refine hp_get (C := R_M) (T := F_M) (N := 19) (v := .ref (mo + 11)) hx hb hG la_M hown hK.1 hm rfl 14 (by decide) (hG _ fl_M_41) (fun _ h9 => h9) rfl d_M_form_19 ?_
      refine lv_iload_n hx hb d_M_form_22 rfl (lv_at hl 1 rfl) ?_
      refine hp_iald hx hb hK.1 0 htu rfl d_M_form_23 (by omega) t (by omega) (by omega) ?_
      rw [hQ]
      refine hp_iretQ hx hb hrt hlocks d_M_form_24 hS hZ ?_
      rw [Int.toNat_natCast]
      exact Or.inr ⟨by omega, ⟨_, _, _, _, _, _, _, _, _, _, _, _, _, ⟨⟨hm, hsd, hsz, hwd, hkn⟩, hlf, hnx, hbf, hpo, hta, hen, htu, hsi, hsm⟩, hks⟩, _, _, _, hkt, by rw [if_pos (by omega)]⟩
  · skip
    have c4 := of_decide_eq_false c4
    refine hp_iconst (z := 0) hx hb d_M_form_7 (by rfl) ?_
    rw [hQ]
    refine hp_iretQ hx hb hrt hlocks d_M_form_8 hS hZ ?_
    exact Or.inl ⟨by omega, rfl, ⟨_, _, _, _, _, _, _, _, _, _, _, _, _, ⟨⟨hm, hsd, hsz, hwd, hkn⟩, hlf, hnx, hbf, hpo, hta, hen, htu, hsi, hsm⟩, hks⟩⟩

set_option maxHeartbeats 4000000 in
set_option maxRecDepth 100000 in
/-- same(r, s) -/
theorem c_M_same (l : Launch) (E : hp_E) (mo : Nat) (w c : Nat → Nat) (g : Nat → Int) (kz : Nat → Bool) (r0 s0 : Int) (hr0 : iR r0) (hs0 : iR s0) (hvm : ∀ i, i < 4 → 1 ≤ w i ∧ w i ≤ 8 ∧ c i ≤ 32) (hbd : bd g) (hok : ∀ i, i < 4 → okw (w i) (c i) (gw g i)) : Met l y_M_same (Cond.code y_M_same b_M_same 5 (some .boolean) :: G0) ({ frames := 4, cells := 0, slots := 0, locals := 99 }) (hp_P E [.ref mo, .int (iI r0), .int (iI s0)] (fun H => mG E H mo w c g kz)) (hp_Qi (fun q => q = mo ∨ (mo + 4 ≤ q ∧ q ≤ mo + 13)) (fun r H => (¬ (0 ≤ r0 ∧ r0 < 4 ∧ 0 ≤ s0 ∧ s0 < 4 ∧ w r0.toNat = w s0.toNat) ∧ r = 0 ∧ mG E H mo w c g kz) ∨ ((0 ≤ r0 ∧ r0 < 4 ∧ 0 ≤ s0 ∧ s0 < 4 ∧ w r0.toNat = w s0.toNat) ∧ mG E H mo w c g (hp_up (hp_up kz r0.toNat true) s0.toNat true) ∧ ∃ (z1 : Int) (n1 : Nat) (X1 : Nat → Nat → Int) (z2 : Int) (n2 : Nat) (X2 : Nat → Nat → Int), kN (w r0.toNat) (c r0.toNat) (gw g r0.toNat) z1 n1 X1 ∧ kN (w s0.toNat) (c s0.toNat) (gw g s0.toNat) z2 n2 X2 ∧ (r = 1 ∨ r = 0) ∧ (r = 1 ↔ z1 = z2 ∧ n1 = n2 ∧ ∀ j, j < n1 → ∀ p, 1 ≤ p → p ≤ w r0.toNat → X1 j p = X2 j p)))) 0 0 (fun q => q = mo ∨ (mo + 4 ≤ q ∧ q ≤ mo + 13)) := by
  refine Met.ofW (cc := b_M_same) (maxL := 5) (ret := some .boolean) (by decide) rfl ?_
  intro p e s m args below meth cd s₁ Bd hml hv
  obtain ⟨hargs, hB, hK⟩ := hv
  have hx := Bd.exec
  have hb := Bd.bytes
  have hrt := Bd.returns
  have hts := atoms_spec (ws := Cond.code y_M_same b_M_same 5 (some .boolean) :: G0) Bd.pre
  have hG : ∀ w ∈ G0, w.before args s = true := fun w h => hts w (List.mem_cons_of_mem _ h)
  have hown : s.vm.findClass R_M = some m.cls := findClass_of_methodNamed Bd.named
  have hlocks := Bd.notSynchronized
  have hl := lv_entry ([.ref mo, .int (iI r0), .int (iI s0)]) (n := 5) (Nat.le_of_ble_eq_true rfl)
  rw [show entryFrame m args 5 = entryFrame m ([.ref mo, .int (iI r0), .int (iI s0)] : List Value).toArray 5 from by rw [hargs]]
  rw [lg_entry_eq]
  generalize (lg_sl ([.ref mo, .int (iI r0), .int (iI s0)]) ++ List.replicate (5 - (lg_sl ([.ref mo, .int (iI r0), .int (iI s0)])).length) Slot.unset).toArray = ls at hl ⊢
  have hl : lv_has ls 5 [(0, .ref mo), (1, .int (iI r0)), (2, .int (iI s0))] := hl
  obtain ⟨R, hR⟩ : ∃ R, R = (headSpec (Cond.code y_M_same b_M_same 5 (some .boolean) :: G0) { frames := 4, cells := 0, slots := 0, locals := 99 }).room := ⟨_, rfl⟩
  rw [← hR]
  have hRf : R.frames = 4 := by rw [hR]; rfl
  have hRl : R.locals = 99 := by rw [hR]; rfl
  have hRc : R.cells = 0 := by rw [hR]; rfl
  have hRs : R.slots = 0 := by rw [hR]; rfl
  obtain ⟨Q, hQ⟩ : ∃ Q, Q = MQ below (hp_Qi (fun q => q = mo ∨ (mo + 4 ≤ q ∧ q ≤ mo + 13)) (fun r H => (¬ (0 ≤ r0 ∧ r0 < 4 ∧ 0 ≤ s0 ∧ s0 < 4 ∧ w r0.toNat = w s0.toNat) ∧ r = 0 ∧ mG E H mo w c g kz) ∨ ((0 ≤ r0 ∧ r0 < 4 ∧ 0 ≤ s0 ∧ s0 < 4 ∧ w r0.toNat = w s0.toNat) ∧ mG E H mo w c g (hp_up (hp_up kz r0.toNat true) s0.toNat true) ∧ ∃ (z1 : Int) (n1 : Nat) (X1 : Nat → Nat → Int) (z2 : Int) (n2 : Nat) (X2 : Nat → Nat → Int), kN (w r0.toNat) (c r0.toNat) (gw g r0.toNat) z1 n1 X1 ∧ kN (w s0.toNat) (c s0.toNat) (gw g s0.toNat) z2 n2 X2 ∧ (r = 1 ∨ r = 0) ∧ (r = 1 ↔ z1 = z2 ∧ n1 = n2 ∧ ∀ j, j < n1 → ∀ p, 1 ≤ p → p ≤ w r0.toNat → X1 j p = X2 j p)))) args s 0 0 (fun q => q = mo ∨ (mo + 4 ≤ q ∧ q ≤ mo + 13)) := ⟨_, rfl⟩
  rw [← hQ]
  obtain ⟨H, hH⟩ : ∃ H, H = s.heap := ⟨_, rfl⟩
  obtain ⟨locs, hlocs⟩ : ∃ locs : List Loc, locs = [] := ⟨_, rfl⟩
  have hS : va_S (fun q => q = mo ∨ (mo + 4 ≤ q ∧ q ≤ mo + 13)) s.heap H locs := by rw [hH, hlocs]; exact va_S.rf
  have hZ : H.size = s.heap.size := by rw [hH]
  rw [← hH] at hB
  rw [show W p l e R s m args below meth cd s.heap [] 0 0 Q (F0 m 0 ls []) = W p l e R s m args below meth cd H locs 0 0 Q (F0 m 0 ls []) from by rw [hH, hlocs]]
  obtain ⟨th, md, fe, ps, lf, nx, bf, po, ta, en, tu, si, sm, ⟨⟨hm, hsd, hsz, hwd, hkn⟩, hlf, hnx, hbf, hpo, hta, hen, htu, hsi, hsm⟩, hks⟩ := hB
  refine lv_iload_n hx hb d_M_same_0 rfl (lv_at hl 1 rfl) ?_
  refine hp_callS (W.runS (As := [.int (iI r0)]) (rest := []) ⟨hx, hb, hml, hown, hG⟩ (c_M_isSlot l E r0 (by unfold iR at *; omega)) (cwS 1 hG (hp_goodS ml_M_60 st_M_isSlot in_M co_M_isSlot) rfl rfl rfl hd_M_isSlot ⟨by rw [hRf]; exact Nat.le_of_ble_eq_true rfl, by rw [hRl]; exact Nat.le_of_ble_eq_true rfl⟩) (hp_preS hp_nsn hK trivial) rfl rfl hl.1 rfl (lv_room (Nat.le_of_ble_eq_true rfl)) d_M_same_1 ⟨by rw [hRc]; exact Nat.le_of_ble_eq_true rfl, by rw [hRs]; exact Nat.le_of_ble_eq_true rfl⟩) ?_
  refine hp_ifb_eq (tgt := 29) hx hb d_M_same_4 (by decide) (fun c4 => ?_) (fun c4 => ?_)
  · skip
    have c4 := of_decide_eq_false c4
    refine hp_iconst (z := 0) hx hb d_M_same_29 (by rfl) ?_
    rw [hQ]
    refine hp_zretQ hx hb hrt hlocks d_M_same_30 false (by first | rfl | assumption | simp [bI]) hS hZ ?_
    first | exact Or.inl ⟨by omega, rfl, ⟨_, _, _, _, _, _, _, _, _, _, _, _, _, ⟨⟨hm, hsd, hsz, hwd, hkn⟩, hlf, hnx, hbf, hpo, hta, hen, htu, hsi, hsm⟩, hks⟩⟩ | (rw [Int.toNat_natCast t, Int.toNat_natCast u]; exact Or.inl ⟨by omega, rfl, ⟨_, _, _, _, _, _, _, _, _, _, _, _, _, ⟨⟨hm, hsd, hsz, hwd, hkn⟩, hlf, hnx, hbf, hpo, hta, hen, htu, hsi, hsm⟩, hks⟩⟩)
  · skip
    have c4 := of_decide_eq_true c4
    refine lv_iload_n hx hb d_M_same_7 rfl (lv_at hl 2 rfl) ?_
    refine hp_callS (W.runS (As := [.int (iI s0)]) (rest := []) ⟨hx, hb, hml, hown, hG⟩ (c_M_isSlot l E s0 (by unfold iR at *; omega)) (cwS 1 hG (hp_goodS ml_M_60 st_M_isSlot in_M co_M_isSlot) rfl rfl rfl hd_M_isSlot ⟨by rw [hRf]; exact Nat.le_of_ble_eq_true rfl, by rw [hRl]; exact Nat.le_of_ble_eq_true rfl⟩) (hp_preS hp_nsn hK trivial) rfl rfl hl.1 rfl (lv_room (Nat.le_of_ble_eq_true rfl)) d_M_same_8 ⟨by rw [hRc]; exact Nat.le_of_ble_eq_true rfl, by rw [hRs]; exact Nat.le_of_ble_eq_true rfl⟩) ?_
    refine hp_ifb_eq (tgt := 29) hx hb d_M_same_11 (by decide) (fun c11 => ?_) (fun c11 => ?_)
    · skip
      have c11 := of_decide_eq_false c11
      refine hp_iconst (z := 0) hx hb d_M_same_29 (by rfl) ?_
      rw [hQ]
      refine hp_zretQ hx hb hrt hlocks d_M_same_30 false (by first | rfl | assumption | simp [bI]) hS hZ ?_
      first | exact Or.inl ⟨by omega, rfl, ⟨_, _, _, _, _, _, _, _, _, _, _, _, _, ⟨⟨hm, hsd, hsz, hwd, hkn⟩, hlf, hnx, hbf, hpo, hta, hen, htu, hsi, hsm⟩, hks⟩⟩ | (rw [Int.toNat_natCast t, Int.toNat_natCast u]; exact Or.inl ⟨by omega, rfl, ⟨_, _, _, _, _, _, _, _, _, _, _, _, _, ⟨⟨hm, hsd, hsz, hwd, hkn⟩, hlf, hnx, hbf, hpo, hta, hen, htu, hsi, hsm⟩, hks⟩⟩)
    · skip
      have c11 := of_decide_eq_true c11
      obtain ⟨t, rfl⟩ : ∃ q : Nat, r0 = (q : Int) := ⟨r0.toNat, by omega⟩
      obtain ⟨u, rfl⟩ : ∃ q : Nat, s0 = (q : Int) := ⟨s0.toNat, by omega⟩
      have hvt := hvm t (by omega)
      have hvu := hvm u (by omega)
      refine lv_aload_n hx hb d_M_same_14 rfl (lv_at hl 0 rfl) ?_
      refine hp_get (C := R_M) (T := F_M) (N := 19) (v := .ref (mo + 1)) hx hb hG la_M hown hK.1 hm rfl 1 (by decide) (hG _ fl_M_7) (fun _ h9 => h9) rfl d_M_same_15 ?_
      refine lv_iload_n hx hb d_M_same_18 rfl (lv_at hl 1 rfl) ?_
      refine hp_iald hx hb hK.1 0 hsd rfl d_M_same_19 (by omega) t (by omega) (by omega) ?_
      refine lv_aload_n hx hb d_M_same_20 rfl (lv_at hl 0 rfl) ?_
      refine hp_get (C := R_M) (T := F_M) (N := 19) (v := .ref (mo + 1)) hx hb hG la_M hown hK.1 hm rfl 1 (by decide) (hG _ fl_M_7) (fun _ h9 => h9) rfl d_M_same_21 ?_
      refine lv_iload_n hx hb d_M_same_24 rfl (lv_at hl 2 rfl) ?_
      refine hp_iald hx hb hK.1 0 hsd rfl d_M_same_25 (by omega) u (by omega) (by omega) ?_
      refine hp_icmp_eq (tgt := 31) hx hb d_M_same_26 (by decide) (by unfold iR at *; omega) (by unfold iR at *; omega) (fun c26 => ?_) (fun c26 => ?_)
      · skip
        refine lv_aload_n hx hb d_M_same_31 rfl (lv_at hl 0 rfl) ?_
        refine lv_iload_n hx hb d_M_same_32 rfl (lv_at hl 1 rfl) ?_
        refine hp_callv (W.runV (As := [.int (iI (t : Int))]) (rest := []) ⟨hx, hb, hml, hown, hG⟩ (c_M_know l E mo w c g kz t (by omega) (hvm t (by omega)) hbd (hok t (by omega)) (fun i hi => ⟨(hvm i hi).2.1, (hvm i hi).2.2⟩)) (cwV 1 hG (hp_goodV ml_M_129 im_M_know se_M_know in_M co_M_know) rfl rfl rfl hd_M_know ⟨by rw [hRf]; exact Nat.le_of_ble_eq_true rfl, by rw [hRl]; exact Nat.le_of_ble_eq_true rfl⟩) (hp_preV (ci := 3) hp_nsn hK rfl hm ⟨_, _, _, _, _, _, _, _, _, _, _, _, _, ⟨⟨hm, hsd, hsz, hwd, hkn⟩, hlf, hnx, hbf, hpo, hta, hen, htu, hsi, hsm⟩, hks⟩) rfl rfl hl.1 rfl (lv_room (Nat.le_of_ble_eq_true rfl)) d_M_same_33 ⟨by rw [hRc]; exact Nat.le_of_ble_eq_true rfl, by rw [hRs]; exact Nat.le_of_ble_eq_true rfl⟩) hS (fun q h => h) (fun H locs hpost hz1 ho1 hS => ?_)
        have hZ := hz1.trans hZ
        obtain ⟨th, md, fe, ps, lf, nx, bf, po, ta, en, tu, si, sm, ⟨⟨hm, hsd, hsz, hwd, hkn⟩, hlf, hnx, hbf, hpo, hta, hen, htu, hsi, hsm⟩, hks⟩ := hpost
        have hkt := hks t (by omega) (hp_up_s _ _ _)
        have hkf := kN_few (hvm t (by omega)).2.1 hkt
        refine lv_aload_n hx hb d_M_same_36 rfl (lv_at hl 0 rfl) ?_
        refine lv_iload_n hx hb d_M_same_37 rfl (lv_at hl 2 rfl) ?_
        refine hp_callv (W.runV (As := [.int (iI (u : Int))]) (rest := []) ⟨hx, hb, hml, hown, hG⟩ (c_M_know l E mo w c g (hp_up kz t true) u (by omega) (hvm u (by omega)) hbd (hok u (by omega)) (fun i hi => ⟨(hvm i hi).2.1, (hvm i hi).2.2⟩)) (cwV 1 hG (hp_goodV ml_M_129 im_M_know se_M_know in_M co_M_know) rfl rfl rfl hd_M_know ⟨by rw [hRf]; exact Nat.le_of_ble_eq_true rfl, by rw [hRl]; exact Nat.le_of_ble_eq_true rfl⟩) (hp_preV (ci := 3) hp_nsn hK rfl hm ⟨_, _, _, _, _, _, _, _, _, _, _, _, _, ⟨⟨hm, hsd, hsz, hwd, hkn⟩, hlf, hnx, hbf, hpo, hta, hen, htu, hsi, hsm⟩, hks⟩) rfl rfl hl.1 rfl (lv_room (Nat.le_of_ble_eq_true rfl)) d_M_same_38 ⟨by rw [hRc]; exact Nat.le_of_ble_eq_true rfl, by rw [hRs]; exact Nat.le_of_ble_eq_true rfl⟩) hS (fun q h => h) (fun H locs hpost hz1 ho1 hS => ?_)
        have hZ := hz1.trans hZ
        obtain ⟨th, md, fe, ps, lf, nx, bf, po, ta, en, tu, si, sm, ⟨⟨hm, hsd, hsz, hwd, hkn⟩, hlf, hnx, hbf, hpo, hta, hen, htu, hsi, hsm⟩, hks⟩ := hpost
        have hkt := hks t (by omega) (kz_2 _ _ _)
        have hkf := kN_few (hvm t (by omega)).2.1 hkt
        have hku := hks u (by omega) (hp_up_s _ _ _)
        have hkg := kN_few (hvm u (by omega)).2.1 hku
        refine lv_aload_n hx hb d_M_same_41 rfl (lv_at hl 0 rfl) ?_
        refine hp_get (C := R_M) (T := F_M) (N := 19) (v := .ref (mo + 11)) hx hb hG la_M hown hK.1 hm rfl 14 (by decide) (hG _ fl_M_41) (fun _ h9 => h9) rfl d_M_same_42 ?_
        refine lv_iload_n hx hb d_M_same_45 rfl (lv_at hl 1 rfl) ?_
        refine hp_iald hx hb hK.1 0 htu rfl d_M_same_46 (by omega) t (by omega) (by omega) ?_
        refine lv_aload_n hx hb d_M_same_47 rfl (lv_at hl 0 rfl) ?_
        refine hp_get (C := R_M) (T := F_M) (N := 19) (v := .ref (mo + 11)) hx hb hG la_M hown hK.1 hm rfl 14 (by decide) (hG _ fl_M_41) (fun _ h9 => h9) rfl d_M_same_48 ?_
        refine lv_iload_n hx hb d_M_same_51 rfl (lv_at hl 2 rfl) ?_
        refine hp_iald hx hb hK.1 0 htu rfl d_M_same_52 (by omega) u (by omega) (by omega) ?_
        refine hp_icmp_ne (tgt := 71) hx hb d_M_same_53 (by decide) (by unfold iR at *; omega) (by unfold iR at *; omega) (fun c53 => ?_) (fun c53 => ?_)
        · skip
          refine hp_iconst (z := 0) hx hb d_M_same_71 (by rfl) ?_
          rw [hQ]
          refine hp_zretQ hx hb hrt hlocks d_M_same_72 false (by first | rfl | assumption | simp [bI]) hS hZ ?_
          rw [Int.toNat_natCast t, Int.toNat_natCast u]
          exact Or.inr ⟨by omega, ⟨_, _, _, _, _, _, _, _, _, _, _, _, _, ⟨⟨hm, hsd, hsz, hwd, hkn⟩, hlf, hnx, hbf, hpo, hta, hen, htu, hsi, hsm⟩, hks⟩, _, _, _, _, _, _, hkt, hku, Or.inr rfl, fun h9 => absurd h9 (by decide), fun h9 => by exfalso; omega⟩
        · skip
          refine lv_aload_n hx hb d_M_same_56 rfl (lv_at hl 0 rfl) ?_
          refine hp_get (C := R_M) (T := F_M) (N := 19) (v := .ref (mo + 12)) hx hb hG la_M hown hK.1 hm rfl 15 (by decide) (hG _ fl_M_44) (fun _ h9 => h9) rfl d_M_same_57 ?_
          refine lv_iload_n hx hb d_M_same_60 rfl (lv_at hl 1 rfl) ?_
          refine hp_iald hx hb hK.1 0 hsi rfl d_M_same_61 (by omega) t (by omega) (by omega) ?_
          refine lv_aload_n hx hb d_M_same_62 rfl (lv_at hl 0 rfl) ?_
          refine hp_get (C := R_M) (T := F_M) (N := 19) (v := .ref (mo + 12)) hx hb hG la_M hown hK.1 hm rfl 15 (by decide) (hG _ fl_M_44) (fun _ h9 => h9) rfl d_M_same_63 ?_
          refine lv_iload_n hx hb d_M_same_66 rfl (lv_at hl 2 rfl) ?_
          refine hp_iald hx hb hK.1 0 hsi rfl d_M_same_67 (by omega) u (by omega) (by omega) ?_
          refine hp_icmp_eq (tgt := 73) hx hb d_M_same_68 (by decide) (by unfold iR at *; omega) (by unfold iR at *; omega) (fun c68 => ?_) (fun c68 => ?_)
          · skip
            refine hp_iconst (z := 0) hx hb d_M_same_73 (by rfl) ?_
            refine lv_istore_n (lv' := [(3, .int (iI 0)), (0, .ref mo), (1, .int (iI (t : Int))), (2, .int (iI (u : Int)))]) hx hb d_M_same_74 rfl hl (by decide) rfl (fun ls hl => ?_)
            have L75 : ∀ (N : Nat) (j : Nat), si t - j < N → (j ≤ si t) → (∀ i, i < j → ∀ p, 1 ≤ p → p ≤ w t → sm (576 * t + 9 * i + p) = sm (576 * u + 9 * i + p)) → ∀ ls : Array Slot, lv_has ls 5 [(0, .ref mo), (1, .int (iI (t : Int))), (2, .int (iI (u : Int))), (3, .int (iI (j : Int)))] → W p l e R s m args below meth cd H locs 0 0 Q (F0 m 75 ls []) := by
              intro N
              induction N with
              | zero => intro j hN; exact absurd hN (by omega)
              | succ N ih =>
                intro j hN hj hjj  ls hl
                have ih75 := ih
                refine lv_iload_n hx hb d_M_same_75 rfl (lv_at hl 3 rfl) ?_
                refine lv_aload_n hx hb d_M_same_76 rfl (lv_at hl 0 rfl) ?_
                refine hp_get (C := R_M) (T := F_M) (N := 19) (v := .ref (mo + 12)) hx hb hG la_M hown hK.1 hm rfl 15 (by decide) (hG _ fl_M_44) (fun _ h9 => h9) rfl d_M_same_77 ?_
                refine lv_iload_n hx hb d_M_same_80 rfl (lv_at hl 1 rfl) ?_
                refine hp_iald hx hb hK.1 0 hsi rfl d_M_same_81 (by omega) t (by omega) (by omega) ?_
                refine hp_icmp_ge (tgt := 152) hx hb d_M_same_82 (by decide) (by unfold iR at *; omega) (by unfold iR at *; omega) (fun c82 => ?_) (fun c82 => ?_)
                · skip
                  refine hp_iconst (z := 1) hx hb d_M_same_152 (by rfl) ?_
                  rw [hQ]
                  refine hp_zretQ hx hb hrt hlocks d_M_same_153 true (by first | rfl | assumption | simp [bI]) hS hZ ?_
                  rw [Int.toNat_natCast t, Int.toNat_natCast u]
                  exact Or.inr ⟨by omega, ⟨_, _, _, _, _, _, _, _, _, _, _, _, _, ⟨⟨hm, hsd, hsz, hwd, hkn⟩, hlf, hnx, hbf, hpo, hta, hen, htu, hsi, hsm⟩, hks⟩, _, _, _, _, _, _, hkt, hku, Or.inl rfl, fun _ => ⟨by omega, by omega, fun i h9 p h1 h2 => hjj i (by omega) p h1 h2⟩, fun _ => rfl⟩
                · skip
                  refine hp_iconst (z := 1) hx hb d_M_same_85 (by rfl) ?_
                  refine lv_istore (lv' := [(4, .int (iI 1)), (0, .ref mo), (1, .int (iI (t : Int))), (2, .int (iI (u : Int))), (3, .int (iI (j : Int)))]) hx hb d_M_same_86 hl (by decide) rfl (fun ls hl => ?_)
                  have L88 : ∀ (N : Nat) (p9 : Nat), w t + 2 - p9 < N → (1 ≤ p9 ∧ p9 ≤ w t + 1) → (∀ p, 1 ≤ p → p < p9 → sm (576 * t + 9 * j + p) = sm (576 * u + 9 * j + p)) → ∀ ls : Array Slot, lv_has ls 5 [(0, .ref mo), (1, .int (iI (t : Int))), (2, .int (iI (u : Int))), (3, .int (iI (j : Int))), (4, .int (iI (p9 : Int)))] → W p l e R s m args below meth cd H locs 0 0 Q (F0 m 88 ls []) := by
                    intro N
                    induction N with
                    | zero => intro p9 hN; exact absurd hN (by omega)
                    | succ N ih =>
                      intro p9 hN hp hpp  ls hl
                      have ih88 := ih
                      refine lv_iload hx hb d_M_same_88 (lv_at hl 4 rfl) ?_
                      refine lv_aload_n hx hb d_M_same_90 rfl (lv_at hl 0 rfl) ?_
                      refine hp_get (C := R_M) (T := F_M) (N := 19) (v := .ref (mo + 1)) hx hb hG la_M hown hK.1 hm rfl 1 (by decide) (hG _ fl_M_7) (fun _ h9 => h9) rfl d_M_same_91 ?_
                      refine lv_iload_n hx hb d_M_same_94 rfl (lv_at hl 1 rfl) ?_
                      refine hp_iald hx hb hK.1 0 hsd rfl d_M_same_95 (by omega) t (by omega) (by omega) ?_
                      refine hp_icmp_gt (tgt := 146) hx hb d_M_same_96 (by decide) (by unfold iR at *; omega) (by unfold iR at *; omega) (fun c96 => ?_) (fun c96 => ?_)
                      · skip
                        refine hp_iinc (z := ((j : Int) + 1)) (lv' := [(3, .int (iI ((j : Int) + 1))), (0, .ref mo), (1, .int (iI (t : Int))), (2, .int (iI (u : Int))), (4, .int (iI (p9 : Int)))]) hx hb d_M_same_146 hl (k := 3) rfl (by omega) (by decide) rfl (fun ls hl => ?_)
                        refine lv_goto (tgt := 75) hx hb d_M_same_149 (by decide) ?_
                        exact ih75  (j + 1) (by omega) (by omega) (by intro i h9 p h1 h2; by_cases e9 : i = j; (rw [e9]; exact hpp p h1 (by omega)); exact hjj i (by omega) p h1 h2) ls (lv_sub hl [1, 2, 3, 0] rfl)
                      · skip
                        have hr1 := kN_rng hkt (j := j) (p := p9) (by omega) (by omega) (by omega)
                        have hr2 := kN_rng hku (j := j) (p := p9) (by omega) (by omega) (by omega)
                        refine lv_aload_n hx hb d_M_same_99 rfl (lv_at hl 0 rfl) ?_
                        refine hp_get (C := R_M) (T := F_M) (N := 19) (v := .ref (mo + 13)) hx hb hG la_M hown hK.1 hm rfl 16 (by decide) (hG _ fl_M_47) (fun _ h9 => h9) rfl d_M_same_100 ?_
                        refine hp_sipush (z := 576) hx hb d_M_same_103 (by rfl) ?_
                        refine lv_iload_n hx hb d_M_same_106 rfl (lv_at hl 1 rfl) ?_
                        refine hp_imul hx hb d_M_same_107 ?_
                        refine hp_bipush (z := 9) hx hb d_M_same_108 (by rfl) ?_
                        refine lv_iload_n hx hb d_M_same_110 rfl (lv_at hl 3 rfl) ?_
                        refine hp_imul hx hb d_M_same_111 ?_
                        refine hp_iadd hx hb d_M_same_112 ?_
                        refine lv_iload hx hb d_M_same_113 (lv_at hl 4 rfl) ?_
                        refine hp_iadd hx hb d_M_same_115 ?_
                        refine hp_iald hx hb hK.1 0 hsm rfl d_M_same_116 (by omega) (576 * t + 9 * j + p9) (by omega) (by omega) ?_
                        refine lv_aload_n hx hb d_M_same_117 rfl (lv_at hl 0 rfl) ?_
                        refine hp_get (C := R_M) (T := F_M) (N := 19) (v := .ref (mo + 13)) hx hb hG la_M hown hK.1 hm rfl 16 (by decide) (hG _ fl_M_47) (fun _ h9 => h9) rfl d_M_same_118 ?_
                        refine hp_sipush (z := 576) hx hb d_M_same_121 (by rfl) ?_
                        refine lv_iload_n hx hb d_M_same_124 rfl (lv_at hl 2 rfl) ?_
                        refine hp_imul hx hb d_M_same_125 ?_
                        refine hp_bipush (z := 9) hx hb d_M_same_126 (by rfl) ?_
                        refine lv_iload_n hx hb d_M_same_128 rfl (lv_at hl 3 rfl) ?_
                        refine hp_imul hx hb d_M_same_129 ?_
                        refine hp_iadd hx hb d_M_same_130 ?_
                        refine lv_iload hx hb d_M_same_131 (lv_at hl 4 rfl) ?_
                        refine hp_iadd hx hb d_M_same_133 ?_
                        refine hp_iald hx hb hK.1 0 hsm rfl d_M_same_134 (by omega) (576 * u + 9 * j + p9) (by omega) (by omega) ?_
                        refine hp_icmp_eq (tgt := 140) hx hb d_M_same_135 (by decide) (by unfold iR at *; omega) (by unfold iR at *; omega) (fun c135 => ?_) (fun c135 => ?_)
                        · skip
                          refine hp_iinc (z := ((p9 : Int) + 1)) (lv' := [(4, .int (iI ((p9 : Int) + 1))), (0, .ref mo), (1, .int (iI (t : Int))), (2, .int (iI (u : Int))), (3, .int (iI (j : Int)))]) hx hb d_M_same_140 hl (k := 4) rfl (by omega) (by decide) rfl (fun ls hl => ?_)
                          refine lv_goto (tgt := 88) hx hb d_M_same_143 (by decide) ?_
                          exact ih88  (p9 + 1) (by omega) (by omega) (by intro p h1 h2; by_cases e9 : p = p9; (rw [e9]; exact c135); exact hpp p h1 (by omega)) ls (lv_sub hl [1, 2, 3, 4, 0] rfl)
                        · skip
                          refine hp_iconst (z := 0) hx hb d_M_same_138 (by rfl) ?_
                          rw [hQ]
                          refine hp_zretQ hx hb hrt hlocks d_M_same_139 false (by first | rfl | assumption | simp [bI]) hS hZ ?_
                          rw [Int.toNat_natCast t, Int.toNat_natCast u]
                          exact Or.inr ⟨by omega, ⟨_, _, _, _, _, _, _, _, _, _, _, _, _, ⟨⟨hm, hsd, hsz, hwd, hkn⟩, hlf, hnx, hbf, hpo, hta, hen, htu, hsi, hsm⟩, hks⟩, _, _, _, _, _, _, hkt, hku, Or.inr rfl, fun h9 => absurd h9 (by decide), fun h9 => by exfalso; exact c135 (h9.2.2 j (by omega) p9 (by omega) (by omega))⟩
                  exact L88 (w t + 2 - 1 + 1) 1 (by omega) (by omega) (by intro p h1 h2; omega) ls (lv_sub hl [1, 2, 3, 4, 0] rfl)
            exact L75 (si t - 0 + 1) 0 (by omega) (by omega) (by intro i h9; omega) ls (lv_sub hl [1, 2, 3, 0] rfl)
          · skip
            refine hp_iconst (z := 0) hx hb d_M_same_71 (by rfl) ?_
            rw [hQ]
            refine hp_zretQ hx hb hrt hlocks d_M_same_72 false (by first | rfl | assumption | simp [bI]) hS hZ ?_
            rw [Int.toNat_natCast t, Int.toNat_natCast u]
            exact Or.inr ⟨by omega, ⟨_, _, _, _, _, _, _, _, _, _, _, _, _, ⟨⟨hm, hsd, hsz, hwd, hkn⟩, hlf, hnx, hbf, hpo, hta, hen, htu, hsi, hsm⟩, hks⟩, _, _, _, _, _, _, hkt, hku, Or.inr rfl, fun h9 => absurd h9 (by decide), fun h9 => by exfalso; omega⟩
      · skip
        refine hp_iconst (z := 0) hx hb d_M_same_29 (by rfl) ?_
        rw [hQ]
        refine hp_zretQ hx hb hrt hlocks d_M_same_30 false (by first | rfl | assumption | simp [bI]) hS hZ ?_
        first | exact Or.inl ⟨by omega, rfl, ⟨_, _, _, _, _, _, _, _, _, _, _, _, _, ⟨⟨hm, hsd, hsz, hwd, hkn⟩, hlf, hnx, hbf, hpo, hta, hen, htu, hsi, hsm⟩, hks⟩⟩ | (rw [Int.toNat_natCast t, Int.toNat_natCast u]; exact Or.inl ⟨by omega, rfl, ⟨_, _, _, _, _, _, _, _, _, _, _, _, _, ⟨⟨hm, hsd, hsz, hwd, hkn⟩, hlf, hnx, hbf, hpo, hta, hen, htu, hsi, hsm⟩, hks⟩⟩)
