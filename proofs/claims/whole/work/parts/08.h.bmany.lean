set_option maxHeartbeats 4000000 in
set_option maxRecDepth 100000 in
/-- many(s, what) -/
theorem c_B_many (l : Launch) (E : hp_E) (o : Nat) (w c : Nat → Nat) (f : Nat → Nat → Int) (s0 x0 : Int) (hs0 : iR s0) (hx0 : iR x0) : Met l y_B_many (Cond.code y_B_many b_B_many 4 (some .int) :: G0) ({ frames := 5, cells := 0, slots := 0, locals := 109 }) (hp_P E [.ref o, .int (iI s0), .int (iI x0)] (fun H => bAt E H o w c f)) (hp_Si (if 0 ≤ s0 ∧ s0 < 4 then (if x0 = 0 then (w s0.toNat : Int) else if x0 = 1 then (c s0.toNat : Int) else if x0 = 2 then bw_sum (f s0.toNat) (c s0.toNat) else if x0 = 3 then bw_cmp (f s0.toNat) (c s0.toNat) (w s0.toNat) else if x0 = 4 then bw_cir (f s0.toNat) (c s0.toNat) (w s0.toNat) else -1000) else -1000)) 0 0 (fun _ => False) := by
  refine Met.ofW (cc := b_B_many) (maxL := 4) (ret := some .int) (by decide) rfl ?_
  intro p e s m args below meth cd s₁ Bd hml hv
  obtain ⟨hargs, hB, hK⟩ := hv
  have hx := Bd.exec
  have hb := Bd.bytes
  have hrt := Bd.returns
  have hts := atoms_spec (ws := Cond.code y_B_many b_B_many 4 (some .int) :: G0) Bd.pre
  have hG : ∀ w ∈ G0, w.before args s = true := fun w h => hts w (List.mem_cons_of_mem _ h)
  have hown : s.vm.findClass R_B = some m.cls := findClass_of_methodNamed Bd.named
  have hlocks := Bd.notSynchronized
  have hl := lv_entry ([.ref o, .int (iI s0), .int (iI x0)]) (n := 4) (Nat.le_of_ble_eq_true rfl)
  rw [show entryFrame m args 4 = entryFrame m ([.ref o, .int (iI s0), .int (iI x0)] : List Value).toArray 4 from by rw [hargs]]
  rw [lg_entry_eq]
  generalize (lg_sl ([.ref o, .int (iI s0), .int (iI x0)]) ++ List.replicate (4 - (lg_sl ([.ref o, .int (iI s0), .int (iI x0)])).length) Slot.unset).toArray = ls at hl ⊢
  have hl : lv_has ls 4 [(0, .ref o), (1, .int (iI s0)), (2, .int (iI x0))] := hl
  obtain ⟨R, hR⟩ : ∃ R, R = (headSpec (Cond.code y_B_many b_B_many 4 (some .int) :: G0) { frames := 5, cells := 0, slots := 0, locals := 109 }).room := ⟨_, rfl⟩
  rw [← hR]
  have hRf : R.frames = 5 := by rw [hR]; rfl
  have hRl : R.locals = 109 := by rw [hR]; rfl
  have hRc : R.cells = 0 := by rw [hR]; rfl
  have hRs : R.slots = 0 := by rw [hR]; rfl
  obtain ⟨Q, hQ⟩ : ∃ Q, Q = MQ below (hp_Si (if 0 ≤ s0 ∧ s0 < 4 then (if x0 = 0 then (w s0.toNat : Int) else if x0 = 1 then (c s0.toNat : Int) else if x0 = 2 then bw_sum (f s0.toNat) (c s0.toNat) else if x0 = 3 then bw_cmp (f s0.toNat) (c s0.toNat) (w s0.toNat) else if x0 = 4 then bw_cir (f s0.toNat) (c s0.toNat) (w s0.toNat) else -1000) else -1000)) args s 0 0 (fun _ => False) := ⟨_, rfl⟩
  rw [← hQ]
  have hbt := hB
  obtain ⟨hb0, hb1, hb2, hWs, hNs⟩ := id hbt
  refine lv_iload_n hx hb d_B_many_0 rfl (lv_at hl 1 rfl) ?_
  refine hp_callS (W.runS (As := [.int (iI s0)]) (rest := []) ⟨hx, hb, hml, hown, hG⟩ (c_B_isSlot l E s0 (by unfold iR at *; omega)) (cwS 1 hG (hp_goodS ml_B_23 st_B_isSlot in_B co_B_isSlot) rfl rfl rfl hd_B_isSlot ⟨by rw [hRf]; exact Nat.le_of_ble_eq_true rfl, by rw [hRl]; exact Nat.le_of_ble_eq_true rfl⟩) (hp_preS hp_nsn hK trivial) rfl rfl hl.1 rfl (lv_room (Nat.le_of_ble_eq_true rfl)) d_B_many_1 ⟨by rw [hRc]; exact Nat.le_of_ble_eq_true rfl, by rw [hRs]; exact Nat.le_of_ble_eq_true rfl⟩) ?_
  refine hp_ifb_ne (tgt := 11) hx hb d_B_many_4 (by decide) (fun c4 => ?_) (fun c4 => ?_)
  · skip
    have c4 := of_decide_eq_true c4
    obtain ⟨t, rfl⟩ : ∃ q : Nat, s0 = (q : Int) := ⟨s0.toNat, by omega⟩
    obtain ⟨⟨hw, hf1⟩, hv⟩ := hWs t (by omega)
    have hv1 := hv.1
    have hv2 := hv.2.1
    have hv3 := hv.2.2.1
    have hbd := hv.2.2.2.1
    have hok := hv.2.2.2.2
    refine lv_aload_n hx hb d_B_many_11 rfl (lv_at hl 0 rfl) ?_
    refine hp_get (C := R_B) (T := F_B) (N := 2) (v := .ref (o + 1)) hx hb hG la_B hown hK.1 hb0 rfl 0 (by decide) (hG _ fl_B_11) (fun _ h9 => h9) rfl d_B_many_12 ?_
    refine lv_iload_n hx hb d_B_many_15 rfl (lv_at hl 1 rfl) ?_
    refine hp_aald hx hb hK.1 2 hb1 rfl rfl d_B_many_16 (by omega) t (by omega) (by omega) (v := .ref (o + 3 + 39 * t)) (by rw [if_pos (by omega)]; rfl) ?_
    refine lv_astore_n (lv' := [(3, .ref (o + 3 + 39 * t)), (0, .ref o), (1, .int (iI (t : Int))), (2, .int (iI x0))]) hx hb d_B_many_17 rfl hl (by decide) rfl (fun ls hl => ?_)
    refine lv_iload_n hx hb d_B_many_18 rfl (lv_at hl 3 rfl) ?_
    rcases (show x0 < 0 ∨ 4 < x0 ∨ x0 = 0 ∨ x0 = 1 ∨ x0 = 2 ∨ x0 = 3 ∨ x0 = 4 by omega) with c19 | c19 | c19 | c19 | c19 | c19 | c19
    · refine lv_tableOut (tgt := 77) hx hb d_B_many_19 (by rw [iI_toInt (by unfold iR at *; omega)]; omega) (by decide) ?_
      refine hp_sipush (z := (-1000)) hx hb d_B_many_77 (by rfl) ?_
      rw [hQ]
      refine hp_iretS hx hb hrt hlocks d_B_many_80 ?_
      rw [Int.toNat_natCast, if_pos (by omega)]
      rw [if_neg (by omega), if_neg (by omega), if_neg (by omega), if_neg (by omega), if_neg (by omega)]
    · refine lv_tableOut (tgt := 77) hx hb d_B_many_19 (by rw [iI_toInt (by unfold iR at *; omega)]; omega) (by decide) ?_
      refine hp_sipush (z := (-1000)) hx hb d_B_many_77 (by rfl) ?_
      rw [hQ]
      refine hp_iretS hx hb hrt hlocks d_B_many_80 ?_
      rw [Int.toNat_natCast, if_pos (by omega)]
      rw [if_neg (by omega), if_neg (by omega), if_neg (by omega), if_neg (by omega), if_neg (by omega)]
    · refine lv_tableIn (tgt := 52) hx hb d_B_many_19 (by rw [iI_toInt (by unfold iR at *; omega)]; omega) (by rw [iI_toInt (by unfold iR at *; omega)]; omega) (by rw [iI_toInt (by unfold iR at *; omega), c19]; rfl) (by decide) ?_
      refine lv_aload_n hx hb d_B_many_52 rfl (lv_at hl 0 rfl) ?_
      refine hp_get (C := R_W) (T := F_W) (N := 3) (v := .int (iI (w t : Int))) hx hb hG la_W hown hK.1 hw rfl 1 (by decide) (hG _ fl_B_45) (fun _ h9 => h9) rfl d_B_many_53 ?_
      rw [hQ]
      refine hp_iretS hx hb hrt hlocks d_B_many_56 ?_
      rw [Int.toNat_natCast, if_pos (by omega)]
      rw [if_pos (by omega)]
    · refine lv_tableIn (tgt := 57) hx hb d_B_many_19 (by rw [iI_toInt (by unfold iR at *; omega)]; omega) (by rw [iI_toInt (by unfold iR at *; omega)]; omega) (by rw [iI_toInt (by unfold iR at *; omega), c19]; rfl) (by decide) ?_
      refine lv_aload_n hx hb d_B_many_57 rfl (lv_at hl 0 rfl) ?_
      refine hp_get (C := R_W) (T := F_W) (N := 3) (v := .int (iI (c t : Int))) hx hb hG la_W hown hK.1 hw rfl 2 (by decide) (hG _ fl_B_34) (fun _ h9 => h9) rfl d_B_many_58 ?_
      rw [hQ]
      refine hp_iretS hx hb hrt hlocks d_B_many_61 ?_
      rw [Int.toNat_natCast, if_pos (by omega)]
      rw [if_neg (by omega), if_pos (by omega)]
    · refine lv_tableIn (tgt := 62) hx hb d_B_many_19 (by rw [iI_toInt (by unfold iR at *; omega)]; omega) (by rw [iI_toInt (by unfold iR at *; omega)]; omega) (by rw [iI_toInt (by unfold iR at *; omega), c19]; rfl) (by decide) ?_
      refine lv_aload_n hx hb d_B_many_62 rfl (lv_at hl 0 rfl) ?_
      refine hp_callS (W.runV (As := []) (rest := []) ⟨hx, hb, hml, hown, hG⟩ (c_W_signSum l E (o + 3 + 39 * t) (w t) (c t) (f t) hv3 hbd) (cwV 0 hG (hp_goodV ml_B_48 im_W_signSum se_W_signSum in_W co_W_signSum) rfl rfl rfl hd_W_signSum ⟨by rw [hRf]; exact Nat.le_of_ble_eq_true rfl, by rw [hRl]; exact Nat.le_of_ble_eq_true rfl⟩) (hp_preV (ci := 0) hp_nsn hK rfl hw ⟨hw, hf1⟩) rfl rfl hl.1 rfl (lv_room (Nat.le_of_ble_eq_true rfl)) d_B_many_63 ⟨by rw [hRc]; exact Nat.le_of_ble_eq_true rfl, by rw [hRs]; exact Nat.le_of_ble_eq_true rfl⟩) ?_
      rw [hQ]
      refine hp_iretS hx hb hrt hlocks d_B_many_66 ?_
      rw [Int.toNat_natCast, if_pos (by omega)]
      rw [if_neg (by omega), if_neg (by omega), if_pos (by omega)]
    · refine lv_tableIn (tgt := 67) hx hb d_B_many_19 (by rw [iI_toInt (by unfold iR at *; omega)]; omega) (by rw [iI_toInt (by unfold iR at *; omega)]; omega) (by rw [iI_toInt (by unfold iR at *; omega), c19]; rfl) (by decide) ?_
      refine lv_aload_n hx hb d_B_many_67 rfl (lv_at hl 0 rfl) ?_
      refine hp_callS (W.runV (As := []) (rest := []) ⟨hx, hb, hml, hown, hG⟩ (c_W_components l E (o + 3 + 39 * t) (w t) (c t) (f t) hv2 hv3 hbd hok) (cwV 0 hG (hp_goodV ml_B_52 im_W_components se_W_components in_W co_W_components) rfl rfl rfl hd_W_components ⟨by rw [hRf]; exact Nat.le_of_ble_eq_true rfl, by rw [hRl]; exact Nat.le_of_ble_eq_true rfl⟩) (hp_preV (ci := 0) hp_nsn hK rfl hw ⟨hw, hf1⟩) rfl rfl hl.1 rfl (lv_room (Nat.le_of_ble_eq_true rfl)) d_B_many_68 ⟨by rw [hRc]; exact Nat.le_of_ble_eq_true rfl, by rw [hRs]; exact Nat.le_of_ble_eq_true rfl⟩) ?_
      rw [hQ]
      refine hp_iretS hx hb hrt hlocks d_B_many_71 ?_
      rw [Int.toNat_natCast, if_pos (by omega)]
      rw [if_neg (by omega), if_neg (by omega), if_neg (by omega), if_pos (by omega)]
    · refine lv_tableIn (tgt := 72) hx hb d_B_many_19 (by rw [iI_toInt (by unfold iR at *; omega)]; omega) (by rw [iI_toInt (by unfold iR at *; omega)]; omega) (by rw [iI_toInt (by unfold iR at *; omega), c19]; rfl) (by decide) ?_
      refine lv_aload_n hx hb d_B_many_72 rfl (lv_at hl 0 rfl) ?_
      refine hp_callS (W.runV (As := []) (rest := []) ⟨hx, hb, hml, hown, hG⟩ (c_W_circles l E (o + 3 + 39 * t) (w t) (c t) (f t) hv2 hv3 hbd) (cwV 0 hG (hp_goodV ml_B_55 im_W_circles se_W_circles in_W co_W_circles) rfl rfl rfl hd_W_circles ⟨by rw [hRf]; exact Nat.le_of_ble_eq_true rfl, by rw [hRl]; exact Nat.le_of_ble_eq_true rfl⟩) (hp_preV (ci := 0) hp_nsn hK rfl hw ⟨hw, hf1⟩) rfl rfl hl.1 rfl (lv_room (Nat.le_of_ble_eq_true rfl)) d_B_many_73 ⟨by rw [hRc]; exact Nat.le_of_ble_eq_true rfl, by rw [hRs]; exact Nat.le_of_ble_eq_true rfl⟩) ?_
      rw [hQ]
      refine hp_iretS hx hb hrt hlocks d_B_many_76 ?_
      rw [Int.toNat_natCast, if_pos (by omega)]
      rw [if_neg (by omega), if_neg (by omega), if_neg (by omega), if_neg (by omega), if_pos (by omega)]
  · skip
    have c4 := of_decide_eq_false c4
    refine hp_sipush (z := (-1000)) hx hb d_B_many_7 (by rfl) ?_
    rw [hQ]
    refine hp_iretS hx hb hrt hlocks d_B_many_10 ?_
    rw [if_neg (by omega)]
