set_option maxHeartbeats 4000000 in
set_option maxRecDepth 100000 in
/-- isSlot(s) -/
theorem c_B_isSlot (l : Launch) (E : hp_E) (s0 : Int) (hs0 : iR s0) : Met l y_B_isSlot (Cond.code y_B_isSlot b_B_isSlot 1 (some .boolean) :: G0) ({ frames := 0, cells := 0, slots := 0, locals := 0 }) (hp_P E [.int (iI s0)] (fun H => True)) (hp_Si (bI (decide (0 ≤ s0 ∧ s0 < 4)))) 0 0 (fun _ => False) := by
  refine Met.ofW (cc := b_B_isSlot) (maxL := 1) (ret := some .boolean) (by decide) rfl ?_
  intro p e s m args below meth cd s₁ Bd hml hv
  obtain ⟨hargs, hB, hK⟩ := hv
  have hx := Bd.exec
  have hb := Bd.bytes
  have hrt := Bd.returns
  have hts := atoms_spec (ws := Cond.code y_B_isSlot b_B_isSlot 1 (some .boolean) :: G0) Bd.pre
  have hG : ∀ w ∈ G0, w.before args s = true := fun w h => hts w (List.mem_cons_of_mem _ h)
  have hown : s.vm.findClass R_B = some m.cls := findClass_of_methodNamed Bd.named
  have hlocks := Bd.notSynchronized
  have hl := lv_entry ([.int (iI s0)]) (n := 1) (Nat.le_of_ble_eq_true rfl)
  rw [show entryFrame m args 1 = entryFrame m ([.int (iI s0)] : List Value).toArray 1 from by rw [hargs]]
  rw [lg_entry_eq]
  generalize (lg_sl ([.int (iI s0)]) ++ List.replicate (1 - (lg_sl ([.int (iI s0)])).length) Slot.unset).toArray = ls at hl ⊢
  have hl : lv_has ls 1 [(0, .int (iI s0))] := hl
  obtain ⟨R, hR⟩ : ∃ R, R = (headSpec (Cond.code y_B_isSlot b_B_isSlot 1 (some .boolean) :: G0) { frames := 0, cells := 0, slots := 0, locals := 0 }).room := ⟨_, rfl⟩
  rw [← hR]
  have hRf : R.frames = 0 := by rw [hR]; rfl
  have hRl : R.locals = 0 := by rw [hR]; rfl
  have hRc : R.cells = 0 := by rw [hR]; rfl
  have hRs : R.slots = 0 := by rw [hR]; rfl
  obtain ⟨Q, hQ⟩ : ∃ Q, Q = MQ below (hp_Si (bI (decide (0 ≤ s0 ∧ s0 < 4)))) args s 0 0 (fun _ => False) := ⟨_, rfl⟩
  rw [← hQ]
  skip
  refine lv_iload_n hx hb d_B_isSlot_0 rfl (lv_at hl 0 rfl) ?_
  refine hp_if_lt (tgt := 13) hx hb d_B_isSlot_1 (by decide) (by unfold iR at *; omega) (fun c1 => ?_) (fun c1 => ?_)
  · skip
    refine hp_iconst (z := 0) hx hb d_B_isSlot_13 (by rfl) ?_
    rw [hQ]
    refine hp_zretS hx hb hrt hlocks d_B_isSlot_14 ?_
    simp only [bI]
    split <;> simp_all <;> omega
  · skip
    refine lv_iload_n hx hb d_B_isSlot_4 rfl (lv_at hl 0 rfl) ?_
    refine hp_iconst (z := 4) hx hb d_B_isSlot_5 (by rfl) ?_
    refine hp_icmp_ge (tgt := 13) hx hb d_B_isSlot_6 (by decide) (by unfold iR at *; omega) (by unfold iR at *; omega) (fun c6 => ?_) (fun c6 => ?_)
    · skip
      refine hp_iconst (z := 0) hx hb d_B_isSlot_13 (by rfl) ?_
      rw [hQ]
      refine hp_zretS hx hb hrt hlocks d_B_isSlot_14 ?_
      simp only [bI]
      split <;> simp_all <;> omega
    · skip
      refine hp_iconst (z := 1) hx hb d_B_isSlot_9 (by rfl) ?_
      refine lv_goto (tgt := 14) hx hb d_B_isSlot_10 (by decide) ?_
      rw [hQ]
      refine hp_zretS hx hb hrt hlocks d_B_isSlot_14 ?_
      simp only [bI]
      split <;> simp_all <;> omega

set_option maxHeartbeats 4000000 in
set_option maxRecDepth 100000 in
/-- at(s, k) -/
theorem c_B_at (l : Launch) (E : hp_E) (o : Nat) (w c : Nat → Nat) (f : Nat → Nat → Int) (s0 k0 : Int) (hs0 : iR s0) (hk0 : iR k0) : Met l y_B_at (Cond.code y_B_at b_B_at 3 (some .int) :: G0) ({ frames := 1, cells := 0, slots := 0, locals := 22 }) (hp_P E [.ref o, .int (iI s0), .int (iI k0)] (fun H => bAt E H o w c f)) (hp_Si (if 0 ≤ s0 ∧ s0 < 4 ∧ 0 ≤ k0 ∧ k0 < (c s0.toNat : Int) then f s0.toNat k0.toNat else 0)) 0 0 (fun _ => False) := by
  refine Met.ofW (cc := b_B_at) (maxL := 3) (ret := some .int) (by decide) rfl ?_
  intro p e s m args below meth cd s₁ Bd hml hv
  obtain ⟨hargs, hB, hK⟩ := hv
  have hx := Bd.exec
  have hb := Bd.bytes
  have hrt := Bd.returns
  have hts := atoms_spec (ws := Cond.code y_B_at b_B_at 3 (some .int) :: G0) Bd.pre
  have hG : ∀ w ∈ G0, w.before args s = true := fun w h => hts w (List.mem_cons_of_mem _ h)
  have hown : s.vm.findClass R_B = some m.cls := findClass_of_methodNamed Bd.named
  have hlocks := Bd.notSynchronized
  have hl := lv_entry ([.ref o, .int (iI s0), .int (iI k0)]) (n := 3) (Nat.le_of_ble_eq_true rfl)
  rw [show entryFrame m args 3 = entryFrame m ([.ref o, .int (iI s0), .int (iI k0)] : List Value).toArray 3 from by rw [hargs]]
  rw [lg_entry_eq]
  generalize (lg_sl ([.ref o, .int (iI s0), .int (iI k0)]) ++ List.replicate (3 - (lg_sl ([.ref o, .int (iI s0), .int (iI k0)])).length) Slot.unset).toArray = ls at hl ⊢
  have hl : lv_has ls 3 [(0, .ref o), (1, .int (iI s0)), (2, .int (iI k0))] := hl
  obtain ⟨R, hR⟩ : ∃ R, R = (headSpec (Cond.code y_B_at b_B_at 3 (some .int) :: G0) { frames := 1, cells := 0, slots := 0, locals := 22 }).room := ⟨_, rfl⟩
  rw [← hR]
  have hRf : R.frames = 1 := by rw [hR]; rfl
  have hRl : R.locals = 22 := by rw [hR]; rfl
  have hRc : R.cells = 0 := by rw [hR]; rfl
  have hRs : R.slots = 0 := by rw [hR]; rfl
  obtain ⟨Q, hQ⟩ : ∃ Q, Q = MQ below (hp_Si (if 0 ≤ s0 ∧ s0 < 4 ∧ 0 ≤ k0 ∧ k0 < (c s0.toNat : Int) then f s0.toNat k0.toNat else 0)) args s 0 0 (fun _ => False) := ⟨_, rfl⟩
  rw [← hQ]
  have hbt := hB
  obtain ⟨hb0, hb1, hb2, hWs, hNs⟩ := id hbt
  refine lv_iload_n hx hb d_B_at_0 rfl (lv_at hl 1 rfl) ?_
  refine hp_callS (W.runS (As := [.int (iI s0)]) (rest := []) ⟨hx, hb, hml, hown, hG⟩ (c_B_isSlot l E s0 (by unfold iR at *; omega)) (cwS 1 hG (hp_goodS ml_B_23 st_B_isSlot in_B co_B_isSlot) rfl rfl rfl hd_B_isSlot ⟨by rw [hRf]; exact Nat.le_of_ble_eq_true rfl, by rw [hRl]; exact Nat.le_of_ble_eq_true rfl⟩) (hp_preS hp_nsn hK trivial) rfl rfl hl.1 rfl (lv_room (Nat.le_of_ble_eq_true rfl)) d_B_at_1 ⟨by rw [hRc]; exact Nat.le_of_ble_eq_true rfl, by rw [hRs]; exact Nat.le_of_ble_eq_true rfl⟩) ?_
  refine hp_ifb_eq (tgt := 35) hx hb d_B_at_4 (by decide) (fun c4 => ?_) (fun c4 => ?_)
  · skip
    have c4 := of_decide_eq_false c4
    refine hp_iconst (z := 0) hx hb d_B_at_35 (by rfl) ?_
    rw [hQ]
    refine hp_iretS hx hb hrt hlocks d_B_at_36 ?_
    first | (rw [if_neg (by omega)]) | (rw [Int.toNat_natCast, if_neg (by omega)]) | (rw [Int.toNat_natCast, Int.toNat_natCast, if_pos (by omega)])
  · skip
    have c4 := of_decide_eq_true c4
    obtain ⟨t, rfl⟩ : ∃ q : Nat, s0 = (q : Int) := ⟨s0.toNat, by omega⟩
    obtain ⟨⟨hw, hf1⟩, hv⟩ := hWs t (by omega)
    have hv1 := hv.1
    have hv2 := hv.2.1
    have hv3 := hv.2.2.1
    have hbd := hv.2.2.2.1
    have hok := hv.2.2.2.2
    refine lv_aload_n hx hb d_B_at_7 rfl (lv_at hl 0 rfl) ?_
    refine hp_get (C := R_B) (T := F_B) (N := 2) (v := .ref (o + 1)) hx hb hG la_B hown hK.1 hb0 rfl 0 (by decide) (hG _ fl_B_11) (fun _ h9 => h9) rfl d_B_at_8 ?_
    refine lv_iload_n hx hb d_B_at_11 rfl (lv_at hl 1 rfl) ?_
    refine hp_aald hx hb hK.1 2 hb1 rfl rfl d_B_at_12 (by omega) t (by omega) (by omega) (v := .ref (o + 3 + 39 * t)) (by rw [if_pos (by omega)]; rfl) ?_
    refine lv_iload_n hx hb d_B_at_13 rfl (lv_at hl 2 rfl) ?_
    refine hp_iconst (z := 1) hx hb d_B_at_14 (by rfl) ?_
    refine hp_callS (W.runV (As := [.int (iI k0), .int (iI 1)]) (rest := []) ⟨hx, hb, hml, hown, hG⟩ (c_W_hasLetters l E (o + 3 + 39 * t) (w t) (c t) (f t) k0 1 hk0 (by omega) hv3) (cwV 2 hG (hp_goodV ml_B_58 im_W_hasLetters se_W_hasLetters in_W co_W_hasLetters) rfl rfl rfl hd_W_hasLetters ⟨by rw [hRf]; exact Nat.le_of_ble_eq_true rfl, by rw [hRl]; exact Nat.le_of_ble_eq_true rfl⟩) (hp_preV (ci := 0) hp_nsn hK rfl hw ⟨hw, hf1⟩) rfl rfl hl.1 rfl (lv_room (Nat.le_of_ble_eq_true rfl)) d_B_at_15 ⟨by rw [hRc]; exact Nat.le_of_ble_eq_true rfl, by rw [hRs]; exact Nat.le_of_ble_eq_true rfl⟩) ?_
    refine hp_ifb_eq (tgt := 35) hx hb d_B_at_18 (by decide) (fun c18 => ?_) (fun c18 => ?_)
    · skip
      have c18 := of_decide_eq_false c18
      refine hp_iconst (z := 0) hx hb d_B_at_35 (by rfl) ?_
      rw [hQ]
      refine hp_iretS hx hb hrt hlocks d_B_at_36 ?_
      first | (rw [if_neg (by omega)]) | (rw [Int.toNat_natCast, if_neg (by omega)]) | (rw [Int.toNat_natCast, Int.toNat_natCast, if_pos (by omega)])
    · skip
      have c18 := of_decide_eq_true c18
      obtain ⟨k, rfl⟩ : ∃ q : Nat, k0 = (q : Int) := ⟨k0.toNat, by omega⟩
      refine lv_aload_n hx hb d_B_at_21 rfl (lv_at hl 0 rfl) ?_
      refine hp_get (C := R_B) (T := F_B) (N := 2) (v := .ref (o + 1)) hx hb hG la_B hown hK.1 hb0 rfl 0 (by decide) (hG _ fl_B_11) (fun _ h9 => h9) rfl d_B_at_22 ?_
      refine lv_iload_n hx hb d_B_at_25 rfl (lv_at hl 1 rfl) ?_
      refine hp_aald hx hb hK.1 2 hb1 rfl rfl d_B_at_26 (by omega) t (by omega) (by omega) (v := .ref (o + 3 + 39 * t)) (by rw [if_pos (by omega)]; rfl) ?_
      refine hp_get (C := R_W) (T := F_W) (N := 3) (v := .ref (o + 3 + 39 * t + 1)) hx hb hG la_W hown hK.1 hw rfl 0 (by decide) (hG _ fl_B_62) (fun _ h9 => h9) rfl d_B_at_27 ?_
      refine lv_iload_n hx hb d_B_at_30 rfl (lv_at hl 2 rfl) ?_
      refine hp_iald hx hb hK.1 0 hf1 rfl d_B_at_31 (by omega) k (by omega) (by omega) ?_
      refine lv_goto (tgt := 36) hx hb d_B_at_32 (by decide) ?_
      rw [hQ]
      refine hp_iretS hx hb hrt hlocks d_B_at_36 ?_
      first | (rw [if_neg (by omega)]) | (rw [Int.toNat_natCast, if_neg (by omega)]) | (rw [Int.toNat_natCast, Int.toNat_natCast, if_pos (by omega)])

set_option maxHeartbeats 4000000 in
set_option maxRecDepth 100000 in
/-- end(s, p) -/
theorem c_B_end (l : Launch) (E : hp_E) (o : Nat) (w c : Nat → Nat) (f : Nat → Nat → Int) (s0 p0 : Int) (hs0 : iR s0) (hp0 : iR p0) : Met l y_B_end (Cond.code y_B_end b_B_end 3 (some .int) :: G0) ({ frames := 3, cells := 0, slots := 0, locals := 65 }) (hp_P E [.ref o, .int (iI s0), .int (iI p0)] (fun H => bAt E H o w c f)) (hp_Si (if 0 ≤ s0 ∧ s0 < 4 ∧ 1 ≤ p0 ∧ p0 ≤ (w s0.toNat : Int) then bw_end (f s0.toNat) (c s0.toNat) p0 else 0)) 0 0 (fun _ => False) := by
  refine Met.ofW (cc := b_B_end) (maxL := 3) (ret := some .int) (by decide) rfl ?_
  intro p e s m args below meth cd s₁ Bd hml hv
  obtain ⟨hargs, hB, hK⟩ := hv
  have hx := Bd.exec
  have hb := Bd.bytes
  have hrt := Bd.returns
  have hts := atoms_spec (ws := Cond.code y_B_end b_B_end 3 (some .int) :: G0) Bd.pre
  have hG : ∀ w ∈ G0, w.before args s = true := fun w h => hts w (List.mem_cons_of_mem _ h)
  have hown : s.vm.findClass R_B = some m.cls := findClass_of_methodNamed Bd.named
  have hlocks := Bd.notSynchronized
  have hl := lv_entry ([.ref o, .int (iI s0), .int (iI p0)]) (n := 3) (Nat.le_of_ble_eq_true rfl)
  rw [show entryFrame m args 3 = entryFrame m ([.ref o, .int (iI s0), .int (iI p0)] : List Value).toArray 3 from by rw [hargs]]
  rw [lg_entry_eq]
  generalize (lg_sl ([.ref o, .int (iI s0), .int (iI p0)]) ++ List.replicate (3 - (lg_sl ([.ref o, .int (iI s0), .int (iI p0)])).length) Slot.unset).toArray = ls at hl ⊢
  have hl : lv_has ls 3 [(0, .ref o), (1, .int (iI s0)), (2, .int (iI p0))] := hl
  obtain ⟨R, hR⟩ : ∃ R, R = (headSpec (Cond.code y_B_end b_B_end 3 (some .int) :: G0) { frames := 3, cells := 0, slots := 0, locals := 65 }).room := ⟨_, rfl⟩
  rw [← hR]
  have hRf : R.frames = 3 := by rw [hR]; rfl
  have hRl : R.locals = 65 := by rw [hR]; rfl
  have hRc : R.cells = 0 := by rw [hR]; rfl
  have hRs : R.slots = 0 := by rw [hR]; rfl
  obtain ⟨Q, hQ⟩ : ∃ Q, Q = MQ below (hp_Si (if 0 ≤ s0 ∧ s0 < 4 ∧ 1 ≤ p0 ∧ p0 ≤ (w s0.toNat : Int) then bw_end (f s0.toNat) (c s0.toNat) p0 else 0)) args s 0 0 (fun _ => False) := ⟨_, rfl⟩
  rw [← hQ]
  have hbt := hB
  obtain ⟨hb0, hb1, hb2, hWs, hNs⟩ := id hbt
  refine lv_iload_n hx hb d_B_end_0 rfl (lv_at hl 1 rfl) ?_
  refine hp_callS (W.runS (As := [.int (iI s0)]) (rest := []) ⟨hx, hb, hml, hown, hG⟩ (c_B_isSlot l E s0 (by unfold iR at *; omega)) (cwS 1 hG (hp_goodS ml_B_23 st_B_isSlot in_B co_B_isSlot) rfl rfl rfl hd_B_isSlot ⟨by rw [hRf]; exact Nat.le_of_ble_eq_true rfl, by rw [hRl]; exact Nat.le_of_ble_eq_true rfl⟩) (hp_preS hp_nsn hK trivial) rfl rfl hl.1 rfl (lv_room (Nat.le_of_ble_eq_true rfl)) d_B_end_1 ⟨by rw [hRc]; exact Nat.le_of_ble_eq_true rfl, by rw [hRs]; exact Nat.le_of_ble_eq_true rfl⟩) ?_
  refine hp_ifb_eq (tgt := 33) hx hb d_B_end_4 (by decide) (fun c4 => ?_) (fun c4 => ?_)
  · skip
    have c4 := of_decide_eq_false c4
    refine hp_iconst (z := 0) hx hb d_B_end_33 (by rfl) ?_
    rw [hQ]
    refine hp_iretS hx hb hrt hlocks d_B_end_34 ?_
    first | (rw [if_neg (by omega)]) | (rw [Int.toNat_natCast, if_neg (by omega)]) | (rw [Int.toNat_natCast, if_pos (by omega)])
  · skip
    have c4 := of_decide_eq_true c4
    obtain ⟨t, rfl⟩ : ∃ q : Nat, s0 = (q : Int) := ⟨s0.toNat, by omega⟩
    obtain ⟨⟨hw, hf1⟩, hv⟩ := hWs t (by omega)
    have hv1 := hv.1
    have hv2 := hv.2.1
    have hv3 := hv.2.2.1
    have hbd := hv.2.2.2.1
    have hok := hv.2.2.2.2
    refine lv_aload_n hx hb d_B_end_7 rfl (lv_at hl 0 rfl) ?_
    refine hp_get (C := R_B) (T := F_B) (N := 2) (v := .ref (o + 1)) hx hb hG la_B hown hK.1 hb0 rfl 0 (by decide) (hG _ fl_B_11) (fun _ h9 => h9) rfl d_B_end_8 ?_
    refine lv_iload_n hx hb d_B_end_11 rfl (lv_at hl 1 rfl) ?_
    refine hp_aald hx hb hK.1 2 hb1 rfl rfl d_B_end_12 (by omega) t (by omega) (by omega) (v := .ref (o + 3 + 39 * t)) (by rw [if_pos (by omega)]; rfl) ?_
    refine lv_iload_n hx hb d_B_end_13 rfl (lv_at hl 2 rfl) ?_
    refine hp_callS (W.runV (As := [.int (iI p0)]) (rest := []) ⟨hx, hb, hml, hown, hG⟩ (c_W_hasPlace l E (o + 3 + 39 * t) (w t) (c t) (f t) p0 hp0 hv2) (cwV 1 hG (hp_goodV ml_B_66 im_W_hasPlace se_W_hasPlace in_W co_W_hasPlace) rfl rfl rfl hd_W_hasPlace ⟨by rw [hRf]; exact Nat.le_of_ble_eq_true rfl, by rw [hRl]; exact Nat.le_of_ble_eq_true rfl⟩) (hp_preV (ci := 0) hp_nsn hK rfl hw ⟨hw, hf1⟩) rfl rfl hl.1 rfl (lv_room (Nat.le_of_ble_eq_true rfl)) d_B_end_14 ⟨by rw [hRc]; exact Nat.le_of_ble_eq_true rfl, by rw [hRs]; exact Nat.le_of_ble_eq_true rfl⟩) ?_
    refine hp_ifb_eq (tgt := 33) hx hb d_B_end_17 (by decide) (fun c17 => ?_) (fun c17 => ?_)
    · skip
      have c17 := of_decide_eq_false c17
      refine hp_iconst (z := 0) hx hb d_B_end_33 (by rfl) ?_
      rw [hQ]
      refine hp_iretS hx hb hrt hlocks d_B_end_34 ?_
      first | (rw [if_neg (by omega)]) | (rw [Int.toNat_natCast, if_neg (by omega)]) | (rw [Int.toNat_natCast, if_pos (by omega)])
    · skip
      have c17 := of_decide_eq_true c17
      refine lv_aload_n hx hb d_B_end_20 rfl (lv_at hl 0 rfl) ?_
      refine hp_get (C := R_B) (T := F_B) (N := 2) (v := .ref (o + 1)) hx hb hG la_B hown hK.1 hb0 rfl 0 (by decide) (hG _ fl_B_11) (fun _ h9 => h9) rfl d_B_end_21 ?_
      refine lv_iload_n hx hb d_B_end_24 rfl (lv_at hl 1 rfl) ?_
      refine hp_aald hx hb hK.1 2 hb1 rfl rfl d_B_end_25 (by omega) t (by omega) (by omega) (v := .ref (o + 3 + 39 * t)) (by rw [if_pos (by omega)]; rfl) ?_
      refine lv_iload_n hx hb d_B_end_26 rfl (lv_at hl 2 rfl) ?_
      refine hp_callS (W.runV (As := [.int (iI p0)]) (rest := []) ⟨hx, hb, hml, hown, hG⟩ (c_W_endOf l E (o + 3 + 39 * t) (w t) (c t) (f t) p0 (by omega) hv3 hbd) (cwV 1 hG (hp_goodV ml_B_69 im_W_endOf se_W_endOf in_W co_W_endOf) rfl rfl rfl hd_W_endOf ⟨by rw [hRf]; exact Nat.le_of_ble_eq_true rfl, by rw [hRl]; exact Nat.le_of_ble_eq_true rfl⟩) (hp_preV (ci := 0) hp_nsn hK rfl hw ⟨hw, hf1⟩) rfl rfl hl.1 rfl (lv_room (Nat.le_of_ble_eq_true rfl)) d_B_end_27 ⟨by rw [hRc]; exact Nat.le_of_ble_eq_true rfl, by rw [hRs]; exact Nat.le_of_ble_eq_true rfl⟩) ?_
      refine lv_goto (tgt := 34) hx hb d_B_end_30 (by decide) ?_
      rw [hQ]
      refine hp_iretS hx hb hrt hlocks d_B_end_34 ?_
      first | (rw [if_neg (by omega)]) | (rw [Int.toNat_natCast, if_neg (by omega)]) | (rw [Int.toNat_natCast, if_pos (by omega)])

set_option maxHeartbeats 4000000 in
set_option maxRecDepth 100000 in
/-- strands(s, n) -/
theorem c_B_strands (l : Launch) (E : hp_E) (o : Nat) (w c : Nat → Nat) (f : Nat → Nat → Int) (s0 n0 : Int) (hs0 : iR s0) (hn0 : iR n0) : Met l y_B_strands (Cond.code y_B_strands b_B_strands 3 (some .boolean) :: G0) ({ frames := 1, cells := 0, slots := 0, locals := 21 }) (hp_P E [.ref o, .int (iI s0), .int (iI n0)] (fun H => bAt E H o w c f)) (hp_Qi (fun q => o ≤ q ∧ q ≤ o + 158) (fun r H => (r = 1 ∧ (0 ≤ s0 ∧ s0 < 4 ∧ 1 ≤ n0 ∧ n0 ≤ 8) ∧ bAt E H o (hp_up w s0.toNat n0.toNat) (hp_up c s0.toNat 0) (hp_up f s0.toNat (f s0.toNat))) ∨ (r = 0 ∧ ¬ (0 ≤ s0 ∧ s0 < 4 ∧ 1 ≤ n0 ∧ n0 ≤ 8) ∧ bAt E H o w c f))) 0 0 (fun q => o ≤ q ∧ q ≤ o + 158) := by
  refine Met.ofW (cc := b_B_strands) (maxL := 3) (ret := some .boolean) (by decide) rfl ?_
  intro p e s m args below meth cd s₁ Bd hml hv
  obtain ⟨hargs, hB, hK⟩ := hv
  have hx := Bd.exec
  have hb := Bd.bytes
  have hrt := Bd.returns
  have hts := atoms_spec (ws := Cond.code y_B_strands b_B_strands 3 (some .boolean) :: G0) Bd.pre
  have hG : ∀ w ∈ G0, w.before args s = true := fun w h => hts w (List.mem_cons_of_mem _ h)
  have hown : s.vm.findClass R_B = some m.cls := findClass_of_methodNamed Bd.named
  have hlocks := Bd.notSynchronized
  have hl := lv_entry ([.ref o, .int (iI s0), .int (iI n0)]) (n := 3) (Nat.le_of_ble_eq_true rfl)
  rw [show entryFrame m args 3 = entryFrame m ([.ref o, .int (iI s0), .int (iI n0)] : List Value).toArray 3 from by rw [hargs]]
  rw [lg_entry_eq]
  generalize (lg_sl ([.ref o, .int (iI s0), .int (iI n0)]) ++ List.replicate (3 - (lg_sl ([.ref o, .int (iI s0), .int (iI n0)])).length) Slot.unset).toArray = ls at hl ⊢
  have hl : lv_has ls 3 [(0, .ref o), (1, .int (iI s0)), (2, .int (iI n0))] := hl
  obtain ⟨R, hR⟩ : ∃ R, R = (headSpec (Cond.code y_B_strands b_B_strands 3 (some .boolean) :: G0) { frames := 1, cells := 0, slots := 0, locals := 21 }).room := ⟨_, rfl⟩
  rw [← hR]
  have hRf : R.frames = 1 := by rw [hR]; rfl
  have hRl : R.locals = 21 := by rw [hR]; rfl
  have hRc : R.cells = 0 := by rw [hR]; rfl
  have hRs : R.slots = 0 := by rw [hR]; rfl
  obtain ⟨Q, hQ⟩ : ∃ Q, Q = MQ below (hp_Qi (fun q => o ≤ q ∧ q ≤ o + 158) (fun r H => (r = 1 ∧ (0 ≤ s0 ∧ s0 < 4 ∧ 1 ≤ n0 ∧ n0 ≤ 8) ∧ bAt E H o (hp_up w s0.toNat n0.toNat) (hp_up c s0.toNat 0) (hp_up f s0.toNat (f s0.toNat))) ∨ (r = 0 ∧ ¬ (0 ≤ s0 ∧ s0 < 4 ∧ 1 ≤ n0 ∧ n0 ≤ 8) ∧ bAt E H o w c f))) args s 0 0 (fun q => o ≤ q ∧ q ≤ o + 158) := ⟨_, rfl⟩
  rw [← hQ]
  obtain ⟨H, hH⟩ : ∃ H, H = s.heap := ⟨_, rfl⟩
  obtain ⟨locs, hlocs⟩ : ∃ locs : List Loc, locs = [] := ⟨_, rfl⟩
  have hS : va_S (fun q => o ≤ q ∧ q ≤ o + 158) s.heap H locs := by rw [hH, hlocs]; exact va_S.rf
  have hZ : H.size = s.heap.size := by rw [hH]
  rw [← hH] at hB
  rw [show W p l e R s m args below meth cd s.heap [] 0 0 Q (F0 m 0 ls []) = W p l e R s m args below meth cd H locs 0 0 Q (F0 m 0 ls []) from by rw [hH, hlocs]]
  have hbt := hB
  obtain ⟨hb0, hb1, hb2, hWs, hNs⟩ := id hbt
  refine lv_iload_n hx hb d_B_strands_0 rfl (lv_at hl 1 rfl) ?_
  refine hp_callS (W.runS (As := [.int (iI s0)]) (rest := []) ⟨hx, hb, hml, hown, hG⟩ (c_B_isSlot l E s0 (by unfold iR at *; omega)) (cwS 1 hG (hp_goodS ml_B_23 st_B_isSlot in_B co_B_isSlot) rfl rfl rfl hd_B_isSlot ⟨by rw [hRf]; exact Nat.le_of_ble_eq_true rfl, by rw [hRl]; exact Nat.le_of_ble_eq_true rfl⟩) (hp_preS hp_nsn hK trivial) rfl rfl hl.1 rfl (lv_room (Nat.le_of_ble_eq_true rfl)) d_B_strands_1 ⟨by rw [hRc]; exact Nat.le_of_ble_eq_true rfl, by rw [hRs]; exact Nat.le_of_ble_eq_true rfl⟩) ?_
  refine hp_ifb_eq (tgt := 18) hx hb d_B_strands_4 (by decide) (fun c4 => ?_) (fun c4 => ?_)
  · skip
    have c4 := of_decide_eq_false c4
    refine hp_iconst (z := 0) hx hb d_B_strands_18 (by rfl) ?_
    rw [hQ]
    refine hp_zretQ hx hb hrt hlocks d_B_strands_19 false (by first | rfl | assumption | simp [bI]) hS hZ ?_
    exact Or.inr ⟨rfl, by omega, hbt⟩
  · skip
    have c4 := of_decide_eq_true c4
    refine lv_iload_n hx hb d_B_strands_7 rfl (lv_at hl 2 rfl) ?_
    refine hp_iconst (z := 1) hx hb d_B_strands_8 (by rfl) ?_
    refine hp_icmp_lt (tgt := 18) hx hb d_B_strands_9 (by decide) (by unfold iR at *; omega) (by unfold iR at *; omega) (fun c9 => ?_) (fun c9 => ?_)
    · skip
      refine hp_iconst (z := 0) hx hb d_B_strands_18 (by rfl) ?_
      rw [hQ]
      refine hp_zretQ hx hb hrt hlocks d_B_strands_19 false (by first | rfl | assumption | simp [bI]) hS hZ ?_
      exact Or.inr ⟨rfl, by omega, hbt⟩
    · skip
      refine lv_iload_n hx hb d_B_strands_12 rfl (lv_at hl 2 rfl) ?_
      refine hp_bipush (z := 8) hx hb d_B_strands_13 (by rfl) ?_
      refine hp_icmp_le (tgt := 20) hx hb d_B_strands_15 (by decide) (by unfold iR at *; omega) (by unfold iR at *; omega) (fun c15 => ?_) (fun c15 => ?_)
      · skip
        obtain ⟨t, rfl⟩ : ∃ q : Nat, s0 = (q : Int) := ⟨s0.toNat, by omega⟩
        obtain ⟨⟨hw, hf1⟩, hv⟩ := hWs t (by omega)
        have hv1 := hv.1
        have hv2 := hv.2.1
        have hv3 := hv.2.2.1
        have hbd := hv.2.2.2.1
        have hok := hv.2.2.2.2
        obtain ⟨n, rfl⟩ : ∃ q : Nat, n0 = (q : Int) := ⟨n0.toNat, by omega⟩
        refine lv_aload_n hx hb d_B_strands_20 rfl (lv_at hl 0 rfl) ?_
        refine hp_get (C := R_B) (T := F_B) (N := 2) (v := .ref (o + 1)) hx hb hG la_B hown hK.1 hb0 rfl 0 (by decide) (hG _ fl_B_11) (fun _ h9 => h9) rfl d_B_strands_21 ?_
        refine lv_iload_n hx hb d_B_strands_24 rfl (lv_at hl 1 rfl) ?_
        refine hp_aald hx hb hK.1 2 hb1 rfl rfl d_B_strands_25 (by omega) t (by omega) (by omega) (v := .ref (o + 3 + 39 * t)) (by rw [if_pos (by omega)]; rfl) ?_
        refine lv_iload_n hx hb d_B_strands_26 rfl (lv_at hl 2 rfl) ?_
        refine hp_callv (W.runV (As := [.int (iI (n : Int))]) (rest := []) ⟨hx, hb, hml, hown, hG⟩ (c_W_clear l E (o + 3 + 39 * t) (w t) (c t) (f t) n) (cwV 1 hG (hp_goodV ml_B_27 im_W_clear se_W_clear in_W co_W_clear) rfl rfl rfl hd_W_clear ⟨by rw [hRf]; exact Nat.le_of_ble_eq_true rfl, by rw [hRl]; exact Nat.le_of_ble_eq_true rfl⟩) (hp_preV (ci := 0) hp_nsn hK rfl hw ⟨hw, hf1⟩) rfl rfl hl.1 rfl (lv_room (Nat.le_of_ble_eq_true rfl)) d_B_strands_27 ⟨by rw [hRc]; exact Nat.le_of_ble_eq_true rfl, by rw [hRs]; exact Nat.le_of_ble_eq_true rfl⟩) hS (fun q h => by show _ ∧ _; rcases h with h | h <;> omega) (fun H locs hpost hz1 ho1 hS => ?_)
        have hZ := hz1.trans hZ
        have hbt := hbt.word (by omega) ho1 hpost ⟨by omega, by omega, by omega, hbd, fun k hk => by omega⟩
        refine hp_iconst (z := 1) hx hb d_B_strands_30 (by rfl) ?_
        rw [hQ]
        refine hp_zretQ hx hb hrt hlocks d_B_strands_31 true (by first | rfl | assumption | simp [bI]) hS hZ ?_
        rw [Int.toNat_natCast, Int.toNat_natCast]
        exact Or.inl ⟨rfl, by omega, hbt⟩
      · skip
        refine hp_iconst (z := 0) hx hb d_B_strands_18 (by rfl) ?_
        rw [hQ]
        refine hp_zretQ hx hb hrt hlocks d_B_strands_19 false (by first | rfl | assumption | simp [bI]) hS hZ ?_
        exact Or.inr ⟨rfl, by omega, hbt⟩
