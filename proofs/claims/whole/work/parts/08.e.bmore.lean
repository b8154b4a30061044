set_option maxHeartbeats 4000000 in
set_option maxRecDepth 100000 in
/-- cornerLabel(k, what) -/
theorem c_W_cornerLabel (l : Launch) (E : hp_E) (a w c : Nat) (f : Nat → Int) (k what : Nat) (hk : k < 32) (hwh : what < 4) (hc : c ≤ 32) (hbd : bd f) : Met l y_W_cornerLabel (Cond.code y_W_cornerLabel b_W_cornerLabel 5 (some .int) :: G0) ({ frames := 5, cells := 0, slots := 0, locals := 109 }) (hp_P E [.ref a, .int (iI (k : Int)), .int (iI (what : Int))] (fun H => wAt E H a w c f)) (hp_Si (bw_cor w c f k (what : Int))) 0 0 (fun _ => False) := by
  refine Met.ofW (cc := b_W_cornerLabel) (maxL := 5) (ret := some .int) (by decide) rfl ?_
  intro p e s m args below meth cd s₁ Bd hml hv
  obtain ⟨hargs, hB, hK⟩ := hv
  have hx := Bd.exec
  have hb := Bd.bytes
  have hrt := Bd.returns
  have hts := atoms_spec (ws := Cond.code y_W_cornerLabel b_W_cornerLabel 5 (some .int) :: G0) Bd.pre
  have hG : ∀ w ∈ G0, w.before args s = true := fun w h => hts w (List.mem_cons_of_mem _ h)
  have hown : s.vm.findClass R_W = some m.cls := findClass_of_methodNamed Bd.named
  have hlocks := Bd.notSynchronized
  have hl := lv_entry ([.ref a, .int (iI (k : Int)), .int (iI (what : Int))]) (n := 5) (Nat.le_of_ble_eq_true rfl)
  rw [show entryFrame m args 5 = entryFrame m ([.ref a, .int (iI (k : Int)), .int (iI (what : Int))] : List Value).toArray 5 from by rw [hargs]]
  rw [lg_entry_eq]
  generalize (lg_sl ([.ref a, .int (iI (k : Int)), .int (iI (what : Int))]) ++ List.replicate (5 - (lg_sl ([.ref a, .int (iI (k : Int)), .int (iI (what : Int))])).length) Slot.unset).toArray = ls at hl ⊢
  have hl : lv_has ls 5 [(0, .ref a), (1, .int (iI (k : Int))), (2, .int (iI (what : Int)))] := hl
  obtain ⟨R, hR⟩ : ∃ R, R = (headSpec (Cond.code y_W_cornerLabel b_W_cornerLabel 5 (some .int) :: G0) { frames := 5, cells := 0, slots := 0, locals := 109 }).room := ⟨_, rfl⟩
  rw [← hR]
  have hRf : R.frames = 5 := by rw [hR]; rfl
  have hRl : R.locals = 109 := by rw [hR]; rfl
  have hRc : R.cells = 0 := by rw [hR]; rfl
  have hRs : R.slots = 0 := by rw [hR]; rfl
  obtain ⟨Q, hQ⟩ : ∃ Q, Q = MQ below (hp_Si (bw_cor w c f k (what : Int))) args s 0 0 (fun _ => False) := ⟨_, rfl⟩
  rw [← hQ]
  obtain ⟨hw, hf1⟩ := hB
  have h1 := hbd k
  refine lv_aload_n hx hb d_W_cornerLabel_0 rfl (lv_at hl 0 rfl) ?_
  refine lv_iload_n hx hb d_W_cornerLabel_1 rfl (lv_at hl 1 rfl) ?_
  refine hp_callS (W.runV (As := [.int (iI (k : Int))]) (rest := []) ⟨hx, hb, hml, hown, hG⟩ (c_W_value l E a w c f k (by omega) hbd) (cwV 1 hG (hp_goodV ml_W_43 im_W_value se_W_value in_W co_W_value) rfl rfl rfl hd_W_value ⟨by rw [hRf]; exact Nat.le_of_ble_eq_true rfl, by rw [hRl]; exact Nat.le_of_ble_eq_true rfl⟩) (hp_preV (ci := 0) hp_nsn hK rfl hw ⟨hw, hf1⟩) rfl rfl hl.1 rfl (lv_room (Nat.le_of_ble_eq_true rfl)) d_W_cornerLabel_2 ⟨by rw [hRc]; exact Nat.le_of_ble_eq_true rfl, by rw [hRs]; exact Nat.le_of_ble_eq_true rfl⟩) ?_
  refine lv_istore_n (lv' := [(3, .int (iI ((f k).natAbs : Int))), (0, .ref a), (1, .int (iI (k : Int))), (2, .int (iI (what : Int)))]) hx hb d_W_cornerLabel_5 rfl hl (by decide) rfl (fun ls hl => ?_)
  refine lv_aload_n hx hb d_W_cornerLabel_6 rfl (lv_at hl 1 rfl) ?_
  refine hp_get (C := R_W) (T := F_W) (N := 3) (v := .ref (a + 1)) hx hb hG la_W hown hK.1 hw rfl 0 (by decide) (hG _ fl_W_9) (fun _ h9 => h9) rfl d_W_cornerLabel_7 ?_
  refine lv_iload_n hx hb d_W_cornerLabel_10 rfl (lv_at hl 2 rfl) ?_
  refine hp_iald hx hb hK.1 0 hf1 rfl d_W_cornerLabel_11 (by omega) k (by omega) (by omega) ?_
  refine hp_if_le (tgt := 19) hx hb d_W_cornerLabel_12 (by decide) (by unfold iR; omega) (fun c12 => ?_) (fun c12 => ?_)
  · skip
    refine lv_iload_n hx hb d_W_cornerLabel_19 rfl (lv_at hl 3 rfl) ?_
    refine hp_iconst (z := 3) hx hb d_W_cornerLabel_20 (by rfl) ?_
    refine hp_iadd hx hb d_W_cornerLabel_21 ?_
    refine hp_iconst (z := 4) hx hb d_W_cornerLabel_22 (by rfl) ?_
    rw [show ((what : Int) + 3) = ((what + 3 : Nat) : Int) from by omega]
    refine hp_iremN (a := what + 3) (d := 4) hx hb d_W_cornerLabel_23 (by omega) (by omega) (by omega) ?_
    refine lv_istore (lv' := [(4, .int (iI (((what + 3) % 4 : Nat) : Int))), (3, .int (iI ((f k).natAbs : Int))), (0, .ref a), (1, .int (iI (k : Int))), (2, .int (iI (what : Int)))]) hx hb d_W_cornerLabel_24 hl (by decide) rfl (fun ls hl => ?_)
    refine lv_iload hx hb d_W_cornerLabel_26 (lv_at hl 0 rfl) ?_
    rcases (show (((what + 3) % 4 : Nat) : Int) < 0 ∨ 2 < (((what + 3) % 4 : Nat) : Int) ∨ (((what + 3) % 4 : Nat) : Int) = 0 ∨ (((what + 3) % 4 : Nat) : Int) = 1 ∨ (((what + 3) % 4 : Nat) : Int) = 2 by omega) with c28 | c28 | c28 | c28 | c28
    · refine lv_tableOut (tgt := 79) hx hb d_W_cornerLabel_28 (by rw [iI_toInt (by unfold iR; omega)]; omega) (by decide) ?_
      refine lv_aload_n hx hb d_W_cornerLabel_79 rfl (lv_at hl 2 rfl) ?_
      refine lv_iload_n hx hb d_W_cornerLabel_80 rfl (lv_at hl 3 rfl) ?_
      refine lv_iload_n hx hb d_W_cornerLabel_81 rfl (lv_at hl 1 rfl) ?_
      refine hp_iconst (z := 1) hx hb d_W_cornerLabel_82 (by rfl) ?_
      refine hp_iadd hx hb d_W_cornerLabel_83 ?_
      refine hp_callS (W.runV (As := [.int (iI (k : Int)), .int (iI (((f k).natAbs : Int) + 1))]) (rest := []) ⟨hx, hb, hml, hown, hG⟩ (c_W_labelAbove l E a w c f k (((f k).natAbs : Int) + 1) hk (by unfold iR; omega) hbd) (cwV 2 hG (hp_goodV ml_W_67 im_W_labelAbove se_W_labelAbove in_W co_W_labelAbove) rfl rfl rfl hd_W_labelAbove ⟨by rw [hRf]; exact Nat.le_of_ble_eq_true rfl, by rw [hRl]; exact Nat.le_of_ble_eq_true rfl⟩) (hp_preV (ci := 0) hp_nsn hK rfl hw ⟨hw, hf1⟩) rfl rfl hl.1 rfl (lv_room (Nat.le_of_ble_eq_true rfl)) d_W_cornerLabel_84 ⟨by rw [hRc]; exact Nat.le_of_ble_eq_true rfl, by rw [hRs]; exact Nat.le_of_ble_eq_true rfl⟩) ?_
      rw [hQ]
      refine hp_iretS hx hb hrt hlocks d_W_cornerLabel_87 ?_
      unfold bw_cor
      dsimp only
      rw [if_neg (by first | (rw [if_pos (by omega)]; omega) | (rw [if_neg (by omega)]; omega))]
      rw [if_neg (by first | (rw [if_pos (by omega)]; omega) | (rw [if_neg (by omega)]; omega))]
      rw [if_neg (by first | (rw [if_pos (by omega)]; omega) | (rw [if_neg (by omega)]; omega))]
    · refine lv_tableOut (tgt := 79) hx hb d_W_cornerLabel_28 (by rw [iI_toInt (by unfold iR; omega)]; omega) (by decide) ?_
      refine lv_aload_n hx hb d_W_cornerLabel_79 rfl (lv_at hl 2 rfl) ?_
      refine lv_iload_n hx hb d_W_cornerLabel_80 rfl (lv_at hl 3 rfl) ?_
      refine lv_iload_n hx hb d_W_cornerLabel_81 rfl (lv_at hl 1 rfl) ?_
      refine hp_iconst (z := 1) hx hb d_W_cornerLabel_82 (by rfl) ?_
      refine hp_iadd hx hb d_W_cornerLabel_83 ?_
      refine hp_callS (W.runV (As := [.int (iI (k : Int)), .int (iI (((f k).natAbs : Int) + 1))]) (rest := []) ⟨hx, hb, hml, hown, hG⟩ (c_W_labelAbove l E a w c f k (((f k).natAbs : Int) + 1) hk (by unfold iR; omega) hbd) (cwV 2 hG (hp_goodV ml_W_67 im_W_labelAbove se_W_labelAbove in_W co_W_labelAbove) rfl rfl rfl hd_W_labelAbove ⟨by rw [hRf]; exact Nat.le_of_ble_eq_true rfl, by rw [hRl]; exact Nat.le_of_ble_eq_true rfl⟩) (hp_preV (ci := 0) hp_nsn hK rfl hw ⟨hw, hf1⟩) rfl rfl hl.1 rfl (lv_room (Nat.le_of_ble_eq_true rfl)) d_W_cornerLabel_84 ⟨by rw [hRc]; exact Nat.le_of_ble_eq_true rfl, by rw [hRs]; exact Nat.le_of_ble_eq_true rfl⟩) ?_
      rw [hQ]
      refine hp_iretS hx hb hrt hlocks d_W_cornerLabel_87 ?_
      unfold bw_cor
      dsimp only
      rw [if_neg (by first | (rw [if_pos (by omega)]; omega) | (rw [if_neg (by omega)]; omega))]
      rw [if_neg (by first | (rw [if_pos (by omega)]; omega) | (rw [if_neg (by omega)]; omega))]
      rw [if_neg (by first | (rw [if_pos (by omega)]; omega) | (rw [if_neg (by omega)]; omega))]
    · refine lv_tableIn (tgt := 56) hx hb d_W_cornerLabel_28 (by rw [iI_toInt (by unfold iR; omega)]; omega) (by rw [iI_toInt (by unfold iR; omega)]; omega) (by rw [iI_toInt (by unfold iR; omega), c28]; rfl) (by decide) ?_
      refine lv_aload_n hx hb d_W_cornerLabel_56 rfl (lv_at hl 2 rfl) ?_
      refine lv_iload_n hx hb d_W_cornerLabel_57 rfl (lv_at hl 3 rfl) ?_
      refine lv_iload_n hx hb d_W_cornerLabel_58 rfl (lv_at hl 1 rfl) ?_
      refine hp_callS (W.runV (As := [.int (iI (k : Int)), .int (iI ((f k).natAbs : Int))]) (rest := []) ⟨hx, hb, hml, hown, hG⟩ (c_W_labelAbove l E a w c f k ((f k).natAbs : Int) hk (by unfold iR; omega) hbd) (cwV 2 hG (hp_goodV ml_W_67 im_W_labelAbove se_W_labelAbove in_W co_W_labelAbove) rfl rfl rfl hd_W_labelAbove ⟨by rw [hRf]; exact Nat.le_of_ble_eq_true rfl, by rw [hRl]; exact Nat.le_of_ble_eq_true rfl⟩) (hp_preV (ci := 0) hp_nsn hK rfl hw ⟨hw, hf1⟩) rfl rfl hl.1 rfl (lv_room (Nat.le_of_ble_eq_true rfl)) d_W_cornerLabel_59 ⟨by rw [hRc]; exact Nat.le_of_ble_eq_true rfl, by rw [hRs]; exact Nat.le_of_ble_eq_true rfl⟩) ?_
      rw [hQ]
      refine hp_iretS hx hb hrt hlocks d_W_cornerLabel_62 ?_
      unfold bw_cor
      dsimp only
      rw [if_pos (by first | (rw [if_pos (by omega)]; omega) | (rw [if_neg (by omega)]; omega))]
    · refine lv_tableIn (tgt := 63) hx hb d_W_cornerLabel_28 (by rw [iI_toInt (by unfold iR; omega)]; omega) (by rw [iI_toInt (by unfold iR; omega)]; omega) (by rw [iI_toInt (by unfold iR; omega), c28]; rfl) (by decide) ?_
      refine lv_aload_n hx hb d_W_cornerLabel_63 rfl (lv_at hl 2 rfl) ?_
      refine lv_iload_n hx hb d_W_cornerLabel_64 rfl (lv_at hl 3 rfl) ?_
      refine lv_iload_n hx hb d_W_cornerLabel_65 rfl (lv_at hl 1 rfl) ?_
      refine hp_callS (W.runV (As := [.int (iI (k : Int)), .int (iI ((f k).natAbs : Int))]) (rest := []) ⟨hx, hb, hml, hown, hG⟩ (c_W_labelBelow l E a w c f k ((f k).natAbs : Int) hk (by unfold iR; omega) hc hbd) (cwV 2 hG (hp_goodV ml_W_71 im_W_labelBelow se_W_labelBelow in_W co_W_labelBelow) rfl rfl rfl hd_W_labelBelow ⟨by rw [hRf]; exact Nat.le_of_ble_eq_true rfl, by rw [hRl]; exact Nat.le_of_ble_eq_true rfl⟩) (hp_preV (ci := 0) hp_nsn hK rfl hw ⟨hw, hf1⟩) rfl rfl hl.1 rfl (lv_room (Nat.le_of_ble_eq_true rfl)) d_W_cornerLabel_66 ⟨by rw [hRc]; exact Nat.le_of_ble_eq_true rfl, by rw [hRs]; exact Nat.le_of_ble_eq_true rfl⟩) ?_
      rw [hQ]
      refine hp_iretS hx hb hrt hlocks d_W_cornerLabel_69 ?_
      unfold bw_cor
      dsimp only
      rw [if_neg (by first | (rw [if_pos (by omega)]; omega) | (rw [if_neg (by omega)]; omega))]
      rw [if_pos (by first | (rw [if_pos (by omega)]; omega) | (rw [if_neg (by omega)]; omega))]
    · refine lv_tableIn (tgt := 70) hx hb d_W_cornerLabel_28 (by rw [iI_toInt (by unfold iR; omega)]; omega) (by rw [iI_toInt (by unfold iR; omega)]; omega) (by rw [iI_toInt (by unfold iR; omega), c28]; rfl) (by decide) ?_
      refine lv_aload_n hx hb d_W_cornerLabel_70 rfl (lv_at hl 2 rfl) ?_
      refine lv_iload_n hx hb d_W_cornerLabel_71 rfl (lv_at hl 3 rfl) ?_
      refine lv_iload_n hx hb d_W_cornerLabel_72 rfl (lv_at hl 1 rfl) ?_
      refine hp_iconst (z := 1) hx hb d_W_cornerLabel_73 (by rfl) ?_
      refine hp_iadd hx hb d_W_cornerLabel_74 ?_
      refine hp_callS (W.runV (As := [.int (iI (k : Int)), .int (iI (((f k).natAbs : Int) + 1))]) (rest := []) ⟨hx, hb, hml, hown, hG⟩ (c_W_labelBelow l E a w c f k (((f k).natAbs : Int) + 1) hk (by unfold iR; omega) hc hbd) (cwV 2 hG (hp_goodV ml_W_71 im_W_labelBelow se_W_labelBelow in_W co_W_labelBelow) rfl rfl rfl hd_W_labelBelow ⟨by rw [hRf]; exact Nat.le_of_ble_eq_true rfl, by rw [hRl]; exact Nat.le_of_ble_eq_true rfl⟩) (hp_preV (ci := 0) hp_nsn hK rfl hw ⟨hw, hf1⟩) rfl rfl hl.1 rfl (lv_room (Nat.le_of_ble_eq_true rfl)) d_W_cornerLabel_75 ⟨by rw [hRc]; exact Nat.le_of_ble_eq_true rfl, by rw [hRs]; exact Nat.le_of_ble_eq_true rfl⟩) ?_
      rw [hQ]
      refine hp_iretS hx hb hrt hlocks d_W_cornerLabel_78 ?_
      unfold bw_cor
      dsimp only
      rw [if_neg (by first | (rw [if_pos (by omega)]; omega) | (rw [if_neg (by omega)]; omega))]
      rw [if_neg (by first | (rw [if_pos (by omega)]; omega) | (rw [if_neg (by omega)]; omega))]
      rw [if_pos (by first | (rw [if_pos (by omega)]; omega) | (rw [if_neg (by omega)]; omega))]
  · skip
    refine lv_iload_n hx hb d_W_cornerLabel_15 rfl (lv_at hl 3 rfl) ?_
    refine lv_goto (tgt := 24) hx hb d_W_cornerLabel_16 (by decide) ?_
    refine lv_istore (lv' := [(4, .int (iI (what : Int))), (3, .int (iI ((f k).natAbs : Int))), (0, .ref a), (1, .int (iI (k : Int))), (2, .int (iI (what : Int)))]) hx hb d_W_cornerLabel_24 hl (by decide) rfl (fun ls hl => ?_)
    refine lv_iload hx hb d_W_cornerLabel_26 (lv_at hl 0 rfl) ?_
    rcases (show (what : Int) < 0 ∨ 2 < (what : Int) ∨ (what : Int) = 0 ∨ (what : Int) = 1 ∨ (what : Int) = 2 by omega) with c28 | c28 | c28 | c28 | c28
    · refine lv_tableOut (tgt := 79) hx hb d_W_cornerLabel_28 (by rw [iI_toInt (by unfold iR; omega)]; omega) (by decide) ?_
      refine lv_aload_n hx hb d_W_cornerLabel_79 rfl (lv_at hl 2 rfl) ?_
      refine lv_iload_n hx hb d_W_cornerLabel_80 rfl (lv_at hl 3 rfl) ?_
      refine lv_iload_n hx hb d_W_cornerLabel_81 rfl (lv_at hl 1 rfl) ?_
      refine hp_iconst (z := 1) hx hb d_W_cornerLabel_82 (by rfl) ?_
      refine hp_iadd hx hb d_W_cornerLabel_83 ?_
      refine hp_callS (W.runV (As := [.int (iI (k : Int)), .int (iI (((f k).natAbs : Int) + 1))]) (rest := []) ⟨hx, hb, hml, hown, hG⟩ (c_W_labelAbove l E a w c f k (((f k).natAbs : Int) + 1) hk (by unfold iR; omega) hbd) (cwV 2 hG (hp_goodV ml_W_67 im_W_labelAbove se_W_labelAbove in_W co_W_labelAbove) rfl rfl rfl hd_W_labelAbove ⟨by rw [hRf]; exact Nat.le_of_ble_eq_true rfl, by rw [hRl]; exact Nat.le_of_ble_eq_true rfl⟩) (hp_preV (ci := 0) hp_nsn hK rfl hw ⟨hw, hf1⟩) rfl rfl hl.1 rfl (lv_room (Nat.le_of_ble_eq_true rfl)) d_W_cornerLabel_84 ⟨by rw [hRc]; exact Nat.le_of_ble_eq_true rfl, by rw [hRs]; exact Nat.le_of_ble_eq_true rfl⟩) ?_
      rw [hQ]
      refine hp_iretS hx hb hrt hlocks d_W_cornerLabel_87 ?_
      unfold bw_cor
      dsimp only
      rw [if_neg (by first | (rw [if_pos (by omega)]; omega) | (rw [if_neg (by omega)]; omega))]
      rw [if_neg (by first | (rw [if_pos (by omega)]; omega) | (rw [if_neg (by omega)]; omega))]
      rw [if_neg (by first | (rw [if_pos (by omega)]; omega) | (rw [if_neg (by omega)]; omega))]
    · refine lv_tableOut (tgt := 79) hx hb d_W_cornerLabel_28 (by rw [iI_toInt (by unfold iR; omega)]; omega) (by decide) ?_
      refine lv_aload_n hx hb d_W_cornerLabel_79 rfl (lv_at hl 2 rfl) ?_
      refine lv_iload_n hx hb d_W_cornerLabel_80 rfl (lv_at hl 3 rfl) ?_
      refine lv_iload_n hx hb d_W_cornerLabel_81 rfl (lv_at hl 1 rfl) ?_
      refine hp_iconst (z := 1) hx hb d_W_cornerLabel_82 (by rfl) ?_
      refine hp_iadd hx hb d_W_cornerLabel_83 ?_
      refine hp_callS (W.runV (As := [.int (iI (k : Int)), .int (iI (((f k).natAbs : Int) + 1))]) (rest := []) ⟨hx, hb, hml, hown, hG⟩ (c_W_labelAbove l E a w c f k (((f k).natAbs : Int) + 1) hk (by unfold iR; omega) hbd) (cwV 2 hG (hp_goodV ml_W_67 im_W_labelAbove se_W_labelAbove in_W co_W_labelAbove) rfl rfl rfl hd_W_labelAbove ⟨by rw [hRf]; exact Nat.le_of_ble_eq_true rfl, by rw [hRl]; exact Nat.le_of_ble_eq_true rfl⟩) (hp_preV (ci := 0) hp_nsn hK rfl hw ⟨hw, hf1⟩) rfl rfl hl.1 rfl (lv_room (Nat.le_of_ble_eq_true rfl)) d_W_cornerLabel_84 ⟨by rw [hRc]; exact Nat.le_of_ble_eq_true rfl, by rw [hRs]; exact Nat.le_of_ble_eq_true rfl⟩) ?_
      rw [hQ]
      refine hp_iretS hx hb hrt hlocks d_W_cornerLabel_87 ?_
      unfold bw_cor
      dsimp only
      rw [if_neg (by first | (rw [if_pos (by omega)]; omega) | (rw [if_neg (by omega)]; omega))]
      rw [if_neg (by first | (rw [if_pos (by omega)]; omega) | (rw [if_neg (by omega)]; omega))]
      rw [if_neg (by first | (rw [if_pos (by omega)]; omega) | (rw [if_neg (by omega)]; omega))]
    · refine lv_tableIn (tgt := 56) hx hb d_W_cornerLabel_28 (by rw [iI_toInt (by unfold iR; omega)]; omega) (by rw [iI_toInt (by unfold iR; omega)]; omega) (by rw [iI_toInt (by unfold iR; omega), c28]; rfl) (by decide) ?_
      refine lv_aload_n hx hb d_W_cornerLabel_56 rfl (lv_at hl 2 rfl) ?_
      refine lv_iload_n hx hb d_W_cornerLabel_57 rfl (lv_at hl 3 rfl) ?_
      refine lv_iload_n hx hb d_W_cornerLabel_58 rfl (lv_at hl 1 rfl) ?_
      refine hp_callS (W.runV (As := [.int (iI (k : Int)), .int (iI ((f k).natAbs : Int))]) (rest := []) ⟨hx, hb, hml, hown, hG⟩ (c_W_labelAbove l E a w c f k ((f k).natAbs : Int) hk (by unfold iR; omega) hbd) (cwV 2 hG (hp_goodV ml_W_67 im_W_labelAbove se_W_labelAbove in_W co_W_labelAbove) rfl rfl rfl hd_W_labelAbove ⟨by rw [hRf]; exact Nat.le_of_ble_eq_true rfl, by rw [hRl]; exact Nat.le_of_ble_eq_true rfl⟩) (hp_preV (ci := 0) hp_nsn hK rfl hw ⟨hw, hf1⟩) rfl rfl hl.1 rfl (lv_room (Nat.le_of_ble_eq_true rfl)) d_W_cornerLabel_59 ⟨by rw [hRc]; exact Nat.le_of_ble_eq_true rfl, by rw [hRs]; exact Nat.le_of_ble_eq_true rfl⟩) ?_
      rw [hQ]
      refine hp_iretS hx hb hrt hlocks d_W_cornerLabel_62 ?_
      unfold bw_cor
      dsimp only
      rw [if_pos (by first | (rw [if_pos (by omega)]; omega) | (rw [if_neg (by omega)]; omega))]
    · refine lv_tableIn (tgt := 63) hx hb d_W_cornerLabel_28 (by rw [iI_toInt (by unfold iR; omega)]; omega) (by rw [iI_toInt (by unfold iR; omega)]; omega) (by rw [iI_toInt (by unfold iR; omega), c28]; rfl) (by decide) ?_
      refine lv_aload_n hx hb d_W_cornerLabel_63 rfl (lv_at hl 2 rfl) ?_
      refine lv_iload_n hx hb d_W_cornerLabel_64 rfl (lv_at hl 3 rfl) ?_
      refine lv_iload_n hx hb d_W_cornerLabel_65 rfl (lv_at hl 1 rfl) ?_
      refine hp_callS (W.runV (As := [.int (iI (k : Int)), .int (iI ((f k).natAbs : Int))]) (rest := []) ⟨hx, hb, hml, hown, hG⟩ (c_W_labelBelow l E a w c f k ((f k).natAbs : Int) hk (by unfold iR; omega) hc hbd) (cwV 2 hG (hp_goodV ml_W_71 im_W_labelBelow se_W_labelBelow in_W co_W_labelBelow) rfl rfl rfl hd_W_labelBelow ⟨by rw [hRf]; exact Nat.le_of_ble_eq_true rfl, by rw [hRl]; exact Nat.le_of_ble_eq_true rfl⟩) (hp_preV (ci := 0) hp_nsn hK rfl hw ⟨hw, hf1⟩) rfl rfl hl.1 rfl (lv_room (Nat.le_of_ble_eq_true rfl)) d_W_cornerLabel_66 ⟨by rw [hRc]; exact Nat.le_of_ble_eq_true rfl, by rw [hRs]; exact Nat.le_of_ble_eq_true rfl⟩) ?_
      rw [hQ]
      refine hp_iretS hx hb hrt hlocks d_W_cornerLabel_69 ?_
      unfold bw_cor
      dsimp only
      rw [if_neg (by first | (rw [if_pos (by omega)]; omega) | (rw [if_neg (by omega)]; omega))]
      rw [if_pos (by first | (rw [if_pos (by omega)]; omega) | (rw [if_neg (by omega)]; omega))]
    · refine lv_tableIn (tgt := 70) hx hb d_W_cornerLabel_28 (by rw [iI_toInt (by unfold iR; omega)]; omega) (by rw [iI_toInt (by unfold iR; omega)]; omega) (by rw [iI_toInt (by unfold iR; omega), c28]; rfl) (by decide) ?_
      refine lv_aload_n hx hb d_W_cornerLabel_70 rfl (lv_at hl 2 rfl) ?_
      refine lv_iload_n hx hb d_W_cornerLabel_71 rfl (lv_at hl 3 rfl) ?_
      refine lv_iload_n hx hb d_W_cornerLabel_72 rfl (lv_at hl 1 rfl) ?_
      refine hp_iconst (z := 1) hx hb d_W_cornerLabel_73 (by rfl) ?_
      refine hp_iadd hx hb d_W_cornerLabel_74 ?_
      refine hp_callS (W.runV (As := [.int (iI (k : Int)), .int (iI (((f k).natAbs : Int) + 1))]) (rest := []) ⟨hx, hb, hml, hown, hG⟩ (c_W_labelBelow l E a w c f k (((f k).natAbs : Int) + 1) hk (by unfold iR; omega) hc hbd) (cwV 2 hG (hp_goodV ml_W_71 im_W_labelBelow se_W_labelBelow in_W co_W_labelBelow) rfl rfl rfl hd_W_labelBelow ⟨by rw [hRf]; exact Nat.le_of_ble_eq_true rfl, by rw [hRl]; exact Nat.le_of_ble_eq_true rfl⟩) (hp_preV (ci := 0) hp_nsn hK rfl hw ⟨hw, hf1⟩) rfl rfl hl.1 rfl (lv_room (Nat.le_of_ble_eq_true rfl)) d_W_cornerLabel_75 ⟨by rw [hRc]; exact Nat.le_of_ble_eq_true rfl, by rw [hRs]; exact Nat.le_of_ble_eq_true rfl⟩) ?_
      rw [hQ]
      refine hp_iretS hx hb hrt hlocks d_W_cornerLabel_78 ?_
      unfold bw_cor
      dsimp only
      rw [if_neg (by first | (rw [if_pos (by omega)]; omega) | (rw [if_neg (by omega)]; omega))]
      rw [if_neg (by first | (rw [if_pos (by omega)]; omega) | (rw [if_neg (by omega)]; omega))]
      rw [if_pos (by first | (rw [if_pos (by omega)]; omega) | (rw [if_neg (by omega)]; omega))]

set_option maxHeartbeats 4000000 in
set_option maxRecDepth 100000 in
/-- crossing(s, k, what) -/
theorem c_B_crossing (l : Launch) (E : hp_E) (o : Nat) (w c : Nat → Nat) (f : Nat → Nat → Int) (s0 k0 x0 : Int) (hs0 : iR s0) (hk0 : iR k0) (hx0 : iR x0) : Met l y_B_crossing (Cond.code y_B_crossing b_B_crossing 4 (some .int) :: G0) ({ frames := 6, cells := 0, slots := 0, locals := 133 }) (hp_P E [.ref o, .int (iI s0), .int (iI k0), .int (iI x0)] (fun H => bAt E H o w c f)) (hp_Si (if 0 ≤ s0 ∧ s0 < 4 ∧ 0 ≤ k0 ∧ k0 < (c s0.toNat : Int) ∧ 0 ≤ x0 ∧ x0 ≤ 4 then (if x0 = 4 then bw_sgn (f s0.toNat k0.toNat) else bw_cor (w s0.toNat) (c s0.toNat) (f s0.toNat) k0.toNat x0) else 0)) 0 0 (fun _ => False) := by
  refine Met.ofW (cc := b_B_crossing) (maxL := 4) (ret := some .int) (by decide) rfl ?_
  intro p e s m args below meth cd s₁ Bd hml hv
  obtain ⟨hargs, hB, hK⟩ := hv
  have hx := Bd.exec
  have hb := Bd.bytes
  have hrt := Bd.returns
  have hts := atoms_spec (ws := Cond.code y_B_crossing b_B_crossing 4 (some .int) :: G0) Bd.pre
  have hG : ∀ w ∈ G0, w.before args s = true := fun w h => hts w (List.mem_cons_of_mem _ h)
  have hown : s.vm.findClass R_B = some m.cls := findClass_of_methodNamed Bd.named
  have hlocks := Bd.notSynchronized
  have hl := lv_entry ([.ref o, .int (iI s0), .int (iI k0), .int (iI x0)]) (n := 4) (Nat.le_of_ble_eq_true rfl)
  rw [show entryFrame m args 4 = entryFrame m ([.ref o, .int (iI s0), .int (iI k0), .int (iI x0)] : List Value).toArray 4 from by rw [hargs]]
  rw [lg_entry_eq]
  generalize (lg_sl ([.ref o, .int (iI s0), .int (iI k0), .int (iI x0)]) ++ List.replicate (4 - (lg_sl ([.ref o, .int (iI s0), .int (iI k0), .int (iI x0)])).length) Slot.unset).toArray = ls at hl ⊢
  have hl : lv_has ls 4 [(0, .ref o), (1, .int (iI s0)), (2, .int (iI k0)), (3, .int (iI x0))] := hl
  obtain ⟨R, hR⟩ : ∃ R, R = (headSpec (Cond.code y_B_crossing b_B_crossing 4 (some .int) :: G0) { frames := 6, cells := 0, slots := 0, locals := 133 }).room := ⟨_, rfl⟩
  rw [← hR]
  have hRf : R.frames = 6 := by rw [hR]; rfl
  have hRl : R.locals = 133 := by rw [hR]; rfl
  have hRc : R.cells = 0 := by rw [hR]; rfl
  have hRs : R.slots = 0 := by rw [hR]; rfl
  obtain ⟨Q, hQ⟩ : ∃ Q, Q = MQ below (hp_Si (if 0 ≤ s0 ∧ s0 < 4 ∧ 0 ≤ k0 ∧ k0 < (c s0.toNat : Int) ∧ 0 ≤ x0 ∧ x0 ≤ 4 then (if x0 = 4 then bw_sgn (f s0.toNat k0.toNat) else bw_cor (w s0.toNat) (c s0.toNat) (f s0.toNat) k0.toNat x0) else 0)) args s 0 0 (fun _ => False) := ⟨_, rfl⟩
  rw [← hQ]
  have hbt := hB
  obtain ⟨hb0, hb1, hb2, hWs, hNs⟩ := id hbt
  refine lv_iload_n hx hb d_B_crossing_0 rfl (lv_at hl 1 rfl) ?_
  refine hp_callS (W.runS (As := [.int (iI s0)]) (rest := []) ⟨hx, hb, hml, hown, hG⟩ (c_B_isSlot l E s0 (by unfold iR at *; omega)) (cwS 1 hG (hp_goodS ml_B_23 st_B_isSlot in_B co_B_isSlot) rfl rfl rfl hd_B_isSlot ⟨by rw [hRf]; exact Nat.le_of_ble_eq_true rfl, by rw [hRl]; exact Nat.le_of_ble_eq_true rfl⟩) (hp_preS hp_nsn hK trivial) rfl rfl hl.1 rfl (lv_room (Nat.le_of_ble_eq_true rfl)) d_B_crossing_1 ⟨by rw [hRc]; exact Nat.le_of_ble_eq_true rfl, by rw [hRs]; exact Nat.le_of_ble_eq_true rfl⟩) ?_
  refine hp_ifb_eq (tgt := 21) hx hb d_B_crossing_4 (by decide) (fun c4 => ?_) (fun c4 => ?_)
  · skip
    have c4 := of_decide_eq_false c4
    refine hp_iconst (z := 0) hx hb d_B_crossing_21 (by rfl) ?_
    rw [hQ]
    refine hp_iretS hx hb hrt hlocks d_B_crossing_22 ?_
    first | rw [if_neg (by omega)] | rw [Int.toNat_natCast, if_neg (by omega)]
  · skip
    have c4 := of_decide_eq_true c4
    obtain ⟨t, rfl⟩ : ∃ q : Nat, s0 = (q : Int) := ⟨s0.toNat, by omega⟩
    obtain ⟨⟨hw, hf1⟩, hv⟩ := hWs t (by omega)
    have hv1 := hv.1
    have hv2 := hv.2.1
    have hv3 := hv.2.2.1
    have hbd := hv.2.2.2.1
    have hok := hv.2.2.2.2
    refine lv_aload_n hx hb d_B_crossing_7 rfl (lv_at hl 0 rfl) ?_
    refine hp_get (C := R_B) (T := F_B) (N := 2) (v := .ref (o + 1)) hx hb hG la_B hown hK.1 hb0 rfl 0 (by decide) (hG _ fl_B_11) (fun _ h9 => h9) rfl d_B_crossing_8 ?_
    refine lv_iload_n hx hb d_B_crossing_11 rfl (lv_at hl 1 rfl) ?_
    refine hp_aald hx hb hK.1 2 hb1 rfl rfl d_B_crossing_12 (by omega) t (by omega) (by omega) (v := .ref (o + 3 + 39 * t)) (by rw [if_pos (by omega)]; rfl) ?_
    refine lv_iload_n hx hb d_B_crossing_13 rfl (lv_at hl 2 rfl) ?_
    refine hp_iconst (z := 1) hx hb d_B_crossing_14 (by rfl) ?_
    refine hp_callS (W.runV (As := [.int (iI k0), .int (iI 1)]) (rest := []) ⟨hx, hb, hml, hown, hG⟩ (c_W_hasLetters l E (o + 3 + 39 * t) (w t) (c t) (f t) k0 1 hk0 (by omega) hv3) (cwV 2 hG (hp_goodV ml_B_58 im_W_hasLetters se_W_hasLetters in_W co_W_hasLetters) rfl rfl rfl hd_W_hasLetters ⟨by rw [hRf]; exact Nat.le_of_ble_eq_true rfl, by rw [hRl]; exact Nat.le_of_ble_eq_true rfl⟩) (hp_preV (ci := 0) hp_nsn hK rfl hw ⟨hw, hf1⟩) rfl rfl hl.1 rfl (lv_room (Nat.le_of_ble_eq_true rfl)) d_B_crossing_15 ⟨by rw [hRc]; exact Nat.le_of_ble_eq_true rfl, by rw [hRs]; exact Nat.le_of_ble_eq_true rfl⟩) ?_
    refine hp_ifb_ne (tgt := 23) hx hb d_B_crossing_18 (by decide) (fun c18 => ?_) (fun c18 => ?_)
    · skip
      have c18 := of_decide_eq_true c18
      obtain ⟨k, rfl⟩ : ∃ q : Nat, k0 = (q : Int) := ⟨k0.toNat, by omega⟩
      have hbk := hbd k
      refine lv_iload_n hx hb d_B_crossing_23 rfl (lv_at hl 3 rfl) ?_
      refine hp_iconst (z := 4) hx hb d_B_crossing_24 (by rfl) ?_
      refine hp_icmp_ne (tgt := 43) hx hb d_B_crossing_25 (by decide) (by unfold iR at *; omega) (by unfold iR at *; omega) (fun c25 => ?_) (fun c25 => ?_)
      · skip
        refine lv_iload_n hx hb d_B_crossing_43 rfl (lv_at hl 3 rfl) ?_
        refine hp_if_lt (tgt := 66) hx hb d_B_crossing_44 (by decide) (by unfold iR at *; omega) (fun c44 => ?_) (fun c44 => ?_)
        · skip
          refine hp_iconst (z := 0) hx hb d_B_crossing_66 (by rfl) ?_
          rw [hQ]
          refine hp_iretS hx hb hrt hlocks d_B_crossing_67 ?_
          first | rw [Int.toNat_natCast, Int.toNat_natCast, if_neg (by omega)] | rw [Int.toNat_natCast, Int.toNat_natCast, if_pos (by omega), if_neg (by omega)]
        · skip
          refine lv_iload_n hx hb d_B_crossing_47 rfl (lv_at hl 3 rfl) ?_
          refine hp_iconst (z := 4) hx hb d_B_crossing_48 (by rfl) ?_
          refine hp_icmp_ge (tgt := 66) hx hb d_B_crossing_49 (by decide) (by unfold iR at *; omega) (by unfold iR at *; omega) (fun c49 => ?_) (fun c49 => ?_)
          · skip
            refine hp_iconst (z := 0) hx hb d_B_crossing_66 (by rfl) ?_
            rw [hQ]
            refine hp_iretS hx hb hrt hlocks d_B_crossing_67 ?_
            first | rw [Int.toNat_natCast, Int.toNat_natCast, if_neg (by omega)] | rw [Int.toNat_natCast, Int.toNat_natCast, if_pos (by omega), if_neg (by omega)]
          · skip
            obtain ⟨x, rfl⟩ : ∃ q : Nat, x0 = (q : Int) := ⟨x0.toNat, by omega⟩
            refine lv_aload_n hx hb d_B_crossing_52 rfl (lv_at hl 0 rfl) ?_
            refine hp_get (C := R_B) (T := F_B) (N := 2) (v := .ref (o + 1)) hx hb hG la_B hown hK.1 hb0 rfl 0 (by decide) (hG _ fl_B_11) (fun _ h9 => h9) rfl d_B_crossing_53 ?_
            refine lv_iload_n hx hb d_B_crossing_56 rfl (lv_at hl 1 rfl) ?_
            refine hp_aald hx hb hK.1 2 hb1 rfl rfl d_B_crossing_57 (by omega) t (by omega) (by omega) (v := .ref (o + 3 + 39 * t)) (by rw [if_pos (by omega)]; rfl) ?_
            refine lv_iload_n hx hb d_B_crossing_58 rfl (lv_at hl 2 rfl) ?_
            refine lv_iload_n hx hb d_B_crossing_59 rfl (lv_at hl 3 rfl) ?_
            refine hp_callS (W.runV (As := [.int (iI (k : Int)), .int (iI (x : Int))]) (rest := []) ⟨hx, hb, hml, hown, hG⟩ (c_W_cornerLabel l E (o + 3 + 39 * t) (w t) (c t) (f t) k x (by omega) (by omega) hv3 hbd) (cwV 2 hG (hp_goodV ml_B_121 im_W_cornerLabel se_W_cornerLabel in_W co_W_cornerLabel) rfl rfl rfl hd_W_cornerLabel ⟨by rw [hRf]; exact Nat.le_of_ble_eq_true rfl, by rw [hRl]; exact Nat.le_of_ble_eq_true rfl⟩) (hp_preV (ci := 0) hp_nsn hK rfl hw ⟨hw, hf1⟩) rfl rfl hl.1 rfl (lv_room (Nat.le_of_ble_eq_true rfl)) d_B_crossing_60 ⟨by rw [hRc]; exact Nat.le_of_ble_eq_true rfl, by rw [hRs]; exact Nat.le_of_ble_eq_true rfl⟩) ?_
            refine lv_goto (tgt := 67) hx hb d_B_crossing_63 (by decide) ?_
            rw [hQ]
            refine hp_iretS hx hb hrt hlocks d_B_crossing_67 ?_
            first | rw [Int.toNat_natCast, Int.toNat_natCast, if_neg (by omega)] | rw [Int.toNat_natCast, Int.toNat_natCast, if_pos (by omega), if_neg (by omega)]
      · skip
        refine lv_aload_n hx hb d_B_crossing_28 rfl (lv_at hl 0 rfl) ?_
        refine hp_get (C := R_B) (T := F_B) (N := 2) (v := .ref (o + 1)) hx hb hG la_B hown hK.1 hb0 rfl 0 (by decide) (hG _ fl_B_11) (fun _ h9 => h9) rfl d_B_crossing_29 ?_
        refine lv_iload_n hx hb d_B_crossing_32 rfl (lv_at hl 1 rfl) ?_
        refine hp_aald hx hb hK.1 2 hb1 rfl rfl d_B_crossing_33 (by omega) t (by omega) (by omega) (v := .ref (o + 3 + 39 * t)) (by rw [if_pos (by omega)]; rfl) ?_
        refine hp_get (C := R_W) (T := F_W) (N := 3) (v := .ref (o + 3 + 39 * t + 1)) hx hb hG la_W hown hK.1 hw rfl 0 (by decide) (hG _ fl_B_62) (fun _ h9 => h9) rfl d_B_crossing_34 ?_
        refine lv_iload_n hx hb d_B_crossing_37 rfl (lv_at hl 2 rfl) ?_
        refine hp_iald hx hb hK.1 0 hf1 rfl d_B_crossing_38 (by omega) k (by omega) (by omega) ?_
        refine hp_callS (W.runS (As := [.int (iI ((f t) k))]) (rest := []) ⟨hx, hb, hml, hown, hG⟩ (c_JI_signum l E ((f t) k) (by omega) (by omega)) (va_cwS 1 hG (hp_goodT ml_B_116 st_JI_signum in_JI co_JI_signum) rfl rfl rfl hd_JI_signum.2 ⟨by rw [hRf]; exact Nat.le_of_ble_eq_true rfl, by rw [hRl]; exact Nat.le_of_ble_eq_true rfl⟩) (hp_preS hp_nsn hK trivial) rfl rfl hl.1 rfl (lv_room (Nat.le_of_ble_eq_true rfl)) d_B_crossing_39 ⟨by rw [hRc]; exact Nat.le_of_ble_eq_true rfl, by rw [hRs]; exact Nat.le_of_ble_eq_true rfl⟩) ?_
        rw [hQ]
        refine hp_iretS hx hb hrt hlocks d_B_crossing_42 ?_
        rw [Int.toNat_natCast, Int.toNat_natCast, if_pos (by omega), if_pos (by omega)]
    · skip
      have c18 := of_decide_eq_false c18
      refine hp_iconst (z := 0) hx hb d_B_crossing_21 (by rfl) ?_
      rw [hQ]
      refine hp_iretS hx hb hrt hlocks d_B_crossing_22 ?_
      first | rw [if_neg (by omega)] | rw [Int.toNat_natCast, if_neg (by omega)]

set_option maxHeartbeats 4000000 in
set_option maxRecDepth 100000 in
/-- length(s) -/
theorem c_B_length (l : Launch) (E : hp_E) (o : Nat) (w c : Nat → Nat) (f : Nat → Nat → Int) (s0 : Int) (hs0 : iR s0) : Met l y_B_length (Cond.code y_B_length b_B_length 2 (some .int) :: G0) ({ frames := 6, cells := 0, slots := 0, locals := 137 }) (hp_P E [.ref o, .int (iI s0)] (fun H => bAt E H o w c f)) (hp_Qi (fun q => o ≤ q ∧ q ≤ o + 158) (fun r H => bAt E H o w c f ∧ (((0 ≤ s0 ∧ s0 < 4) ∧ ∃ (fr to : Nat) (pw : Int) (X : Nat → Nat → Int), nfS (w s0.toNat) (c s0.toNat) (f s0.toNat) fr to pw X ∧ r = (to : Int) - fr) ∨ (¬ (0 ≤ s0 ∧ s0 < 4) ∧ r = -1)))) 0 0 (fun q => o ≤ q ∧ q ≤ o + 158) := by
  refine Met.ofW (cc := b_B_length) (maxL := 2) (ret := some .int) (by decide) rfl ?_
  intro p e s m args below meth cd s₁ Bd hml hv
  obtain ⟨hargs, hB, hK⟩ := hv
  have hx := Bd.exec
  have hb := Bd.bytes
  have hrt := Bd.returns
  have hts := atoms_spec (ws := Cond.code y_B_length b_B_length 2 (some .int) :: G0) Bd.pre
  have hG : ∀ w ∈ G0, w.before args s = true := fun w h => hts w (List.mem_cons_of_mem _ h)
  have hown : s.vm.findClass R_B = some m.cls := findClass_of_methodNamed Bd.named
  have hlocks := Bd.notSynchronized
  have hl := lv_entry ([.ref o, .int (iI s0)]) (n := 2) (Nat.le_of_ble_eq_true rfl)
  rw [show entryFrame m args 2 = entryFrame m ([.ref o, .int (iI s0)] : List Value).toArray 2 from by rw [hargs]]
  rw [lg_entry_eq]
  generalize (lg_sl ([.ref o, .int (iI s0)]) ++ List.replicate (2 - (lg_sl ([.ref o, .int (iI s0)])).length) Slot.unset).toArray = ls at hl ⊢
  have hl : lv_has ls 2 [(0, .ref o), (1, .int (iI s0))] := hl
  obtain ⟨R, hR⟩ : ∃ R, R = (headSpec (Cond.code y_B_length b_B_length 2 (some .int) :: G0) { frames := 6, cells := 0, slots := 0, locals := 137 }).room := ⟨_, rfl⟩
  rw [← hR]
  have hRf : R.frames = 6 := by rw [hR]; rfl
  have hRl : R.locals = 137 := by rw [hR]; rfl
  have hRc : R.cells = 0 := by rw [hR]; rfl
  have hRs : R.slots = 0 := by rw [hR]; rfl
  obtain ⟨Q, hQ⟩ : ∃ Q, Q = MQ below (hp_Qi (fun q => o ≤ q ∧ q ≤ o + 158) (fun r H => bAt E H o w c f ∧ (((0 ≤ s0 ∧ s0 < 4) ∧ ∃ (fr to : Nat) (pw : Int) (X : Nat → Nat → Int), nfS (w s0.toNat) (c s0.toNat) (f s0.toNat) fr to pw X ∧ r = (to : Int) - fr) ∨ (¬ (0 ≤ s0 ∧ s0 < 4) ∧ r = -1)))) args s 0 0 (fun q => o ≤ q ∧ q ≤ o + 158) := ⟨_, rfl⟩
  rw [← hQ]
  obtain ⟨H, hH⟩ : ∃ H, H = s.heap := ⟨_, rfl⟩
  obtain ⟨locs, hlocs⟩ : ∃ locs : List Loc, locs = [] := ⟨_, rfl⟩
  have hS : va_S (fun q => o ≤ q ∧ q ≤ o + 158) s.heap H locs := by rw [hH, hlocs]; exact va_S.rf
  have hZ : H.size = s.heap.size := by rw [hH]
  rw [← hH] at hB
  rw [show W p l e R s m args below meth cd s.heap [] 0 0 Q (F0 m 0 ls []) = W p l e R s m args below meth cd H locs 0 0 Q (F0 m 0 ls []) from by rw [hH, hlocs]]
  have hbt := hB
  obtain ⟨hb0, hb1, hb2, hWs, hNs⟩ := id hbt
  refine lv_iload_n hx hb d_B_length_0 rfl (lv_at hl 1 rfl) ?_
  refine hp_callS (W.runS (As := [.int (iI s0)]) (rest := []) ⟨hx, hb, hml, hown, hG⟩ (c_B_isSlot l E s0 (by unfold iR at *; omega)) (cwS 1 hG (hp_goodS ml_B_23 st_B_isSlot in_B co_B_isSlot) rfl rfl rfl hd_B_isSlot ⟨by rw [hRf]; exact Nat.le_of_ble_eq_true rfl, by rw [hRl]; exact Nat.le_of_ble_eq_true rfl⟩) (hp_preS hp_nsn hK trivial) rfl rfl hl.1 rfl (lv_room (Nat.le_of_ble_eq_true rfl)) d_B_length_1 ⟨by rw [hRc]; exact Nat.le_of_ble_eq_true rfl, by rw [hRs]; exact Nat.le_of_ble_eq_true rfl⟩) ?_
  refine hp_ifb_eq (tgt := 18) hx hb d_B_length_4 (by decide) (fun c4 => ?_) (fun c4 => ?_)
  · skip
    have c4 := of_decide_eq_false c4
    refine hp_iconst (z := (-1)) hx hb d_B_length_18 (by rfl) ?_
    rw [hQ]
    refine hp_iretQ hx hb hrt hlocks d_B_length_19 hS hZ ?_
    exact ⟨hbt, Or.inr ⟨by omega, rfl⟩⟩
  · skip
    have c4 := of_decide_eq_true c4
    obtain ⟨t, rfl⟩ : ∃ q : Nat, s0 = (q : Int) := ⟨s0.toNat, by omega⟩
    obtain ⟨⟨hw, hf1⟩, hv⟩ := hWs t (by omega)
    have hv1 := hv.1
    have hv2 := hv.2.1
    have hv3 := hv.2.2.1
    have hbd := hv.2.2.2.1
    have hok := hv.2.2.2.2
    refine lv_aload_n hx hb d_B_length_7 rfl (lv_at hl 0 rfl) ?_
    refine lv_iload_n hx hb d_B_length_8 rfl (lv_at hl 1 rfl) ?_
    refine hp_callr (W.runV (As := [.int (iI (t : Int))]) (rest := []) ⟨hx, hb, hml, hown, hG⟩ (c_B_formOf l E o w c f t (by omega)) (cwV 1 hG (hp_goodV ml_B_98 im_B_formOf se_B_formOf in_B co_B_formOf) rfl rfl rfl hd_B_formOf ⟨by rw [hRf]; exact Nat.le_of_ble_eq_true rfl, by rw [hRl]; exact Nat.le_of_ble_eq_true rfl⟩) (hp_preV (ci := 2) hp_nsn hK rfl hb0 hbt) rfl rfl hl.1 rfl (lv_room (Nat.le_of_ble_eq_true rfl)) d_B_length_9 ⟨by rw [hRc]; exact Nat.le_of_ble_eq_true rfl, by rw [hRs]; exact Nat.le_of_ble_eq_true rfl⟩) hS (fun q h => by show _ ∧ _; have h9 := h; omega) (fun r1 H locs hpost hz1 ho1 hS => ?_)
    have hZ := hz1.trans hZ
    obtain ⟨er, hbt, f1, fr1, to1, pw1, X1, sf1, hA, hA1, hA3⟩ := hpost
    subst er
    obtain ⟨hb0, hb1, hb2, hWs, hNs⟩ := id hbt
    have hAn := hA.1
    have hrg := nfS_rng hA3
    refine hp_callS (W.runV (As := []) (rest := []) ⟨hx, hb, hml, hown, hG⟩ (c_N_size l E (o + 5 + 39 * t) (w t) (c t) f1 fr1 to1 pw1 X1 sf1) (cwV 0 hG (hp_goodV ml_B_113 im_N_size se_N_size in_N co_N_size) rfl rfl rfl hd_N_size ⟨by rw [hRf]; exact Nat.le_of_ble_eq_true rfl, by rw [hRl]; exact Nat.le_of_ble_eq_true rfl⟩) (hp_preV (ci := 1) hp_nsn hK rfl hAn hA) rfl rfl hl.1 rfl (lv_room (Nat.le_of_ble_eq_true rfl)) d_B_length_12 ⟨by rw [hRc]; exact Nat.le_of_ble_eq_true rfl, by rw [hRs]; exact Nat.le_of_ble_eq_true rfl⟩) ?_
    refine lv_goto (tgt := 19) hx hb d_B_length_15 (by decide) ?_
    rw [hQ]
    refine hp_iretQ hx hb hrt hlocks d_B_length_19 hS hZ ?_
    rw [Int.toNat_natCast]
    exact ⟨hbt, Or.inl ⟨by omega, fr1, to1, pw1, X1, hA3, rfl⟩⟩

set_option maxHeartbeats 4000000 in
set_option maxRecDepth 100000 in
/-- form(s, j, p) -/
theorem c_B_form (l : Launch) (E : hp_E) (o : Nat) (w c : Nat → Nat) (f : Nat → Nat → Int) (s0 j0 p0 : Int) (hs0 : iR s0) (hj0 : iR j0) (hp0 : iR p0) : Met l y_B_form (Cond.code y_B_form b_B_form 5 (some .int) :: G0) ({ frames := 6, cells := 0, slots := 0, locals := 137 }) (hp_P E [.ref o, .int (iI s0), .int (iI j0), .int (iI p0)] (fun H => bAt E H o w c f)) (hp_Qi (fun q => o ≤ q ∧ q ≤ o + 158) (fun r H => bAt E H o w c f ∧ (((0 ≤ s0 ∧ s0 < 4) ∧ ∃ (fr to : Nat) (pw : Int) (X : Nat → Nat → Int), nfS (w s0.toNat) (c s0.toNat) (f s0.toNat) fr to pw X ∧ r = (if j0 = 0 then pw else if 1 ≤ j0 ∧ j0 ≤ (to : Int) - fr ∧ 1 ≤ p0 ∧ p0 ≤ (w s0.toNat : Int) then X (fr + j0.toNat - 1) p0.toNat else 0)) ∨ (¬ (0 ≤ s0 ∧ s0 < 4) ∧ r = 0)))) 0 0 (fun q => o ≤ q ∧ q ≤ o + 158) := by
  refine Met.ofW (cc := b_B_form) (maxL := 5) (ret := some .int) (by decide) rfl ?_
  intro p e s m args below meth cd s₁ Bd hml hv
  obtain ⟨hargs, hB, hK⟩ := hv
  have hx := Bd.exec
  have hb := Bd.bytes
  have hrt := Bd.returns
  have hts := atoms_spec (ws := Cond.code y_B_form b_B_form 5 (some .int) :: G0) Bd.pre
  have hG : ∀ w ∈ G0, w.before args s = true := fun w h => hts w (List.mem_cons_of_mem _ h)
  have hown : s.vm.findClass R_B = some m.cls := findClass_of_methodNamed Bd.named
  have hlocks := Bd.notSynchronized
  have hl := lv_entry ([.ref o, .int (iI s0), .int (iI j0), .int (iI p0)]) (n := 5) (Nat.le_of_ble_eq_true rfl)
  rw [show entryFrame m args 5 = entryFrame m ([.ref o, .int (iI s0), .int (iI j0), .int (iI p0)] : List Value).toArray 5 from by rw [hargs]]
  rw [lg_entry_eq]
  generalize (lg_sl ([.ref o, .int (iI s0), .int (iI j0), .int (iI p0)]) ++ List.replicate (5 - (lg_sl ([.ref o, .int (iI s0), .int (iI j0), .int (iI p0)])).length) Slot.unset).toArray = ls at hl ⊢
  have hl : lv_has ls 5 [(0, .ref o), (1, .int (iI s0)), (2, .int (iI j0)), (3, .int (iI p0))] := hl
  obtain ⟨R, hR⟩ : ∃ R, R = (headSpec (Cond.code y_B_form b_B_form 5 (some .int) :: G0) { frames := 6, cells := 0, slots := 0, locals := 137 }).room := ⟨_, rfl⟩
  rw [← hR]
  have hRf : R.frames = 6 := by rw [hR]; rfl
  have hRl : R.locals = 137 := by rw [hR]; rfl
  have hRc : R.cells = 0 := by rw [hR]; rfl
  have hRs : R.slots = 0 := by rw [hR]; rfl
  obtain ⟨Q, hQ⟩ : ∃ Q, Q = MQ below (hp_Qi (fun q => o ≤ q ∧ q ≤ o + 158) (fun r H => bAt E H o w c f ∧ (((0 ≤ s0 ∧ s0 < 4) ∧ ∃ (fr to : Nat) (pw : Int) (X : Nat → Nat → Int), nfS (w s0.toNat) (c s0.toNat) (f s0.toNat) fr to pw X ∧ r = (if j0 = 0 then pw else if 1 ≤ j0 ∧ j0 ≤ (to : Int) - fr ∧ 1 ≤ p0 ∧ p0 ≤ (w s0.toNat : Int) then X (fr + j0.toNat - 1) p0.toNat else 0)) ∨ (¬ (0 ≤ s0 ∧ s0 < 4) ∧ r = 0)))) args s 0 0 (fun q => o ≤ q ∧ q ≤ o + 158) := ⟨_, rfl⟩
  rw [← hQ]
  obtain ⟨H, hH⟩ : ∃ H, H = s.heap := ⟨_, rfl⟩
  obtain ⟨locs, hlocs⟩ : ∃ locs : List Loc, locs = [] := ⟨_, rfl⟩
  have hS : va_S (fun q => o ≤ q ∧ q ≤ o + 158) s.heap H locs := by rw [hH, hlocs]; exact va_S.rf
  have hZ : H.size = s.heap.size := by rw [hH]
  rw [← hH] at hB
  rw [show W p l e R s m args below meth cd s.heap [] 0 0 Q (F0 m 0 ls []) = W p l e R s m args below meth cd H locs 0 0 Q (F0 m 0 ls []) from by rw [hH, hlocs]]
  have hbt := hB
  obtain ⟨hb0, hb1, hb2, hWs, hNs⟩ := id hbt
  refine lv_iload_n hx hb d_B_form_0 rfl (lv_at hl 1 rfl) ?_
  refine hp_callS (W.runS (As := [.int (iI s0)]) (rest := []) ⟨hx, hb, hml, hown, hG⟩ (c_B_isSlot l E s0 (by unfold iR at *; omega)) (cwS 1 hG (hp_goodS ml_B_23 st_B_isSlot in_B co_B_isSlot) rfl rfl rfl hd_B_isSlot ⟨by rw [hRf]; exact Nat.le_of_ble_eq_true rfl, by rw [hRl]; exact Nat.le_of_ble_eq_true rfl⟩) (hp_preS hp_nsn hK trivial) rfl rfl hl.1 rfl (lv_room (Nat.le_of_ble_eq_true rfl)) d_B_form_1 ⟨by rw [hRc]; exact Nat.le_of_ble_eq_true rfl, by rw [hRs]; exact Nat.le_of_ble_eq_true rfl⟩) ?_
  refine hp_ifb_ne (tgt := 9) hx hb d_B_form_4 (by decide) (fun c4 => ?_) (fun c4 => ?_)
  · skip
    have c4 := of_decide_eq_true c4
    obtain ⟨t, rfl⟩ : ∃ q : Nat, s0 = (q : Int) := ⟨s0.toNat, by omega⟩
    obtain ⟨⟨hw, hf1⟩, hv⟩ := hWs t (by omega)
    have hv1 := hv.1
    have hv2 := hv.2.1
    have hv3 := hv.2.2.1
    have hbd := hv.2.2.2.1
    have hok := hv.2.2.2.2
    refine lv_aload_n hx hb d_B_form_9 rfl (lv_at hl 0 rfl) ?_
    refine lv_iload_n hx hb d_B_form_10 rfl (lv_at hl 1 rfl) ?_
    refine hp_callr (W.runV (As := [.int (iI (t : Int))]) (rest := []) ⟨hx, hb, hml, hown, hG⟩ (c_B_formOf l E o w c f t (by omega)) (cwV 1 hG (hp_goodV ml_B_98 im_B_formOf se_B_formOf in_B co_B_formOf) rfl rfl rfl hd_B_formOf ⟨by rw [hRf]; exact Nat.le_of_ble_eq_true rfl, by rw [hRl]; exact Nat.le_of_ble_eq_true rfl⟩) (hp_preV (ci := 2) hp_nsn hK rfl hb0 hbt) rfl rfl hl.1 rfl (lv_room (Nat.le_of_ble_eq_true rfl)) d_B_form_11 ⟨by rw [hRc]; exact Nat.le_of_ble_eq_true rfl, by rw [hRs]; exact Nat.le_of_ble_eq_true rfl⟩) hS (fun q h => by show _ ∧ _; have h9 := h; omega) (fun r1 H locs hpost hz1 ho1 hS => ?_)
    have hZ := hz1.trans hZ
    obtain ⟨er, hbt, f1, fr1, to1, pw1, X1, sf1, hA, hA1, hA3⟩ := hpost
    subst er
    obtain ⟨hb0, hb1, hb2, hWs, hNs⟩ := id hbt
    have hAn := hA.1
    have hrg := nfS_rng hA3
    refine lv_astore (lv' := [(4, .ref (o + 5 + 39 * t)), (0, .ref o), (1, .int (iI (t : Int))), (2, .int (iI j0)), (3, .int (iI p0))]) hx hb d_B_form_14 hl (by decide) rfl (fun ls hl => ?_)
    refine lv_iload_n hx hb d_B_form_16 rfl (lv_at hl 3 rfl) ?_
    refine hp_if_ne (tgt := 28) hx hb d_B_form_17 (by decide) (by unfold iR at *; omega) (fun c17 => ?_) (fun c17 => ?_)
    · skip
      refine lv_aload hx hb d_B_form_28 (lv_at hl 0 rfl) ?_
      refine lv_iload_n hx hb d_B_form_30 rfl (lv_at hl 3 rfl) ?_
      refine lv_iload_n hx hb d_B_form_31 rfl (lv_at hl 4 rfl) ?_
      refine hp_callS (W.runV (As := [.int (iI j0), .int (iI p0)]) (rest := []) ⟨hx, hb, hml, hown, hG⟩ (c_N_image l E (o + 5 + 39 * t) (w t) (c t) f1 fr1 to1 pw1 X1 sf1 j0 p0 hj0 hp0 hv2 (by omega)) (cwV 2 hG (hp_goodV ml_B_109 im_N_image se_N_image in_N co_N_image) rfl rfl rfl hd_N_image ⟨by rw [hRf]; exact Nat.le_of_ble_eq_true rfl, by rw [hRl]; exact Nat.le_of_ble_eq_true rfl⟩) (hp_preV (ci := 1) hp_nsn hK rfl hAn hA) rfl rfl hl.1 rfl (lv_room (Nat.le_of_ble_eq_true rfl)) d_B_form_32 ⟨by rw [hRc]; exact Nat.le_of_ble_eq_true rfl, by rw [hRs]; exact Nat.le_of_ble_eq_true rfl⟩) ?_
      rw [hQ]
      refine hp_iretQ hx hb hrt hlocks d_B_form_35 hS hZ ?_
      rw [Int.toNat_natCast]
      first | exact ⟨hbt, Or.inl ⟨by omega, fr1, to1, pw1, X1, hA3, by rw [if_pos c17]⟩⟩ | exact ⟨hbt, Or.inl ⟨by omega, fr1, to1, pw1, X1, hA3, by rw [if_neg c17]⟩⟩
    · skip
      refine lv_aload hx hb d_B_form_20 (lv_at hl 0 rfl) ?_
      refine hp_get (C := R_N) (T := F_N) (N := 6) (v := .int (iI pw1)) hx hb hG la_N hown hK.1 hAn rfl 5 (by decide) (hG _ fl_B_106) (fun _ h9 => h9) rfl d_B_form_22 ?_
      refine lv_goto (tgt := 35) hx hb d_B_form_25 (by decide) ?_
      rw [hQ]
      refine hp_iretQ hx hb hrt hlocks d_B_form_35 hS hZ ?_
      rw [Int.toNat_natCast]
      first | exact ⟨hbt, Or.inl ⟨by omega, fr1, to1, pw1, X1, hA3, by rw [if_pos c17]⟩⟩ | exact ⟨hbt, Or.inl ⟨by omega, fr1, to1, pw1, X1, hA3, by rw [if_neg c17]⟩⟩
  · skip
    have c4 := of_decide_eq_false c4
    refine hp_iconst (z := 0) hx hb d_B_form_7 (by rfl) ?_
    rw [hQ]
    refine hp_iretQ hx hb hrt hlocks d_B_form_8 hS hZ ?_
    exact ⟨hbt, Or.inr ⟨by omega, rfl⟩⟩
