set_option maxHeartbeats 4000000 in
set_option maxRecDepth 100000 in
/-- negatives() -/
theorem c_W_negatives (l : Launch) (E : hp_E) (a w c : Nat) (f : Nat → Int) (hc : c ≤ 32) (hbd : bd f) (h0 : ∀ j, j < c → f j ≠ 0) : Met l y_W_negatives (Cond.code y_W_negatives b_W_negatives 1 (some .int) :: G0) ({ frames := 2, cells := 0, slots := 0, locals := 42 }) (hp_P E [.ref a] (fun H => wAt E H a w c f)) (hp_Si (bw_neg f c : Int)) 0 0 (fun _ => False) := by
  refine Met.ofW (cc := b_W_negatives) (maxL := 1) (ret := some .int) (by decide) rfl ?_
  intro p e s m args below meth cd s₁ Bd hml hv
  obtain ⟨hargs, hB, hK⟩ := hv
  have hx := Bd.exec
  have hb := Bd.bytes
  have hrt := Bd.returns
  have hts := atoms_spec (ws := Cond.code y_W_negatives b_W_negatives 1 (some .int) :: G0) Bd.pre
  have hG : ∀ w ∈ G0, w.before args s = true := fun w h => hts w (List.mem_cons_of_mem _ h)
  have hown : s.vm.findClass R_W = some m.cls := findClass_of_methodNamed Bd.named
  have hlocks := Bd.notSynchronized
  have hl := lv_entry ([.ref a]) (n := 1) (Nat.le_of_ble_eq_true rfl)
  rw [show entryFrame m args 1 = entryFrame m ([.ref a] : List Value).toArray 1 from by rw [hargs]]
  rw [lg_entry_eq]
  generalize (lg_sl ([.ref a]) ++ List.replicate (1 - (lg_sl ([.ref a])).length) Slot.unset).toArray = ls at hl ⊢
  have hl : lv_has ls 1 [(0, .ref a)] := hl
  obtain ⟨R, hR⟩ : ∃ R, R = (headSpec (Cond.code y_W_negatives b_W_negatives 1 (some .int) :: G0) { frames := 2, cells := 0, slots := 0, locals := 42 }).room := ⟨_, rfl⟩
  rw [← hR]
  have hRf : R.frames = 2 := by rw [hR]; rfl
  have hRl : R.locals = 42 := by rw [hR]; rfl
  have hRc : R.cells = 0 := by rw [hR]; rfl
  have hRs : R.slots = 0 := by rw [hR]; rfl
  obtain ⟨Q, hQ⟩ : ∃ Q, Q = MQ below (hp_Si (bw_neg f c : Int)) args s 0 0 (fun _ => False) := ⟨_, rfl⟩
  rw [← hQ]
  obtain ⟨hw, hf1⟩ := hB
  have e1 := bw_sum_neg h0
  have e2 := bw_neg_le f c
  refine lv_aload_n hx hb d_W_negatives_0 rfl (lv_at hl 0 rfl) ?_
  refine hp_get (C := R_W) (T := F_W) (N := 3) (v := .int (iI (c : Int))) hx hb hG la_W hown hK.1 hw rfl 2 (by decide) (hG _ fl_W_19) (fun _ h9 => h9) rfl d_W_negatives_1 ?_
  refine lv_aload_n hx hb d_W_negatives_4 rfl (lv_at hl 0 rfl) ?_
  refine hp_callS (W.runV (As := []) (rest := [.int (iI (c : Int))]) ⟨hx, hb, hml, hown, hG⟩ (c_W_signSum l E a w c f hc hbd) (cwV 0 hG (hp_goodV ml_W_39 im_W_signSum se_W_signSum in_W co_W_signSum) rfl rfl rfl hd_W_signSum ⟨by rw [hRf]; exact Nat.le_of_ble_eq_true rfl, by rw [hRl]; exact Nat.le_of_ble_eq_true rfl⟩) (hp_preV (ci := 0) hp_nsn hK rfl hw ⟨hw, hf1⟩) rfl rfl hl.1 rfl (lv_room (Nat.le_of_ble_eq_true rfl)) d_W_negatives_5 ⟨by rw [hRc]; exact Nat.le_of_ble_eq_true rfl, by rw [hRs]; exact Nat.le_of_ble_eq_true rfl⟩) ?_
  refine hp_isub hx hb d_W_negatives_8 ?_
  refine hp_iconst (z := 2) hx hb d_W_negatives_9 (by rfl) ?_
  rw [show (((c : Int) - (bw_sum f c)) : Int) = ((2 * bw_neg f c : Nat) : Int) from by omega]
  refine hp_idivN (d := 2) hx hb d_W_negatives_10 (by omega) (by omega) (by omega) ?_
  rw [hQ]
  refine hp_iretS hx hb hrt hlocks d_W_negatives_11 ?_
  omega

set_option maxHeartbeats 4000000 in
set_option maxRecDepth 100000 in
/-- size() -/
theorem c_N_size (l : Launch) (E : hp_E) (b w c : Nat) (f : Nat → Int) (fr to : Nat) (pw : Int) (X : Nat → Nat → Int) (sf : Nat → Int) : Met l y_N_size (Cond.code y_N_size b_N_size 1 (some .int) :: G0) ({ frames := 0, cells := 0, slots := 0, locals := 0 }) (hp_P E [.ref b] (fun H => nAt E H b w c f fr to pw X sf)) (hp_Si ((to : Int) - fr)) 0 0 (fun _ => False) := by
  refine Met.ofW (cc := b_N_size) (maxL := 1) (ret := some .int) (by decide) rfl ?_
  intro p e s m args below meth cd s₁ Bd hml hv
  obtain ⟨hargs, hB, hK⟩ := hv
  have hx := Bd.exec
  have hb := Bd.bytes
  have hrt := Bd.returns
  have hts := atoms_spec (ws := Cond.code y_N_size b_N_size 1 (some .int) :: G0) Bd.pre
  have hG : ∀ w ∈ G0, w.before args s = true := fun w h => hts w (List.mem_cons_of_mem _ h)
  have hown : s.vm.findClass R_N = some m.cls := findClass_of_methodNamed Bd.named
  have hlocks := Bd.notSynchronized
  have hl := lv_entry ([.ref b]) (n := 1) (Nat.le_of_ble_eq_true rfl)
  rw [show entryFrame m args 1 = entryFrame m ([.ref b] : List Value).toArray 1 from by rw [hargs]]
  rw [lg_entry_eq]
  generalize (lg_sl ([.ref b]) ++ List.replicate (1 - (lg_sl ([.ref b])).length) Slot.unset).toArray = ls at hl ⊢
  have hl : lv_has ls 1 [(0, .ref b)] := hl
  obtain ⟨R, hR⟩ : ∃ R, R = (headSpec (Cond.code y_N_size b_N_size 1 (some .int) :: G0) { frames := 0, cells := 0, slots := 0, locals := 0 }).room := ⟨_, rfl⟩
  rw [← hR]
  have hRf : R.frames = 0 := by rw [hR]; rfl
  have hRl : R.locals = 0 := by rw [hR]; rfl
  have hRc : R.cells = 0 := by rw [hR]; rfl
  have hRs : R.slots = 0 := by rw [hR]; rfl
  obtain ⟨Q, hQ⟩ : ∃ Q, Q = MQ below (hp_Si ((to : Int) - fr)) args s 0 0 (fun _ => False) := ⟨_, rfl⟩
  rw [← hQ]
  obtain ⟨hn, ⟨hw, hf1⟩, hq, hs, hr⟩ := hB
  refine lv_aload_n hx hb d_N_size_0 rfl (lv_at hl 0 rfl) ?_
  refine hp_get (C := R_N) (T := F_N) (N := 6) (v := .int (iI (to : Int))) hx hb hG la_N hown hK.1 hn rfl 4 (by decide) (hG _ fl_N_31) (fun _ h9 => h9) rfl d_N_size_1 ?_
  refine lv_aload_n hx hb d_N_size_4 rfl (lv_at hl 0 rfl) ?_
  refine hp_get (C := R_N) (T := F_N) (N := 6) (v := .int (iI (fr : Int))) hx hb hG la_N hown hK.1 hn rfl 3 (by decide) (hG _ fl_N_27) (fun _ h9 => h9) rfl d_N_size_5 ?_
  refine hp_isub hx hb d_N_size_8 ?_
  rw [hQ]
  refine hp_iretS hx hb hrt hlocks d_N_size_9 ?_
  rfl

set_option maxHeartbeats 4000000 in
set_option maxRecDepth 100000 in
/-- image(j, p) -/
theorem c_N_image (l : Launch) (E : hp_E) (b w c : Nat) (f : Nat → Int) (fr to : Nat) (pw : Int) (X : Nat → Nat → Int) (sf : Nat → Int) (j0 p0 : Int) (hj : iR j0) (hp : iR p0) (hw8 : w ≤ 8) (hft : fr ≤ to ∧ to ≤ 32) : Met l y_N_image (Cond.code y_N_image b_N_image 3 (some .int) :: G0) ({ frames := 1, cells := 0, slots := 0, locals := 21 }) (hp_P E [.ref b, .int (iI j0), .int (iI p0)] (fun H => nAt E H b w c f fr to pw X sf)) (hp_Si (if 1 ≤ j0 ∧ j0 ≤ (to : Int) - fr ∧ 1 ≤ p0 ∧ p0 ≤ (w : Int) then X (fr + j0.toNat - 1) p0.toNat else 0)) 0 0 (fun _ => False) := by
  refine Met.ofW (cc := b_N_image) (maxL := 3) (ret := some .int) (by decide) rfl ?_
  intro p e s m args below meth cd s₁ Bd hml hv
  obtain ⟨hargs, hB, hK⟩ := hv
  have hx := Bd.exec
  have hb := Bd.bytes
  have hrt := Bd.returns
  have hts := atoms_spec (ws := Cond.code y_N_image b_N_image 3 (some .int) :: G0) Bd.pre
  have hG : ∀ w ∈ G0, w.before args s = true := fun w h => hts w (List.mem_cons_of_mem _ h)
  have hown : s.vm.findClass R_N = some m.cls := findClass_of_methodNamed Bd.named
  have hlocks := Bd.notSynchronized
  have hl := lv_entry ([.ref b, .int (iI j0), .int (iI p0)]) (n := 3) (Nat.le_of_ble_eq_true rfl)
  rw [show entryFrame m args 3 = entryFrame m ([.ref b, .int (iI j0), .int (iI p0)] : List Value).toArray 3 from by rw [hargs]]
  rw [lg_entry_eq]
  generalize (lg_sl ([.ref b, .int (iI j0), .int (iI p0)]) ++ List.replicate (3 - (lg_sl ([.ref b, .int (iI j0), .int (iI p0)])).length) Slot.unset).toArray = ls at hl ⊢
  have hl : lv_has ls 3 [(0, .ref b), (1, .int (iI j0)), (2, .int (iI p0))] := hl
  obtain ⟨R, hR⟩ : ∃ R, R = (headSpec (Cond.code y_N_image b_N_image 3 (some .int) :: G0) { frames := 1, cells := 0, slots := 0, locals := 21 }).room := ⟨_, rfl⟩
  rw [← hR]
  have hRf : R.frames = 1 := by rw [hR]; rfl
  have hRl : R.locals = 21 := by rw [hR]; rfl
  have hRc : R.cells = 0 := by rw [hR]; rfl
  have hRs : R.slots = 0 := by rw [hR]; rfl
  obtain ⟨Q, hQ⟩ : ∃ Q, Q = MQ below (hp_Si (if 1 ≤ j0 ∧ j0 ≤ (to : Int) - fr ∧ 1 ≤ p0 ∧ p0 ≤ (w : Int) then X (fr + j0.toNat - 1) p0.toNat else 0)) args s 0 0 (fun _ => False) := ⟨_, rfl⟩
  rw [← hQ]
  obtain ⟨hn, ⟨hw, hf1⟩, hq, hs, hr⟩ := hB
  refine lv_iload_n hx hb d_N_image_0 rfl (lv_at hl 1 rfl) ?_
  refine hp_iconst (z := 1) hx hb d_N_image_1 (by rfl) ?_
  refine hp_icmp_lt (tgt := 42) hx hb d_N_image_2 (by decide) (by unfold iR at *; omega) (by unfold iR at *; omega) (fun c2 => ?_) (fun c2 => ?_)
  · skip
    refine hp_iconst (z := 0) hx hb d_N_image_42 (by rfl) ?_
    rw [hQ]
    refine hp_iretS hx hb hrt hlocks d_N_image_43 ?_
    first | (rw [if_neg (by omega)]) | (rw [if_pos (by omega), Int.toNat_natCast, Int.toNat_natCast])
  · skip
    refine lv_iload_n hx hb d_N_image_5 rfl (lv_at hl 1 rfl) ?_
    refine lv_aload_n hx hb d_N_image_6 rfl (lv_at hl 0 rfl) ?_
    refine hp_callS (W.runV (As := []) (rest := [.int (iI j0)]) ⟨hx, hb, hml, hown, hG⟩ (c_N_size l E b w c f fr to pw X sf) (cwV 0 hG (hp_goodV ml_N_69 im_N_size se_N_size in_N co_N_size) rfl rfl rfl hd_N_size ⟨by rw [hRf]; exact Nat.le_of_ble_eq_true rfl, by rw [hRl]; exact Nat.le_of_ble_eq_true rfl⟩) (hp_preV (ci := 1) hp_nsn hK rfl hn ⟨hn, ⟨hw, hf1⟩, hq, hs, hr⟩) rfl rfl hl.1 rfl (lv_room (Nat.le_of_ble_eq_true rfl)) d_N_image_7 ⟨by rw [hRc]; exact Nat.le_of_ble_eq_true rfl, by rw [hRs]; exact Nat.le_of_ble_eq_true rfl⟩) ?_
    refine hp_icmp_gt (tgt := 42) hx hb d_N_image_10 (by decide) (by unfold iR at *; omega) (by unfold iR at *; omega) (fun c10 => ?_) (fun c10 => ?_)
    · skip
      refine hp_iconst (z := 0) hx hb d_N_image_42 (by rfl) ?_
      rw [hQ]
      refine hp_iretS hx hb hrt hlocks d_N_image_43 ?_
      first | (rw [if_neg (by omega)]) | (rw [if_pos (by omega), Int.toNat_natCast, Int.toNat_natCast])
    · skip
      refine lv_aload_n hx hb d_N_image_13 rfl (lv_at hl 0 rfl) ?_
      refine hp_get (C := R_N) (T := F_N) (N := 6) (v := .ref (b + 1)) hx hb hG la_N hown hK.1 hn rfl 0 (by decide) (hG _ fl_N_12) (fun _ h9 => h9) rfl d_N_image_14 ?_
      refine lv_iload_n hx hb d_N_image_17 rfl (lv_at hl 2 rfl) ?_
      refine hp_callS (W.runV (As := [.int (iI p0)]) (rest := []) ⟨hx, hb, hml, hown, hG⟩ (c_W_hasPlace l E (b + 1) w c f p0 hp hw8) (cwV 1 hG (hp_goodV ml_N_72 im_W_hasPlace se_W_hasPlace in_W co_W_hasPlace) rfl rfl rfl hd_W_hasPlace ⟨by rw [hRf]; exact Nat.le_of_ble_eq_true rfl, by rw [hRl]; exact Nat.le_of_ble_eq_true rfl⟩) (hp_preV (ci := 0) hp_nsn hK rfl hw ⟨hw, hf1⟩) rfl rfl hl.1 rfl (lv_room (Nat.le_of_ble_eq_true rfl)) d_N_image_18 ⟨by rw [hRc]; exact Nat.le_of_ble_eq_true rfl, by rw [hRs]; exact Nat.le_of_ble_eq_true rfl⟩) ?_
      refine hp_ifb_eq (tgt := 42) hx hb d_N_image_21 (by decide) (fun c21 => ?_) (fun c21 => ?_)
      · skip
        have c21 := of_decide_eq_false c21
        refine hp_iconst (z := 0) hx hb d_N_image_42 (by rfl) ?_
        rw [hQ]
        refine hp_iretS hx hb hrt hlocks d_N_image_43 ?_
        first | (rw [if_neg (by omega)]) | (rw [if_pos (by omega), Int.toNat_natCast, Int.toNat_natCast])
      · skip
        have c21 := of_decide_eq_true c21
        obtain ⟨j, rfl⟩ : ∃ q : Nat, j0 = (q : Int) := ⟨j0.toNat, by omega⟩
        obtain ⟨q, rfl⟩ : ∃ q : Nat, p0 = (q : Int) := ⟨p0.toNat, by omega⟩
        have hg := hr (fr + j - 1) (by omega)
        refine lv_aload_n hx hb d_N_image_24 rfl (lv_at hl 0 rfl) ?_
        refine hp_get (C := R_N) (T := F_N) (N := 6) (v := .ref (b + 3)) hx hb hG la_N hown hK.1 hn rfl 1 (by decide) (hG _ fl_N_20) (fun _ h9 => h9) rfl d_N_image_25 ?_
        refine lv_aload_n hx hb d_N_image_28 rfl (lv_at hl 0 rfl) ?_
        refine hp_get (C := R_N) (T := F_N) (N := 6) (v := .int (iI (fr : Int))) hx hb hG la_N hown hK.1 hn rfl 3 (by decide) (hG _ fl_N_27) (fun _ h9 => h9) rfl d_N_image_29 ?_
        refine lv_iload_n hx hb d_N_image_32 rfl (lv_at hl 1 rfl) ?_
        refine hp_iadd hx hb d_N_image_33 ?_
        refine hp_iconst (z := 1) hx hb d_N_image_34 (by rfl) ?_
        refine hp_isub hx hb d_N_image_35 ?_
        refine hp_aald hx hb hK.1 4 hq rfl rfl d_N_image_36 (by omega) (fr + j - 1) (by omega) (by omega) (v := .ref (b + 4 + (fr + j - 1))) (by rw [if_pos (by omega)]; rfl) ?_
        refine lv_iload_n hx hb d_N_image_37 rfl (lv_at hl 2 rfl) ?_
        refine hp_iald hx hb hK.1 0 hg rfl d_N_image_38 (by omega) q (by omega) (by omega) ?_
        refine lv_goto (tgt := 43) hx hb d_N_image_39 (by decide) ?_
        rw [hQ]
        refine hp_iretS hx hb hrt hlocks d_N_image_43 ?_
        first | (rw [if_neg (by omega)]) | (rw [if_pos (by omega), Int.toNat_natCast, Int.toNat_natCast])
