set_option maxHeartbeats 4000000 in
set_option maxRecDepth 100000 in
/-- follow(word) -/
theorem c_N_follow (l : Launch) (E : hp_E) (b w c : Nat) (f : Nat → Int) (fr to : Nat) (pw : Int) (X : Nat → Nat → Int) (sf : Nat → Int) (a w2 c2 : Nat) (g : Nat → Int) (hw8 : w ≤ 8) (hw28 : w2 ≤ 8) (hc : c ≤ 32) (hc2 : c2 ≤ 32) (hbd : bd f) (hbg : bd g) (hokg : okw w2 c2 g) (hnf : nfS w c f fr to pw X) (hab : a + 1 < b ∨ b + 36 < a) : Met l y_N_follow (Cond.code y_N_follow b_N_follow 5 (none) :: G0) ({ frames := 4, cells := 0, slots := 0, locals := 92 }) (hp_P E [.ref b, .ref a] (fun H => nAt E H b w c f fr to pw X sf ∧ wAt E H a w2 c2 g)) (hp_Qv (fun q => b ≤ q ∧ q ≤ b + 36) (fun H => ∃ (f1 : Nat → Int) (fr1 to1 : Nat) (pw1 : Int) (X1 : Nat → Nat → Int) (sf1 : Nat → Int), nAt E H b w2 c2 f1 fr1 to1 pw1 X1 sf1 ∧ bd f1 ∧ (∀ k, k < c2 → f1 k = g k) ∧ nfS w2 c2 g fr1 to1 pw1 X1)) 0 0 (fun q => b ≤ q ∧ q ≤ b + 36) := by
  refine Met.ofW (cc := b_N_follow) (maxL := 5) (ret := none) (by decide) rfl ?_
  intro p e s m args below meth cd s₁ Bd hml hv
  obtain ⟨hargs, hB, hK⟩ := hv
  have hx := Bd.exec
  have hb := Bd.bytes
  have hrt := Bd.returns
  have hts := atoms_spec (ws := Cond.code y_N_follow b_N_follow 5 (none) :: G0) Bd.pre
  have hG : ∀ w ∈ G0, w.before args s = true := fun w h => hts w (List.mem_cons_of_mem _ h)
  have hown : s.vm.findClass R_N = some m.cls := findClass_of_methodNamed Bd.named
  have hlocks := Bd.notSynchronized
  have hl := lv_entry ([.ref b, .ref a]) (n := 5) (Nat.le_of_ble_eq_true rfl)
  rw [show entryFrame m args 5 = entryFrame m ([.ref b, .ref a] : List Value).toArray 5 from by rw [hargs]]
  rw [lg_entry_eq]
  generalize (lg_sl ([.ref b, .ref a]) ++ List.replicate (5 - (lg_sl ([.ref b, .ref a])).length) Slot.unset).toArray = ls at hl ⊢
  have hl : lv_has ls 5 [(0, .ref b), (1, .ref a)] := hl
  obtain ⟨R, hR⟩ : ∃ R, R = (headSpec (Cond.code y_N_follow b_N_follow 5 (none) :: G0) { frames := 4, cells := 0, slots := 0, locals := 92 }).room := ⟨_, rfl⟩
  rw [← hR]
  have hRf : R.frames = 4 := by rw [hR]; rfl
  have hRl : R.locals = 92 := by rw [hR]; rfl
  have hRc : R.cells = 0 := by rw [hR]; rfl
  have hRs : R.slots = 0 := by rw [hR]; rfl
  obtain ⟨Q, hQ⟩ : ∃ Q, Q = MQ below (hp_Qv (fun q => b ≤ q ∧ q ≤ b + 36) (fun H => ∃ (f1 : Nat → Int) (fr1 to1 : Nat) (pw1 : Int) (X1 : Nat → Nat → Int) (sf1 : Nat → Int), nAt E H b w2 c2 f1 fr1 to1 pw1 X1 sf1 ∧ bd f1 ∧ (∀ k, k < c2 → f1 k = g k) ∧ nfS w2 c2 g fr1 to1 pw1 X1)) args s 0 0 (fun q => b ≤ q ∧ q ≤ b + 36) := ⟨_, rfl⟩
  rw [← hQ]
  obtain ⟨H, hH⟩ : ∃ H, H = s.heap := ⟨_, rfl⟩
  obtain ⟨locs, hlocs⟩ : ∃ locs : List Loc, locs = [] := ⟨_, rfl⟩
  have hS : va_S (fun q => b ≤ q ∧ q ≤ b + 36) s.heap H locs := by rw [hH, hlocs]; exact va_S.rf
  have hZ : H.size = s.heap.size := by rw [hH]
  rw [← hH] at hB
  rw [show W p l e R s m args below meth cd s.heap [] 0 0 Q (F0 m 0 ls []) = W p l e R s m args below meth cd H locs 0 0 Q (F0 m 0 ls []) from by rw [hH, hlocs]]
  obtain ⟨⟨hn, ⟨hw, hf1⟩, hq, hs, hr⟩, ha, hga⟩ := hB
  refine lv_aload_n hx hb d_N_follow_0 rfl (lv_at hl 0 rfl) ?_
  refine hp_get (C := R_N) (T := F_N) (N := 6) (v := .ref (b + 1)) hx hb hG la_N hown hK.1 hn rfl 0 (by decide) (hG _ fl_N_12) (fun _ h9 => h9) rfl d_N_follow_1 ?_
  refine lv_aload_n hx hb d_N_follow_4 rfl (lv_at hl 1 rfl) ?_
  refine hp_callS (W.runV (As := [.ref a]) (rest := []) ⟨hx, hb, hml, hown, hG⟩ (c_W_equalTo l E (b + 1) w c f a w2 c2 g hw8 (by omega) hc hc2 hbd hbg) (cwV 1 hG (hp_goodV ml_N_37 im_W_equalTo se_W_equalTo in_W co_W_equalTo) rfl rfl rfl hd_W_equalTo ⟨by rw [hRf]; exact Nat.le_of_ble_eq_true rfl, by rw [hRl]; exact Nat.le_of_ble_eq_true rfl⟩) (hp_preV (ci := 0) hp_nsn hK rfl hw ⟨⟨hw, hf1⟩, ha, hga⟩) rfl rfl hl.1 rfl (lv_room (Nat.le_of_ble_eq_true rfl)) d_N_follow_5 ⟨by rw [hRc]; exact Nat.le_of_ble_eq_true rfl, by rw [hRs]; exact Nat.le_of_ble_eq_true rfl⟩) ?_
  refine hp_ifb_eq (tgt := 12) hx hb d_N_follow_8 (by decide) (fun c8 => ?_) (fun c8 => ?_)
  · skip
    have c8 := of_decide_eq_false c8
    refine lv_aload_n hx hb d_N_follow_12 rfl (lv_at hl 0 rfl) ?_
    refine hp_get (C := R_N) (T := F_N) (N := 6) (v := .ref (b + 1)) hx hb hG la_N hown hK.1 hn rfl 0 (by decide) (hG _ fl_N_12) (fun _ h9 => h9) rfl d_N_follow_13 ?_
    refine lv_aload_n hx hb d_N_follow_16 rfl (lv_at hl 1 rfl) ?_
    refine hp_callv (W.runV (As := [.ref a]) (rest := []) ⟨hx, hb, hml, hown, hG⟩ (c_W_take l E (b + 1) w c f a w2 c2 g (by omega) hc2) (cwV 1 hG (hp_goodV ml_N_41 im_W_take se_W_take in_W co_W_take) rfl rfl rfl hd_W_take ⟨by rw [hRf]; exact Nat.le_of_ble_eq_true rfl, by rw [hRl]; exact Nat.le_of_ble_eq_true rfl⟩) (hp_preV (ci := 0) hp_nsn hK rfl hw ⟨⟨hw, hf1⟩, ha, hga⟩) rfl rfl hl.1 rfl (lv_room (Nat.le_of_ble_eq_true rfl)) d_N_follow_17 ⟨by rw [hRc]; exact Nat.le_of_ble_eq_true rfl, by rw [hRs]; exact Nat.le_of_ble_eq_true rfl⟩) hS (fun q h => by show _ ∧ _; omega) (fun H locs hpost hz1 ho1 hS => ?_)
    have hZ := hz1.trans hZ
    have hn := hn.keep (ho1 (b) (by omega))
    have hq := hq.keep (ho1 (b + 3) (by omega))
    have hs := hs.keep (ho1 (b + 36) (by omega))
    have hr : ∀ i, i < 32 → ca E H (b + 4 + i) (ai E 9 (X i)) := fun i hi => (hr i hi).keep (ho1 _ (by omega))
    have ha := ha.keep (ho1 (a) (by omega))
    have hga := hga.keep (ho1 (a + 1) (by omega))
    obtain ⟨hw, hf1⟩ := hpost
    obtain ⟨f1, hf1e⟩ : ∃ f1, f1 = va_cpy g f 0 0 c2 := ⟨_, rfl⟩
    rw [← hf1e] at hf1
    have hbf1 : bd f1 := by rw [hf1e]; exact bd_cpy hbg hbd
    have hag : ∀ k, k < c2 → f1 k = g k := fun k hk => by rw [hf1e, pk_cpy_in (Nat.zero_le k) (by omega), show 0 + (k - 0) = k by omega]
    have hok1 : okw w2 c2 f1 := okw_congr hokg (fun k hk => (hag k hk).symm)
    have hal : ∀ i, gs_ok w2 (bn_X w2 c2 f1 i) := bn_X_ok hok1
    have hnl := bw_neg_le f1 c2
    refine lv_aload_n hx hb d_N_follow_20 rfl (lv_at hl 0 rfl) ?_
    refine hp_iconst (z := 0) hx hb d_N_follow_21 (by rfl) ?_
    refine hp_put (C := R_N) (T := F_N) (N := 6) (v := .int (iI 0)) (ty := .int) hx hb hG la_N t_N tk_N n_N hown hK.1 hn hS (by show _ ∧ _; omega) rfl 3 (by decide) (hG _ fl_N_27) (fun _ h9 => h9) rfl (by decide +kernel) rfl rfl (Nat.le_of_ble_eq_true rfl) d_N_follow_22 (fun H locs hnn hz1 ho1 hS => ?_)
    have hZ := hz1.trans hZ
    have hw := hw.keep (ho1 (b + 1) (by omega))
    have hf1 := hf1.keep (ho1 (b + 1 + 1) (by omega))
    have hq := hq.keep (ho1 (b + 3) (by omega))
    have hs := hs.keep (ho1 (b + 36) (by omega))
    have hr : ∀ i, i < 32 → ca E H (b + 4 + i) (ai E 9 (X i)) := fun i hi => (hr i hi).keep (ho1 _ (by omega))
    have ha := ha.keep (ho1 (a) (by omega))
    have hga := hga.keep (ho1 (a + 1) (by omega))
    have hn : ca E H (b) (.inr (1, [.ref (b + 1), .ref (b + 3), .ref (b + 36), .int (iI 0), .int (iI (to : Int)), .int (iI pw)])) := hnn
    refine lv_aload_n hx hb d_N_follow_25 rfl (lv_at hl 0 rfl) ?_
    refine hp_iconst (z := 0) hx hb d_N_follow_26 (by rfl) ?_
    refine hp_put (C := R_N) (T := F_N) (N := 6) (v := .int (iI 0)) (ty := .int) hx hb hG la_N t_N tk_N n_N hown hK.1 hn hS (by show _ ∧ _; omega) rfl 4 (by decide) (hG _ fl_N_31) (fun _ h9 => h9) rfl (by decide +kernel) rfl rfl (Nat.le_of_ble_eq_true rfl) d_N_follow_27 (fun H locs hnn hz1 ho1 hS => ?_)
    have hZ := hz1.trans hZ
    have hw := hw.keep (ho1 (b + 1) (by omega))
    have hf1 := hf1.keep (ho1 (b + 1 + 1) (by omega))
    have hq := hq.keep (ho1 (b + 3) (by omega))
    have hs := hs.keep (ho1 (b + 36) (by omega))
    have hr : ∀ i, i < 32 → ca E H (b + 4 + i) (ai E 9 (X i)) := fun i hi => (hr i hi).keep (ho1 _ (by omega))
    have ha := ha.keep (ho1 (a) (by omega))
    have hga := hga.keep (ho1 (a + 1) (by omega))
    have hn : ca E H (b) (.inr (1, [.ref (b + 1), .ref (b + 3), .ref (b + 36), .int (iI 0), .int (iI 0), .int (iI pw)])) := hnn
    refine lv_aload_n hx hb d_N_follow_30 rfl (lv_at hl 0 rfl) ?_
    refine lv_aload_n hx hb d_N_follow_31 rfl (lv_at hl 0 rfl) ?_
    refine hp_get (C := R_N) (T := F_N) (N := 6) (v := .ref (b + 1)) hx hb hG la_N hown hK.1 hn rfl 0 (by decide) (hG _ fl_N_12) (fun _ h9 => h9) rfl d_N_follow_32 ?_
    refine hp_callS (W.runV (As := []) (rest := [.ref b]) ⟨hx, hb, hml, hown, hG⟩ (c_W_negatives l E (b + 1) w2 c2 f1 hc2 hbf1 (fun j hj => (hok1 j hj).1)) (cwV 0 hG (hp_goodV ml_N_45 im_W_negatives se_W_negatives in_W co_W_negatives) rfl rfl rfl hd_W_negatives ⟨by rw [hRf]; exact Nat.le_of_ble_eq_true rfl, by rw [hRl]; exact Nat.le_of_ble_eq_true rfl⟩) (hp_preV (ci := 0) hp_nsn hK rfl hw ⟨hw, hf1⟩) rfl rfl hl.1 rfl (lv_room (Nat.le_of_ble_eq_true rfl)) d_N_follow_35 ⟨by rw [hRc]; exact Nat.le_of_ble_eq_true rfl, by rw [hRs]; exact Nat.le_of_ble_eq_true rfl⟩) ?_
    refine hp_ineg hx hb d_N_follow_38 ?_
    refine hp_put (C := R_N) (T := F_N) (N := 6) (v := .int (iI (-((bw_neg f1 c2 : Nat) : Int)))) (ty := .int) hx hb hG la_N t_N tk_N n_N hown hK.1 hn hS (by show _ ∧ _; omega) rfl 5 (by decide) (hG _ fl_N_34) (fun _ h9 => h9) rfl (by decide +kernel) rfl rfl (Nat.le_of_ble_eq_true rfl) d_N_follow_39 (fun H locs hnn hz1 ho1 hS => ?_)
    have hZ := hz1.trans hZ
    have hw := hw.keep (ho1 (b + 1) (by omega))
    have hf1 := hf1.keep (ho1 (b + 1 + 1) (by omega))
    have hq := hq.keep (ho1 (b + 3) (by omega))
    have hs := hs.keep (ho1 (b + 36) (by omega))
    have hr : ∀ i, i < 32 → ca E H (b + 4 + i) (ai E 9 (X i)) := fun i hi => (hr i hi).keep (ho1 _ (by omega))
    have ha := ha.keep (ho1 (a) (by omega))
    have hga := hga.keep (ho1 (a + 1) (by omega))
    have hn : ca E H (b) (.inr (1, [.ref (b + 1), .ref (b + 3), .ref (b + 36), .int (iI 0), .int (iI 0), .int (iI (-((bw_neg f1 c2 : Nat) : Int)))])) := hnn
    refine lv_aload_n hx hb d_N_follow_42 rfl (lv_at hl 0 rfl) ?_
    refine hp_get (C := R_N) (T := F_N) (N := 6) (v := .ref (b + 1)) hx hb hG la_N hown hK.1 hn rfl 0 (by decide) (hG _ fl_N_12) (fun _ h9 => h9) rfl d_N_follow_43 ?_
    refine hp_callS (W.runV (As := []) (rest := []) ⟨hx, hb, hml, hown, hG⟩ (c_W_negatives l E (b + 1) w2 c2 f1 hc2 hbf1 (fun j hj => (hok1 j hj).1)) (cwV 0 hG (hp_goodV ml_N_45 im_W_negatives se_W_negatives in_W co_W_negatives) rfl rfl rfl hd_W_negatives ⟨by rw [hRf]; exact Nat.le_of_ble_eq_true rfl, by rw [hRl]; exact Nat.le_of_ble_eq_true rfl⟩) (hp_preV (ci := 0) hp_nsn hK rfl hw ⟨hw, hf1⟩) rfl rfl hl.1 rfl (lv_room (Nat.le_of_ble_eq_true rfl)) d_N_follow_46 ⟨by rw [hRc]; exact Nat.le_of_ble_eq_true rfl, by rw [hRs]; exact Nat.le_of_ble_eq_true rfl⟩) ?_
    refine hp_iconst (z := 2) hx hb d_N_follow_49 (by rfl) ?_
    refine hp_iremN (a := bw_neg f1 c2) (d := 2) hx hb d_N_follow_50 (by omega) (by omega) (by omega) ?_
    refine hp_iconst (z := 1) hx hb d_N_follow_51 (by rfl) ?_
    refine hp_icmp_ne (tgt := 59) hx hb d_N_follow_52 (by decide) (by unfold iR; omega) (by unfold iR; omega) (fun c52 => ?_) (fun c52 => ?_)
    · skip
      refine hp_iconst (z := 0) hx hb d_N_follow_59 (by rfl) ?_
      refine lv_istore_n (lv' := [(2, .int (iI 0)), (0, .ref b), (1, .ref a)]) hx hb d_N_follow_60 rfl hl (by decide) rfl (fun ls hl => ?_)
      refine hp_iconst (z := 0) hx hb d_N_follow_61 (by rfl) ?_
      refine lv_istore_n (lv' := [(3, .int (iI 0)), (2, .int (iI 0)), (0, .ref b), (1, .ref a)]) hx hb d_N_follow_62 rfl hl (by decide) rfl (fun ls hl => ?_)
      have L63 : ∀ (N : Nat) (k fr1 to1 : Nat) (mr : Bool) (pw1 : Int) (A : Nat → gs_P) (X1 : Nat → Nat → Int) (sf1 : Nat → Int), c2 - k < N → (k ≤ c2) → (mr = bw_mir f1 c2 k) → (nf_I w2 k (bn_X w2 c2 f1) fr1 to1 A) → (∀ i, i < to1 → bn_h w2 (X1 i) (A i).1) → (pw1 = (fr1 : Int) - (bw_neg f1 c2 : Int)) → ∀ (H : Heap) (locs : List Loc), va_S (fun q => b ≤ q ∧ q ≤ b + 36) s.heap H locs → H.size = s.heap.size → ca E H b (oN b fr1 to1 pw1) → ca E H (b + 1) (oW (b + 1) w2 c2) → ca E H (b + 1 + 1) (ai E 32 f1) → ca E H (b + 3) (oR E b) → ca E H (b + 36) (ai E 9 sf1) → (∀ i, i < 32 → ca E H (b + 4 + i) (ai E 9 (X1 i))) → ca E H a (oW a w2 c2) → ca E H (a + 1) (ai E 32 g) → ∀ ls : Array Slot, lv_has ls 5 [(0, .ref b), (1, .ref a), (2, .int (iI (bI mr))), (3, .int (iI (k : Int)))] → W p l e R s m args below meth cd H locs 0 0 Q (F0 m 63 ls []) := by
        intro N
        induction N with
        | zero => intro k fr1 to1 mr pw1 A X1 sf1 hN; exact absurd hN (by omega)
        | succ N ih =>
          intro k fr1 to1 mr pw1 A X1 sf1 hN hk hmr hnI hXA hpw H locs hS hZ hn hw hf1 hq hs hr ha hga ls hl
          have ih63 := ih
          refine lv_iload_n hx hb d_N_follow_63 rfl (lv_at hl 3 rfl) ?_
          refine lv_aload_n hx hb d_N_follow_64 rfl (lv_at hl 0 rfl) ?_
          refine hp_get (C := R_N) (T := F_N) (N := 6) (v := .ref (b + 1)) hx hb hG la_N hown hK.1 hn rfl 0 (by decide) (hG _ fl_N_12) (fun _ h9 => h9) rfl d_N_follow_65 ?_
          refine hp_get (C := R_W) (T := F_W) (N := 3) (v := .int (iI (c2 : Int))) hx hb hG la_W hown hK.1 hw rfl 2 (by decide) (hG _ fl_N_49) (fun _ h9 => h9) rfl d_N_follow_68 ?_
          refine hp_icmp_ge (tgt := 155) hx hb d_N_follow_71 (by decide) (by unfold iR; omega) (by unfold iR; omega) (fun c71 => ?_) (fun c71 => ?_)
          · skip
            rw [hQ]
            refine hp_vretQ hx hb hrt hlocks d_N_follow_155 hS hZ ?_
            have ek : k = c2 := by omega
            rw [ek] at hnI
            exact ⟨f1, fr1, to1, pw1, X1, sf1, ⟨hn, ⟨hw, hf1⟩, hq, hs, hr⟩, hbf1, hag, nfS_congr hag ⟨A, hnI, hXA, hpw⟩⟩
          · skip
            have hrg := hok1 k (by omega)
            have hk2 := hbf1 k
            have hlo := hnI.2.2.2.2.2
            refine lv_aload_n hx hb d_N_follow_74 rfl (lv_at hl 0 rfl) ?_
            refine hp_get (C := R_N) (T := F_N) (N := 6) (v := .ref (b + 1)) hx hb hG la_N hown hK.1 hn rfl 0 (by decide) (hG _ fl_N_12) (fun _ h9 => h9) rfl d_N_follow_75 ?_
            refine hp_get (C := R_W) (T := F_W) (N := 3) (v := .ref (b + 1 + 1)) hx hb hG la_W hown hK.1 hw rfl 0 (by decide) (hG _ fl_N_52) (fun _ h9 => h9) rfl d_N_follow_78 ?_
            refine lv_iload_n hx hb d_N_follow_81 rfl (lv_at hl 3 rfl) ?_
            refine hp_iald hx hb hK.1 0 hf1 rfl d_N_follow_82 (by omega) k (by omega) (by omega) ?_
            refine hp_if_ge (tgt := 90) hx hb d_N_follow_83 (by decide) (by unfold iR; omega) (fun c83 => ?_) (fun c83 => ?_)
            · skip
              refine hp_iconst (z := 0) hx hb d_N_follow_90 (by rfl) ?_
              refine lv_istore (lv' := [(4, .int (iI 0)), (0, .ref b), (1, .ref a), (2, .int (iI (bI mr))), (3, .int (iI (k : Int)))]) hx hb d_N_follow_91 hl (by decide) rfl (fun ls hl => ?_)
              refine lv_iload hx hb d_N_follow_93 (lv_at hl 0 rfl) ?_
              refine hp_if_eq (tgt := 108) hx hb d_N_follow_95 (by decide) (by unfold iR; omega) (fun c95 => ?_) (fun c95 => ?_)
              · skip
                refine lv_aload_n hx hb d_N_follow_108 rfl (lv_at hl 1 rfl) ?_
                refine lv_iload_n hx hb d_N_follow_109 rfl (lv_at hl 3 rfl) ?_
                refine hp_ifb_eq (tgt := 132) hx hb d_N_follow_110 (by decide) (fun c110 => ?_) (fun c110 => ?_)
                · skip
                  refine lv_aload_n hx hb d_N_follow_132 rfl (lv_at hl 1 rfl) ?_
                  refine hp_get (C := R_N) (T := F_N) (N := 6) (v := .ref (b + 1)) hx hb hG la_N hown hK.1 hn rfl 0 (by decide) (hG _ fl_N_12) (fun _ h9 => h9) rfl d_N_follow_133 ?_
                  refine lv_iload_n hx hb d_N_follow_136 rfl (lv_at hl 4 rfl) ?_
                  refine hp_callS (W.runV (As := [.int (iI (k : Int))]) (rest := [.ref b]) ⟨hx, hb, hml, hown, hG⟩ (c_W_value l E (b + 1) w2 c2 f1 k (by omega) hbf1) (cwV 1 hG (hp_goodV ml_N_58 im_W_value se_W_value in_W co_W_value) rfl rfl rfl hd_W_value ⟨by rw [hRf]; exact Nat.le_of_ble_eq_true rfl, by rw [hRl]; exact Nat.le_of_ble_eq_true rfl⟩) (hp_preV (ci := 0) hp_nsn hK rfl hw ⟨hw, hf1⟩) rfl rfl hl.1 rfl (lv_room (Nat.le_of_ble_eq_true rfl)) d_N_follow_137 ⟨by rw [hRc]; exact Nat.le_of_ble_eq_true rfl, by rw [hRs]; exact Nat.le_of_ble_eq_true rfl⟩) ?_
                  refine lv_iload hx hb d_N_follow_140 (lv_at hl 0 rfl) ?_
                  have hg := hr to1 (by omega)
                  have hm1 : bw_mir f1 c2 (k + 1) = false := by rw [bw_mir_pos (by omega), ← hmr]; exact c110
                  have hXk : bn_X w2 c2 f1 k = gs_si w2 ((f1 k).natAbs) false := bn_X_is (by omega) (bn_i_f hm1) (decide_eq_false (by omega))
                  refine hp_callv (W.runV (As := [.int (iI ((f1 k).natAbs : Int)), .int (iI (bI false))]) (rest := []) ⟨hx, hb, hml, hown, hG⟩ (c_N_appendSimple l E b w2 c2 fr1 to1 pw1 ((f1 k).natAbs) false (X1 to1) (by omega) (by omega) ⟨by omega, by omega⟩) (cwV 2 hG (hp_goodV ml_N_62 im_N_appendSimple se_N_appendSimple in_N co_N_appendSimple) rfl rfl rfl hd_N_appendSimple ⟨by rw [hRf]; exact Nat.le_of_ble_eq_true rfl, by rw [hRl]; exact Nat.le_of_ble_eq_true rfl⟩) (hp_preV (ci := 1) hp_nsn hK rfl hn ⟨hn, hw, hq, hg⟩) rfl rfl hl.1 rfl (lv_room (Nat.le_of_ble_eq_true rfl)) d_N_follow_142 ⟨by rw [hRc]; exact Nat.le_of_ble_eq_true rfl, by rw [hRs]; exact Nat.le_of_ble_eq_true rfl⟩) hS (fun q h => by show _ ∧ _; omega) (fun H locs hpost hz1 ho1 hS => ?_)
                  have hZ := hz1.trans hZ
                  obtain ⟨g1, p1, hn, hg⟩ := hpost
                  have hr := st_Xa hr ho1 hg
                  have hw := hw.keep (ho1 (b + 1) (by omega))
                  have hf1 := hf1.keep (ho1 (b + 1 + 1) (by omega))
                  have hq := hq.keep (ho1 (b + 3) (by omega))
                  have hs := hs.keep (ho1 (b + 36) (by omega))
                  have ha := ha.keep (ho1 (a) (by omega))
                  have hga := hga.keep (ho1 (a + 1) (by omega))
                  obtain ⟨A1, q1, q2, q3, q4⟩ := nf_tr hnI hal
                  have hA1 := hXk
                  rw [← q2] at hA1
                  rw [← hA1] at p1
                  obtain ⟨d1, q5⟩ := q1
                  have hokA : ∀ i, i < to1 + 1 → gs_ok w2 (A1 i) := fun i _ => nf_ok q5 hal i
                  refine lv_aload_n hx hb d_N_follow_145 rfl (lv_at hl 1 rfl) ?_
                  refine hp_callv (W.runV (As := []) (rest := []) ⟨hx, hb, hml, hown, hG⟩ (c_N_settle l E b w2 c2 fr1 (to1 + 1) pw1 A1 (hp_up X1 to1 g1) sf1 (by omega) (by have := hnI.2.2.2.2.2.1; have := hnI.2.2.2.2.2.2; omega) hokA (st_Xb hXA q4 p1) (nf_low hnI q4)) (cwV 0 hG (hp_goodV ml_N_66 im_N_settle se_N_settle in_N co_N_settle) rfl rfl rfl hd_N_settle ⟨by rw [hRf]; exact Nat.le_of_ble_eq_true rfl, by rw [hRl]; exact Nat.le_of_ble_eq_true rfl⟩) (hp_preV (ci := 1) hp_nsn hK rfl hn ⟨hn, hw, hq, hs, hr⟩) rfl rfl hl.1 rfl (lv_room (Nat.le_of_ble_eq_true rfl)) d_N_follow_146 ⟨by rw [hRc]; exact Nat.le_of_ble_eq_true rfl, by rw [hRs]; exact Nat.le_of_ble_eq_true rfl⟩) hS (fun q h => by show _ ∧ _; omega) (fun H locs hpost hz1 ho1 hS => ?_)
                  have hZ := hz1.trans hZ
                  obtain ⟨d2, fr2, to2, B2, X2, sf2, s1, s2, s3, s4, s5, s6, s7, s8, hn, hs, hr⟩ := hpost
                  have hw := hw.keep (ho1 (b + 1) (by omega))
                  have hf1 := hf1.keep (ho1 (b + 1 + 1) (by omega))
                  have hq := hq.keep (ho1 (b + 3) (by omega))
                  have ha := ha.keep (ho1 (a) (by omega))
                  have hga := hga.keep (ho1 (a + 1) (by omega))
                  refine hp_iinc (z := ((k : Int) + 1)) (lv' := [(3, .int (iI ((k : Int) + 1))), (4, .int (iI 0)), (0, .ref b), (1, .ref a), (2, .int (iI (bI mr)))]) hx hb d_N_follow_149 hl (k := 4) rfl (by omega) (by decide) rfl (fun ls hl => ?_)
                  refine lv_goto (tgt := 63) hx hb d_N_follow_152 (by decide) ?_
                  exact ih63  (k + 1) fr2 to2 mr (pw1 + ((fr2 : Int) - fr1)) B2 X2 sf2 (by omega) (by omega) (by first | exact hm1.symm | (rw [hm1]; exact c110)) (by exact nf_step hnI ⟨d1, q5⟩ q3 q4 s1 s2 s4 s5 s6 s7 s8) (by intro i hi; exact s3 i (by omega)) (by omega) H locs hS hZ hn hw hf1 hq hs hr ha hga ls (lv_sub hl [2, 3, 4, 0] rfl)
                · skip
                  refine lv_aload_n hx hb d_N_follow_113 rfl (lv_at hl 1 rfl) ?_
                  refine hp_get (C := R_N) (T := F_N) (N := 6) (v := .ref (b + 1)) hx hb hG la_N hown hK.1 hn rfl 0 (by decide) (hG _ fl_N_12) (fun _ h9 => h9) rfl d_N_follow_114 ?_
                  refine hp_get (C := R_W) (T := F_W) (N := 3) (v := .int (iI (w2 : Int))) hx hb hG la_W hown hK.1 hw rfl 1 (by decide) (hG _ fl_N_55) (fun _ h9 => h9) rfl d_N_follow_117 ?_
                  refine lv_aload_n hx hb d_N_follow_120 rfl (lv_at hl 1 rfl) ?_
                  refine hp_get (C := R_N) (T := F_N) (N := 6) (v := .ref (b + 1)) hx hb hG la_N hown hK.1 hn rfl 0 (by decide) (hG _ fl_N_12) (fun _ h9 => h9) rfl d_N_follow_121 ?_
                  refine lv_iload_n hx hb d_N_follow_124 rfl (lv_at hl 4 rfl) ?_
                  refine hp_callS (W.runV (As := [.int (iI (k : Int))]) (rest := [.int (iI (w2 : Int)), .ref b]) ⟨hx, hb, hml, hown, hG⟩ (c_W_value l E (b + 1) w2 c2 f1 k (by omega) hbf1) (cwV 1 hG (hp_goodV ml_N_58 im_W_value se_W_value in_W co_W_value) rfl rfl rfl hd_W_value ⟨by rw [hRf]; exact Nat.le_of_ble_eq_true rfl, by rw [hRl]; exact Nat.le_of_ble_eq_true rfl⟩) (hp_preV (ci := 0) hp_nsn hK rfl hw ⟨hw, hf1⟩) rfl rfl hl.1 rfl (lv_room (Nat.le_of_ble_eq_true rfl)) d_N_follow_125 ⟨by rw [hRc]; exact Nat.le_of_ble_eq_true rfl, by rw [hRs]; exact Nat.le_of_ble_eq_true rfl⟩) ?_
                  refine hp_isub hx hb d_N_follow_128 ?_
                  refine lv_goto (tgt := 140) hx hb d_N_follow_129 (by decide) ?_
                  refine lv_iload hx hb d_N_follow_140 (lv_at hl 0 rfl) ?_
                  rw [show (((w2 : Int) - ((f1 k).natAbs : Int)) : Int) = (((w2 - (f1 k).natAbs) : Nat) : Int) from by omega]
                  have hg := hr to1 (by omega)
                  have hm1 : bw_mir f1 c2 (k + 1) = true := by rw [bw_mir_pos (by omega), ← hmr]; exact c110
                  have hXk : bn_X w2 c2 f1 k = gs_si w2 (w2 - (f1 k).natAbs) false := bn_X_is (by omega) (bn_i_t hm1) (decide_eq_false (by omega))
                  refine hp_callv (W.runV (As := [.int (iI (((w2 - (f1 k).natAbs) : Nat) : Int)), .int (iI (bI false))]) (rest := []) ⟨hx, hb, hml, hown, hG⟩ (c_N_appendSimple l E b w2 c2 fr1 to1 pw1 (w2 - (f1 k).natAbs) false (X1 to1) (by omega) (by omega) ⟨by omega, by omega⟩) (cwV 2 hG (hp_goodV ml_N_62 im_N_appendSimple se_N_appendSimple in_N co_N_appendSimple) rfl rfl rfl hd_N_appendSimple ⟨by rw [hRf]; exact Nat.le_of_ble_eq_true rfl, by rw [hRl]; exact Nat.le_of_ble_eq_true rfl⟩) (hp_preV (ci := 1) hp_nsn hK rfl hn ⟨hn, hw, hq, hg⟩) rfl rfl hl.1 rfl (lv_room (Nat.le_of_ble_eq_true rfl)) d_N_follow_142 ⟨by rw [hRc]; exact Nat.le_of_ble_eq_true rfl, by rw [hRs]; exact Nat.le_of_ble_eq_true rfl⟩) hS (fun q h => by show _ ∧ _; omega) (fun H locs hpost hz1 ho1 hS => ?_)
                  have hZ := hz1.trans hZ
                  obtain ⟨g1, p1, hn, hg⟩ := hpost
                  have hr := st_Xa hr ho1 hg
                  have hw := hw.keep (ho1 (b + 1) (by omega))
                  have hf1 := hf1.keep (ho1 (b + 1 + 1) (by omega))
                  have hq := hq.keep (ho1 (b + 3) (by omega))
                  have hs := hs.keep (ho1 (b + 36) (by omega))
                  have ha := ha.keep (ho1 (a) (by omega))
                  have hga := hga.keep (ho1 (a + 1) (by omega))
                  obtain ⟨A1, q1, q2, q3, q4⟩ := nf_tr hnI hal
                  have hA1 := hXk
                  rw [← q2] at hA1
                  rw [← hA1] at p1
                  obtain ⟨d1, q5⟩ := q1
                  have hokA : ∀ i, i < to1 + 1 → gs_ok w2 (A1 i) := fun i _ => nf_ok q5 hal i
                  refine lv_aload_n hx hb d_N_follow_145 rfl (lv_at hl 1 rfl) ?_
                  refine hp_callv (W.runV (As := []) (rest := []) ⟨hx, hb, hml, hown, hG⟩ (c_N_settle l E b w2 c2 fr1 (to1 + 1) pw1 A1 (hp_up X1 to1 g1) sf1 (by omega) (by have := hnI.2.2.2.2.2.1; have := hnI.2.2.2.2.2.2; omega) hokA (st_Xb hXA q4 p1) (nf_low hnI q4)) (cwV 0 hG (hp_goodV ml_N_66 im_N_settle se_N_settle in_N co_N_settle) rfl rfl rfl hd_N_settle ⟨by rw [hRf]; exact Nat.le_of_ble_eq_true rfl, by rw [hRl]; exact Nat.le_of_ble_eq_true rfl⟩) (hp_preV (ci := 1) hp_nsn hK rfl hn ⟨hn, hw, hq, hs, hr⟩) rfl rfl hl.1 rfl (lv_room (Nat.le_of_ble_eq_true rfl)) d_N_follow_146 ⟨by rw [hRc]; exact Nat.le_of_ble_eq_true rfl, by rw [hRs]; exact Nat.le_of_ble_eq_true rfl⟩) hS (fun q h => by show _ ∧ _; omega) (fun H locs hpost hz1 ho1 hS => ?_)
                  have hZ := hz1.trans hZ
                  obtain ⟨d2, fr2, to2, B2, X2, sf2, s1, s2, s3, s4, s5, s6, s7, s8, hn, hs, hr⟩ := hpost
                  have hw := hw.keep (ho1 (b + 1) (by omega))
                  have hf1 := hf1.keep (ho1 (b + 1 + 1) (by omega))
                  have hq := hq.keep (ho1 (b + 3) (by omega))
                  have ha := ha.keep (ho1 (a) (by omega))
                  have hga := hga.keep (ho1 (a + 1) (by omega))
                  refine hp_iinc (z := ((k : Int) + 1)) (lv' := [(3, .int (iI ((k : Int) + 1))), (4, .int (iI 0)), (0, .ref b), (1, .ref a), (2, .int (iI (bI mr)))]) hx hb d_N_follow_149 hl (k := 4) rfl (by omega) (by decide) rfl (fun ls hl => ?_)
                  refine lv_goto (tgt := 63) hx hb d_N_follow_152 (by decide) ?_
                  exact ih63  (k + 1) fr2 to2 mr (pw1 + ((fr2 : Int) - fr1)) B2 X2 sf2 (by omega) (by omega) (by first | exact hm1.symm | (rw [hm1]; exact c110)) (by exact nf_step hnI ⟨d1, q5⟩ q3 q4 s1 s2 s4 s5 s6 s7 s8) (by intro i hi; exact s3 i (by omega)) (by omega) H locs hS hZ hn hw hf1 hq hs hr ha hga ls (lv_sub hl [2, 3, 4, 0] rfl)
              · skip
                exact absurd c95 (by first | decide | omega)
            · skip
              refine hp_iconst (z := 1) hx hb d_N_follow_86 (by rfl) ?_
              refine lv_goto (tgt := 91) hx hb d_N_follow_87 (by decide) ?_
              refine lv_istore (lv' := [(4, .int (iI 1)), (0, .ref b), (1, .ref a), (2, .int (iI (bI mr))), (3, .int (iI (k : Int)))]) hx hb d_N_follow_91 hl (by decide) rfl (fun ls hl => ?_)
              refine lv_iload hx hb d_N_follow_93 (lv_at hl 0 rfl) ?_
              refine hp_if_eq (tgt := 108) hx hb d_N_follow_95 (by decide) (by unfold iR; omega) (fun c95 => ?_) (fun c95 => ?_)
              · skip
                exact absurd c95 (by first | decide | omega)
              · skip
                refine lv_iload_n hx hb d_N_follow_98 rfl (lv_at hl 3 rfl) ?_
                refine hp_ifb_ne (tgt := 106) hx hb d_N_follow_99 (by decide) (fun c99 => ?_) (fun c99 => ?_)
                · skip
                  refine hp_iconst (z := 0) hx hb d_N_follow_106 (by rfl) ?_
                  refine lv_istore_n (lv' := [(2, .int (iI 0)), (4, .int (iI 1)), (0, .ref b), (1, .ref a), (3, .int (iI (k : Int)))]) hx hb d_N_follow_107 rfl hl (by decide) rfl (fun ls hl => ?_)
                  refine lv_aload_n hx hb d_N_follow_108 rfl (lv_at hl 2 rfl) ?_
                  refine lv_iload_n hx hb d_N_follow_109 rfl (lv_at hl 0 rfl) ?_
                  refine hp_if_eq (tgt := 132) hx hb d_N_follow_110 (by decide) (by unfold iR; omega) (fun c110 => ?_) (fun c110 => ?_)
                  · skip
                    refine lv_aload_n hx hb d_N_follow_132 rfl (lv_at hl 2 rfl) ?_
                    refine hp_get (C := R_N) (T := F_N) (N := 6) (v := .ref (b + 1)) hx hb hG la_N hown hK.1 hn rfl 0 (by decide) (hG _ fl_N_12) (fun _ h9 => h9) rfl d_N_follow_133 ?_
                    refine lv_iload_n hx hb d_N_follow_136 rfl (lv_at hl 4 rfl) ?_
                    refine hp_callS (W.runV (As := [.int (iI (k : Int))]) (rest := [.ref b]) ⟨hx, hb, hml, hown, hG⟩ (c_W_value l E (b + 1) w2 c2 f1 k (by omega) hbf1) (cwV 1 hG (hp_goodV ml_N_58 im_W_value se_W_value in_W co_W_value) rfl rfl rfl hd_W_value ⟨by rw [hRf]; exact Nat.le_of_ble_eq_true rfl, by rw [hRl]; exact Nat.le_of_ble_eq_true rfl⟩) (hp_preV (ci := 0) hp_nsn hK rfl hw ⟨hw, hf1⟩) rfl rfl hl.1 rfl (lv_room (Nat.le_of_ble_eq_true rfl)) d_N_follow_137 ⟨by rw [hRc]; exact Nat.le_of_ble_eq_true rfl, by rw [hRs]; exact Nat.le_of_ble_eq_true rfl⟩) ?_
                    refine lv_iload hx hb d_N_follow_140 (lv_at hl 1 rfl) ?_
                    have hg := hr to1 (by omega)
                    have hm1 : bw_mir f1 c2 (k + 1) = false := by rw [bw_mir_neg (by omega) c83, ← hmr]; rw [c99]; rfl
                    have hXk : bn_X w2 c2 f1 k = gs_si w2 ((f1 k).natAbs) true := bn_X_is (by omega) (bn_i_f hm1) (decide_eq_true c83)
                    refine hp_callv (W.runV (As := [.int (iI ((f1 k).natAbs : Int)), .int (iI (bI true))]) (rest := []) ⟨hx, hb, hml, hown, hG⟩ (c_N_appendSimple l E b w2 c2 fr1 to1 pw1 ((f1 k).natAbs) true (X1 to1) (by omega) (by omega) ⟨by omega, by omega⟩) (cwV 2 hG (hp_goodV ml_N_62 im_N_appendSimple se_N_appendSimple in_N co_N_appendSimple) rfl rfl rfl hd_N_appendSimple ⟨by rw [hRf]; exact Nat.le_of_ble_eq_true rfl, by rw [hRl]; exact Nat.le_of_ble_eq_true rfl⟩) (hp_preV (ci := 1) hp_nsn hK rfl hn ⟨hn, hw, hq, hg⟩) rfl rfl hl.1 rfl (lv_room (Nat.le_of_ble_eq_true rfl)) d_N_follow_142 ⟨by rw [hRc]; exact Nat.le_of_ble_eq_true rfl, by rw [hRs]; exact Nat.le_of_ble_eq_true rfl⟩) hS (fun q h => by show _ ∧ _; omega) (fun H locs hpost hz1 ho1 hS => ?_)
                    have hZ := hz1.trans hZ
                    obtain ⟨g1, p1, hn, hg⟩ := hpost
                    have hr := st_Xa hr ho1 hg
                    have hw := hw.keep (ho1 (b + 1) (by omega))
                    have hf1 := hf1.keep (ho1 (b + 1 + 1) (by omega))
                    have hq := hq.keep (ho1 (b + 3) (by omega))
                    have hs := hs.keep (ho1 (b + 36) (by omega))
                    have ha := ha.keep (ho1 (a) (by omega))
                    have hga := hga.keep (ho1 (a + 1) (by omega))
                    obtain ⟨A1, q1, q2, q3, q4⟩ := nf_tr hnI hal
                    have hA1 := hXk
                    rw [← q2] at hA1
                    rw [← hA1] at p1
                    obtain ⟨d1, q5⟩ := q1
                    have hokA : ∀ i, i < to1 + 1 → gs_ok w2 (A1 i) := fun i _ => nf_ok q5 hal i
                    refine lv_aload_n hx hb d_N_follow_145 rfl (lv_at hl 2 rfl) ?_
                    refine hp_callv (W.runV (As := []) (rest := []) ⟨hx, hb, hml, hown, hG⟩ (c_N_settle l E b w2 c2 fr1 (to1 + 1) pw1 A1 (hp_up X1 to1 g1) sf1 (by omega) (by have := hnI.2.2.2.2.2.1; have := hnI.2.2.2.2.2.2; omega) hokA (st_Xb hXA q4 p1) (nf_low hnI q4)) (cwV 0 hG (hp_goodV ml_N_66 im_N_settle se_N_settle in_N co_N_settle) rfl rfl rfl hd_N_settle ⟨by rw [hRf]; exact Nat.le_of_ble_eq_true rfl, by rw [hRl]; exact Nat.le_of_ble_eq_true rfl⟩) (hp_preV (ci := 1) hp_nsn hK rfl hn ⟨hn, hw, hq, hs, hr⟩) rfl rfl hl.1 rfl (lv_room (Nat.le_of_ble_eq_true rfl)) d_N_follow_146 ⟨by rw [hRc]; exact Nat.le_of_ble_eq_true rfl, by rw [hRs]; exact Nat.le_of_ble_eq_true rfl⟩) hS (fun q h => by show _ ∧ _; omega) (fun H locs hpost hz1 ho1 hS => ?_)
                    have hZ := hz1.trans hZ
                    obtain ⟨d2, fr2, to2, B2, X2, sf2, s1, s2, s3, s4, s5, s6, s7, s8, hn, hs, hr⟩ := hpost
                    have hw := hw.keep (ho1 (b + 1) (by omega))
                    have hf1 := hf1.keep (ho1 (b + 1 + 1) (by omega))
                    have hq := hq.keep (ho1 (b + 3) (by omega))
                    have ha := ha.keep (ho1 (a) (by omega))
                    have hga := hga.keep (ho1 (a + 1) (by omega))
                    refine hp_iinc (z := ((k : Int) + 1)) (lv' := [(3, .int (iI ((k : Int) + 1))), (2, .int (iI 0)), (4, .int (iI 1)), (0, .ref b), (1, .ref a)]) hx hb d_N_follow_149 hl (k := 4) rfl (by omega) (by decide) rfl (fun ls hl => ?_)
                    refine lv_goto (tgt := 63) hx hb d_N_follow_152 (by decide) ?_
                    exact ih63  (k + 1) fr2 to2 false (pw1 + ((fr2 : Int) - fr1)) B2 X2 sf2 (by omega) (by omega) (by first | exact hm1.symm | (rw [hm1]; exact c110)) (by exact nf_step hnI ⟨d1, q5⟩ q3 q4 s1 s2 s4 s5 s6 s7 s8) (by intro i hi; exact s3 i (by omega)) (by omega) H locs hS hZ hn hw hf1 hq hs hr ha hga ls (lv_sub hl [3, 4, 1, 0] rfl)
                  · skip
                    exact absurd c110 (by first | decide | omega)
                · skip
                  refine hp_iconst (z := 1) hx hb d_N_follow_102 (by rfl) ?_
                  refine lv_goto (tgt := 107) hx hb d_N_follow_103 (by decide) ?_
                  refine lv_istore_n (lv' := [(2, .int (iI 1)), (4, .int (iI 1)), (0, .ref b), (1, .ref a), (3, .int (iI (k : Int)))]) hx hb d_N_follow_107 rfl hl (by decide) rfl (fun ls hl => ?_)
                  refine lv_aload_n hx hb d_N_follow_108 rfl (lv_at hl 2 rfl) ?_
                  refine lv_iload_n hx hb d_N_follow_109 rfl (lv_at hl 0 rfl) ?_
                  refine hp_if_eq (tgt := 132) hx hb d_N_follow_110 (by decide) (by unfold iR; omega) (fun c110 => ?_) (fun c110 => ?_)
                  · skip
                    exact absurd c110 (by first | decide | omega)
                  · skip
                    refine lv_aload_n hx hb d_N_follow_113 rfl (lv_at hl 2 rfl) ?_
                    refine hp_get (C := R_N) (T := F_N) (N := 6) (v := .ref (b + 1)) hx hb hG la_N hown hK.1 hn rfl 0 (by decide) (hG _ fl_N_12) (fun _ h9 => h9) rfl d_N_follow_114 ?_
                    refine hp_get (C := R_W) (T := F_W) (N := 3) (v := .int (iI (w2 : Int))) hx hb hG la_W hown hK.1 hw rfl 1 (by decide) (hG _ fl_N_55) (fun _ h9 => h9) rfl d_N_follow_117 ?_
                    refine lv_aload_n hx hb d_N_follow_120 rfl (lv_at hl 2 rfl) ?_
                    refine hp_get (C := R_N) (T := F_N) (N := 6) (v := .ref (b + 1)) hx hb hG la_N hown hK.1 hn rfl 0 (by decide) (hG _ fl_N_12) (fun _ h9 => h9) rfl d_N_follow_121 ?_
                    refine lv_iload_n hx hb d_N_follow_124 rfl (lv_at hl 4 rfl) ?_
                    refine hp_callS (W.runV (As := [.int (iI (k : Int))]) (rest := [.int (iI (w2 : Int)), .ref b]) ⟨hx, hb, hml, hown, hG⟩ (c_W_value l E (b + 1) w2 c2 f1 k (by omega) hbf1) (cwV 1 hG (hp_goodV ml_N_58 im_W_value se_W_value in_W co_W_value) rfl rfl rfl hd_W_value ⟨by rw [hRf]; exact Nat.le_of_ble_eq_true rfl, by rw [hRl]; exact Nat.le_of_ble_eq_true rfl⟩) (hp_preV (ci := 0) hp_nsn hK rfl hw ⟨hw, hf1⟩) rfl rfl hl.1 rfl (lv_room (Nat.le_of_ble_eq_true rfl)) d_N_follow_125 ⟨by rw [hRc]; exact Nat.le_of_ble_eq_true rfl, by rw [hRs]; exact Nat.le_of_ble_eq_true rfl⟩) ?_
                    refine hp_isub hx hb d_N_follow_128 ?_
                    refine lv_goto (tgt := 140) hx hb d_N_follow_129 (by decide) ?_
                    refine lv_iload hx hb d_N_follow_140 (lv_at hl 1 rfl) ?_
                    rw [show (((w2 : Int) - ((f1 k).natAbs : Int)) : Int) = (((w2 - (f1 k).natAbs) : Nat) : Int) from by omega]
                    have hg := hr to1 (by omega)
                    have hm1 : bw_mir f1 c2 (k + 1) = true := by rw [bw_mir_neg (by omega) c83, ← hmr]; rw [c99]; rfl
                    have hXk : bn_X w2 c2 f1 k = gs_si w2 (w2 - (f1 k).natAbs) true := bn_X_is (by omega) (bn_i_t hm1) (decide_eq_true c83)
                    refine hp_callv (W.runV (As := [.int (iI (((w2 - (f1 k).natAbs) : Nat) : Int)), .int (iI (bI true))]) (rest := []) ⟨hx, hb, hml, hown, hG⟩ (c_N_appendSimple l E b w2 c2 fr1 to1 pw1 (w2 - (f1 k).natAbs) true (X1 to1) (by omega) (by omega) ⟨by omega, by omega⟩) (cwV 2 hG (hp_goodV ml_N_62 im_N_appendSimple se_N_appendSimple in_N co_N_appendSimple) rfl rfl rfl hd_N_appendSimple ⟨by rw [hRf]; exact Nat.le_of_ble_eq_true rfl, by rw [hRl]; exact Nat.le_of_ble_eq_true rfl⟩) (hp_preV (ci := 1) hp_nsn hK rfl hn ⟨hn, hw, hq, hg⟩) rfl rfl hl.1 rfl (lv_room (Nat.le_of_ble_eq_true rfl)) d_N_follow_142 ⟨by rw [hRc]; exact Nat.le_of_ble_eq_true rfl, by rw [hRs]; exact Nat.le_of_ble_eq_true rfl⟩) hS (fun q h => by show _ ∧ _; omega) (fun H locs hpost hz1 ho1 hS => ?_)
                    have hZ := hz1.trans hZ
                    obtain ⟨g1, p1, hn, hg⟩ := hpost
                    have hr := st_Xa hr ho1 hg
                    have hw := hw.keep (ho1 (b + 1) (by omega))
                    have hf1 := hf1.keep (ho1 (b + 1 + 1) (by omega))
                    have hq := hq.keep (ho1 (b + 3) (by omega))
                    have hs := hs.keep (ho1 (b + 36) (by omega))
                    have ha := ha.keep (ho1 (a) (by omega))
                    have hga := hga.keep (ho1 (a + 1) (by omega))
                    obtain ⟨A1, q1, q2, q3, q4⟩ := nf_tr hnI hal
                    have hA1 := hXk
                    rw [← q2] at hA1
                    rw [← hA1] at p1
                    obtain ⟨d1, q5⟩ := q1
                    have hokA : ∀ i, i < to1 + 1 → gs_ok w2 (A1 i) := fun i _ => nf_ok q5 hal i
                    refine lv_aload_n hx hb d_N_follow_145 rfl (lv_at hl 2 rfl) ?_
                    refine hp_callv (W.runV (As := []) (rest := []) ⟨hx, hb, hml, hown, hG⟩ (c_N_settle l E b w2 c2 fr1 (to1 + 1) pw1 A1 (hp_up X1 to1 g1) sf1 (by omega) (by have := hnI.2.2.2.2.2.1; have := hnI.2.2.2.2.2.2; omega) hokA (st_Xb hXA q4 p1) (nf_low hnI q4)) (cwV 0 hG (hp_goodV ml_N_66 im_N_settle se_N_settle in_N co_N_settle) rfl rfl rfl hd_N_settle ⟨by rw [hRf]; exact Nat.le_of_ble_eq_true rfl, by rw [hRl]; exact Nat.le_of_ble_eq_true rfl⟩) (hp_preV (ci := 1) hp_nsn hK rfl hn ⟨hn, hw, hq, hs, hr⟩) rfl rfl hl.1 rfl (lv_room (Nat.le_of_ble_eq_true rfl)) d_N_follow_146 ⟨by rw [hRc]; exact Nat.le_of_ble_eq_true rfl, by rw [hRs]; exact Nat.le_of_ble_eq_true rfl⟩) hS (fun q h => by show _ ∧ _; omega) (fun H locs hpost hz1 ho1 hS => ?_)
                    have hZ := hz1.trans hZ
                    obtain ⟨d2, fr2, to2, B2, X2, sf2, s1, s2, s3, s4, s5, s6, s7, s8, hn, hs, hr⟩ := hpost
                    have hw := hw.keep (ho1 (b + 1) (by omega))
                    have hf1 := hf1.keep (ho1 (b + 1 + 1) (by omega))
                    have hq := hq.keep (ho1 (b + 3) (by omega))
                    have ha := ha.keep (ho1 (a) (by omega))
                    have hga := hga.keep (ho1 (a + 1) (by omega))
                    refine hp_iinc (z := ((k : Int) + 1)) (lv' := [(3, .int (iI ((k : Int) + 1))), (2, .int (iI 1)), (4, .int (iI 1)), (0, .ref b), (1, .ref a)]) hx hb d_N_follow_149 hl (k := 4) rfl (by omega) (by decide) rfl (fun ls hl => ?_)
                    refine lv_goto (tgt := 63) hx hb d_N_follow_152 (by decide) ?_
                    exact ih63  (k + 1) fr2 to2 true (pw1 + ((fr2 : Int) - fr1)) B2 X2 sf2 (by omega) (by omega) (by first | exact hm1.symm | (rw [hm1]; exact c110)) (by exact nf_step hnI ⟨d1, q5⟩ q3 q4 s1 s2 s4 s5 s6 s7 s8) (by intro i hi; exact s3 i (by omega)) (by omega) H locs hS hZ hn hw hf1 hq hs hr ha hga ls (lv_sub hl [3, 4, 1, 0] rfl)
      exact L63 (c2 - 0 + 1) 0 0 0 false (-((bw_neg f1 c2 : Nat) : Int)) (bn_X w2 c2 f1) X sf (by omega) (by omega) (by rw [bw_mir_0]; first | (rw [decide_eq_true (by omega)]) | (rw [decide_eq_false (by omega)])) (by exact nf_I0 _ _) (by intro i hi; omega) (by omega) H locs hS hZ hn hw hf1 hq hs hr ha hga ls (lv_sub hl [2, 3, 1, 0] rfl)
    · skip
      refine hp_iconst (z := 1) hx hb d_N_follow_55 (by rfl) ?_
      refine lv_goto (tgt := 60) hx hb d_N_follow_56 (by decide) ?_
      refine lv_istore_n (lv' := [(2, .int (iI 1)), (0, .ref b), (1, .ref a)]) hx hb d_N_follow_60 rfl hl (by decide) rfl (fun ls hl => ?_)
      refine hp_iconst (z := 0) hx hb d_N_follow_61 (by rfl) ?_
      refine lv_istore_n (lv' := [(3, .int (iI 0)), (2, .int (iI 1)), (0, .ref b), (1, .ref a)]) hx hb d_N_follow_62 rfl hl (by decide) rfl (fun ls hl => ?_)
      have L63 : ∀ (N : Nat) (k fr1 to1 : Nat) (mr : Bool) (pw1 : Int) (A : Nat → gs_P) (X1 : Nat → Nat → Int) (sf1 : Nat → Int), c2 - k < N → (k ≤ c2) → (mr = bw_mir f1 c2 k) → (nf_I w2 k (bn_X w2 c2 f1) fr1 to1 A) → (∀ i, i < to1 → bn_h w2 (X1 i) (A i).1) → (pw1 = (fr1 : Int) - (bw_neg f1 c2 : Int)) → ∀ (H : Heap) (locs : List Loc), va_S (fun q => b ≤ q ∧ q ≤ b + 36) s.heap H locs → H.size = s.heap.size → ca E H b (oN b fr1 to1 pw1) → ca E H (b + 1) (oW (b + 1) w2 c2) → ca E H (b + 1 + 1) (ai E 32 f1) → ca E H (b + 3) (oR E b) → ca E H (b + 36) (ai E 9 sf1) → (∀ i, i < 32 → ca E H (b + 4 + i) (ai E 9 (X1 i))) → ca E H a (oW a w2 c2) → ca E H (a + 1) (ai E 32 g) → ∀ ls : Array Slot, lv_has ls 5 [(0, .ref b), (1, .ref a), (2, .int (iI (bI mr))), (3, .int (iI (k : Int)))] → W p l e R s m args below meth cd H locs 0 0 Q (F0 m 63 ls []) := by
        intro N
        induction N with
        | zero => intro k fr1 to1 mr pw1 A X1 sf1 hN; exact absurd hN (by omega)
        | succ N ih =>
          intro k fr1 to1 mr pw1 A X1 sf1 hN hk hmr hnI hXA hpw H locs hS hZ hn hw hf1 hq hs hr ha hga ls hl
          have ih63 := ih
          refine lv_iload_n hx hb d_N_follow_63 rfl (lv_at hl 3 rfl) ?_
          refine lv_aload_n hx hb d_N_follow_64 rfl (lv_at hl 0 rfl) ?_
          refine hp_get (C := R_N) (T := F_N) (N := 6) (v := .ref (b + 1)) hx hb hG la_N hown hK.1 hn rfl 0 (by decide) (hG _ fl_N_12) (fun _ h9 => h9) rfl d_N_follow_65 ?_
          refine hp_get (C := R_W) (T := F_W) (N := 3) (v := .int (iI (c2 : Int))) hx hb hG la_W hown hK.1 hw rfl 2 (by decide) (hG _ fl_N_49) (fun _ h9 => h9) rfl d_N_follow_68 ?_
          refine hp_icmp_ge (tgt := 155) hx hb d_N_follow_71 (by decide) (by unfold iR; omega) (by unfold iR; omega) (fun c71 => ?_) (fun c71 => ?_)
          · skip
            rw [hQ]
            refine hp_vretQ hx hb hrt hlocks d_N_follow_155 hS hZ ?_
            have ek : k = c2 := by omega
            rw [ek] at hnI
            exact ⟨f1, fr1, to1, pw1, X1, sf1, ⟨hn, ⟨hw, hf1⟩, hq, hs, hr⟩, hbf1, hag, nfS_congr hag ⟨A, hnI, hXA, hpw⟩⟩
          · skip
            have hrg := hok1 k (by omega)
            have hk2 := hbf1 k
            have hlo := hnI.2.2.2.2.2
            refine lv_aload_n hx hb d_N_follow_74 rfl (lv_at hl 0 rfl) ?_
            refine hp_get (C := R_N) (T := F_N) (N := 6) (v := .ref (b + 1)) hx hb hG la_N hown hK.1 hn rfl 0 (by decide) (hG _ fl_N_12) (fun _ h9 => h9) rfl d_N_follow_75 ?_
            refine hp_get (C := R_W) (T := F_W) (N := 3) (v := .ref (b + 1 + 1)) hx hb hG la_W hown hK.1 hw rfl 0 (by decide) (hG _ fl_N_52) (fun _ h9 => h9) rfl d_N_follow_78 ?_
            refine lv_iload_n hx hb d_N_follow_81 rfl (lv_at hl 3 rfl) ?_
            refine hp_iald hx hb hK.1 0 hf1 rfl d_N_follow_82 (by omega) k (by omega) (by omega) ?_
            refine hp_if_ge (tgt := 90) hx hb d_N_follow_83 (by decide) (by unfold iR; omega) (fun c83 => ?_) (fun c83 => ?_)
            · skip
              refine hp_iconst (z := 0) hx hb d_N_follow_90 (by rfl) ?_
              refine lv_istore (lv' := [(4, .int (iI 0)), (0, .ref b), (1, .ref a), (2, .int (iI (bI mr))), (3, .int (iI (k : Int)))]) hx hb d_N_follow_91 hl (by decide) rfl (fun ls hl => ?_)
              refine lv_iload hx hb d_N_follow_93 (lv_at hl 0 rfl) ?_
              refine hp_if_eq (tgt := 108) hx hb d_N_follow_95 (by decide) (by unfold iR; omega) (fun c95 => ?_) (fun c95 => ?_)
              · skip
                refine lv_aload_n hx hb d_N_follow_108 rfl (lv_at hl 1 rfl) ?_
                refine lv_iload_n hx hb d_N_follow_109 rfl (lv_at hl 3 rfl) ?_
                refine hp_ifb_eq (tgt := 132) hx hb d_N_follow_110 (by decide) (fun c110 => ?_) (fun c110 => ?_)
                · skip
                  refine lv_aload_n hx hb d_N_follow_132 rfl (lv_at hl 1 rfl) ?_
                  refine hp_get (C := R_N) (T := F_N) (N := 6) (v := .ref (b + 1)) hx hb hG la_N hown hK.1 hn rfl 0 (by decide) (hG _ fl_N_12) (fun _ h9 => h9) rfl d_N_follow_133 ?_
                  refine lv_iload_n hx hb d_N_follow_136 rfl (lv_at hl 4 rfl) ?_
                  refine hp_callS (W.runV (As := [.int (iI (k : Int))]) (rest := [.ref b]) ⟨hx, hb, hml, hown, hG⟩ (c_W_value l E (b + 1) w2 c2 f1 k (by omega) hbf1) (cwV 1 hG (hp_goodV ml_N_58 im_W_value se_W_value in_W co_W_value) rfl rfl rfl hd_W_value ⟨by rw [hRf]; exact Nat.le_of_ble_eq_true rfl, by rw [hRl]; exact Nat.le_of_ble_eq_true rfl⟩) (hp_preV (ci := 0) hp_nsn hK rfl hw ⟨hw, hf1⟩) rfl rfl hl.1 rfl (lv_room (Nat.le_of_ble_eq_true rfl)) d_N_follow_137 ⟨by rw [hRc]; exact Nat.le_of_ble_eq_true rfl, by rw [hRs]; exact Nat.le_of_ble_eq_true rfl⟩) ?_
                  refine lv_iload hx hb d_N_follow_140 (lv_at hl 0 rfl) ?_
                  have hg := hr to1 (by omega)
                  have hm1 : bw_mir f1 c2 (k + 1) = false := by rw [bw_mir_pos (by omega), ← hmr]; exact c110
                  have hXk : bn_X w2 c2 f1 k = gs_si w2 ((f1 k).natAbs) false := bn_X_is (by omega) (bn_i_f hm1) (decide_eq_false (by omega))
                  refine hp_callv (W.runV (As := [.int (iI ((f1 k).natAbs : Int)), .int (iI (bI false))]) (rest := []) ⟨hx, hb, hml, hown, hG⟩ (c_N_appendSimple l E b w2 c2 fr1 to1 pw1 ((f1 k).natAbs) false (X1 to1) (by omega) (by omega) ⟨by omega, by omega⟩) (cwV 2 hG (hp_goodV ml_N_62 im_N_appendSimple se_N_appendSimple in_N co_N_appendSimple) rfl rfl rfl hd_N_appendSimple ⟨by rw [hRf]; exact Nat.le_of_ble_eq_true rfl, by rw [hRl]; exact Nat.le_of_ble_eq_true rfl⟩) (hp_preV (ci := 1) hp_nsn hK rfl hn ⟨hn, hw, hq, hg⟩) rfl rfl hl.1 rfl (lv_room (Nat.le_of_ble_eq_true rfl)) d_N_follow_142 ⟨by rw [hRc]; exact Nat.le_of_ble_eq_true rfl, by rw [hRs]; exact Nat.le_of_ble_eq_true rfl⟩) hS (fun q h => by show _ ∧ _; omega) (fun H locs hpost hz1 ho1 hS => ?_)
                  have hZ := hz1.trans hZ
                  obtain ⟨g1, p1, hn, hg⟩ := hpost
                  have hr := st_Xa hr ho1 hg
                  have hw := hw.keep (ho1 (b + 1) (by omega))
                  have hf1 := hf1.keep (ho1 (b + 1 + 1) (by omega))
                  have hq := hq.keep (ho1 (b + 3) (by omega))
                  have hs := hs.keep (ho1 (b + 36) (by omega))
                  have ha := ha.keep (ho1 (a) (by omega))
                  have hga := hga.keep (ho1 (a + 1) (by omega))
                  obtain ⟨A1, q1, q2, q3, q4⟩ := nf_tr hnI hal
                  have hA1 := hXk
                  rw [← q2] at hA1
                  rw [← hA1] at p1
                  obtain ⟨d1, q5⟩ := q1
                  have hokA : ∀ i, i < to1 + 1 → gs_ok w2 (A1 i) := fun i _ => nf_ok q5 hal i
                  refine lv_aload_n hx hb d_N_follow_145 rfl (lv_at hl 1 rfl) ?_
                  refine hp_callv (W.runV (As := []) (rest := []) ⟨hx, hb, hml, hown, hG⟩ (c_N_settle l E b w2 c2 fr1 (to1 + 1) pw1 A1 (hp_up X1 to1 g1) sf1 (by omega) (by have := hnI.2.2.2.2.2.1; have := hnI.2.2.2.2.2.2; omega) hokA (st_Xb hXA q4 p1) (nf_low hnI q4)) (cwV 0 hG (hp_goodV ml_N_66 im_N_settle se_N_settle in_N co_N_settle) rfl rfl rfl hd_N_settle ⟨by rw [hRf]; exact Nat.le_of_ble_eq_true rfl, by rw [hRl]; exact Nat.le_of_ble_eq_true rfl⟩) (hp_preV (ci := 1) hp_nsn hK rfl hn ⟨hn, hw, hq, hs, hr⟩) rfl rfl hl.1 rfl (lv_room (Nat.le_of_ble_eq_true rfl)) d_N_follow_146 ⟨by rw [hRc]; exact Nat.le_of_ble_eq_true rfl, by rw [hRs]; exact Nat.le_of_ble_eq_true rfl⟩) hS (fun q h => by show _ ∧ _; omega) (fun H locs hpost hz1 ho1 hS => ?_)
                  have hZ := hz1.trans hZ
                  obtain ⟨d2, fr2, to2, B2, X2, sf2, s1, s2, s3, s4, s5, s6, s7, s8, hn, hs, hr⟩ := hpost
                  have hw := hw.keep (ho1 (b + 1) (by omega))
                  have hf1 := hf1.keep (ho1 (b + 1 + 1) (by omega))
                  have hq := hq.keep (ho1 (b + 3) (by omega))
                  have ha := ha.keep (ho1 (a) (by omega))
                  have hga := hga.keep (ho1 (a + 1) (by omega))
                  refine hp_iinc (z := ((k : Int) + 1)) (lv' := [(3, .int (iI ((k : Int) + 1))), (4, .int (iI 0)), (0, .ref b), (1, .ref a), (2, .int (iI (bI mr)))]) hx hb d_N_follow_149 hl (k := 4) rfl (by omega) (by decide) rfl (fun ls hl => ?_)
                  refine lv_goto (tgt := 63) hx hb d_N_follow_152 (by decide) ?_
                  exact ih63  (k + 1) fr2 to2 mr (pw1 + ((fr2 : Int) - fr1)) B2 X2 sf2 (by omega) (by omega) (by first | exact hm1.symm | (rw [hm1]; exact c110)) (by exact nf_step hnI ⟨d1, q5⟩ q3 q4 s1 s2 s4 s5 s6 s7 s8) (by intro i hi; exact s3 i (by omega)) (by omega) H locs hS hZ hn hw hf1 hq hs hr ha hga ls (lv_sub hl [2, 3, 4, 0] rfl)
                · skip
                  refine lv_aload_n hx hb d_N_follow_113 rfl (lv_at hl 1 rfl) ?_
                  refine hp_get (C := R_N) (T := F_N) (N := 6) (v := .ref (b + 1)) hx hb hG la_N hown hK.1 hn rfl 0 (by decide) (hG _ fl_N_12) (fun _ h9 => h9) rfl d_N_follow_114 ?_
                  refine hp_get (C := R_W) (T := F_W) (N := 3) (v := .int (iI (w2 : Int))) hx hb hG la_W hown hK.1 hw rfl 1 (by decide) (hG _ fl_N_55) (fun _ h9 => h9) rfl d_N_follow_117 ?_
                  refine lv_aload_n hx hb d_N_follow_120 rfl (lv_at hl 1 rfl) ?_
                  refine hp_get (C := R_N) (T := F_N) (N := 6) (v := .ref (b + 1)) hx hb hG la_N hown hK.1 hn rfl 0 (by decide) (hG _ fl_N_12) (fun _ h9 => h9) rfl d_N_follow_121 ?_
                  refine lv_iload_n hx hb d_N_follow_124 rfl (lv_at hl 4 rfl) ?_
                  refine hp_callS (W.runV (As := [.int (iI (k : Int))]) (rest := [.int (iI (w2 : Int)), .ref b]) ⟨hx, hb, hml, hown, hG⟩ (c_W_value l E (b + 1) w2 c2 f1 k (by omega) hbf1) (cwV 1 hG (hp_goodV ml_N_58 im_W_value se_W_value in_W co_W_value) rfl rfl rfl hd_W_value ⟨by rw [hRf]; exact Nat.le_of_ble_eq_true rfl, by rw [hRl]; exact Nat.le_of_ble_eq_true rfl⟩) (hp_preV (ci := 0) hp_nsn hK rfl hw ⟨hw, hf1⟩) rfl rfl hl.1 rfl (lv_room (Nat.le_of_ble_eq_true rfl)) d_N_follow_125 ⟨by rw [hRc]; exact Nat.le_of_ble_eq_true rfl, by rw [hRs]; exact Nat.le_of_ble_eq_true rfl⟩) ?_
                  refine hp_isub hx hb d_N_follow_128 ?_
                  refine lv_goto (tgt := 140) hx hb d_N_follow_129 (by decide) ?_
                  refine lv_iload hx hb d_N_follow_140 (lv_at hl 0 rfl) ?_
                  rw [show (((w2 : Int) - ((f1 k).natAbs : Int)) : Int) = (((w2 - (f1 k).natAbs) : Nat) : Int) from by omega]
                  have hg := hr to1 (by omega)
                  have hm1 : bw_mir f1 c2 (k + 1) = true := by rw [bw_mir_pos (by omega), ← hmr]; exact c110
                  have hXk : bn_X w2 c2 f1 k = gs_si w2 (w2 - (f1 k).natAbs) false := bn_X_is (by omega) (bn_i_t hm1) (decide_eq_false (by omega))
                  refine hp_callv (W.runV (As := [.int (iI (((w2 - (f1 k).natAbs) : Nat) : Int)), .int (iI (bI false))]) (rest := []) ⟨hx, hb, hml, hown, hG⟩ (c_N_appendSimple l E b w2 c2 fr1 to1 pw1 (w2 - (f1 k).natAbs) false (X1 to1) (by omega) (by omega) ⟨by omega, by omega⟩) (cwV 2 hG (hp_goodV ml_N_62 im_N_appendSimple se_N_appendSimple in_N co_N_appendSimple) rfl rfl rfl hd_N_appendSimple ⟨by rw [hRf]; exact Nat.le_of_ble_eq_true rfl, by rw [hRl]; exact Nat.le_of_ble_eq_true rfl⟩) (hp_preV (ci := 1) hp_nsn hK rfl hn ⟨hn, hw, hq, hg⟩) rfl rfl hl.1 rfl (lv_room (Nat.le_of_ble_eq_true rfl)) d_N_follow_142 ⟨by rw [hRc]; exact Nat.le_of_ble_eq_true rfl, by rw [hRs]; exact Nat.le_of_ble_eq_true rfl⟩) hS (fun q h => by show _ ∧ _; omega) (fun H locs hpost hz1 ho1 hS => ?_)
                  have hZ := hz1.trans hZ
                  obtain ⟨g1, p1, hn, hg⟩ := hpost
                  have hr := st_Xa hr ho1 hg
                  have hw := hw.keep (ho1 (b + 1) (by omega))
                  have hf1 := hf1.keep (ho1 (b + 1 + 1) (by omega))
                  have hq := hq.keep (ho1 (b + 3) (by omega))
                  have hs := hs.keep (ho1 (b + 36) (by omega))
                  have ha := ha.keep (ho1 (a) (by omega))
                  have hga := hga.keep (ho1 (a + 1) (by omega))
                  obtain ⟨A1, q1, q2, q3, q4⟩ := nf_tr hnI hal
                  have hA1 := hXk
                  rw [← q2] at hA1
                  rw [← hA1] at p1
                  obtain ⟨d1, q5⟩ := q1
                  have hokA : ∀ i, i < to1 + 1 → gs_ok w2 (A1 i) := fun i _ => nf_ok q5 hal i
                  refine lv_aload_n hx hb d_N_follow_145 rfl (lv_at hl 1 rfl) ?_
                  refine hp_callv (W.runV (As := []) (rest := []) ⟨hx, hb, hml, hown, hG⟩ (c_N_settle l E b w2 c2 fr1 (to1 + 1) pw1 A1 (hp_up X1 to1 g1) sf1 (by omega) (by have := hnI.2.2.2.2.2.1; have := hnI.2.2.2.2.2.2; omega) hokA (st_Xb hXA q4 p1) (nf_low hnI q4)) (cwV 0 hG (hp_goodV ml_N_66 im_N_settle se_N_settle in_N co_N_settle) rfl rfl rfl hd_N_settle ⟨by rw [hRf]; exact Nat.le_of_ble_eq_true rfl, by rw [hRl]; exact Nat.le_of_ble_eq_true rfl⟩) (hp_preV (ci := 1) hp_nsn hK rfl hn ⟨hn, hw, hq, hs, hr⟩) rfl rfl hl.1 rfl (lv_room (Nat.le_of_ble_eq_true rfl)) d_N_follow_146 ⟨by rw [hRc]; exact Nat.le_of_ble_eq_true rfl, by rw [hRs]; exact Nat.le_of_ble_eq_true rfl⟩) hS (fun q h => by show _ ∧ _; omega) (fun H locs hpost hz1 ho1 hS => ?_)
                  have hZ := hz1.trans hZ
                  obtain ⟨d2, fr2, to2, B2, X2, sf2, s1, s2, s3, s4, s5, s6, s7, s8, hn, hs, hr⟩ := hpost
                  have hw := hw.keep (ho1 (b + 1) (by omega))
                  have hf1 := hf1.keep (ho1 (b + 1 + 1) (by omega))
                  have hq := hq.keep (ho1 (b + 3) (by omega))
                  have ha := ha.keep (ho1 (a) (by omega))
                  have hga := hga.keep (ho1 (a + 1) (by omega))
                  refine hp_iinc (z := ((k : Int) + 1)) (lv' := [(3, .int (iI ((k : Int) + 1))), (4, .int (iI 0)), (0, .ref b), (1, .ref a), (2, .int (iI (bI mr)))]) hx hb d_N_follow_149 hl (k := 4) rfl (by omega) (by decide) rfl (fun ls hl => ?_)
                  refine lv_goto (tgt := 63) hx hb d_N_follow_152 (by decide) ?_
                  exact ih63  (k + 1) fr2 to2 mr (pw1 + ((fr2 : Int) - fr1)) B2 X2 sf2 (by omega) (by omega) (by first | exact hm1.symm | (rw [hm1]; exact c110)) (by exact nf_step hnI ⟨d1, q5⟩ q3 q4 s1 s2 s4 s5 s6 s7 s8) (by intro i hi; exact s3 i (by omega)) (by omega) H locs hS hZ hn hw hf1 hq hs hr ha hga ls (lv_sub hl [2, 3, 4, 0] rfl)
              · skip
                exact absurd c95 (by first | decide | omega)
            · skip
              refine hp_iconst (z := 1) hx hb d_N_follow_86 (by rfl) ?_
              refine lv_goto (tgt := 91) hx hb d_N_follow_87 (by decide) ?_
              refine lv_istore (lv' := [(4, .int (iI 1)), (0, .ref b), (1, .ref a), (2, .int (iI (bI mr))), (3, .int (iI (k : Int)))]) hx hb d_N_follow_91 hl (by decide) rfl (fun ls hl => ?_)
              refine lv_iload hx hb d_N_follow_93 (lv_at hl 0 rfl) ?_
              refine hp_if_eq (tgt := 108) hx hb d_N_follow_95 (by decide) (by unfold iR; omega) (fun c95 => ?_) (fun c95 => ?_)
              · skip
                exact absurd c95 (by first | decide | omega)
              · skip
                refine lv_iload_n hx hb d_N_follow_98 rfl (lv_at hl 3 rfl) ?_
                refine hp_ifb_ne (tgt := 106) hx hb d_N_follow_99 (by decide) (fun c99 => ?_) (fun c99 => ?_)
                · skip
                  refine hp_iconst (z := 0) hx hb d_N_follow_106 (by rfl) ?_
                  refine lv_istore_n (lv' := [(2, .int (iI 0)), (4, .int (iI 1)), (0, .ref b), (1, .ref a), (3, .int (iI (k : Int)))]) hx hb d_N_follow_107 rfl hl (by decide) rfl (fun ls hl => ?_)
                  refine lv_aload_n hx hb d_N_follow_108 rfl (lv_at hl 2 rfl) ?_
                  refine lv_iload_n hx hb d_N_follow_109 rfl (lv_at hl 0 rfl) ?_
                  refine hp_if_eq (tgt := 132) hx hb d_N_follow_110 (by decide) (by unfold iR; omega) (fun c110 => ?_) (fun c110 => ?_)
                  · skip
                    refine lv_aload_n hx hb d_N_follow_132 rfl (lv_at hl 2 rfl) ?_
                    refine hp_get (C := R_N) (T := F_N) (N := 6) (v := .ref (b + 1)) hx hb hG la_N hown hK.1 hn rfl 0 (by decide) (hG _ fl_N_12) (fun _ h9 => h9) rfl d_N_follow_133 ?_
                    refine lv_iload_n hx hb d_N_follow_136 rfl (lv_at hl 4 rfl) ?_
                    refine hp_callS (W.runV (As := [.int (iI (k : Int))]) (rest := [.ref b]) ⟨hx, hb, hml, hown, hG⟩ (c_W_value l E (b + 1) w2 c2 f1 k (by omega) hbf1) (cwV 1 hG (hp_goodV ml_N_58 im_W_value se_W_value in_W co_W_value) rfl rfl rfl hd_W_value ⟨by rw [hRf]; exact Nat.le_of_ble_eq_true rfl, by rw [hRl]; exact Nat.le_of_ble_eq_true rfl⟩) (hp_preV (ci := 0) hp_nsn hK rfl hw ⟨hw, hf1⟩) rfl rfl hl.1 rfl (lv_room (Nat.le_of_ble_eq_true rfl)) d_N_follow_137 ⟨by rw [hRc]; exact Nat.le_of_ble_eq_true rfl, by rw [hRs]; exact Nat.le_of_ble_eq_true rfl⟩) ?_
                    refine lv_iload hx hb d_N_follow_140 (lv_at hl 1 rfl) ?_
                    have hg := hr to1 (by omega)
                    have hm1 : bw_mir f1 c2 (k + 1) = false := by rw [bw_mir_neg (by omega) c83, ← hmr]; rw [c99]; rfl
                    have hXk : bn_X w2 c2 f1 k = gs_si w2 ((f1 k).natAbs) true := bn_X_is (by omega) (bn_i_f hm1) (decide_eq_true c83)
                    refine hp_callv (W.runV (As := [.int (iI ((f1 k).natAbs : Int)), .int (iI (bI true))]) (rest := []) ⟨hx, hb, hml, hown, hG⟩ (c_N_appendSimple l E b w2 c2 fr1 to1 pw1 ((f1 k).natAbs) true (X1 to1) (by omega) (by omega) ⟨by omega, by omega⟩) (cwV 2 hG (hp_goodV ml_N_62 im_N_appendSimple se_N_appendSimple in_N co_N_appendSimple) rfl rfl rfl hd_N_appendSimple ⟨by rw [hRf]; exact Nat.le_of_ble_eq_true rfl, by rw [hRl]; exact Nat.le_of_ble_eq_true rfl⟩) (hp_preV (ci := 1) hp_nsn hK rfl hn ⟨hn, hw, hq, hg⟩) rfl rfl hl.1 rfl (lv_room (Nat.le_of_ble_eq_true rfl)) d_N_follow_142 ⟨by rw [hRc]; exact Nat.le_of_ble_eq_true rfl, by rw [hRs]; exact Nat.le_of_ble_eq_true rfl⟩) hS (fun q h => by show _ ∧ _; omega) (fun H locs hpost hz1 ho1 hS => ?_)
                    have hZ := hz1.trans hZ
                    obtain ⟨g1, p1, hn, hg⟩ := hpost
                    have hr := st_Xa hr ho1 hg
                    have hw := hw.keep (ho1 (b + 1) (by omega))
                    have hf1 := hf1.keep (ho1 (b + 1 + 1) (by omega))
                    have hq := hq.keep (ho1 (b + 3) (by omega))
                    have hs := hs.keep (ho1 (b + 36) (by omega))
                    have ha := ha.keep (ho1 (a) (by omega))
                    have hga := hga.keep (ho1 (a + 1) (by omega))
                    obtain ⟨A1, q1, q2, q3, q4⟩ := nf_tr hnI hal
                    have hA1 := hXk
                    rw [← q2] at hA1
                    rw [← hA1] at p1
                    obtain ⟨d1, q5⟩ := q1
                    have hokA : ∀ i, i < to1 + 1 → gs_ok w2 (A1 i) := fun i _ => nf_ok q5 hal i
                    refine lv_aload_n hx hb d_N_follow_145 rfl (lv_at hl 2 rfl) ?_
                    refine hp_callv (W.runV (As := []) (rest := []) ⟨hx, hb, hml, hown, hG⟩ (c_N_settle l E b w2 c2 fr1 (to1 + 1) pw1 A1 (hp_up X1 to1 g1) sf1 (by omega) (by have := hnI.2.2.2.2.2.1; have := hnI.2.2.2.2.2.2; omega) hokA (st_Xb hXA q4 p1) (nf_low hnI q4)) (cwV 0 hG (hp_goodV ml_N_66 im_N_settle se_N_settle in_N co_N_settle) rfl rfl rfl hd_N_settle ⟨by rw [hRf]; exact Nat.le_of_ble_eq_true rfl, by rw [hRl]; exact Nat.le_of_ble_eq_true rfl⟩) (hp_preV (ci := 1) hp_nsn hK rfl hn ⟨hn, hw, hq, hs, hr⟩) rfl rfl hl.1 rfl (lv_room (Nat.le_of_ble_eq_true rfl)) d_N_follow_146 ⟨by rw [hRc]; exact Nat.le_of_ble_eq_true rfl, by rw [hRs]; exact Nat.le_of_ble_eq_true rfl⟩) hS (fun q h => by show _ ∧ _; omega) (fun H locs hpost hz1 ho1 hS => ?_)
                    have hZ := hz1.trans hZ
                    obtain ⟨d2, fr2, to2, B2, X2, sf2, s1, s2, s3, s4, s5, s6, s7, s8, hn, hs, hr⟩ := hpost
                    have hw := hw.keep (ho1 (b + 1) (by omega))
                    have hf1 := hf1.keep (ho1 (b + 1 + 1) (by omega))
                    have hq := hq.keep (ho1 (b + 3) (by omega))
                    have ha := ha.keep (ho1 (a) (by omega))
                    have hga := hga.keep (ho1 (a + 1) (by omega))
                    refine hp_iinc (z := ((k : Int) + 1)) (lv' := [(3, .int (iI ((k : Int) + 1))), (2, .int (iI 0)), (4, .int (iI 1)), (0, .ref b), (1, .ref a)]) hx hb d_N_follow_149 hl (k := 4) rfl (by omega) (by decide) rfl (fun ls hl => ?_)
                    refine lv_goto (tgt := 63) hx hb d_N_follow_152 (by decide) ?_
                    exact ih63  (k + 1) fr2 to2 false (pw1 + ((fr2 : Int) - fr1)) B2 X2 sf2 (by omega) (by omega) (by first | exact hm1.symm | (rw [hm1]; exact c110)) (by exact nf_step hnI ⟨d1, q5⟩ q3 q4 s1 s2 s4 s5 s6 s7 s8) (by intro i hi; exact s3 i (by omega)) (by omega) H locs hS hZ hn hw hf1 hq hs hr ha hga ls (lv_sub hl [3, 4, 1, 0] rfl)
                  · skip
                    exact absurd c110 (by first | decide | omega)
                · skip
                  refine hp_iconst (z := 1) hx hb d_N_follow_102 (by rfl) ?_
                  refine lv_goto (tgt := 107) hx hb d_N_follow_103 (by decide) ?_
                  refine lv_istore_n (lv' := [(2, .int (iI 1)), (4, .int (iI 1)), (0, .ref b), (1, .ref a), (3, .int (iI (k : Int)))]) hx hb d_N_follow_107 rfl hl (by decide) rfl (fun ls hl => ?_)
                  refine lv_aload_n hx hb d_N_follow_108 rfl (lv_at hl 2 rfl) ?_
                  refine lv_iload_n hx hb d_N_follow_109 rfl (lv_at hl 0 rfl) ?_
                  refine hp_if_eq (tgt := 132) hx hb d_N_follow_110 (by decide) (by unfold iR; omega) (fun c110 => ?_) (fun c110 => ?_)
                  · skip
                    exact absurd c110 (by first | decide | omega)
                  · skip
                    refine lv_aload_n hx hb d_N_follow_113 rfl (lv_at hl 2 rfl) ?_
                    refine hp_get (C := R_N) (T := F_N) (N := 6) (v := .ref (b + 1)) hx hb hG la_N hown hK.1 hn rfl 0 (by decide) (hG _ fl_N_12) (fun _ h9 => h9) rfl d_N_follow_114 ?_
                    refine hp_get (C := R_W) (T := F_W) (N := 3) (v := .int (iI (w2 : Int))) hx hb hG la_W hown hK.1 hw rfl 1 (by decide) (hG _ fl_N_55) (fun _ h9 => h9) rfl d_N_follow_117 ?_
                    refine lv_aload_n hx hb d_N_follow_120 rfl (lv_at hl 2 rfl) ?_
                    refine hp_get (C := R_N) (T := F_N) (N := 6) (v := .ref (b + 1)) hx hb hG la_N hown hK.1 hn rfl 0 (by decide) (hG _ fl_N_12) (fun _ h9 => h9) rfl d_N_follow_121 ?_
                    refine lv_iload_n hx hb d_N_follow_124 rfl (lv_at hl 4 rfl) ?_
                    refine hp_callS (W.runV (As := [.int (iI (k : Int))]) (rest := [.int (iI (w2 : Int)), .ref b]) ⟨hx, hb, hml, hown, hG⟩ (c_W_value l E (b + 1) w2 c2 f1 k (by omega) hbf1) (cwV 1 hG (hp_goodV ml_N_58 im_W_value se_W_value in_W co_W_value) rfl rfl rfl hd_W_value ⟨by rw [hRf]; exact Nat.le_of_ble_eq_true rfl, by rw [hRl]; exact Nat.le_of_ble_eq_true rfl⟩) (hp_preV (ci := 0) hp_nsn hK rfl hw ⟨hw, hf1⟩) rfl rfl hl.1 rfl (lv_room (Nat.le_of_ble_eq_true rfl)) d_N_follow_125 ⟨by rw [hRc]; exact Nat.le_of_ble_eq_true rfl, by rw [hRs]; exact Nat.le_of_ble_eq_true rfl⟩) ?_
                    refine hp_isub hx hb d_N_follow_128 ?_
                    refine lv_goto (tgt := 140) hx hb d_N_follow_129 (by decide) ?_
                    refine lv_iload hx hb d_N_follow_140 (lv_at hl 1 rfl) ?_
                    rw [show (((w2 : Int) - ((f1 k).natAbs : Int)) : Int) = (((w2 - (f1 k).natAbs) : Nat) : Int) from by omega]
                    have hg := hr to1 (by omega)
                    have hm1 : bw_mir f1 c2 (k + 1) = true := by rw [bw_mir_neg (by omega) c83, ← hmr]; rw [c99]; rfl
                    have hXk : bn_X w2 c2 f1 k = gs_si w2 (w2 - (f1 k).natAbs) true := bn_X_is (by omega) (bn_i_t hm1) (decide_eq_true c83)
                    refine hp_callv (W.runV (As := [.int (iI (((w2 - (f1 k).natAbs) : Nat) : Int)), .int (iI (bI true))]) (rest := []) ⟨hx, hb, hml, hown, hG⟩ (c_N_appendSimple l E b w2 c2 fr1 to1 pw1 (w2 - (f1 k).natAbs) true (X1 to1) (by omega) (by omega) ⟨by omega, by omega⟩) (cwV 2 hG (hp_goodV ml_N_62 im_N_appendSimple se_N_appendSimple in_N co_N_appendSimple) rfl rfl rfl hd_N_appendSimple ⟨by rw [hRf]; exact Nat.le_of_ble_eq_true rfl, by rw [hRl]; exact Nat.le_of_ble_eq_true rfl⟩) (hp_preV (ci := 1) hp_nsn hK rfl hn ⟨hn, hw, hq, hg⟩) rfl rfl hl.1 rfl (lv_room (Nat.le_of_ble_eq_true rfl)) d_N_follow_142 ⟨by rw [hRc]; exact Nat.le_of_ble_eq_true rfl, by rw [hRs]; exact Nat.le_of_ble_eq_true rfl⟩) hS (fun q h => by show _ ∧ _; omega) (fun H locs hpost hz1 ho1 hS => ?_)
                    have hZ := hz1.trans hZ
                    obtain ⟨g1, p1, hn, hg⟩ := hpost
                    have hr := st_Xa hr ho1 hg
                    have hw := hw.keep (ho1 (b + 1) (by omega))
                    have hf1 := hf1.keep (ho1 (b + 1 + 1) (by omega))
                    have hq := hq.keep (ho1 (b + 3) (by omega))
                    have hs := hs.keep (ho1 (b + 36) (by omega))
                    have ha := ha.keep (ho1 (a) (by omega))
                    have hga := hga.keep (ho1 (a + 1) (by omega))
                    obtain ⟨A1, q1, q2, q3, q4⟩ := nf_tr hnI hal
                    have hA1 := hXk
                    rw [← q2] at hA1
                    rw [← hA1] at p1
                    obtain ⟨d1, q5⟩ := q1
                    have hokA : ∀ i, i < to1 + 1 → gs_ok w2 (A1 i) := fun i _ => nf_ok q5 hal i
                    refine lv_aload_n hx hb d_N_follow_145 rfl (lv_at hl 2 rfl) ?_
                    refine hp_callv (W.runV (As := []) (rest := []) ⟨hx, hb, hml, hown, hG⟩ (c_N_settle l E b w2 c2 fr1 (to1 + 1) pw1 A1 (hp_up X1 to1 g1) sf1 (by omega) (by have := hnI.2.2.2.2.2.1; have := hnI.2.2.2.2.2.2; omega) hokA (st_Xb hXA q4 p1) (nf_low hnI q4)) (cwV 0 hG (hp_goodV ml_N_66 im_N_settle se_N_settle in_N co_N_settle) rfl rfl rfl hd_N_settle ⟨by rw [hRf]; exact Nat.le_of_ble_eq_true rfl, by rw [hRl]; exact Nat.le_of_ble_eq_true rfl⟩) (hp_preV (ci := 1) hp_nsn hK rfl hn ⟨hn, hw, hq, hs, hr⟩) rfl rfl hl.1 rfl (lv_room (Nat.le_of_ble_eq_true rfl)) d_N_follow_146 ⟨by rw [hRc]; exact Nat.le_of_ble_eq_true rfl, by rw [hRs]; exact Nat.le_of_ble_eq_true rfl⟩) hS (fun q h => by show _ ∧ _; omega) (fun H locs hpost hz1 ho1 hS => ?_)
                    have hZ := hz1.trans hZ
                    obtain ⟨d2, fr2, to2, B2, X2, sf2, s1, s2, s3, s4, s5, s6, s7, s8, hn, hs, hr⟩ := hpost
                    have hw := hw.keep (ho1 (b + 1) (by omega))
                    have hf1 := hf1.keep (ho1 (b + 1 + 1) (by omega))
                    have hq := hq.keep (ho1 (b + 3) (by omega))
                    have ha := ha.keep (ho1 (a) (by omega))
                    have hga := hga.keep (ho1 (a + 1) (by omega))
                    refine hp_iinc (z := ((k : Int) + 1)) (lv' := [(3, .int (iI ((k : Int) + 1))), (2, .int (iI 1)), (4, .int (iI 1)), (0, .ref b), (1, .ref a)]) hx hb d_N_follow_149 hl (k := 4) rfl (by omega) (by decide) rfl (fun ls hl => ?_)
                    refine lv_goto (tgt := 63) hx hb d_N_follow_152 (by decide) ?_
                    exact ih63  (k + 1) fr2 to2 true (pw1 + ((fr2 : Int) - fr1)) B2 X2 sf2 (by omega) (by omega) (by first | exact hm1.symm | (rw [hm1]; exact c110)) (by exact nf_step hnI ⟨d1, q5⟩ q3 q4 s1 s2 s4 s5 s6 s7 s8) (by intro i hi; exact s3 i (by omega)) (by omega) H locs hS hZ hn hw hf1 hq hs hr ha hga ls (lv_sub hl [3, 4, 1, 0] rfl)
      exact L63 (c2 - 0 + 1) 0 0 0 true (-((bw_neg f1 c2 : Nat) : Int)) (bn_X w2 c2 f1) X sf (by omega) (by omega) (by rw [bw_mir_0]; first | (rw [decide_eq_true (by omega)]) | (rw [decide_eq_false (by omega)])) (by exact nf_I0 _ _) (by intro i hi; omega) (by omega) H locs hS hZ hn hw hf1 hq hs hr ha hga ls (lv_sub hl [2, 3, 1, 0] rfl)
  · skip
    have c8 := of_decide_eq_true c8
    rw [hQ]
    refine hp_vretQ hx hb hrt hlocks d_N_follow_11 hS hZ ?_
    obtain ⟨e1, e2, e3⟩ := c8
    subst e1
    subst e2
    exact ⟨f, fr, to, pw, X, sf, ⟨hn, ⟨hw, hf1⟩, hq, hs, hr⟩, hbd, e3, nfS_congr e3 hnf⟩
