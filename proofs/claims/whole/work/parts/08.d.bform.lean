set_option maxHeartbeats 4000000 in
set_option maxRecDepth 100000 in
/-- equalTo(form) -/
theorem c_N_equalTo (l : Launch) (E : hp_E) (b w c : Nat) (f : Nat → Int) (fr to : Nat) (pw : Int) (X : Nat → Nat → Int) (sf : Nat → Int) (b2 w2 c2 : Nat) (f2 : Nat → Int) (fr2 to2 : Nat) (pw2 : Int) (X2 : Nat → Nat → Int) (sf2 : Nat → Int) (hw8 : w ≤ 8) (hw28 : w2 ≤ 8) (hft : fr ≤ to ∧ to ≤ 32) (hft2 : fr2 ≤ to2 ∧ to2 ≤ 32) (hpw : -1000 ≤ pw ∧ pw ≤ 1000) (hpw2 : -1000 ≤ pw2 ∧ pw2 ≤ 1000) (hX : ∀ i p, i < to → 1 ≤ p → p ≤ w → 1 ≤ X i p ∧ X i p ≤ w) (hX2 : ∀ i p, i < to2 → 1 ≤ p → p ≤ w2 → 1 ≤ X2 i p ∧ X2 i p ≤ w2) : Met l y_N_equalTo (Cond.code y_N_equalTo b_N_equalTo 4 (some .boolean) :: G0) ({ frames := 2, cells := 0, slots := 0, locals := 43 }) (hp_P E [.ref b, .ref b2] (fun H => nAt E H b w c f fr to pw X sf ∧ nAt E H b2 w2 c2 f2 fr2 to2 pw2 X2 sf2)) (hp_Si (bI (decide (w = w2 ∧ pw = pw2 ∧ to - fr = to2 - fr2 ∧ ∀ j, j < to - fr → ∀ p, p < w → X (fr + j) (p + 1) = X2 (fr2 + j) (p + 1))))) 0 0 (fun _ => False) := by
  refine Met.ofW (cc := b_N_equalTo) (maxL := 4) (ret := some .boolean) (by decide) rfl ?_
  intro p e s m args below meth cd s₁ Bd hml hv
  obtain ⟨hargs, hB, hK⟩ := hv
  have hx := Bd.exec
  have hb := Bd.bytes
  have hrt := Bd.returns
  have hts := atoms_spec (ws := Cond.code y_N_equalTo b_N_equalTo 4 (some .boolean) :: G0) Bd.pre
  have hG : ∀ w ∈ G0, w.before args s = true := fun w h => hts w (List.mem_cons_of_mem _ h)
  have hown : s.vm.findClass R_N = some m.cls := findClass_of_methodNamed Bd.named
  have hlocks := Bd.notSynchronized
  have hl := lv_entry ([.ref b, .ref b2]) (n := 4) (Nat.le_of_ble_eq_true rfl)
  rw [show entryFrame m args 4 = entryFrame m ([.ref b, .ref b2] : List Value).toArray 4 from by rw [hargs]]
  rw [lg_entry_eq]
  generalize (lg_sl ([.ref b, .ref b2]) ++ List.replicate (4 - (lg_sl ([.ref b, .ref b2])).length) Slot.unset).toArray = ls at hl ⊢
  have hl : lv_has ls 4 [(0, .ref b), (1, .ref b2)] := hl
  obtain ⟨R, hR⟩ : ∃ R, R = (headSpec (Cond.code y_N_equalTo b_N_equalTo 4 (some .boolean) :: G0) { frames := 2, cells := 0, slots := 0, locals := 43 }).room := ⟨_, rfl⟩
  rw [← hR]
  have hRf : R.frames = 2 := by rw [hR]; rfl
  have hRl : R.locals = 43 := by rw [hR]; rfl
  have hRc : R.cells = 0 := by rw [hR]; rfl
  have hRs : R.slots = 0 := by rw [hR]; rfl
  obtain ⟨Q, hQ⟩ : ∃ Q, Q = MQ below (hp_Si (bI (decide (w = w2 ∧ pw = pw2 ∧ to - fr = to2 - fr2 ∧ ∀ j, j < to - fr → ∀ p, p < w → X (fr + j) (p + 1) = X2 (fr2 + j) (p + 1))))) args s 0 0 (fun _ => False) := ⟨_, rfl⟩
  rw [← hQ]
  obtain ⟨⟨hn, ⟨hw, hf1⟩, hq, hs, hr⟩, gn, ⟨gw, gf1⟩, gq, gs, gr⟩ := hB
  refine lv_aload_n hx hb d_N_equalTo_0 rfl (lv_at hl 0 rfl) ?_
  refine hp_get (C := R_N) (T := F_N) (N := 6) (v := .ref (b + 1)) hx hb hG la_N hown hK.1 hn rfl 0 (by decide) (hG _ fl_N_12) (fun _ h9 => h9) rfl d_N_equalTo_1 ?_
  refine hp_get (C := R_W) (T := F_W) (N := 3) (v := .int (iI (w : Int))) hx hb hG la_W hown hK.1 hw rfl 1 (by decide) (hG _ fl_N_55) (fun _ h9 => h9) rfl d_N_equalTo_4 ?_
  refine lv_aload_n hx hb d_N_equalTo_7 rfl (lv_at hl 1 rfl) ?_
  refine hp_get (C := R_N) (T := F_N) (N := 6) (v := .ref (b2 + 1)) hx hb hG la_N hown hK.1 gn rfl 0 (by decide) (hG _ fl_N_12) (fun _ h9 => h9) rfl d_N_equalTo_8 ?_
  refine hp_get (C := R_W) (T := F_W) (N := 3) (v := .int (iI (w2 : Int))) hx hb hG la_W hown hK.1 gw rfl 1 (by decide) (hG _ fl_N_55) (fun _ h9 => h9) rfl d_N_equalTo_11 ?_
  refine hp_icmp_ne (tgt := 39) hx hb d_N_equalTo_14 (by decide) (by unfold iR; omega) (by unfold iR; omega) (fun c14 => ?_) (fun c14 => ?_)
  · skip
    refine hp_iconst (z := 0) hx hb d_N_equalTo_39 (by rfl) ?_
    rw [hQ]
    refine hp_zretS hx hb hrt hlocks d_N_equalTo_40 ?_
    rw [decide_eq_false (by omega)]
    rfl
  · skip
    refine lv_aload_n hx hb d_N_equalTo_17 rfl (lv_at hl 0 rfl) ?_
    refine hp_get (C := R_N) (T := F_N) (N := 6) (v := .int (iI pw)) hx hb hG la_N hown hK.1 hn rfl 5 (by decide) (hG _ fl_N_34) (fun _ h9 => h9) rfl d_N_equalTo_18 ?_
    refine lv_aload_n hx hb d_N_equalTo_21 rfl (lv_at hl 1 rfl) ?_
    refine hp_get (C := R_N) (T := F_N) (N := 6) (v := .int (iI pw2)) hx hb hG la_N hown hK.1 gn rfl 5 (by decide) (hG _ fl_N_34) (fun _ h9 => h9) rfl d_N_equalTo_22 ?_
    refine hp_icmp_ne (tgt := 39) hx hb d_N_equalTo_25 (by decide) (by unfold iR; omega) (by unfold iR; omega) (fun c25 => ?_) (fun c25 => ?_)
    · skip
      refine hp_iconst (z := 0) hx hb d_N_equalTo_39 (by rfl) ?_
      rw [hQ]
      refine hp_zretS hx hb hrt hlocks d_N_equalTo_40 ?_
      rw [decide_eq_false (by omega)]
      rfl
    · skip
      refine lv_aload_n hx hb d_N_equalTo_28 rfl (lv_at hl 0 rfl) ?_
      refine hp_callS (W.runV (As := []) (rest := []) ⟨hx, hb, hml, hown, hG⟩ (c_N_size l E b w c f fr to pw X sf) (cwV 0 hG (hp_goodV ml_N_69 im_N_size se_N_size in_N co_N_size) rfl rfl rfl hd_N_size ⟨by rw [hRf]; exact Nat.le_of_ble_eq_true rfl, by rw [hRl]; exact Nat.le_of_ble_eq_true rfl⟩) (hp_preV (ci := 1) hp_nsn hK rfl hn ⟨hn, ⟨hw, hf1⟩, hq, hs, hr⟩) rfl rfl hl.1 rfl (lv_room (Nat.le_of_ble_eq_true rfl)) d_N_equalTo_29 ⟨by rw [hRc]; exact Nat.le_of_ble_eq_true rfl, by rw [hRs]; exact Nat.le_of_ble_eq_true rfl⟩) ?_
      refine lv_aload_n hx hb d_N_equalTo_32 rfl (lv_at hl 1 rfl) ?_
      refine hp_callS (W.runV (As := []) (rest := [.int (iI ((to : Int) - fr))]) ⟨hx, hb, hml, hown, hG⟩ (c_N_size l E b2 w2 c2 f2 fr2 to2 pw2 X2 sf2) (cwV 0 hG (hp_goodV ml_N_69 im_N_size se_N_size in_N co_N_size) rfl rfl rfl hd_N_size ⟨by rw [hRf]; exact Nat.le_of_ble_eq_true rfl, by rw [hRl]; exact Nat.le_of_ble_eq_true rfl⟩) (hp_preV (ci := 1) hp_nsn hK rfl gn ⟨gn, ⟨gw, gf1⟩, gq, gs, gr⟩) rfl rfl hl.1 rfl (lv_room (Nat.le_of_ble_eq_true rfl)) d_N_equalTo_33 ⟨by rw [hRc]; exact Nat.le_of_ble_eq_true rfl, by rw [hRs]; exact Nat.le_of_ble_eq_true rfl⟩) ?_
      refine hp_icmp_eq (tgt := 41) hx hb d_N_equalTo_36 (by decide) (by unfold iR; omega) (by unfold iR; omega) (fun c36 => ?_) (fun c36 => ?_)
      · skip
        refine hp_iconst (z := 1) hx hb d_N_equalTo_41 (by rfl) ?_
        refine lv_istore_n (lv' := [(2, .int (iI 1)), (0, .ref b), (1, .ref b2)]) hx hb d_N_equalTo_42 rfl hl (by decide) rfl (fun ls hl => ?_)
        have L43 : ∀ (N : Nat) (j : Nat), to - fr + 2 - j < N → (1 ≤ j ∧ j ≤ to - fr + 1) → (∀ i, i + 1 < j → ∀ p, p < w → X (fr + i) (p + 1) = X2 (fr2 + i) (p + 1)) → ∀ ls : Array Slot, lv_has ls 4 [(0, .ref b), (1, .ref b2), (2, .int (iI (j : Int)))] → W p l e R s m args below meth cd s.heap [] 0 0 Q (F0 m 43 ls []) := by
          intro N
          induction N with
          | zero => intro j hN; exact absurd hN (by omega)
          | succ N ih =>
            intro j hN hj he  ls hl
            have ih43 := ih
            refine lv_iload_n hx hb d_N_equalTo_43 rfl (lv_at hl 2 rfl) ?_
            refine lv_aload_n hx hb d_N_equalTo_44 rfl (lv_at hl 0 rfl) ?_
            refine hp_callS (W.runV (As := []) (rest := [.int (iI (j : Int))]) ⟨hx, hb, hml, hown, hG⟩ (c_N_size l E b w c f fr to pw X sf) (cwV 0 hG (hp_goodV ml_N_69 im_N_size se_N_size in_N co_N_size) rfl rfl rfl hd_N_size ⟨by rw [hRf]; exact Nat.le_of_ble_eq_true rfl, by rw [hRl]; exact Nat.le_of_ble_eq_true rfl⟩) (hp_preV (ci := 1) hp_nsn hK rfl hn ⟨hn, ⟨hw, hf1⟩, hq, hs, hr⟩) rfl rfl hl.1 rfl (lv_room (Nat.le_of_ble_eq_true rfl)) d_N_equalTo_45 ⟨by rw [hRc]; exact Nat.le_of_ble_eq_true rfl, by rw [hRs]; exact Nat.le_of_ble_eq_true rfl⟩) ?_
            refine hp_icmp_gt (tgt := 93) hx hb d_N_equalTo_48 (by decide) (by unfold iR; omega) (by unfold iR; omega) (fun c48 => ?_) (fun c48 => ?_)
            · skip
              refine hp_iconst (z := 1) hx hb d_N_equalTo_93 (by rfl) ?_
              rw [hQ]
              refine hp_zretS hx hb hrt hlocks d_N_equalTo_94 ?_
              rw [decide_eq_true ⟨by omega, by omega, by omega, fun i hi p hp => he i (by omega) p hp⟩]
              rfl
            · skip
              refine hp_iconst (z := 1) hx hb d_N_equalTo_51 (by rfl) ?_
              refine lv_istore_n (lv' := [(3, .int (iI 1)), (0, .ref b), (1, .ref b2), (2, .int (iI (j : Int)))]) hx hb d_N_equalTo_52 rfl hl (by decide) rfl (fun ls hl => ?_)
              have L53 : ∀ (N : Nat) (q : Nat), w + 2 - q < N → (1 ≤ q ∧ q ≤ w + 1) → (∀ p, p + 1 < q → X (fr + j - 1) (p + 1) = X2 (fr2 + j - 1) (p + 1)) → ∀ ls : Array Slot, lv_has ls 4 [(0, .ref b), (1, .ref b2), (2, .int (iI (j : Int))), (3, .int (iI (q : Int)))] → W p l e R s m args below meth cd s.heap [] 0 0 Q (F0 m 53 ls []) := by
                intro N
                induction N with
                | zero => intro q hN; exact absurd hN (by omega)
                | succ N ih =>
                  intro q hN hq9 he2  ls hl
                  have ih53 := ih
                  refine lv_iload_n hx hb d_N_equalTo_53 rfl (lv_at hl 3 rfl) ?_
                  refine lv_aload_n hx hb d_N_equalTo_54 rfl (lv_at hl 0 rfl) ?_
                  refine hp_get (C := R_N) (T := F_N) (N := 6) (v := .ref (b + 1)) hx hb hG la_N hown hK.1 hn rfl 0 (by decide) (hG _ fl_N_12) (fun _ h9 => h9) rfl d_N_equalTo_55 ?_
                  refine hp_get (C := R_W) (T := F_W) (N := 3) (v := .int (iI (w : Int))) hx hb hG la_W hown hK.1 hw rfl 1 (by decide) (hG _ fl_N_55) (fun _ h9 => h9) rfl d_N_equalTo_58 ?_
                  refine hp_icmp_gt (tgt := 87) hx hb d_N_equalTo_61 (by decide) (by unfold iR; omega) (by unfold iR; omega) (fun c61 => ?_) (fun c61 => ?_)
                  · skip
                    refine hp_iinc (z := ((j : Int) + 1)) (lv' := [(2, .int (iI ((j : Int) + 1))), (0, .ref b), (1, .ref b2), (3, .int (iI (q : Int)))]) hx hb d_N_equalTo_87 hl (k := 2) rfl (by omega) (by decide) rfl (fun ls hl => ?_)
                    refine lv_goto (tgt := 43) hx hb d_N_equalTo_90 (by decide) ?_
                    exact ih43  (j + 1) (by omega) (by omega) (by intro i h p hp; by_cases e9 : i = j - 1; (subst e9; have := he2 p (by omega); rwa [show fr + (j - 1) = fr + j - 1 by omega, show fr2 + (j - 1) = fr2 + j - 1 by omega]); exact he i (by omega) p hp) ls (lv_sub hl [1, 2, 0] rfl)
                  · skip
                    have v1 := hX (fr + j - 1) q (by omega) (by omega) (by omega)
                    have v2 := hX2 (fr2 + j - 1) q (by omega) (by omega) (by omega)
                    refine lv_aload_n hx hb d_N_equalTo_64 rfl (lv_at hl 0 rfl) ?_
                    refine lv_iload_n hx hb d_N_equalTo_65 rfl (lv_at hl 2 rfl) ?_
                    refine lv_iload_n hx hb d_N_equalTo_66 rfl (lv_at hl 3 rfl) ?_
                    refine hp_callS (W.runV (As := [.int (iI (j : Int)), .int (iI (q : Int))]) (rest := []) ⟨hx, hb, hml, hown, hG⟩ (c_N_image l E b w c f fr to pw X sf (j : Int) (q : Int) (by unfold iR; omega) (by unfold iR; omega) hw8 hft) (cwV 2 hG (hp_goodV ml_N_76 im_N_image se_N_image in_N co_N_image) rfl rfl rfl hd_N_image ⟨by rw [hRf]; exact Nat.le_of_ble_eq_true rfl, by rw [hRl]; exact Nat.le_of_ble_eq_true rfl⟩) (hp_preV (ci := 1) hp_nsn hK rfl hn ⟨hn, ⟨hw, hf1⟩, hq, hs, hr⟩) rfl rfl hl.1 rfl (lv_room (Nat.le_of_ble_eq_true rfl)) d_N_equalTo_67 ⟨by rw [hRc]; exact Nat.le_of_ble_eq_true rfl, by rw [hRs]; exact Nat.le_of_ble_eq_true rfl⟩) ?_
                    rw [show (if 1 ≤ (j : Int) ∧ (j : Int) ≤ (to : Int) - fr ∧ 1 ≤ (q : Int) ∧ (q : Int) ≤ (w : Int) then X (fr + (j : Int).toNat - 1) (q : Int).toNat else 0) = X (fr + j - 1) q from by rw [if_pos (by omega), Int.toNat_natCast, Int.toNat_natCast]]
                    refine lv_aload_n hx hb d_N_equalTo_70 rfl (lv_at hl 1 rfl) ?_
                    refine lv_iload_n hx hb d_N_equalTo_71 rfl (lv_at hl 2 rfl) ?_
                    refine lv_iload_n hx hb d_N_equalTo_72 rfl (lv_at hl 3 rfl) ?_
                    refine hp_callS (W.runV (As := [.int (iI (j : Int)), .int (iI (q : Int))]) (rest := [.int (iI (X (fr + j - 1) q))]) ⟨hx, hb, hml, hown, hG⟩ (c_N_image l E b2 w2 c2 f2 fr2 to2 pw2 X2 sf2 (j : Int) (q : Int) (by unfold iR; omega) (by unfold iR; omega) (by omega) hft2) (cwV 2 hG (hp_goodV ml_N_76 im_N_image se_N_image in_N co_N_image) rfl rfl rfl hd_N_image ⟨by rw [hRf]; exact Nat.le_of_ble_eq_true rfl, by rw [hRl]; exact Nat.le_of_ble_eq_true rfl⟩) (hp_preV (ci := 1) hp_nsn hK rfl gn ⟨gn, ⟨gw, gf1⟩, gq, gs, gr⟩) rfl rfl hl.1 rfl (lv_room (Nat.le_of_ble_eq_true rfl)) d_N_equalTo_73 ⟨by rw [hRc]; exact Nat.le_of_ble_eq_true rfl, by rw [hRs]; exact Nat.le_of_ble_eq_true rfl⟩) ?_
                    rw [show (if 1 ≤ (j : Int) ∧ (j : Int) ≤ (to2 : Int) - fr2 ∧ 1 ≤ (q : Int) ∧ (q : Int) ≤ (w2 : Int) then X2 (fr2 + (j : Int).toNat - 1) (q : Int).toNat else 0) = X2 (fr2 + j - 1) q from by rw [if_pos (by omega), Int.toNat_natCast, Int.toNat_natCast]]
                    refine hp_icmp_eq (tgt := 81) hx hb d_N_equalTo_76 (by decide) (by unfold iR; omega) (by unfold iR; omega) (fun c76 => ?_) (fun c76 => ?_)
                    · skip
                      refine hp_iinc (z := ((q : Int) + 1)) (lv' := [(3, .int (iI ((q : Int) + 1))), (0, .ref b), (1, .ref b2), (2, .int (iI (j : Int)))]) hx hb d_N_equalTo_81 hl (k := 3) rfl (by omega) (by decide) rfl (fun ls hl => ?_)
                      refine lv_goto (tgt := 53) hx hb d_N_equalTo_84 (by decide) ?_
                      exact ih53  (q + 1) (by omega) (by omega) (by intro p h; by_cases e9 : p = q - 1; (subst e9; rw [show q - 1 + 1 = q by omega]; exact c76); exact he2 p (by omega)) ls (lv_sub hl [1, 2, 3, 0] rfl)
                    · skip
                      refine hp_iconst (z := 0) hx hb d_N_equalTo_79 (by rfl) ?_
                      rw [hQ]
                      refine hp_zretS hx hb hrt hlocks d_N_equalTo_80 ?_
                      rw [decide_eq_false (fun h => c76 (by have := h.2.2.2 (j - 1) (by omega) (q - 1) (by omega); rwa [show fr + (j - 1) = fr + j - 1 by omega, show fr2 + (j - 1) = fr2 + j - 1 by omega, show q - 1 + 1 = q by omega] at this))]
                      rfl
              exact L53 (w + 2 - 1 + 1) 1 (by omega) (by omega) (by intro p h; omega) ls (lv_sub hl [1, 2, 3, 0] rfl)
        exact L43 (to - fr + 2 - 1 + 1) 1 (by omega) (by omega) (by intro i h; omega) ls (lv_sub hl [1, 2, 0] rfl)
      · skip
        refine hp_iconst (z := 0) hx hb d_N_equalTo_39 (by rfl) ?_
        rw [hQ]
        refine hp_zretS hx hb hrt hlocks d_N_equalTo_40 ?_
        rw [decide_eq_false (by omega)]
        rfl

set_option maxHeartbeats 4000000 in
set_option maxRecDepth 100000 in
/-- formOf(s) -/
theorem c_B_formOf (l : Launch) (E : hp_E) (o : Nat) (w c : Nat → Nat) (f : Nat → Nat → Int) (t : Nat) (ht : t < 4) : Met l y_B_formOf (Cond.code y_B_formOf b_B_formOf 2 (some (.object "BraidWords$NormalForm")) :: G0) ({ frames := 5, cells := 0, slots := 0, locals := 116 }) (hp_P E [.ref o, .int (iI (t : Int))] (fun H => bAt E H o w c f)) (hp_Qr (fun q => o + 5 + 39 * t ≤ q ∧ q ≤ o + 5 + 39 * t + 36) (fun r H => r = o + 5 + 39 * t ∧ bAt E H o w c f ∧ ∃ (f1 : Nat → Int) (fr to : Nat) (pw : Int) (X : Nat → Nat → Int) (sf : Nat → Int), nAt E H (o + 5 + 39 * t) (w t) (c t) f1 fr to pw X sf ∧ bd f1 ∧ nfS (w t) (c t) (f t) fr to pw X)) 0 0 (fun q => o + 5 + 39 * t ≤ q ∧ q ≤ o + 5 + 39 * t + 36) := by
  refine Met.ofW (cc := b_B_formOf) (maxL := 2) (ret := some (.object "BraidWords$NormalForm")) (by decide) rfl ?_
  intro p e s m args below meth cd s₁ Bd hml hv
  obtain ⟨hargs, hB, hK⟩ := hv
  have hx := Bd.exec
  have hb := Bd.bytes
  have hrt := Bd.returns
  have hts := atoms_spec (ws := Cond.code y_B_formOf b_B_formOf 2 (some (.object "BraidWords$NormalForm")) :: G0) Bd.pre
  have hG : ∀ w ∈ G0, w.before args s = true := fun w h => hts w (List.mem_cons_of_mem _ h)
  have hown : s.vm.findClass R_B = some m.cls := findClass_of_methodNamed Bd.named
  have hlocks := Bd.notSynchronized
  have hl := lv_entry ([.ref o, .int (iI (t : Int))]) (n := 2) (Nat.le_of_ble_eq_true rfl)
  rw [show entryFrame m args 2 = entryFrame m ([.ref o, .int (iI (t : Int))] : List Value).toArray 2 from by rw [hargs]]
  rw [lg_entry_eq]
  generalize (lg_sl ([.ref o, .int (iI (t : Int))]) ++ List.replicate (2 - (lg_sl ([.ref o, .int (iI (t : Int))])).length) Slot.unset).toArray = ls at hl ⊢
  have hl : lv_has ls 2 [(0, .ref o), (1, .int (iI (t : Int)))] := hl
  obtain ⟨R, hR⟩ : ∃ R, R = (headSpec (Cond.code y_B_formOf b_B_formOf 2 (some (.object "BraidWords$NormalForm")) :: G0) { frames := 5, cells := 0, slots := 0, locals := 116 }).room := ⟨_, rfl⟩
  rw [← hR]
  have hRf : R.frames = 5 := by rw [hR]; rfl
  have hRl : R.locals = 116 := by rw [hR]; rfl
  have hRc : R.cells = 0 := by rw [hR]; rfl
  have hRs : R.slots = 0 := by rw [hR]; rfl
  obtain ⟨Q, hQ⟩ : ∃ Q, Q = MQ below (hp_Qr (fun q => o + 5 + 39 * t ≤ q ∧ q ≤ o + 5 + 39 * t + 36) (fun r H => r = o + 5 + 39 * t ∧ bAt E H o w c f ∧ ∃ (f1 : Nat → Int) (fr to : Nat) (pw : Int) (X : Nat → Nat → Int) (sf : Nat → Int), nAt E H (o + 5 + 39 * t) (w t) (c t) f1 fr to pw X sf ∧ bd f1 ∧ nfS (w t) (c t) (f t) fr to pw X)) args s 0 0 (fun q => o + 5 + 39 * t ≤ q ∧ q ≤ o + 5 + 39 * t + 36) := ⟨_, rfl⟩
  rw [← hQ]
  obtain ⟨H, hH⟩ : ∃ H, H = s.heap := ⟨_, rfl⟩
  obtain ⟨locs, hlocs⟩ : ∃ locs : List Loc, locs = [] := ⟨_, rfl⟩
  have hS : va_S (fun q => o + 5 + 39 * t ≤ q ∧ q ≤ o + 5 + 39 * t + 36) s.heap H locs := by rw [hH, hlocs]; exact va_S.rf
  have hZ : H.size = s.heap.size := by rw [hH]
  rw [← hH] at hB
  rw [show W p l e R s m args below meth cd s.heap [] 0 0 Q (F0 m 0 ls []) = W p l e R s m args below meth cd H locs 0 0 Q (F0 m 0 ls []) from by rw [hH, hlocs]]
  have hbt := hB
  obtain ⟨hb0, hb1, hb2, hWs, hNs⟩ := id hbt
  obtain ⟨⟨hw, hf1⟩, hv⟩ := hWs t (by omega)
  have hv1 := hv.1
  have hv2 := hv.2.1
  have hv3 := hv.2.2.1
  have hbd := hv.2.2.2.1
  have hok := hv.2.2.2.2
  obtain ⟨wn, cn, fn, fr, to, pw, X, sf, hnA, hn1, hn2, hn3, hn4⟩ := hNs t ht
  obtain ⟨hn, hnw, hnq, hns, hnr⟩ := id hnA
  refine lv_aload_n hx hb d_B_formOf_0 rfl (lv_at hl 0 rfl) ?_
  refine hp_get (C := R_B) (T := F_B) (N := 2) (v := .ref (o + 2)) hx hb hG la_B hown hK.1 hb0 rfl 1 (by decide) (hG _ fl_B_17) (fun _ h9 => h9) rfl d_B_formOf_1 ?_
  refine lv_iload_n hx hb d_B_formOf_4 rfl (lv_at hl 1 rfl) ?_
  refine hp_aald hx hb hK.1 3 hb2 rfl rfl d_B_formOf_5 (by omega) t (by omega) (by omega) (v := .ref (o + 5 + 39 * t)) (by rw [if_pos (by omega)]; rfl) ?_
  refine lv_aload_n hx hb d_B_formOf_6 rfl (lv_at hl 0 rfl) ?_
  refine hp_get (C := R_B) (T := F_B) (N := 2) (v := .ref (o + 1)) hx hb hG la_B hown hK.1 hb0 rfl 0 (by decide) (hG _ fl_B_11) (fun _ h9 => h9) rfl d_B_formOf_7 ?_
  refine lv_iload_n hx hb d_B_formOf_10 rfl (lv_at hl 1 rfl) ?_
  refine hp_aald hx hb hK.1 2 hb1 rfl rfl d_B_formOf_11 (by omega) t (by omega) (by omega) (v := .ref (o + 3 + 39 * t)) (by rw [if_pos (by omega)]; rfl) ?_
  refine hp_callv (W.runV (As := [.ref (o + 3 + 39 * t)]) (rest := []) ⟨hx, hb, hml, hown, hG⟩ (c_N_follow l E (o + 5 + 39 * t) wn cn fn fr to pw X sf (o + 3 + 39 * t) (w t) (c t) (f t) hn1 hv2 hn2 hv3 hn3 hbd hok hn4 (by omega)) (cwV 1 hG (hp_goodV ml_B_124 im_N_follow se_N_follow in_N co_N_follow) rfl rfl rfl hd_N_follow ⟨by rw [hRf]; exact Nat.le_of_ble_eq_true rfl, by rw [hRl]; exact Nat.le_of_ble_eq_true rfl⟩) (hp_preV (ci := 1) hp_nsn hK rfl hn ⟨hnA, hw, hf1⟩) rfl rfl hl.1 rfl (lv_room (Nat.le_of_ble_eq_true rfl)) d_B_formOf_12 ⟨by rw [hRc]; exact Nat.le_of_ble_eq_true rfl, by rw [hRs]; exact Nat.le_of_ble_eq_true rfl⟩) hS (fun q h => h) (fun H locs hpost hz1 ho1 hS => ?_)
  have hZ := hz1.trans hZ
  have hb0 := hb0.keep (ho1 (o) (by omega))
  have hb1 := hb1.keep (ho1 (o + 1) (by omega))
  have hb2 := hb2.keep (ho1 (o + 2) (by omega))
  obtain ⟨f1, fr1, to1, pw1, X1, sf1, hA, hA1, hA2, hA3⟩ := hpost
  have hbt := hbt.nform ht ho1 ⟨_, _, f1, fr1, to1, pw1, X1, sf1, hA, hv2, hv3, hA1, nfS_congr (fun k hk => (hA2 k hk).symm) hA3⟩
  refine lv_aload_n hx hb d_B_formOf_15 rfl (lv_at hl 0 rfl) ?_
  refine hp_get (C := R_B) (T := F_B) (N := 2) (v := .ref (o + 2)) hx hb hG la_B hown hK.1 hb0 rfl 1 (by decide) (hG _ fl_B_17) (fun _ h9 => h9) rfl d_B_formOf_16 ?_
  refine lv_iload_n hx hb d_B_formOf_19 rfl (lv_at hl 1 rfl) ?_
  refine hp_aald hx hb hK.1 3 hb2 rfl rfl d_B_formOf_20 (by omega) t (by omega) (by omega) (v := .ref (o + 5 + 39 * t)) (by rw [if_pos (by omega)]; rfl) ?_
  rw [hQ]
  refine hp_aretQ hx hb hrt hlocks d_B_formOf_21 hS hZ ?_
  exact ⟨rfl, hbt, f1, fr1, to1, pw1, X1, sf1, hA, hA1, hA3⟩
