set_option maxHeartbeats 4000000 in
set_option maxRecDepth 100000 in
/-- settle() -/
theorem c_N_settle (l : Launch) (E : hp_E) (b w c fr to : Nat) (pw : Int) (B : Nat → gs_P) (X : Nat → Nat → Int) (sf : Nat → Int) (hw8 : w ≤ 8) (hft : fr < to ∧ to ≤ 32) (hok : ∀ i, i < to → gs_ok w (B i)) (hX0 : ∀ i, i < to → bn_h w (X i) (B i).1) (hB0 : ∀ i, fr ≤ i → i + 2 < to → gs_lw w (B i) (B (i + 1))) : Met l y_N_settle (Cond.code y_N_settle b_N_settle 2 (none) :: G0) ({ frames := 3, cells := 0, slots := 0, locals := 71 }) (hp_P E [.ref b] (fun H => ca E H b (oN b fr to pw) ∧ ca E H (b + 1) (oW (b + 1) w c) ∧ ca E H (b + 3) (oR E b) ∧ ca E H (b + 36) (ai E 9 sf) ∧ (∀ i, i < 32 → ca E H (b + 4 + i) (ai E 9 (X i))))) (hp_Qv (fun q => q = b ∨ (b + 4 ≤ q ∧ q ≤ b + 36)) (fun H => ∃ (d fr1 to1 : Nat) (B1 : Nat → gs_P) (X1 : Nat → Nat → Int) (sf1 : Nat → Int), gs_to w to d B B1 ∧ (∀ i, fr ≤ i → i + 1 < to → gs_lw w (B1 i) (B1 (i + 1))) ∧ (∀ i, i < to → bn_h w (X1 i) (B1 i).1) ∧ (fr ≤ fr1 ∧ fr1 ≤ to1 ∧ to1 ≤ to) ∧ (∀ i, fr ≤ i → i < fr1 → B1 i = gs_T w) ∧ (∀ i, to1 ≤ i → i < to → B1 i = gs_id) ∧ (fr1 < to1 → B1 fr1 ≠ gs_T w ∧ B1 (to1 - 1) ≠ gs_id) ∧ (∀ i, i < fr → B1 i = B i) ∧ ca E H b (oN b fr1 to1 (pw + ((fr1 : Int) - fr))) ∧ ca E H (b + 36) (ai E 9 sf1) ∧ (∀ i, i < 32 → ca E H (b + 4 + i) (ai E 9 (X1 i))))) 0 0 (fun q => q = b ∨ (b + 4 ≤ q ∧ q ≤ b + 36)) := by
  refine Met.ofW (cc := b_N_settle) (maxL := 2) (ret := none) (by decide) rfl ?_
  intro p e s m args below meth cd s₁ Bd hml hv
  obtain ⟨hargs, hB, hK⟩ := hv
  have hx := Bd.exec
  have hb := Bd.bytes
  have hrt := Bd.returns
  have hts := atoms_spec (ws := Cond.code y_N_settle b_N_settle 2 (none) :: G0) Bd.pre
  have hG : ∀ w ∈ G0, w.before args s = true := fun w h => hts w (List.mem_cons_of_mem _ h)
  have hown : s.vm.findClass R_N = some m.cls := findClass_of_methodNamed Bd.named
  have hlocks := Bd.notSynchronized
  have hl := lv_entry ([.ref b]) (n := 2) (Nat.le_of_ble_eq_true rfl)
  rw [show entryFrame m args 2 = entryFrame m ([.ref b] : List Value).toArray 2 from by rw [hargs]]
  rw [lg_entry_eq]
  generalize (lg_sl ([.ref b]) ++ List.replicate (2 - (lg_sl ([.ref b])).length) Slot.unset).toArray = ls at hl ⊢
  have hl : lv_has ls 2 [(0, .ref b)] := hl
  obtain ⟨R, hR⟩ : ∃ R, R = (headSpec (Cond.code y_N_settle b_N_settle 2 (none) :: G0) { frames := 3, cells := 0, slots := 0, locals := 71 }).room := ⟨_, rfl⟩
  rw [← hR]
  have hRf : R.frames = 3 := by rw [hR]; rfl
  have hRl : R.locals = 71 := by rw [hR]; rfl
  have hRc : R.cells = 0 := by rw [hR]; rfl
  have hRs : R.slots = 0 := by rw [hR]; rfl
  obtain ⟨Q, hQ⟩ : ∃ Q, Q = MQ below (hp_Qv (fun q => q = b ∨ (b + 4 ≤ q ∧ q ≤ b + 36)) (fun H => ∃ (d fr1 to1 : Nat) (B1 : Nat → gs_P) (X1 : Nat → Nat → Int) (sf1 : Nat → Int), gs_to w to d B B1 ∧ (∀ i, fr ≤ i → i + 1 < to → gs_lw w (B1 i) (B1 (i + 1))) ∧ (∀ i, i < to → bn_h w (X1 i) (B1 i).1) ∧ (fr ≤ fr1 ∧ fr1 ≤ to1 ∧ to1 ≤ to) ∧ (∀ i, fr ≤ i → i < fr1 → B1 i = gs_T w) ∧ (∀ i, to1 ≤ i → i < to → B1 i = gs_id) ∧ (fr1 < to1 → B1 fr1 ≠ gs_T w ∧ B1 (to1 - 1) ≠ gs_id) ∧ (∀ i, i < fr → B1 i = B i) ∧ ca E H b (oN b fr1 to1 (pw + ((fr1 : Int) - fr))) ∧ ca E H (b + 36) (ai E 9 sf1) ∧ (∀ i, i < 32 → ca E H (b + 4 + i) (ai E 9 (X1 i))))) args s 0 0 (fun q => q = b ∨ (b + 4 ≤ q ∧ q ≤ b + 36)) := ⟨_, rfl⟩
  rw [← hQ]
  obtain ⟨H, hH⟩ : ∃ H, H = s.heap := ⟨_, rfl⟩
  obtain ⟨locs, hlocs⟩ : ∃ locs : List Loc, locs = [] := ⟨_, rfl⟩
  have hS : va_S (fun q => q = b ∨ (b + 4 ≤ q ∧ q ≤ b + 36)) s.heap H locs := by rw [hH, hlocs]; exact va_S.rf
  have hZ : H.size = s.heap.size := by rw [hH]
  rw [← hH] at hB
  rw [show W p l e R s m args below meth cd s.heap [] 0 0 Q (F0 m 0 ls []) = W p l e R s m args below meth cd H locs 0 0 Q (F0 m 0 ls []) from by rw [hH, hlocs]]
  obtain ⟨hn, hw, hq, hs, hr⟩ := hB
  refine lv_aload_n hx hb d_N_settle_0 rfl (lv_at hl 0 rfl) ?_
  refine hp_get (C := R_N) (T := F_N) (N := 6) (v := .int (iI (to : Int))) hx hb hG la_N hown hK.1 hn rfl 4 (by decide) (hG _ fl_N_31) (fun _ h9 => h9) rfl d_N_settle_1 ?_
  refine hp_iconst (z := 1) hx hb d_N_settle_4 (by rfl) ?_
  refine hp_isub hx hb d_N_settle_5 ?_
  refine lv_istore_n (lv' := [(1, .int (iI ((to : Int) - 1))), (0, .ref b)]) hx hb d_N_settle_6 rfl hl (by decide) rfl (fun ls hl => ?_)
  have L7 : ∀ (N : Nat) (j d : Nat) (B1 : Nat → gs_P) (X1 : Nat → Nat → Int) (sf1 : Nat → Int), j < N → (fr ≤ j ∧ j < to) → (gs_to w to d B B1) → (∀ i, i < to → bn_h w (X1 i) (B1 i).1) → (st_I w fr to j B B1) → ∀ (H : Heap) (locs : List Loc), va_S (fun q => q = b ∨ (b + 4 ≤ q ∧ q ≤ b + 36)) s.heap H locs → H.size = s.heap.size → ca E H b (oN b fr to pw) → ca E H (b + 1) (oW (b + 1) w c) → ca E H (b + 3) (oR E b) → ca E H (b + 36) (ai E 9 sf1) → (∀ i, i < 32 → ca E H (b + 4 + i) (ai E 9 (X1 i))) → ∀ ls : Array Slot, lv_has ls 2 [(0, .ref b), (1, .int (iI (j : Int)))] → W p l e R s m args below meth cd H locs 0 0 Q (F0 m 7 ls []) := by
    intro N
    induction N with
    | zero => intro j d B1 X1 sf1 hN; exact absurd hN (by omega)
    | succ N ih =>
      intro j d B1 X1 sf1 hN hj hto hX hI H locs hS hZ hn hw hq hs hr ls hl
      have ih7 := ih
      refine lv_iload_n hx hb d_N_settle_7 rfl (lv_at hl 1 rfl) ?_
      refine lv_aload_n hx hb d_N_settle_8 rfl (lv_at hl 0 rfl) ?_
      refine hp_get (C := R_N) (T := F_N) (N := 6) (v := .int (iI (fr : Int))) hx hb hG la_N hown hK.1 hn rfl 3 (by decide) (hG _ fl_N_27) (fun _ h9 => h9) rfl d_N_settle_9 ?_
      refine hp_icmp_le (tgt := 45) hx hb d_N_settle_12 (by decide) (by unfold iR; omega) (by unfold iR; omega) (fun c12 => ?_) (fun c12 => ?_)
      · skip
        have hlw := st_Iend (show st_I w fr to fr B B1 by rw [show fr = j by omega]; rw [show j = fr by omega] at hI ⊢; exact hI)
        have L45 : ∀ (N : Nat) (fr1 : Nat) (pw1 : Int), to - fr1 < N → (fr ≤ fr1 ∧ fr1 ≤ to) → (∀ i, fr ≤ i → i < fr1 → B1 i = gs_T w) → (pw1 = pw + ((fr1 : Int) - fr)) → ∀ (H : Heap) (locs : List Loc), va_S (fun q => q = b ∨ (b + 4 ≤ q ∧ q ≤ b + 36)) s.heap H locs → H.size = s.heap.size → ca E H b (oN b fr1 to pw1) → ca E H (b + 1) (oW (b + 1) w c) → ca E H (b + 3) (oR E b) → ca E H (b + 36) (ai E 9 sf1) → (∀ i, i < 32 → ca E H (b + 4 + i) (ai E 9 (X1 i))) → ∀ ls : Array Slot, lv_has ls 2 [(0, .ref b)] → W p l e R s m args below meth cd H locs 0 0 Q (F0 m 45 ls []) := by
          intro N
          induction N with
          | zero => intro fr1 pw1 hN; exact absurd hN (by omega)
          | succ N ih =>
            intro fr1 pw1 hN hf1 hT hpw H locs hS hZ hn hw hq hs hr ls hl
            have ih45 := ih
            refine lv_aload_n hx hb d_N_settle_45 rfl (lv_at hl 0 rfl) ?_
            refine hp_get (C := R_N) (T := F_N) (N := 6) (v := .int (iI (fr1 : Int))) hx hb hG la_N hown hK.1 hn rfl 3 (by decide) (hG _ fl_N_27) (fun _ h9 => h9) rfl d_N_settle_46 ?_
            refine lv_aload_n hx hb d_N_settle_49 rfl (lv_at hl 0 rfl) ?_
            refine hp_get (C := R_N) (T := F_N) (N := 6) (v := .int (iI (to : Int))) hx hb hG la_N hown hK.1 hn rfl 4 (by decide) (hG _ fl_N_31) (fun _ h9 => h9) rfl d_N_settle_50 ?_
            refine hp_icmp_ge (tgt := 95) hx hb d_N_settle_53 (by decide) (by unfold iR; omega) (by unfold iR; omega) (fun c53 => ?_) (fun c53 => ?_)
            · skip
              have hnT : fr1 < to → B1 fr1 ≠ gs_T w := fun g => by first | exact fun q => c69 ((bn_isT okx (hX _ (by omega))).mpr q) | omega
              have L95 : ∀ (N : Nat) (to1 : Nat), to1 < N → (fr1 ≤ to1 ∧ to1 ≤ to) → (∀ i, to1 ≤ i → i < to → B1 i = gs_id) → ∀ (H : Heap) (locs : List Loc), va_S (fun q => q = b ∨ (b + 4 ≤ q ∧ q ≤ b + 36)) s.heap H locs → H.size = s.heap.size → ca E H b (oN b fr1 to1 pw1) → ca E H (b + 1) (oW (b + 1) w c) → ca E H (b + 3) (oR E b) → ca E H (b + 36) (ai E 9 sf1) → (∀ i, i < 32 → ca E H (b + 4 + i) (ai E 9 (X1 i))) → ∀ ls : Array Slot, lv_has ls 2 [(0, .ref b)] → W p l e R s m args below meth cd H locs 0 0 Q (F0 m 95 ls []) := by
                intro N
                induction N with
                | zero => intro to1 hN; exact absurd hN (by omega)
                | succ N ih =>
                  intro to1 hN ht1 hN1 H locs hS hZ hn hw hq hs hr ls hl
                  have ih95 := ih
                  refine lv_aload_n hx hb d_N_settle_95 rfl (lv_at hl 0 rfl) ?_
                  refine hp_get (C := R_N) (T := F_N) (N := 6) (v := .int (iI (fr1 : Int))) hx hb hG la_N hown hK.1 hn rfl 3 (by decide) (hG _ fl_N_27) (fun _ h9 => h9) rfl d_N_settle_96 ?_
                  refine lv_aload_n hx hb d_N_settle_99 rfl (lv_at hl 0 rfl) ?_
                  refine hp_get (C := R_N) (T := F_N) (N := 6) (v := .int (iI (to1 : Int))) hx hb hG la_N hown hK.1 hn rfl 4 (by decide) (hG _ fl_N_31) (fun _ h9 => h9) rfl d_N_settle_100 ?_
                  refine hp_icmp_ge (tgt := 137) hx hb d_N_settle_103 (by decide) (by unfold iR; omega) (by unfold iR; omega) (fun c103 => ?_) (fun c103 => ?_)
                  · skip
                    rw [hQ]
                    refine hp_vretQ hx hb hrt hlocks d_N_settle_137 hS hZ ?_
                    refine ⟨d, fr1, to1, B1, X1, sf1, hto, hlw, hX, ⟨by omega, by omega, by omega⟩, hT, hN1, fun g => ⟨hnT (by omega), by first | exact fun q => c121 ((bn_isN okx (hX _ (by omega))).mpr q) | omega⟩, fun i hi => hI.2.1 i (by omega), ?_, hs, hr⟩
                    rw [← hpw]
                    exact hn
                  · skip
                    refine lv_aload_n hx hb d_N_settle_106 rfl (lv_at hl 0 rfl) ?_
                    refine lv_aload_n hx hb d_N_settle_107 rfl (lv_at hl 0 rfl) ?_
                    refine hp_get (C := R_N) (T := F_N) (N := 6) (v := .ref (b + 3)) hx hb hG la_N hown hK.1 hn rfl 1 (by decide) (hG _ fl_N_20) (fun _ h9 => h9) rfl d_N_settle_108 ?_
                    refine lv_aload_n hx hb d_N_settle_111 rfl (lv_at hl 0 rfl) ?_
                    refine hp_get (C := R_N) (T := F_N) (N := 6) (v := .int (iI (to1 : Int))) hx hb hG la_N hown hK.1 hn rfl 4 (by decide) (hG _ fl_N_31) (fun _ h9 => h9) rfl d_N_settle_112 ?_
                    refine hp_iconst (z := 1) hx hb d_N_settle_115 (by rfl) ?_
                    refine hp_isub hx hb d_N_settle_116 ?_
                    refine hp_aald hx hb hK.1 4 hq rfl rfl d_N_settle_117 (by omega) (to1 - 1) (by omega) (by omega) (v := .ref (b + 4 + (to1 - 1))) (by rw [if_pos (by omega)]; rfl) ?_
                    have hg := hr (to1 - 1) (by omega)
                    have okx := st_ok hto hok (to1 - 1) (by omega)
                    refine hp_callS (W.runV (As := [.ref (b + 4 + (to1 - 1))]) (rest := []) ⟨hx, hb, hml, hown, hG⟩ (c_N_isNone l E b w c fr1 to1 pw1 (b + 4 + (to1 - 1)) (X1 (to1 - 1)) hw8 (fun p g1 g2 => by have q1 := hX (to1 - 1) (by omega) p g1 g2; have q2 := gs_rng okx g1 g2; unfold iR; omega)) (cwV 1 hG (hp_goodV ml_N_92 im_N_isNone se_N_isNone in_N co_N_isNone) rfl rfl rfl hd_N_isNone ⟨by rw [hRf]; exact Nat.le_of_ble_eq_true rfl, by rw [hRl]; exact Nat.le_of_ble_eq_true rfl⟩) (hp_preV (ci := 1) hp_nsn hK rfl hn ⟨hn, hw, hg⟩) rfl rfl hl.1 rfl (lv_room (Nat.le_of_ble_eq_true rfl)) d_N_settle_118 ⟨by rw [hRc]; exact Nat.le_of_ble_eq_true rfl, by rw [hRs]; exact Nat.le_of_ble_eq_true rfl⟩) ?_
                    refine hp_ifb_eq (tgt := 137) hx hb d_N_settle_121 (by decide) (fun c121 => ?_) (fun c121 => ?_)
                    · skip
                      have c121 := of_decide_eq_false c121
                      rw [hQ]
                      refine hp_vretQ hx hb hrt hlocks d_N_settle_137 hS hZ ?_
                      refine ⟨d, fr1, to1, B1, X1, sf1, hto, hlw, hX, ⟨by omega, by omega, by omega⟩, hT, hN1, fun g => ⟨hnT (by omega), by first | exact fun q => c121 ((bn_isN okx (hX _ (by omega))).mpr q) | omega⟩, fun i hi => hI.2.1 i (by omega), ?_, hs, hr⟩
                      rw [← hpw]
                      exact hn
                    · skip
                      have c121 := of_decide_eq_true c121
                      refine lv_aload_n hx hb d_N_settle_124 rfl (lv_at hl 0 rfl) ?_
                      refine lv_dup hx hb d_N_settle_125 rfl ?_
                      refine hp_get (C := R_N) (T := F_N) (N := 6) (v := .int (iI (to1 : Int))) hx hb hG la_N hown hK.1 hn rfl 4 (by decide) (hG _ fl_N_31) (fun _ h9 => h9) rfl d_N_settle_126 ?_
                      refine hp_iconst (z := 1) hx hb d_N_settle_129 (by rfl) ?_
                      refine hp_isub hx hb d_N_settle_130 ?_
                      refine hp_put (C := R_N) (T := F_N) (N := 6) (v := .int (iI ((to1 : Int) - 1))) (ty := .int) hx hb hG la_N t_N tk_N n_N hown hK.1 hn hS (by show _ ∨ _; omega) rfl 4 (by decide) (hG _ fl_N_31) (fun _ h9 => h9) rfl (by decide +kernel) rfl rfl (Nat.le_of_ble_eq_true rfl) d_N_settle_131 (fun H locs hnn hz1 ho1 hS => ?_)
                      have hZ := hz1.trans hZ
                      have hw := hw.keep (ho1 (b + 1) (by omega))
                      have hq := hq.keep (ho1 (b + 3) (by omega))
                      have hs := hs.keep (ho1 (b + 36) (by omega))
                      have hr : ∀ i, i < 32 → ca E H (b + 4 + i) (ai E 9 (X1 i)) := fun i hi => (hr i hi).keep (ho1 _ (by omega))
                      have hn : ca E H (b) (.inr (1, [.ref (b + 1), .ref (b + 3), .ref (b + 36), .int (iI (fr1 : Int)), .int (iI ((to1 : Int) - 1)), .int (iI pw1)])) := hnn
                      refine lv_goto (tgt := 95) hx hb d_N_settle_134 (by decide) ?_
                      rw [show (((to1 : Int) - 1) : Int) = (((to1 - 1) : Nat) : Int) from by omega] at hn
                      exact ih95  (to1 - 1) (by omega) (by omega) (by intro i g1 g2; by_cases e9 : i = to1 - 1; (rw [e9]; exact (bn_isN okx (hX _ (by omega))).mp c121); exact hN1 i (by omega) g2) H locs hS hZ hn hw hq hs hr ls (lv_sub hl [0] rfl)
              exact L95 (to + 1) to (by omega) (by omega) (by intro i g1 g2; omega) H locs hS hZ hn hw hq hs hr ls (lv_sub hl [0] rfl)
            · skip
              refine lv_aload_n hx hb d_N_settle_56 rfl (lv_at hl 0 rfl) ?_
              refine lv_aload_n hx hb d_N_settle_57 rfl (lv_at hl 0 rfl) ?_
              refine hp_get (C := R_N) (T := F_N) (N := 6) (v := .ref (b + 3)) hx hb hG la_N hown hK.1 hn rfl 1 (by decide) (hG _ fl_N_20) (fun _ h9 => h9) rfl d_N_settle_58 ?_
              refine lv_aload_n hx hb d_N_settle_61 rfl (lv_at hl 0 rfl) ?_
              refine hp_get (C := R_N) (T := F_N) (N := 6) (v := .int (iI (fr1 : Int))) hx hb hG la_N hown hK.1 hn rfl 3 (by decide) (hG _ fl_N_27) (fun _ h9 => h9) rfl d_N_settle_62 ?_
              refine hp_aald hx hb hK.1 4 hq rfl rfl d_N_settle_65 (by omega) fr1 (by omega) (by omega) (v := .ref (b + 4 + fr1)) (by rw [if_pos (by omega)]; rfl) ?_
              have hg := hr fr1 (by omega)
              have okx := st_ok hto hok fr1 (by omega)
              refine hp_callS (W.runV (As := [.ref (b + 4 + fr1)]) (rest := []) ⟨hx, hb, hml, hown, hG⟩ (c_N_isTurn l E b w c fr1 to pw1 (b + 4 + fr1) (X1 fr1) hw8 (fun p g1 g2 => by have q1 := hX fr1 (by omega) p g1 g2; have q2 := gs_rng okx g1 g2; unfold iR; omega)) (cwV 1 hG (hp_goodV ml_N_88 im_N_isTurn se_N_isTurn in_N co_N_isTurn) rfl rfl rfl hd_N_isTurn ⟨by rw [hRf]; exact Nat.le_of_ble_eq_true rfl, by rw [hRl]; exact Nat.le_of_ble_eq_true rfl⟩) (hp_preV (ci := 1) hp_nsn hK rfl hn ⟨hn, hw, hg⟩) rfl rfl hl.1 rfl (lv_room (Nat.le_of_ble_eq_true rfl)) d_N_settle_66 ⟨by rw [hRc]; exact Nat.le_of_ble_eq_true rfl, by rw [hRs]; exact Nat.le_of_ble_eq_true rfl⟩) ?_
              refine hp_ifb_eq (tgt := 95) hx hb d_N_settle_69 (by decide) (fun c69 => ?_) (fun c69 => ?_)
              · skip
                have c69 := of_decide_eq_false c69
                have hnT : fr1 < to → B1 fr1 ≠ gs_T w := fun g => by first | exact fun q => c69 ((bn_isT okx (hX _ (by omega))).mpr q) | omega
                have L95 : ∀ (N : Nat) (to1 : Nat), to1 < N → (fr1 ≤ to1 ∧ to1 ≤ to) → (∀ i, to1 ≤ i → i < to → B1 i = gs_id) → ∀ (H : Heap) (locs : List Loc), va_S (fun q => q = b ∨ (b + 4 ≤ q ∧ q ≤ b + 36)) s.heap H locs → H.size = s.heap.size → ca E H b (oN b fr1 to1 pw1) → ca E H (b + 1) (oW (b + 1) w c) → ca E H (b + 3) (oR E b) → ca E H (b + 36) (ai E 9 sf1) → (∀ i, i < 32 → ca E H (b + 4 + i) (ai E 9 (X1 i))) → ∀ ls : Array Slot, lv_has ls 2 [(0, .ref b)] → W p l e R s m args below meth cd H locs 0 0 Q (F0 m 95 ls []) := by
                  intro N
                  induction N with
                  | zero => intro to1 hN; exact absurd hN (by omega)
                  | succ N ih =>
                    intro to1 hN ht1 hN1 H locs hS hZ hn hw hq hs hr ls hl
                    have ih95 := ih
                    refine lv_aload_n hx hb d_N_settle_95 rfl (lv_at hl 0 rfl) ?_
                    refine hp_get (C := R_N) (T := F_N) (N := 6) (v := .int (iI (fr1 : Int))) hx hb hG la_N hown hK.1 hn rfl 3 (by decide) (hG _ fl_N_27) (fun _ h9 => h9) rfl d_N_settle_96 ?_
                    refine lv_aload_n hx hb d_N_settle_99 rfl (lv_at hl 0 rfl) ?_
                    refine hp_get (C := R_N) (T := F_N) (N := 6) (v := .int (iI (to1 : Int))) hx hb hG la_N hown hK.1 hn rfl 4 (by decide) (hG _ fl_N_31) (fun _ h9 => h9) rfl d_N_settle_100 ?_
                    refine hp_icmp_ge (tgt := 137) hx hb d_N_settle_103 (by decide) (by unfold iR; omega) (by unfold iR; omega) (fun c103 => ?_) (fun c103 => ?_)
                    · skip
                      rw [hQ]
                      refine hp_vretQ hx hb hrt hlocks d_N_settle_137 hS hZ ?_
                      refine ⟨d, fr1, to1, B1, X1, sf1, hto, hlw, hX, ⟨by omega, by omega, by omega⟩, hT, hN1, fun g => ⟨hnT (by omega), by first | exact fun q => c121 ((bn_isN okx (hX _ (by omega))).mpr q) | omega⟩, fun i hi => hI.2.1 i (by omega), ?_, hs, hr⟩
                      rw [← hpw]
                      exact hn
                    · skip
                      refine lv_aload_n hx hb d_N_settle_106 rfl (lv_at hl 0 rfl) ?_
                      refine lv_aload_n hx hb d_N_settle_107 rfl (lv_at hl 0 rfl) ?_
                      refine hp_get (C := R_N) (T := F_N) (N := 6) (v := .ref (b + 3)) hx hb hG la_N hown hK.1 hn rfl 1 (by decide) (hG _ fl_N_20) (fun _ h9 => h9) rfl d_N_settle_108 ?_
                      refine lv_aload_n hx hb d_N_settle_111 rfl (lv_at hl 0 rfl) ?_
                      refine hp_get (C := R_N) (T := F_N) (N := 6) (v := .int (iI (to1 : Int))) hx hb hG la_N hown hK.1 hn rfl 4 (by decide) (hG _ fl_N_31) (fun _ h9 => h9) rfl d_N_settle_112 ?_
                      refine hp_iconst (z := 1) hx hb d_N_settle_115 (by rfl) ?_
                      refine hp_isub hx hb d_N_settle_116 ?_
                      refine hp_aald hx hb hK.1 4 hq rfl rfl d_N_settle_117 (by omega) (to1 - 1) (by omega) (by omega) (v := .ref (b + 4 + (to1 - 1))) (by rw [if_pos (by omega)]; rfl) ?_
                      have hg := hr (to1 - 1) (by omega)
                      have okx := st_ok hto hok (to1 - 1) (by omega)
                      refine hp_callS (W.runV (As := [.ref (b + 4 + (to1 - 1))]) (rest := []) ⟨hx, hb, hml, hown, hG⟩ (c_N_isNone l E b w c fr1 to1 pw1 (b + 4 + (to1 - 1)) (X1 (to1 - 1)) hw8 (fun p g1 g2 => by have q1 := hX (to1 - 1) (by omega) p g1 g2; have q2 := gs_rng okx g1 g2; unfold iR; omega)) (cwV 1 hG (hp_goodV ml_N_92 im_N_isNone se_N_isNone in_N co_N_isNone) rfl rfl rfl hd_N_isNone ⟨by rw [hRf]; exact Nat.le_of_ble_eq_true rfl, by rw [hRl]; exact Nat.le_of_ble_eq_true rfl⟩) (hp_preV (ci := 1) hp_nsn hK rfl hn ⟨hn, hw, hg⟩) rfl rfl hl.1 rfl (lv_room (Nat.le_of_ble_eq_true rfl)) d_N_settle_118 ⟨by rw [hRc]; exact Nat.le_of_ble_eq_true rfl, by rw [hRs]; exact Nat.le_of_ble_eq_true rfl⟩) ?_
                      refine hp_ifb_eq (tgt := 137) hx hb d_N_settle_121 (by decide) (fun c121 => ?_) (fun c121 => ?_)
                      · skip
                        have c121 := of_decide_eq_false c121
                        rw [hQ]
                        refine hp_vretQ hx hb hrt hlocks d_N_settle_137 hS hZ ?_
                        refine ⟨d, fr1, to1, B1, X1, sf1, hto, hlw, hX, ⟨by omega, by omega, by omega⟩, hT, hN1, fun g => ⟨hnT (by omega), by first | exact fun q => c121 ((bn_isN okx (hX _ (by omega))).mpr q) | omega⟩, fun i hi => hI.2.1 i (by omega), ?_, hs, hr⟩
                        rw [← hpw]
                        exact hn
                      · skip
                        have c121 := of_decide_eq_true c121
                        refine lv_aload_n hx hb d_N_settle_124 rfl (lv_at hl 0 rfl) ?_
                        refine lv_dup hx hb d_N_settle_125 rfl ?_
                        refine hp_get (C := R_N) (T := F_N) (N := 6) (v := .int (iI (to1 : Int))) hx hb hG la_N hown hK.1 hn rfl 4 (by decide) (hG _ fl_N_31) (fun _ h9 => h9) rfl d_N_settle_126 ?_
                        refine hp_iconst (z := 1) hx hb d_N_settle_129 (by rfl) ?_
                        refine hp_isub hx hb d_N_settle_130 ?_
                        refine hp_put (C := R_N) (T := F_N) (N := 6) (v := .int (iI ((to1 : Int) - 1))) (ty := .int) hx hb hG la_N t_N tk_N n_N hown hK.1 hn hS (by show _ ∨ _; omega) rfl 4 (by decide) (hG _ fl_N_31) (fun _ h9 => h9) rfl (by decide +kernel) rfl rfl (Nat.le_of_ble_eq_true rfl) d_N_settle_131 (fun H locs hnn hz1 ho1 hS => ?_)
                        have hZ := hz1.trans hZ
                        have hw := hw.keep (ho1 (b + 1) (by omega))
                        have hq := hq.keep (ho1 (b + 3) (by omega))
                        have hs := hs.keep (ho1 (b + 36) (by omega))
                        have hr : ∀ i, i < 32 → ca E H (b + 4 + i) (ai E 9 (X1 i)) := fun i hi => (hr i hi).keep (ho1 _ (by omega))
                        have hn : ca E H (b) (.inr (1, [.ref (b + 1), .ref (b + 3), .ref (b + 36), .int (iI (fr1 : Int)), .int (iI ((to1 : Int) - 1)), .int (iI pw1)])) := hnn
                        refine lv_goto (tgt := 95) hx hb d_N_settle_134 (by decide) ?_
                        rw [show (((to1 : Int) - 1) : Int) = (((to1 - 1) : Nat) : Int) from by omega] at hn
                        exact ih95  (to1 - 1) (by omega) (by omega) (by intro i g1 g2; by_cases e9 : i = to1 - 1; (rw [e9]; exact (bn_isN okx (hX _ (by omega))).mp c121); exact hN1 i (by omega) g2) H locs hS hZ hn hw hq hs hr ls (lv_sub hl [0] rfl)
                exact L95 (to + 1) to (by omega) (by omega) (by intro i g1 g2; omega) H locs hS hZ hn hw hq hs hr ls (lv_sub hl [0] rfl)
              · skip
                have c69 := of_decide_eq_true c69
                refine lv_aload_n hx hb d_N_settle_72 rfl (lv_at hl 0 rfl) ?_
                refine lv_dup hx hb d_N_settle_73 rfl ?_
                refine hp_get (C := R_N) (T := F_N) (N := 6) (v := .int (iI (fr1 : Int))) hx hb hG la_N hown hK.1 hn rfl 3 (by decide) (hG _ fl_N_27) (fun _ h9 => h9) rfl d_N_settle_74 ?_
                refine hp_iconst (z := 1) hx hb d_N_settle_77 (by rfl) ?_
                refine hp_iadd hx hb d_N_settle_78 ?_
                refine hp_put (C := R_N) (T := F_N) (N := 6) (v := .int (iI ((fr1 : Int) + 1))) (ty := .int) hx hb hG la_N t_N tk_N n_N hown hK.1 hn hS (by show _ ∨ _; omega) rfl 3 (by decide) (hG _ fl_N_27) (fun _ h9 => h9) rfl (by decide +kernel) rfl rfl (Nat.le_of_ble_eq_true rfl) d_N_settle_79 (fun H locs hnn hz1 ho1 hS => ?_)
                have hZ := hz1.trans hZ
                have hw := hw.keep (ho1 (b + 1) (by omega))
                have hq := hq.keep (ho1 (b + 3) (by omega))
                have hs := hs.keep (ho1 (b + 36) (by omega))
                have hr : ∀ i, i < 32 → ca E H (b + 4 + i) (ai E 9 (X1 i)) := fun i hi => (hr i hi).keep (ho1 _ (by omega))
                have hn : ca E H (b) (.inr (1, [.ref (b + 1), .ref (b + 3), .ref (b + 36), .int (iI ((fr1 : Int) + 1)), .int (iI (to : Int)), .int (iI pw1)])) := hnn
                refine lv_aload_n hx hb d_N_settle_82 rfl (lv_at hl 0 rfl) ?_
                refine lv_dup hx hb d_N_settle_83 rfl ?_
                refine hp_get (C := R_N) (T := F_N) (N := 6) (v := .int (iI pw1)) hx hb hG la_N hown hK.1 hn rfl 5 (by decide) (hG _ fl_N_34) (fun _ h9 => h9) rfl d_N_settle_84 ?_
                refine hp_iconst (z := 1) hx hb d_N_settle_87 (by rfl) ?_
                refine hp_iadd hx hb d_N_settle_88 ?_
                refine hp_put (C := R_N) (T := F_N) (N := 6) (v := .int (iI (pw1 + 1))) (ty := .int) hx hb hG la_N t_N tk_N n_N hown hK.1 hn hS (by show _ ∨ _; omega) rfl 5 (by decide) (hG _ fl_N_34) (fun _ h9 => h9) rfl (by decide +kernel) rfl rfl (Nat.le_of_ble_eq_true rfl) d_N_settle_89 (fun H locs hnn hz1 ho1 hS => ?_)
                have hZ := hz1.trans hZ
                have hw := hw.keep (ho1 (b + 1) (by omega))
                have hq := hq.keep (ho1 (b + 3) (by omega))
                have hs := hs.keep (ho1 (b + 36) (by omega))
                have hr : ∀ i, i < 32 → ca E H (b + 4 + i) (ai E 9 (X1 i)) := fun i hi => (hr i hi).keep (ho1 _ (by omega))
                have hn : ca E H (b) (.inr (1, [.ref (b + 1), .ref (b + 3), .ref (b + 36), .int (iI ((fr1 : Int) + 1)), .int (iI (to : Int)), .int (iI (pw1 + 1))])) := hnn
                refine lv_goto (tgt := 45) hx hb d_N_settle_92 (by decide) ?_
                exact ih45  (fr1 + 1) (pw1 + 1) (by omega) (by omega) (by intro i g1 g2; by_cases e9 : i = fr1; (rw [e9]; exact (bn_isT okx (hX _ (by omega))).mp c69); exact hT i g1 (by omega)) (by omega) H locs hS hZ hn hw hq hs hr ls (lv_sub hl [0] rfl)
        exact L45 (to - fr + 1) fr pw (by omega) (by omega) (by intro i g1 g2; omega) (by omega) H locs hS hZ hn hw hq hs hr ls (lv_sub hl [0] rfl)
      · skip
        refine lv_aload_n hx hb d_N_settle_15 rfl (lv_at hl 0 rfl) ?_
        refine lv_aload_n hx hb d_N_settle_16 rfl (lv_at hl 0 rfl) ?_
        refine hp_get (C := R_N) (T := F_N) (N := 6) (v := .ref (b + 3)) hx hb hG la_N hown hK.1 hn rfl 1 (by decide) (hG _ fl_N_20) (fun _ h9 => h9) rfl d_N_settle_17 ?_
        refine lv_iload_n hx hb d_N_settle_20 rfl (lv_at hl 1 rfl) ?_
        refine hp_iconst (z := 1) hx hb d_N_settle_21 (by rfl) ?_
        refine hp_isub hx hb d_N_settle_22 ?_
        refine hp_aald hx hb hK.1 4 hq rfl rfl d_N_settle_23 (by omega) (j - 1) (by omega) (by omega) (v := .ref (b + 4 + (j - 1))) (by rw [if_pos (by omega)]; rfl) ?_
        refine lv_aload_n hx hb d_N_settle_24 rfl (lv_at hl 0 rfl) ?_
        refine hp_get (C := R_N) (T := F_N) (N := 6) (v := .ref (b + 3)) hx hb hG la_N hown hK.1 hn rfl 1 (by decide) (hG _ fl_N_20) (fun _ h9 => h9) rfl d_N_settle_25 ?_
        refine lv_iload_n hx hb d_N_settle_28 rfl (lv_at hl 1 rfl) ?_
        refine hp_aald hx hb hK.1 4 hq rfl rfl d_N_settle_29 (by omega) j (by omega) (by omega) (v := .ref (b + 4 + j)) (by rw [if_pos (by omega)]; rfl) ?_
        have hg := hr (j - 1) (by omega)
        have hh := hr j (by omega)
        have ok1 := st_ok hto hok
        refine hp_calli (W.runV (As := [.ref (b + 4 + (j - 1)), .ref (b + 4 + j)]) (rest := []) ⟨hx, hb, hml, hown, hG⟩ (c_N_moveOver l E b w c fr to pw (b + 4 + (j - 1)) (b + 4 + j) (B1 (j - 1)) (B1 j) (X1 (j - 1)) sf1 (X1 j) hw8 (by omega) (ok1 _ (by omega)) (ok1 _ (by omega)) (hX _ (by omega)) (hX _ (by omega))) (cwV 2 hG (hp_goodV ml_N_84 im_N_moveOver se_N_moveOver in_N co_N_moveOver) rfl rfl rfl hd_N_moveOver ⟨by rw [hRf]; exact Nat.le_of_ble_eq_true rfl, by rw [hRl]; exact Nat.le_of_ble_eq_true rfl⟩) (hp_preV (ci := 1) hp_nsn hK rfl hn ⟨hn, hw, hs, hg, hh⟩) rfl rfl hl.1 rfl (lv_room (Nat.le_of_ble_eq_true rfl)) d_N_settle_30 ⟨by rw [hRc]; exact Nat.le_of_ble_eq_true rfl, by rw [hRs]; exact Nat.le_of_ble_eq_true rfl⟩) hS (fun q h => by show _ ∨ _; omega) (fun r1 H locs hpost hz1 ho1 hS => ?_)
        have hZ := hz1.trans hZ
        obtain ⟨k2, S2, T2, g2, h2, sf2, p1, p2, p3, p4, p5, hg, hh, hs⟩ := hpost
        have z2 := bI_k p3
        have hr := st_Xc hr ho1 hg hh
        have hn := hn.keep (ho1 (b) (by omega))
        have hw := hw.keep (ho1 (b + 1) (by omega))
        have hq := hq.keep (ho1 (b + 3) (by omega))
        refine hp_if_ne (tgt := 39) hx hb d_N_settle_33 (by decide) (by unfold iR; omega) (fun c33 => ?_) (fun c33 => ?_)
        · skip
          refine hp_iinc (z := ((j : Int) - 1)) (lv' := [(1, .int (iI ((j : Int) - 1))), (0, .ref b)]) hx hb d_N_settle_39 hl (k := 1) rfl (by omega) (by decide) rfl (fun ls hl => ?_)
          refine lv_goto (tgt := 7) hx hb d_N_settle_42 (by decide) ?_
          rw [show (((j : Int) - 1) : Int) = (((j - 1) : Nat) : Int) from by omega] at hl
          exact ih7  (j - 1) (d + k2) (gs_set2 B1 (j - 1) S2 T2) (st_X X1 j g2 h2) sf2 (by omega) (by omega) (by exact gs_to_app d hto (gs_pr_to (by omega) k2 (by rw [show j - 1 + 1 = j by omega]; exact p1))) (by exact st_Xh (by omega) hX p4 p5) (by exact st_Is hB0 ok1 hI (by omega) (by omega) p1 p2) H locs hS hZ hn hw hq hs hr ls (lv_sub hl [1, 0] rfl)
        · skip
          refine lv_goto (tgt := 45) hx hb d_N_settle_36 (by decide) ?_
          obtain ⟨e1, e2⟩ : k2 = 0 ∧ True := ⟨by omega, trivial⟩
          subst e1
          obtain ⟨e3, e4⟩ := p1
          have hlw := st_Ibrk hB0 hI (by omega) (by omega) (show gs_lw w (B1 (j - 1)) (B1 j) by rw [e3, e4]; exact p2)
          have hX2 := st_Xh (j := j) (by omega) hX p4 p5
          rw [← e3, ← e4, show B1 j = B1 (j - 1 + 1) by rw [show j - 1 + 1 = j by omega], gs_set2_self] at hX2
          have hX := hX2
          generalize st_X X1 j g2 h2 = X1 at hX hr
          generalize sf2 = sf1 at hs
          have L45 : ∀ (N : Nat) (fr1 : Nat) (pw1 : Int), to - fr1 < N → (fr ≤ fr1 ∧ fr1 ≤ to) → (∀ i, fr ≤ i → i < fr1 → B1 i = gs_T w) → (pw1 = pw + ((fr1 : Int) - fr)) → ∀ (H : Heap) (locs : List Loc), va_S (fun q => q = b ∨ (b + 4 ≤ q ∧ q ≤ b + 36)) s.heap H locs → H.size = s.heap.size → ca E H b (oN b fr1 to pw1) → ca E H (b + 1) (oW (b + 1) w c) → ca E H (b + 3) (oR E b) → ca E H (b + 36) (ai E 9 sf1) → (∀ i, i < 32 → ca E H (b + 4 + i) (ai E 9 (X1 i))) → ∀ ls : Array Slot, lv_has ls 2 [(0, .ref b)] → W p l e R s m args below meth cd H locs 0 0 Q (F0 m 45 ls []) := by
            intro N
            induction N with
            | zero => intro fr1 pw1 hN; exact absurd hN (by omega)
            | succ N ih =>
              intro fr1 pw1 hN hf1 hT hpw H locs hS hZ hn hw hq hs hr ls hl
              have ih45 := ih
              refine lv_aload_n hx hb d_N_settle_45 rfl (lv_at hl 0 rfl) ?_
              refine hp_get (C := R_N) (T := F_N) (N := 6) (v := .int (iI (fr1 : Int))) hx hb hG la_N hown hK.1 hn rfl 3 (by decide) (hG _ fl_N_27) (fun _ h9 => h9) rfl d_N_settle_46 ?_
              refine lv_aload_n hx hb d_N_settle_49 rfl (lv_at hl 0 rfl) ?_
              refine hp_get (C := R_N) (T := F_N) (N := 6) (v := .int (iI (to : Int))) hx hb hG la_N hown hK.1 hn rfl 4 (by decide) (hG _ fl_N_31) (fun _ h9 => h9) rfl d_N_settle_50 ?_
              refine hp_icmp_ge (tgt := 95) hx hb d_N_settle_53 (by decide) (by unfold iR; omega) (by unfold iR; omega) (fun c53 => ?_) (fun c53 => ?_)
              · skip
                have hnT : fr1 < to → B1 fr1 ≠ gs_T w := fun g => by first | exact fun q => c69 ((bn_isT okx (hX _ (by omega))).mpr q) | omega
                have L95 : ∀ (N : Nat) (to1 : Nat), to1 < N → (fr1 ≤ to1 ∧ to1 ≤ to) → (∀ i, to1 ≤ i → i < to → B1 i = gs_id) → ∀ (H : Heap) (locs : List Loc), va_S (fun q => q = b ∨ (b + 4 ≤ q ∧ q ≤ b + 36)) s.heap H locs → H.size = s.heap.size → ca E H b (oN b fr1 to1 pw1) → ca E H (b + 1) (oW (b + 1) w c) → ca E H (b + 3) (oR E b) → ca E H (b + 36) (ai E 9 sf1) → (∀ i, i < 32 → ca E H (b + 4 + i) (ai E 9 (X1 i))) → ∀ ls : Array Slot, lv_has ls 2 [(0, .ref b)] → W p l e R s m args below meth cd H locs 0 0 Q (F0 m 95 ls []) := by
                  intro N
                  induction N with
                  | zero => intro to1 hN; exact absurd hN (by omega)
                  | succ N ih =>
                    intro to1 hN ht1 hN1 H locs hS hZ hn hw hq hs hr ls hl
                    have ih95 := ih
                    refine lv_aload_n hx hb d_N_settle_95 rfl (lv_at hl 0 rfl) ?_
                    refine hp_get (C := R_N) (T := F_N) (N := 6) (v := .int (iI (fr1 : Int))) hx hb hG la_N hown hK.1 hn rfl 3 (by decide) (hG _ fl_N_27) (fun _ h9 => h9) rfl d_N_settle_96 ?_
                    refine lv_aload_n hx hb d_N_settle_99 rfl (lv_at hl 0 rfl) ?_
                    refine hp_get (C := R_N) (T := F_N) (N := 6) (v := .int (iI (to1 : Int))) hx hb hG la_N hown hK.1 hn rfl 4 (by decide) (hG _ fl_N_31) (fun _ h9 => h9) rfl d_N_settle_100 ?_
                    refine hp_icmp_ge (tgt := 137) hx hb d_N_settle_103 (by decide) (by unfold iR; omega) (by unfold iR; omega) (fun c103 => ?_) (fun c103 => ?_)
                    · skip
                      rw [hQ]
                      refine hp_vretQ hx hb hrt hlocks d_N_settle_137 hS hZ ?_
                      refine ⟨d, fr1, to1, B1, X1, sf1, hto, hlw, hX, ⟨by omega, by omega, by omega⟩, hT, hN1, fun g => ⟨hnT (by omega), by first | exact fun q => c121 ((bn_isN okx (hX _ (by omega))).mpr q) | omega⟩, fun i hi => hI.2.1 i (by omega), ?_, hs, hr⟩
                      rw [← hpw]
                      exact hn
                    · skip
                      refine lv_aload_n hx hb d_N_settle_106 rfl (lv_at hl 0 rfl) ?_
                      refine lv_aload_n hx hb d_N_settle_107 rfl (lv_at hl 0 rfl) ?_
                      refine hp_get (C := R_N) (T := F_N) (N := 6) (v := .ref (b + 3)) hx hb hG la_N hown hK.1 hn rfl 1 (by decide) (hG _ fl_N_20) (fun _ h9 => h9) rfl d_N_settle_108 ?_
                      refine lv_aload_n hx hb d_N_settle_111 rfl (lv_at hl 0 rfl) ?_
                      refine hp_get (C := R_N) (T := F_N) (N := 6) (v := .int (iI (to1 : Int))) hx hb hG la_N hown hK.1 hn rfl 4 (by decide) (hG _ fl_N_31) (fun _ h9 => h9) rfl d_N_settle_112 ?_
                      refine hp_iconst (z := 1) hx hb d_N_settle_115 (by rfl) ?_
                      refine hp_isub hx hb d_N_settle_116 ?_
                      refine hp_aald hx hb hK.1 4 hq rfl rfl d_N_settle_117 (by omega) (to1 - 1) (by omega) (by omega) (v := .ref (b + 4 + (to1 - 1))) (by rw [if_pos (by omega)]; rfl) ?_
                      have hg := hr (to1 - 1) (by omega)
                      have okx := st_ok hto hok (to1 - 1) (by omega)
                      refine hp_callS (W.runV (As := [.ref (b + 4 + (to1 - 1))]) (rest := []) ⟨hx, hb, hml, hown, hG⟩ (c_N_isNone l E b w c fr1 to1 pw1 (b + 4 + (to1 - 1)) (X1 (to1 - 1)) hw8 (fun p g1 g2 => by have q1 := hX (to1 - 1) (by omega) p g1 g2; have q2 := gs_rng okx g1 g2; unfold iR; omega)) (cwV 1 hG (hp_goodV ml_N_92 im_N_isNone se_N_isNone in_N co_N_isNone) rfl rfl rfl hd_N_isNone ⟨by rw [hRf]; exact Nat.le_of_ble_eq_true rfl, by rw [hRl]; exact Nat.le_of_ble_eq_true rfl⟩) (hp_preV (ci := 1) hp_nsn hK rfl hn ⟨hn, hw, hg⟩) rfl rfl hl.1 rfl (lv_room (Nat.le_of_ble_eq_true rfl)) d_N_settle_118 ⟨by rw [hRc]; exact Nat.le_of_ble_eq_true rfl, by rw [hRs]; exact Nat.le_of_ble_eq_true rfl⟩) ?_
                      refine hp_ifb_eq (tgt := 137) hx hb d_N_settle_121 (by decide) (fun c121 => ?_) (fun c121 => ?_)
                      · skip
                        have c121 := of_decide_eq_false c121
                        rw [hQ]
                        refine hp_vretQ hx hb hrt hlocks d_N_settle_137 hS hZ ?_
                        refine ⟨d, fr1, to1, B1, X1, sf1, hto, hlw, hX, ⟨by omega, by omega, by omega⟩, hT, hN1, fun g => ⟨hnT (by omega), by first | exact fun q => c121 ((bn_isN okx (hX _ (by omega))).mpr q) | omega⟩, fun i hi => hI.2.1 i (by omega), ?_, hs, hr⟩
                        rw [← hpw]
                        exact hn
                      · skip
                        have c121 := of_decide_eq_true c121
                        refine lv_aload_n hx hb d_N_settle_124 rfl (lv_at hl 0 rfl) ?_
                        refine lv_dup hx hb d_N_settle_125 rfl ?_
                        refine hp_get (C := R_N) (T := F_N) (N := 6) (v := .int (iI (to1 : Int))) hx hb hG la_N hown hK.1 hn rfl 4 (by decide) (hG _ fl_N_31) (fun _ h9 => h9) rfl d_N_settle_126 ?_
                        refine hp_iconst (z := 1) hx hb d_N_settle_129 (by rfl) ?_
                        refine hp_isub hx hb d_N_settle_130 ?_
                        refine hp_put (C := R_N) (T := F_N) (N := 6) (v := .int (iI ((to1 : Int) - 1))) (ty := .int) hx hb hG la_N t_N tk_N n_N hown hK.1 hn hS (by show _ ∨ _; omega) rfl 4 (by decide) (hG _ fl_N_31) (fun _ h9 => h9) rfl (by decide +kernel) rfl rfl (Nat.le_of_ble_eq_true rfl) d_N_settle_131 (fun H locs hnn hz1 ho1 hS => ?_)
                        have hZ := hz1.trans hZ
                        have hw := hw.keep (ho1 (b + 1) (by omega))
                        have hq := hq.keep (ho1 (b + 3) (by omega))
                        have hs := hs.keep (ho1 (b + 36) (by omega))
                        have hr : ∀ i, i < 32 → ca E H (b + 4 + i) (ai E 9 (X1 i)) := fun i hi => (hr i hi).keep (ho1 _ (by omega))
                        have hn : ca E H (b) (.inr (1, [.ref (b + 1), .ref (b + 3), .ref (b + 36), .int (iI (fr1 : Int)), .int (iI ((to1 : Int) - 1)), .int (iI pw1)])) := hnn
                        refine lv_goto (tgt := 95) hx hb d_N_settle_134 (by decide) ?_
                        rw [show (((to1 : Int) - 1) : Int) = (((to1 - 1) : Nat) : Int) from by omega] at hn
                        exact ih95  (to1 - 1) (by omega) (by omega) (by intro i g1 g2; by_cases e9 : i = to1 - 1; (rw [e9]; exact (bn_isN okx (hX _ (by omega))).mp c121); exact hN1 i (by omega) g2) H locs hS hZ hn hw hq hs hr ls (lv_sub hl [0] rfl)
                exact L95 (to + 1) to (by omega) (by omega) (by intro i g1 g2; omega) H locs hS hZ hn hw hq hs hr ls (lv_sub hl [0] rfl)
              · skip
                refine lv_aload_n hx hb d_N_settle_56 rfl (lv_at hl 0 rfl) ?_
                refine lv_aload_n hx hb d_N_settle_57 rfl (lv_at hl 0 rfl) ?_
                refine hp_get (C := R_N) (T := F_N) (N := 6) (v := .ref (b + 3)) hx hb hG la_N hown hK.1 hn rfl 1 (by decide) (hG _ fl_N_20) (fun _ h9 => h9) rfl d_N_settle_58 ?_
                refine lv_aload_n hx hb d_N_settle_61 rfl (lv_at hl 0 rfl) ?_
                refine hp_get (C := R_N) (T := F_N) (N := 6) (v := .int (iI (fr1 : Int))) hx hb hG la_N hown hK.1 hn rfl 3 (by decide) (hG _ fl_N_27) (fun _ h9 => h9) rfl d_N_settle_62 ?_
                refine hp_aald hx hb hK.1 4 hq rfl rfl d_N_settle_65 (by omega) fr1 (by omega) (by omega) (v := .ref (b + 4 + fr1)) (by rw [if_pos (by omega)]; rfl) ?_
                have hg := hr fr1 (by omega)
                have okx := st_ok hto hok fr1 (by omega)
                refine hp_callS (W.runV (As := [.ref (b + 4 + fr1)]) (rest := []) ⟨hx, hb, hml, hown, hG⟩ (c_N_isTurn l E b w c fr1 to pw1 (b + 4 + fr1) (X1 fr1) hw8 (fun p g1 g2 => by have q1 := hX fr1 (by omega) p g1 g2; have q2 := gs_rng okx g1 g2; unfold iR; omega)) (cwV 1 hG (hp_goodV ml_N_88 im_N_isTurn se_N_isTurn in_N co_N_isTurn) rfl rfl rfl hd_N_isTurn ⟨by rw [hRf]; exact Nat.le_of_ble_eq_true rfl, by rw [hRl]; exact Nat.le_of_ble_eq_true rfl⟩) (hp_preV (ci := 1) hp_nsn hK rfl hn ⟨hn, hw, hg⟩) rfl rfl hl.1 rfl (lv_room (Nat.le_of_ble_eq_true rfl)) d_N_settle_66 ⟨by rw [hRc]; exact Nat.le_of_ble_eq_true rfl, by rw [hRs]; exact Nat.le_of_ble_eq_true rfl⟩) ?_
                refine hp_ifb_eq (tgt := 95) hx hb d_N_settle_69 (by decide) (fun c69 => ?_) (fun c69 => ?_)
                · skip
                  have c69 := of_decide_eq_false c69
                  have hnT : fr1 < to → B1 fr1 ≠ gs_T w := fun g => by first | exact fun q => c69 ((bn_isT okx (hX _ (by omega))).mpr q) | omega
                  have L95 : ∀ (N : Nat) (to1 : Nat), to1 < N → (fr1 ≤ to1 ∧ to1 ≤ to) → (∀ i, to1 ≤ i → i < to → B1 i = gs_id) → ∀ (H : Heap) (locs : List Loc), va_S (fun q => q = b ∨ (b + 4 ≤ q ∧ q ≤ b + 36)) s.heap H locs → H.size = s.heap.size → ca E H b (oN b fr1 to1 pw1) → ca E H (b + 1) (oW (b + 1) w c) → ca E H (b + 3) (oR E b) → ca E H (b + 36) (ai E 9 sf1) → (∀ i, i < 32 → ca E H (b + 4 + i) (ai E 9 (X1 i))) → ∀ ls : Array Slot, lv_has ls 2 [(0, .ref b)] → W p l e R s m args below meth cd H locs 0 0 Q (F0 m 95 ls []) := by
                    intro N
                    induction N with
                    | zero => intro to1 hN; exact absurd hN (by omega)
                    | succ N ih =>
                      intro to1 hN ht1 hN1 H locs hS hZ hn hw hq hs hr ls hl
                      have ih95 := ih
                      refine lv_aload_n hx hb d_N_settle_95 rfl (lv_at hl 0 rfl) ?_
                      refine hp_get (C := R_N) (T := F_N) (N := 6) (v := .int (iI (fr1 : Int))) hx hb hG la_N hown hK.1 hn rfl 3 (by decide) (hG _ fl_N_27) (fun _ h9 => h9) rfl d_N_settle_96 ?_
                      refine lv_aload_n hx hb d_N_settle_99 rfl (lv_at hl 0 rfl) ?_
                      refine hp_get (C := R_N) (T := F_N) (N := 6) (v := .int (iI (to1 : Int))) hx hb hG la_N hown hK.1 hn rfl 4 (by decide) (hG _ fl_N_31) (fun _ h9 => h9) rfl d_N_settle_100 ?_
                      refine hp_icmp_ge (tgt := 137) hx hb d_N_settle_103 (by decide) (by unfold iR; omega) (by unfold iR; omega) (fun c103 => ?_) (fun c103 => ?_)
                      · skip
                        rw [hQ]
                        refine hp_vretQ hx hb hrt hlocks d_N_settle_137 hS hZ ?_
                        refine ⟨d, fr1, to1, B1, X1, sf1, hto, hlw, hX, ⟨by omega, by omega, by omega⟩, hT, hN1, fun g => ⟨hnT (by omega), by first | exact fun q => c121 ((bn_isN okx (hX _ (by omega))).mpr q) | omega⟩, fun i hi => hI.2.1 i (by omega), ?_, hs, hr⟩
                        rw [← hpw]
                        exact hn
                      · skip
                        refine lv_aload_n hx hb d_N_settle_106 rfl (lv_at hl 0 rfl) ?_
                        refine lv_aload_n hx hb d_N_settle_107 rfl (lv_at hl 0 rfl) ?_
                        refine hp_get (C := R_N) (T := F_N) (N := 6) (v := .ref (b + 3)) hx hb hG la_N hown hK.1 hn rfl 1 (by decide) (hG _ fl_N_20) (fun _ h9 => h9) rfl d_N_settle_108 ?_
                        refine lv_aload_n hx hb d_N_settle_111 rfl (lv_at hl 0 rfl) ?_
                        refine hp_get (C := R_N) (T := F_N) (N := 6) (v := .int (iI (to1 : Int))) hx hb hG la_N hown hK.1 hn rfl 4 (by decide) (hG _ fl_N_31) (fun _ h9 => h9) rfl d_N_settle_112 ?_
                        refine hp_iconst (z := 1) hx hb d_N_settle_115 (by rfl) ?_
                        refine hp_isub hx hb d_N_settle_116 ?_
                        refine hp_aald hx hb hK.1 4 hq rfl rfl d_N_settle_117 (by omega) (to1 - 1) (by omega) (by omega) (v := .ref (b + 4 + (to1 - 1))) (by rw [if_pos (by omega)]; rfl) ?_
                        have hg := hr (to1 - 1) (by omega)
                        have okx := st_ok hto hok (to1 - 1) (by omega)
                        refine hp_callS (W.runV (As := [.ref (b + 4 + (to1 - 1))]) (rest := []) ⟨hx, hb, hml, hown, hG⟩ (c_N_isNone l E b w c fr1 to1 pw1 (b + 4 + (to1 - 1)) (X1 (to1 - 1)) hw8 (fun p g1 g2 => by have q1 := hX (to1 - 1) (by omega) p g1 g2; have q2 := gs_rng okx g1 g2; unfold iR; omega)) (cwV 1 hG (hp_goodV ml_N_92 im_N_isNone se_N_isNone in_N co_N_isNone) rfl rfl rfl hd_N_isNone ⟨by rw [hRf]; exact Nat.le_of_ble_eq_true rfl, by rw [hRl]; exact Nat.le_of_ble_eq_true rfl⟩) (hp_preV (ci := 1) hp_nsn hK rfl hn ⟨hn, hw, hg⟩) rfl rfl hl.1 rfl (lv_room (Nat.le_of_ble_eq_true rfl)) d_N_settle_118 ⟨by rw [hRc]; exact Nat.le_of_ble_eq_true rfl, by rw [hRs]; exact Nat.le_of_ble_eq_true rfl⟩) ?_
                        refine hp_ifb_eq (tgt := 137) hx hb d_N_settle_121 (by decide) (fun c121 => ?_) (fun c121 => ?_)
                        · skip
                          have c121 := of_decide_eq_false c121
                          rw [hQ]
                          refine hp_vretQ hx hb hrt hlocks d_N_settle_137 hS hZ ?_
                          refine ⟨d, fr1, to1, B1, X1, sf1, hto, hlw, hX, ⟨by omega, by omega, by omega⟩, hT, hN1, fun g => ⟨hnT (by omega), by first | exact fun q => c121 ((bn_isN okx (hX _ (by omega))).mpr q) | omega⟩, fun i hi => hI.2.1 i (by omega), ?_, hs, hr⟩
                          rw [← hpw]
                          exact hn
                        · skip
                          have c121 := of_decide_eq_true c121
                          refine lv_aload_n hx hb d_N_settle_124 rfl (lv_at hl 0 rfl) ?_
                          refine lv_dup hx hb d_N_settle_125 rfl ?_
                          refine hp_get (C := R_N) (T := F_N) (N := 6) (v := .int (iI (to1 : Int))) hx hb hG la_N hown hK.1 hn rfl 4 (by decide) (hG _ fl_N_31) (fun _ h9 => h9) rfl d_N_settle_126 ?_
                          refine hp_iconst (z := 1) hx hb d_N_settle_129 (by rfl) ?_
                          refine hp_isub hx hb d_N_settle_130 ?_
                          refine hp_put (C := R_N) (T := F_N) (N := 6) (v := .int (iI ((to1 : Int) - 1))) (ty := .int) hx hb hG la_N t_N tk_N n_N hown hK.1 hn hS (by show _ ∨ _; omega) rfl 4 (by decide) (hG _ fl_N_31) (fun _ h9 => h9) rfl (by decide +kernel) rfl rfl (Nat.le_of_ble_eq_true rfl) d_N_settle_131 (fun H locs hnn hz1 ho1 hS => ?_)
                          have hZ := hz1.trans hZ
                          have hw := hw.keep (ho1 (b + 1) (by omega))
                          have hq := hq.keep (ho1 (b + 3) (by omega))
                          have hs := hs.keep (ho1 (b + 36) (by omega))
                          have hr : ∀ i, i < 32 → ca E H (b + 4 + i) (ai E 9 (X1 i)) := fun i hi => (hr i hi).keep (ho1 _ (by omega))
                          have hn : ca E H (b) (.inr (1, [.ref (b + 1), .ref (b + 3), .ref (b + 36), .int (iI (fr1 : Int)), .int (iI ((to1 : Int) - 1)), .int (iI pw1)])) := hnn
                          refine lv_goto (tgt := 95) hx hb d_N_settle_134 (by decide) ?_
                          rw [show (((to1 : Int) - 1) : Int) = (((to1 - 1) : Nat) : Int) from by omega] at hn
                          exact ih95  (to1 - 1) (by omega) (by omega) (by intro i g1 g2; by_cases e9 : i = to1 - 1; (rw [e9]; exact (bn_isN okx (hX _ (by omega))).mp c121); exact hN1 i (by omega) g2) H locs hS hZ hn hw hq hs hr ls (lv_sub hl [0] rfl)
                  exact L95 (to + 1) to (by omega) (by omega) (by intro i g1 g2; omega) H locs hS hZ hn hw hq hs hr ls (lv_sub hl [0] rfl)
                · skip
                  have c69 := of_decide_eq_true c69
                  refine lv_aload_n hx hb d_N_settle_72 rfl (lv_at hl 0 rfl) ?_
                  refine lv_dup hx hb d_N_settle_73 rfl ?_
                  refine hp_get (C := R_N) (T := F_N) (N := 6) (v := .int (iI (fr1 : Int))) hx hb hG la_N hown hK.1 hn rfl 3 (by decide) (hG _ fl_N_27) (fun _ h9 => h9) rfl d_N_settle_74 ?_
                  refine hp_iconst (z := 1) hx hb d_N_settle_77 (by rfl) ?_
                  refine hp_iadd hx hb d_N_settle_78 ?_
                  refine hp_put (C := R_N) (T := F_N) (N := 6) (v := .int (iI ((fr1 : Int) + 1))) (ty := .int) hx hb hG la_N t_N tk_N n_N hown hK.1 hn hS (by show _ ∨ _; omega) rfl 3 (by decide) (hG _ fl_N_27) (fun _ h9 => h9) rfl (by decide +kernel) rfl rfl (Nat.le_of_ble_eq_true rfl) d_N_settle_79 (fun H locs hnn hz1 ho1 hS => ?_)
                  have hZ := hz1.trans hZ
                  have hw := hw.keep (ho1 (b + 1) (by omega))
                  have hq := hq.keep (ho1 (b + 3) (by omega))
                  have hs := hs.keep (ho1 (b + 36) (by omega))
                  have hr : ∀ i, i < 32 → ca E H (b + 4 + i) (ai E 9 (X1 i)) := fun i hi => (hr i hi).keep (ho1 _ (by omega))
                  have hn : ca E H (b) (.inr (1, [.ref (b + 1), .ref (b + 3), .ref (b + 36), .int (iI ((fr1 : Int) + 1)), .int (iI (to : Int)), .int (iI pw1)])) := hnn
                  refine lv_aload_n hx hb d_N_settle_82 rfl (lv_at hl 0 rfl) ?_
                  refine lv_dup hx hb d_N_settle_83 rfl ?_
                  refine hp_get (C := R_N) (T := F_N) (N := 6) (v := .int (iI pw1)) hx hb hG la_N hown hK.1 hn rfl 5 (by decide) (hG _ fl_N_34) (fun _ h9 => h9) rfl d_N_settle_84 ?_
                  refine hp_iconst (z := 1) hx hb d_N_settle_87 (by rfl) ?_
                  refine hp_iadd hx hb d_N_settle_88 ?_
                  refine hp_put (C := R_N) (T := F_N) (N := 6) (v := .int (iI (pw1 + 1))) (ty := .int) hx hb hG la_N t_N tk_N n_N hown hK.1 hn hS (by show _ ∨ _; omega) rfl 5 (by decide) (hG _ fl_N_34) (fun _ h9 => h9) rfl (by decide +kernel) rfl rfl (Nat.le_of_ble_eq_true rfl) d_N_settle_89 (fun H locs hnn hz1 ho1 hS => ?_)
                  have hZ := hz1.trans hZ
                  have hw := hw.keep (ho1 (b + 1) (by omega))
                  have hq := hq.keep (ho1 (b + 3) (by omega))
                  have hs := hs.keep (ho1 (b + 36) (by omega))
                  have hr : ∀ i, i < 32 → ca E H (b + 4 + i) (ai E 9 (X1 i)) := fun i hi => (hr i hi).keep (ho1 _ (by omega))
                  have hn : ca E H (b) (.inr (1, [.ref (b + 1), .ref (b + 3), .ref (b + 36), .int (iI ((fr1 : Int) + 1)), .int (iI (to : Int)), .int (iI (pw1 + 1))])) := hnn
                  refine lv_goto (tgt := 45) hx hb d_N_settle_92 (by decide) ?_
                  exact ih45  (fr1 + 1) (pw1 + 1) (by omega) (by omega) (by intro i g1 g2; by_cases e9 : i = fr1; (rw [e9]; exact (bn_isT okx (hX _ (by omega))).mp c69); exact hT i g1 (by omega)) (by omega) H locs hS hZ hn hw hq hs hr ls (lv_sub hl [0] rfl)
          exact L45 (to - fr + 1) fr pw (by omega) (by omega) (by intro i g1 g2; omega) (by omega) H locs hS hZ hn hw hq hs hr ls (lv_sub hl [0] rfl)
  rw [show (((to : Int) - 1) : Int) = (((to - 1) : Nat) : Int) from by omega] at hl
  exact L7 ((to - 1) + 1) (to - 1) 0 B X sf (by omega) (by omega) (by rfl) (by exact hX0) (by exact st_I0 (by omega)) H locs hS hZ hn hw hq hs hr ls (lv_sub hl [1, 0] rfl)
