set_option maxHeartbeats 4000000 in
set_option maxRecDepth 100000 in
/-- same(r, s) -/
theorem c_B_same (l : Launch) (E : hp_E) (o : Nat) (w c : Nat → Nat) (f : Nat → Nat → Int) (r0 s0 : Int) (hr0 : iR r0) (hs0 : iR s0) : Met l y_B_same (Cond.code y_B_same b_B_same 3 (some .boolean) :: G0) ({ frames := 6, cells := 0, slots := 0, locals := 137 }) (hp_P E [.ref o, .int (iI r0), .int (iI s0)] (fun H => bAt E H o w c f)) (hp_Qi (fun q => o ≤ q ∧ q ≤ o + 158) (fun r H => bAt E H o w c f ∧ (((0 ≤ r0 ∧ r0 < 4 ∧ 0 ≤ s0 ∧ s0 < 4) ∧ ∃ (fr1 to1 : Nat) (pw1 : Int) (X1 : Nat → Nat → Int) (fr2 to2 : Nat) (pw2 : Int) (X2 : Nat → Nat → Int), nfS (w r0.toNat) (c r0.toNat) (f r0.toNat) fr1 to1 pw1 X1 ∧ nfS (w s0.toNat) (c s0.toNat) (f s0.toNat) fr2 to2 pw2 X2 ∧ r = bI (decide (w r0.toNat = w s0.toNat ∧ pw1 = pw2 ∧ to1 - fr1 = to2 - fr2 ∧ ∀ j, j < to1 - fr1 → ∀ p, p < w r0.toNat → X1 (fr1 + j) (p + 1) = X2 (fr2 + j) (p + 1)))) ∨ (¬ (0 ≤ r0 ∧ r0 < 4 ∧ 0 ≤ s0 ∧ s0 < 4) ∧ r = 0)))) 0 0 (fun q => o ≤ q ∧ q ≤ o + 158) := by
  refine Met.ofW (cc := b_B_same) (maxL := 3) (ret := some .boolean) (by decide) rfl ?_
  intro p e s m args below meth cd s₁ Bd hml hv
  obtain ⟨hargs, hB, hK⟩ := hv
  have hx := Bd.exec
  have hb := Bd.bytes
  have hrt := Bd.returns
  have hts := atoms_spec (ws := Cond.code y_B_same b_B_same 3 (some .boolean) :: G0) Bd.pre
  have hG : ∀ w ∈ G0, w.before args s = true := fun w h => hts w (List.mem_cons_of_mem _ h)
  have hown : s.vm.findClass R_B = some m.cls := findClass_of_methodNamed Bd.named
  have hlocks := Bd.notSynchronized
  have hl := lv_entry ([.ref o, .int (iI r0), .int (iI s0)]) (n := 3) (Nat.le_of_ble_eq_true rfl)
  rw [show entryFrame m args 3 = entryFrame m ([.ref o, .int (iI r0), .int (iI s0)] : List Value).toArray 3 from by rw [hargs]]
  rw [lg_entry_eq]
  generalize (lg_sl ([.ref o, .int (iI r0), .int (iI s0)]) ++ List.replicate (3 - (lg_sl ([.ref o, .int (iI r0), .int (iI s0)])).length) Slot.unset).toArray = ls at hl ⊢
  have hl : lv_has ls 3 [(0, .ref o), (1, .int (iI r0)), (2, .int (iI s0))] := hl
  obtain ⟨R, hR⟩ : ∃ R, R = (headSpec (Cond.code y_B_same b_B_same 3 (some .boolean) :: G0) { frames := 6, cells := 0, slots := 0, locals := 137 }).room := ⟨_, rfl⟩
  rw [← hR]
  have hRf : R.frames = 6 := by rw [hR]; rfl
  have hRl : R.locals = 137 := by rw [hR]; rfl
  have hRc : R.cells = 0 := by rw [hR]; rfl
  have hRs : R.slots = 0 := by rw [hR]; rfl
  obtain ⟨Q, hQ⟩ : ∃ Q, Q = MQ below (hp_Qi (fun q => o ≤ q ∧ q ≤ o + 158) (fun r H => bAt E H o w c f ∧ (((0 ≤ r0 ∧ r0 < 4 ∧ 0 ≤ s0 ∧ s0 < 4) ∧ ∃ (fr1 to1 : Nat) (pw1 : Int) (X1 : Nat → Nat → Int) (fr2 to2 : Nat) (pw2 : Int) (X2 : Nat → Nat → Int), nfS (w r0.toNat) (c r0.toNat) (f r0.toNat) fr1 to1 pw1 X1 ∧ nfS (w s0.toNat) (c s0.toNat) (f s0.toNat) fr2 to2 pw2 X2 ∧ r = bI (decide (w r0.toNat = w s0.toNat ∧ pw1 = pw2 ∧ to1 - fr1 = to2 - fr2 ∧ ∀ j, j < to1 - fr1 → ∀ p, p < w r0.toNat → X1 (fr1 + j) (p + 1) = X2 (fr2 + j) (p + 1)))) ∨ (¬ (0 ≤ r0 ∧ r0 < 4 ∧ 0 ≤ s0 ∧ s0 < 4) ∧ r = 0)))) args s 0 0 (fun q => o ≤ q ∧ q ≤ o + 158) := ⟨_, rfl⟩
  rw [← hQ]
  obtain ⟨H, hH⟩ : ∃ H, H = s.heap := ⟨_, rfl⟩
  obtain ⟨locs, hlocs⟩ : ∃ locs : List Loc, locs = [] := ⟨_, rfl⟩
  have hS : va_S (fun q => o ≤ q ∧ q ≤ o + 158) s.heap H locs := by rw [hH, hlocs]; exact va_S.rf
  have hZ : H.size = s.heap.size := by rw [hH]
  rw [← hH] at hB
  rw [show W p l e R s m args below meth cd s.heap [] 0 0 Q (F0 m 0 ls []) = W p l e R s m args below meth cd H locs 0 0 Q (F0 m 0 ls []) from by rw [hH, hlocs]]
  have hbt := hB
  obtain ⟨hb0, hb1, hb2, hWs, hNs⟩ := id hbt
  refine lv_iload_n hx hb d_B_same_0 rfl (lv_at hl 1 rfl) ?_
  refine hp_callS (W.runS (As := [.int (iI r0)]) (rest := []) ⟨hx, hb, hml, hown, hG⟩ (c_B_isSlot l E r0 (by unfold iR at *; omega)) (cwS 1 hG (hp_goodS ml_B_23 st_B_isSlot in_B co_B_isSlot) rfl rfl rfl hd_B_isSlot ⟨by rw [hRf]; exact Nat.le_of_ble_eq_true rfl, by rw [hRl]; exact Nat.le_of_ble_eq_true rfl⟩) (hp_preS hp_nsn hK trivial) rfl rfl hl.1 rfl (lv_room (Nat.le_of_ble_eq_true rfl)) d_B_same_1 ⟨by rw [hRc]; exact Nat.le_of_ble_eq_true rfl, by rw [hRs]; exact Nat.le_of_ble_eq_true rfl⟩) ?_
  refine hp_ifb_eq (tgt := 34) hx hb d_B_same_4 (by decide) (fun c4 => ?_) (fun c4 => ?_)
  · skip
    have c4 := of_decide_eq_false c4
    refine hp_iconst (z := 0) hx hb d_B_same_34 (by rfl) ?_
    rw [hQ]
    refine hp_zretQ hx hb hrt hlocks d_B_same_35 false (by first | rfl | assumption | simp [bI]) hS hZ ?_
    exact ⟨hbt, Or.inr ⟨by omega, rfl⟩⟩
  · skip
    have c4 := of_decide_eq_true c4
    refine lv_iload_n hx hb d_B_same_7 rfl (lv_at hl 2 rfl) ?_
    refine hp_callS (W.runS (As := [.int (iI s0)]) (rest := []) ⟨hx, hb, hml, hown, hG⟩ (c_B_isSlot l E s0 (by unfold iR at *; omega)) (cwS 1 hG (hp_goodS ml_B_23 st_B_isSlot in_B co_B_isSlot) rfl rfl rfl hd_B_isSlot ⟨by rw [hRf]; exact Nat.le_of_ble_eq_true rfl, by rw [hRl]; exact Nat.le_of_ble_eq_true rfl⟩) (hp_preS hp_nsn hK trivial) rfl rfl hl.1 rfl (lv_room (Nat.le_of_ble_eq_true rfl)) d_B_same_8 ⟨by rw [hRc]; exact Nat.le_of_ble_eq_true rfl, by rw [hRs]; exact Nat.le_of_ble_eq_true rfl⟩) ?_
    refine hp_ifb_eq (tgt := 34) hx hb d_B_same_11 (by decide) (fun c11 => ?_) (fun c11 => ?_)
    · skip
      have c11 := of_decide_eq_false c11
      refine hp_iconst (z := 0) hx hb d_B_same_34 (by rfl) ?_
      rw [hQ]
      refine hp_zretQ hx hb hrt hlocks d_B_same_35 false (by first | rfl | assumption | simp [bI]) hS hZ ?_
      exact ⟨hbt, Or.inr ⟨by omega, rfl⟩⟩
    · skip
      have c11 := of_decide_eq_true c11
      obtain ⟨t, rfl⟩ : ∃ q : Nat, r0 = (q : Int) := ⟨r0.toNat, by omega⟩
      obtain ⟨u, rfl⟩ : ∃ q : Nat, s0 = (q : Int) := ⟨s0.toNat, by omega⟩
      obtain ⟨-, hvt⟩ := hWs t (by omega)
      obtain ⟨-, hvu⟩ := hWs u (by omega)
      have g1t := hvt.2.1
      have g2t := hvt.2.2.1
      have nlt := bw_neg_le (f t) (c t)
      have g1u := hvu.2.1
      have g2u := hvu.2.2.1
      have nlu := bw_neg_le (f u) (c u)
      by_cases etu : u = t
      · skip
        subst etu
        refine lv_aload_n hx hb d_B_same_14 rfl (lv_at hl 0 rfl) ?_
        refine lv_iload_n hx hb d_B_same_15 rfl (lv_at hl 1 rfl) ?_
        refine hp_callr (W.runV (As := [.int (iI (u : Int))]) (rest := []) ⟨hx, hb, hml, hown, hG⟩ (c_B_formOf l E o w c f u (by omega)) (cwV 1 hG (hp_goodV ml_B_98 im_B_formOf se_B_formOf in_B co_B_formOf) rfl rfl rfl hd_B_formOf ⟨by rw [hRf]; exact Nat.le_of_ble_eq_true rfl, by rw [hRl]; exact Nat.le_of_ble_eq_true rfl⟩) (hp_preV (ci := 2) hp_nsn hK rfl hb0 hbt) rfl rfl hl.1 rfl (lv_room (Nat.le_of_ble_eq_true rfl)) d_B_same_16 ⟨by rw [hRc]; exact Nat.le_of_ble_eq_true rfl, by rw [hRs]; exact Nat.le_of_ble_eq_true rfl⟩) hS (fun q h => by show _ ∧ _; have h9 := h; omega) (fun r1 H locs hpost hz1 ho1 hS => ?_)
        have hZ := hz1.trans hZ
        obtain ⟨er, hbt, f1, fr1, to1, pw1, X1, sf1, hA, hA1, hA3⟩ := hpost
        subst er
        obtain ⟨hb0, hb1, hb2, hWs, hNs⟩ := id hbt
        have hAn := hA.1
        have hrg := nfS_rng hA3
        refine lv_aload_n hx hb d_B_same_19 rfl (lv_at hl 0 rfl) ?_
        refine lv_iload_n hx hb d_B_same_20 rfl (lv_at hl 2 rfl) ?_
        refine hp_callr (W.runV (As := [.int (iI (u : Int))]) (rest := [.ref (o + 5 + 39 * u)]) ⟨hx, hb, hml, hown, hG⟩ (c_B_formOf l E o w c f u (by omega)) (cwV 1 hG (hp_goodV ml_B_98 im_B_formOf se_B_formOf in_B co_B_formOf) rfl rfl rfl hd_B_formOf ⟨by rw [hRf]; exact Nat.le_of_ble_eq_true rfl, by rw [hRl]; exact Nat.le_of_ble_eq_true rfl⟩) (hp_preV (ci := 2) hp_nsn hK rfl hb0 hbt) rfl rfl hl.1 rfl (lv_room (Nat.le_of_ble_eq_true rfl)) d_B_same_21 ⟨by rw [hRc]; exact Nat.le_of_ble_eq_true rfl, by rw [hRs]; exact Nat.le_of_ble_eq_true rfl⟩) hS (fun q h => by show _ ∧ _; have h9 := h; omega) (fun r2 H locs hpost hz1 ho1 hS => ?_)
        have hZ := hz1.trans hZ
        obtain ⟨er, hbt, f1b, fr1b, to1b, pw1b, X1b, sf1b, hAb, hA1b, hA3b⟩ := hpost
        subst er
        obtain ⟨hb0, hb1, hb2, hWs, hNs⟩ := id hbt
        have hBn := hAb.1
        have hrgb := nfS_rng hA3b
        refine hp_callS (W.runV (As := [.ref (o + 5 + 39 * u)]) (rest := []) ⟨hx, hb, hml, hown, hG⟩ (c_N_equalTo l E (o + 5 + 39 * u) (w u) (c u) f1b fr1b to1b pw1b X1b sf1b (o + 5 + 39 * u) (w u) (c u) f1b fr1b to1b pw1b X1b sf1b g1u g1u (by omega) (by omega) (by obtain ⟨_, _, _, h9⟩ := hA3b; omega) (by obtain ⟨_, _, _, h9⟩ := hA3b; omega) (fun i p h1 h2 h3 => nfS_X hvu.2.2.2.2 hA3b h1 h2 h3) (fun i p h1 h2 h3 => nfS_X hvu.2.2.2.2 hA3b h1 h2 h3)) (cwV 1 hG (hp_goodV ml_B_102 im_N_equalTo se_N_equalTo in_N co_N_equalTo) rfl rfl rfl hd_N_equalTo ⟨by rw [hRf]; exact Nat.le_of_ble_eq_true rfl, by rw [hRl]; exact Nat.le_of_ble_eq_true rfl⟩) (hp_preV (ci := 1) hp_nsn hK rfl hBn ⟨hAb, hAb⟩) rfl rfl hl.1 rfl (lv_room (Nat.le_of_ble_eq_true rfl)) d_B_same_24 ⟨by rw [hRc]; exact Nat.le_of_ble_eq_true rfl, by rw [hRs]; exact Nat.le_of_ble_eq_true rfl⟩) ?_
        refine hp_ifb_eq (tgt := 34) hx hb d_B_same_27 (by decide) (fun c27 => ?_) (fun c27 => ?_)
        · skip
          have c27 := of_decide_eq_false c27
          refine hp_iconst (z := 0) hx hb d_B_same_34 (by rfl) ?_
          rw [hQ]
          refine hp_zretQ hx hb hrt hlocks d_B_same_35 false (by first | rfl | assumption | simp [bI]) hS hZ ?_
          first | rw [Int.toNat_natCast, Int.toNat_natCast] | rw [Int.toNat_natCast]
          exact ⟨hbt, Or.inl ⟨by omega, fr1b, to1b, pw1b, X1b, fr1b, to1b, pw1b, X1b, hA3b, hA3b, by rw [decide_eq_false c27]; rfl⟩⟩
        · skip
          have c27 := of_decide_eq_true c27
          refine hp_iconst (z := 1) hx hb d_B_same_30 (by rfl) ?_
          refine lv_goto (tgt := 35) hx hb d_B_same_31 (by decide) ?_
          rw [hQ]
          refine hp_zretQ hx hb hrt hlocks d_B_same_35 true (by first | rfl | assumption | simp [bI]) hS hZ ?_
          first | rw [Int.toNat_natCast, Int.toNat_natCast] | rw [Int.toNat_natCast]
          exact ⟨hbt, Or.inl ⟨by omega, fr1b, to1b, pw1b, X1b, fr1b, to1b, pw1b, X1b, hA3b, hA3b, by rw [decide_eq_true c27]; rfl⟩⟩
      · skip
        refine lv_aload_n hx hb d_B_same_14 rfl (lv_at hl 0 rfl) ?_
        refine lv_iload_n hx hb d_B_same_15 rfl (lv_at hl 1 rfl) ?_
        refine hp_callr (W.runV (As := [.int (iI (t : Int))]) (rest := []) ⟨hx, hb, hml, hown, hG⟩ (c_B_formOf l E o w c f t (by omega)) (cwV 1 hG (hp_goodV ml_B_98 im_B_formOf se_B_formOf in_B co_B_formOf) rfl rfl rfl hd_B_formOf ⟨by rw [hRf]; exact Nat.le_of_ble_eq_true rfl, by rw [hRl]; exact Nat.le_of_ble_eq_true rfl⟩) (hp_preV (ci := 2) hp_nsn hK rfl hb0 hbt) rfl rfl hl.1 rfl (lv_room (Nat.le_of_ble_eq_true rfl)) d_B_same_16 ⟨by rw [hRc]; exact Nat.le_of_ble_eq_true rfl, by rw [hRs]; exact Nat.le_of_ble_eq_true rfl⟩) hS (fun q h => by show _ ∧ _; have h9 := h; omega) (fun r3 H locs hpost hz1 ho1 hS => ?_)
        have hZ := hz1.trans hZ
        obtain ⟨er, hbt, f1, fr1, to1, pw1, X1, sf1, hA, hA1, hA3⟩ := hpost
        subst er
        obtain ⟨hb0, hb1, hb2, hWs, hNs⟩ := id hbt
        have hAn := hA.1
        have hrg := nfS_rng hA3
        refine lv_aload_n hx hb d_B_same_19 rfl (lv_at hl 0 rfl) ?_
        refine lv_iload_n hx hb d_B_same_20 rfl (lv_at hl 2 rfl) ?_
        refine hp_callr (W.runV (As := [.int (iI (u : Int))]) (rest := [.ref (o + 5 + 39 * t)]) ⟨hx, hb, hml, hown, hG⟩ (c_B_formOf l E o w c f u (by omega)) (cwV 1 hG (hp_goodV ml_B_98 im_B_formOf se_B_formOf in_B co_B_formOf) rfl rfl rfl hd_B_formOf ⟨by rw [hRf]; exact Nat.le_of_ble_eq_true rfl, by rw [hRl]; exact Nat.le_of_ble_eq_true rfl⟩) (hp_preV (ci := 2) hp_nsn hK rfl hb0 hbt) rfl rfl hl.1 rfl (lv_room (Nat.le_of_ble_eq_true rfl)) d_B_same_21 ⟨by rw [hRc]; exact Nat.le_of_ble_eq_true rfl, by rw [hRs]; exact Nat.le_of_ble_eq_true rfl⟩) hS (fun q h => by show _ ∧ _; have h9 := h; omega) (fun r4 H locs hpost hz1 ho1 hS => ?_)
        have hZ := hz1.trans hZ
        obtain ⟨er, hbt, f1b, fr1b, to1b, pw1b, X1b, sf1b, hAb, hA1b, hA3b⟩ := hpost
        subst er
        obtain ⟨hb0, hb1, hb2, hWs, hNs⟩ := id hbt
        have hBn := hAb.1
        have hrgb := nfS_rng hA3b
        have hA := hA.keep (fun q g1 g2 => ho1 q (by omega))
        have hAn := hA.1
        refine hp_callS (W.runV (As := [.ref (o + 5 + 39 * u)]) (rest := []) ⟨hx, hb, hml, hown, hG⟩ (c_N_equalTo l E (o + 5 + 39 * t) (w t) (c t) f1 fr1 to1 pw1 X1 sf1 (o + 5 + 39 * u) (w u) (c u) f1b fr1b to1b pw1b X1b sf1b g1t g1u (by omega) (by omega) (by obtain ⟨_, _, _, h9⟩ := hA3; omega) (by obtain ⟨_, _, _, h9⟩ := hA3b; omega) (fun i p h1 h2 h3 => nfS_X hvt.2.2.2.2 hA3 h1 h2 h3) (fun i p h1 h2 h3 => nfS_X hvu.2.2.2.2 hA3b h1 h2 h3)) (cwV 1 hG (hp_goodV ml_B_102 im_N_equalTo se_N_equalTo in_N co_N_equalTo) rfl rfl rfl hd_N_equalTo ⟨by rw [hRf]; exact Nat.le_of_ble_eq_true rfl, by rw [hRl]; exact Nat.le_of_ble_eq_true rfl⟩) (hp_preV (ci := 1) hp_nsn hK rfl hAn ⟨hA, hAb⟩) rfl rfl hl.1 rfl (lv_room (Nat.le_of_ble_eq_true rfl)) d_B_same_24 ⟨by rw [hRc]; exact Nat.le_of_ble_eq_true rfl, by rw [hRs]; exact Nat.le_of_ble_eq_true rfl⟩) ?_
        refine hp_ifb_eq (tgt := 34) hx hb d_B_same_27 (by decide) (fun c27 => ?_) (fun c27 => ?_)
        · skip
          have c27 := of_decide_eq_false c27
          refine hp_iconst (z := 0) hx hb d_B_same_34 (by rfl) ?_
          rw [hQ]
          refine hp_zretQ hx hb hrt hlocks d_B_same_35 false (by first | rfl | assumption | simp [bI]) hS hZ ?_
          first | rw [Int.toNat_natCast, Int.toNat_natCast] | rw [Int.toNat_natCast]
          exact ⟨hbt, Or.inl ⟨by omega, fr1, to1, pw1, X1, fr1b, to1b, pw1b, X1b, hA3, hA3b, by rw [decide_eq_false c27]; rfl⟩⟩
        · skip
          have c27 := of_decide_eq_true c27
          refine hp_iconst (z := 1) hx hb d_B_same_30 (by rfl) ?_
          refine lv_goto (tgt := 35) hx hb d_B_same_31 (by decide) ?_
          rw [hQ]
          refine hp_zretQ hx hb hrt hlocks d_B_same_35 true (by first | rfl | assumption | simp [bI]) hS hZ ?_
          first | rw [Int.toNat_natCast, Int.toNat_natCast] | rw [Int.toNat_natCast]
          exact ⟨hbt, Or.inl ⟨by omega, fr1, to1, pw1, X1, fr1b, to1b, pw1b, X1b, hA3, hA3b, by rw [decide_eq_true c27]; rfl⟩⟩
