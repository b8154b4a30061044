set_option maxHeartbeats 4000000 in
set_option maxRecDepth 100000 in
/-- reduce(s, ends) -/
theorem c_B_reduce (l : Launch) (E : hp_E) (o : Nat) (w c : Nat → Nat) (f : Nat → Nat → Int) (s0 : Int) (en : Bool) (hs0 : iR s0) : Met l y_B_reduce (Cond.code y_B_reduce b_B_reduce 5 (some .int) :: G0) ({ frames := 2, cells := 0, slots := 0, locals := 81 }) (hp_P E [.ref o, .int (iI s0), .int (iI (bI en))] (fun H => bAt E H o w c f)) (hp_Qi (fun q => o ≤ q ∧ q ≤ o + 158) (fun r H => (¬ (0 ≤ s0 ∧ s0 < 4) ∧ r = 0 ∧ bAt E H o w c f) ∨ ((0 ≤ s0 ∧ s0 < 4) ∧ ∃ g : Nat → Int, bw_st g (bw_rs (f s0.toNat) (c s0.toNat)).length (bw_rs (f s0.toNat) (c s0.toNat)) ∧ ((en = false ∧ r = (c s0.toNat : Int) - ((bw_rs (f s0.toNat) (c s0.toNat)).length : Int) ∧ bAt E H o (hp_up w s0.toNat (w s0.toNat)) (hp_up c s0.toNat (bw_rs (f s0.toNat) (c s0.toNat)).length) (hp_up f s0.toNat g)) ∨ (en = true ∧ ∃ n : Nat, bw_gone g (bw_rs (f s0.toNat) (c s0.toNat)).length n ∧ 2 * n ≤ (bw_rs (f s0.toNat) (c s0.toNat)).length ∧ r = (c s0.toNat : Int) - (((bw_rs (f s0.toNat) (c s0.toNat)).length - 2 * n : Nat) : Int) ∧ bAt E H o (hp_up w s0.toNat (w s0.toNat)) (hp_up c s0.toNat ((bw_rs (f s0.toNat) (c s0.toNat)).length - 2 * n)) (hp_up f s0.toNat (va_cpy g g n 0 ((bw_rs (f s0.toNat) (c s0.toNat)).length - 2 * n)))))))) 0 0 (fun q => o ≤ q ∧ q ≤ o + 158) := by
  refine Met.ofW (cc := b_B_reduce) (maxL := 5) (ret := some .int) (by decide) rfl ?_
  intro p e s m args below meth cd s₁ Bd hml hv
  obtain ⟨hargs, hB, hK⟩ := hv
  have hx := Bd.exec
  have hb := Bd.bytes
  have hrt := Bd.returns
  have hts := atoms_spec (ws := Cond.code y_B_reduce b_B_reduce 5 (some .int) :: G0) Bd.pre
  have hG : ∀ w ∈ G0, w.before args s = true := fun w h => hts w (List.mem_cons_of_mem _ h)
  have hown : s.vm.findClass R_B = some m.cls := findClass_of_methodNamed Bd.named
  have hlocks := Bd.notSynchronized
  have hl := lv_entry ([.ref o, .int (iI s0), .int (iI (bI en))]) (n := 5) (Nat.le_of_ble_eq_true rfl)
  rw [show entryFrame m args 5 = entryFrame m ([.ref o, .int (iI s0), .int (iI (bI en))] : List Value).toArray 5 from by rw [hargs]]
  rw [lg_entry_eq]
  generalize (lg_sl ([.ref o, .int (iI s0), .int (iI (bI en))]) ++ List.replicate (5 - (lg_sl ([.ref o, .int (iI s0), .int (iI (bI en))])).length) Slot.unset).toArray = ls at hl ⊢
  have hl : lv_has ls 5 [(0, .ref o), (1, .int (iI s0)), (2, .int (iI (bI en)))] := hl
  obtain ⟨R, hR⟩ : ∃ R, R = (headSpec (Cond.code y_B_reduce b_B_reduce 5 (some .int) :: G0) { frames := 2, cells := 0, slots := 0, locals := 81 }).room := ⟨_, rfl⟩
  rw [← hR]
  have hRf : R.frames = 2 := by rw [hR]; rfl
  have hRl : R.locals = 81 := by rw [hR]; rfl
  have hRc : R.cells = 0 := by rw [hR]; rfl
  have hRs : R.slots = 0 := by rw [hR]; rfl
  obtain ⟨Q, hQ⟩ : ∃ Q, Q = MQ below (hp_Qi (fun q => o ≤ q ∧ q ≤ o + 158) (fun r H => (¬ (0 ≤ s0 ∧ s0 < 4) ∧ r = 0 ∧ bAt E H o w c f) ∨ ((0 ≤ s0 ∧ s0 < 4) ∧ ∃ g : Nat → Int, bw_st g (bw_rs (f s0.toNat) (c s0.toNat)).length (bw_rs (f s0.toNat) (c s0.toNat)) ∧ ((en = false ∧ r = (c s0.toNat : Int) - ((bw_rs (f s0.toNat) (c s0.toNat)).length : Int) ∧ bAt E H o (hp_up w s0.toNat (w s0.toNat)) (hp_up c s0.toNat (bw_rs (f s0.toNat) (c s0.toNat)).length) (hp_up f s0.toNat g)) ∨ (en = true ∧ ∃ n : Nat, bw_gone g (bw_rs (f s0.toNat) (c s0.toNat)).length n ∧ 2 * n ≤ (bw_rs (f s0.toNat) (c s0.toNat)).length ∧ r = (c s0.toNat : Int) - (((bw_rs (f s0.toNat) (c s0.toNat)).length - 2 * n : Nat) : Int) ∧ bAt E H o (hp_up w s0.toNat (w s0.toNat)) (hp_up c s0.toNat ((bw_rs (f s0.toNat) (c s0.toNat)).length - 2 * n)) (hp_up f s0.toNat (va_cpy g g n 0 ((bw_rs (f s0.toNat) (c s0.toNat)).length - 2 * n)))))))) args s 0 0 (fun q => o ≤ q ∧ q ≤ o + 158) := ⟨_, rfl⟩
  rw [← hQ]
  obtain ⟨H, hH⟩ : ∃ H, H = s.heap := ⟨_, rfl⟩
  obtain ⟨locs, hlocs⟩ : ∃ locs : List Loc, locs = [] := ⟨_, rfl⟩
  have hS : va_S (fun q => o ≤ q ∧ q ≤ o + 158) s.heap H locs := by rw [hH, hlocs]; exact va_S.rf
  have hZ : H.size = s.heap.size := by rw [hH]
  rw [← hH] at hB
  rw [show W p l e R s m args below meth cd s.heap [] 0 0 Q (F0 m 0 ls []) = W p l e R s m args below meth cd H locs 0 0 Q (F0 m 0 ls []) from by rw [hH, hlocs]]
  have hbt := hB
  obtain ⟨hb0, hb1, hb2, hWs, hNs⟩ := id hbt
  refine lv_iload_n hx hb d_B_reduce_0 rfl (lv_at hl 1 rfl) ?_
  refine hp_callS (W.runS (As := [.int (iI s0)]) (rest := []) ⟨hx, hb, hml, hown, hG⟩ (c_B_isSlot l E s0 (by unfold iR at *; omega)) (cwS 1 hG (hp_goodS ml_B_23 st_B_isSlot in_B co_B_isSlot) rfl rfl rfl hd_B_isSlot ⟨by rw [hRf]; exact Nat.le_of_ble_eq_true rfl, by rw [hRl]; exact Nat.le_of_ble_eq_true rfl⟩) (hp_preS hp_nsn hK trivial) rfl rfl hl.1 rfl (lv_room (Nat.le_of_ble_eq_true rfl)) d_B_reduce_1 ⟨by rw [hRc]; exact Nat.le_of_ble_eq_true rfl, by rw [hRs]; exact Nat.le_of_ble_eq_true rfl⟩) ?_
  refine hp_ifb_ne (tgt := 9) hx hb d_B_reduce_4 (by decide) (fun c4 => ?_) (fun c4 => ?_)
  · skip
    have c4 := of_decide_eq_true c4
    obtain ⟨t, rfl⟩ : ∃ q : Nat, s0 = (q : Int) := ⟨s0.toNat, by omega⟩
    obtain ⟨⟨hw, hf1⟩, hv⟩ := hWs t (by omega)
    have hv1 := hv.1
    have hv2 := hv.2.1
    have hv3 := hv.2.2.1
    have hbd := hv.2.2.2.1
    have hok := hv.2.2.2.2
    refine lv_aload_n hx hb d_B_reduce_9 rfl (lv_at hl 0 rfl) ?_
    refine hp_get (C := R_B) (T := F_B) (N := 2) (v := .ref (o + 1)) hx hb hG la_B hown hK.1 hb0 rfl 0 (by decide) (hG _ fl_B_11) (fun _ h9 => h9) rfl d_B_reduce_10 ?_
    refine lv_iload_n hx hb d_B_reduce_13 rfl (lv_at hl 1 rfl) ?_
    refine hp_aald hx hb hK.1 2 hb1 rfl rfl d_B_reduce_14 (by omega) t (by omega) (by omega) (v := .ref (o + 3 + 39 * t)) (by rw [if_pos (by omega)]; rfl) ?_
    refine lv_astore_n (lv' := [(3, .ref (o + 3 + 39 * t)), (0, .ref o), (1, .int (iI (t : Int))), (2, .int (iI (bI en)))]) hx hb d_B_reduce_15 rfl hl (by decide) rfl (fun ls hl => ?_)
    refine lv_aload_n hx hb d_B_reduce_16 rfl (lv_at hl 0 rfl) ?_
    refine hp_get (C := R_W) (T := F_W) (N := 3) (v := .int (iI (c t : Int))) hx hb hG la_W hown hK.1 hw rfl 2 (by decide) (hG _ fl_B_34) (fun _ h9 => h9) rfl d_B_reduce_17 ?_
    refine lv_istore (lv' := [(4, .int (iI (c t : Int))), (3, .ref (o + 3 + 39 * t)), (0, .ref o), (1, .int (iI (t : Int))), (2, .int (iI (bI en)))]) hx hb d_B_reduce_20 hl (by decide) rfl (fun ls hl => ?_)
    refine lv_aload_n hx hb d_B_reduce_22 rfl (lv_at hl 1 rfl) ?_
    refine hp_callv (W.runV (As := []) (rest := []) ⟨hx, hb, hml, hown, hG⟩ (c_W_cancelNeighbours l E (o + 3 + 39 * t) (w t) (c t) (f t) hv3 hbd) (cwV 0 hG (hp_goodV ml_B_73 im_W_cancelNeighbours se_W_cancelNeighbours in_W co_W_cancelNeighbours) rfl rfl rfl hd_W_cancelNeighbours ⟨by rw [hRf]; exact Nat.le_of_ble_eq_true rfl, by rw [hRl]; exact Nat.le_of_ble_eq_true rfl⟩) (hp_preV (ci := 0) hp_nsn hK rfl hw ⟨hw, hf1⟩) rfl rfl hl.1 rfl (lv_room (Nat.le_of_ble_eq_true rfl)) d_B_reduce_23 ⟨by rw [hRc]; exact Nat.le_of_ble_eq_true rfl, by rw [hRs]; exact Nat.le_of_ble_eq_true rfl⟩) hS (fun q h => by show _ ∧ _; rcases h with h | h <;> omega) (fun H locs hpost hz1 ho1 hS => ?_)
    have hZ := hz1.trans hZ
    have hb0 := hb0.keep (ho1 (o) (by omega))
    have hb1 := hb1.keep (ho1 (o + 1) (by omega))
    have hb2 := hb2.keep (ho1 (o + 2) (by omega))
    obtain ⟨g, hbg, hst, hwg⟩ := hpost
    obtain ⟨N, hN⟩ : ∃ N, N = (bw_rs (f t) (c t)).length := ⟨_, rfl⟩
    have hNl := bw_rs_len (f t) (c t)
    rw [← hN] at hNl
    have hv := vW_red hv hbg hst
    rw [← hN] at hst hwg hv
    have hbt := hbt.word (by omega) ho1 hwg hv
    obtain ⟨hw, hf1⟩ := hwg
    refine lv_iload_n hx hb d_B_reduce_26 rfl (lv_at hl 4 rfl) ?_
    refine hp_ifb_eq (tgt := 34) hx hb d_B_reduce_27 (by decide) (fun c27 => ?_) (fun c27 => ?_)
    · skip
      refine lv_iload hx hb d_B_reduce_34 (lv_at hl 0 rfl) ?_
      refine lv_aload_n hx hb d_B_reduce_36 rfl (lv_at hl 1 rfl) ?_
      refine hp_get (C := R_W) (T := F_W) (N := 3) (v := .int (iI (N : Int))) hx hb hG la_W hown hK.1 hw rfl 2 (by decide) (hG _ fl_B_34) (fun _ h9 => h9) rfl d_B_reduce_37 ?_
      refine hp_isub hx hb d_B_reduce_40 ?_
      rw [hQ]
      refine hp_iretQ hx hb hrt hlocks d_B_reduce_41 hS hZ ?_
      rw [Int.toNat_natCast, ← hN]
      refine Or.inr ⟨by omega, g, hst, ?_⟩
      first | exact Or.inl ⟨c27, rfl, hbt⟩ | exact Or.inr ⟨c27, n, hgo, hn2, rfl, hbt⟩
    · skip
      refine lv_aload_n hx hb d_B_reduce_30 rfl (lv_at hl 1 rfl) ?_
      refine hp_callv (W.runV (As := []) (rest := []) ⟨hx, hb, hml, hown, hG⟩ (c_W_cancelEnds l E (o + 3 + 39 * t) (w t) N g (by omega) hbg) (cwV 0 hG (hp_goodV ml_B_76 im_W_cancelEnds se_W_cancelEnds in_W co_W_cancelEnds) rfl rfl rfl hd_W_cancelEnds ⟨by rw [hRf]; exact Nat.le_of_ble_eq_true rfl, by rw [hRl]; exact Nat.le_of_ble_eq_true rfl⟩) (hp_preV (ci := 0) hp_nsn hK rfl hw ⟨hw, hf1⟩) rfl rfl hl.1 rfl (lv_room (Nat.le_of_ble_eq_true rfl)) d_B_reduce_31 ⟨by rw [hRc]; exact Nat.le_of_ble_eq_true rfl, by rw [hRs]; exact Nat.le_of_ble_eq_true rfl⟩) hS (fun q h => by show _ ∧ _; rcases h with h | h <;> omega) (fun H locs hpost hz1 ho1 hS => ?_)
      have hZ := hz1.trans hZ
      have hb0 := hb0.keep (ho1 (o) (by omega))
      have hb1 := hb1.keep (ho1 (o + 1) (by omega))
      have hb2 := hb2.keep (ho1 (o + 2) (by omega))
      obtain ⟨n, hgo, hn2, hwg⟩ := hpost
      have hbt := hbt.word (by omega) ho1 hwg (vW_ends hv hn2)
      rw [hp_up_up, hp_up_up, hp_up_up] at hbt
      obtain ⟨hw, hf1⟩ := hwg
      refine lv_iload hx hb d_B_reduce_34 (lv_at hl 0 rfl) ?_
      refine lv_aload_n hx hb d_B_reduce_36 rfl (lv_at hl 1 rfl) ?_
      refine hp_get (C := R_W) (T := F_W) (N := 3) (v := .int (iI ((N - 2 * n : Nat) : Int))) hx hb hG la_W hown hK.1 hw rfl 2 (by decide) (hG _ fl_B_34) (fun _ h9 => h9) rfl d_B_reduce_37 ?_
      refine hp_isub hx hb d_B_reduce_40 ?_
      rw [hQ]
      refine hp_iretQ hx hb hrt hlocks d_B_reduce_41 hS hZ ?_
      rw [Int.toNat_natCast, ← hN]
      refine Or.inr ⟨by omega, g, hst, ?_⟩
      first | exact Or.inl ⟨c27, rfl, hbt⟩ | exact Or.inr ⟨c27, n, hgo, hn2, rfl, hbt⟩
  · skip
    have c4 := of_decide_eq_false c4
    refine hp_iconst (z := 0) hx hb d_B_reduce_7 (by rfl) ?_
    rw [hQ]
    refine hp_iretQ hx hb hrt hlocks d_B_reduce_8 hS hZ ?_
    exact Or.inl ⟨by omega, rfl, hbt⟩

set_option maxHeartbeats 4000000 in
set_option maxRecDepth 100000 in
/-- copy(r, s, back) -/
theorem c_B_copy (l : Launch) (E : hp_E) (o : Nat) (w c : Nat → Nat) (f : Nat → Nat → Int) (r0 s0 : Int) (bk : Bool) (hr0 : iR r0) (hs0 : iR s0) : Met l y_B_copy (Cond.code y_B_copy b_B_copy 4 (some .boolean) :: G0) ({ frames := 2, cells := 0, slots := 0, locals := 81 }) (hp_P E [.ref o, .int (iI r0), .int (iI s0), .int (iI (bI bk))] (fun H => bAt E H o w c f)) (hp_Qi (fun q => o ≤ q ∧ q ≤ o + 158) (fun r H => (r = 1 ∧ (0 ≤ r0 ∧ r0 < 4 ∧ 0 ≤ s0 ∧ s0 < 4) ∧ bAt E H o (hp_up w r0.toNat (w s0.toNat)) (hp_up c r0.toNat (c s0.toNat)) (hp_up f r0.toNat (if bk then bw_iv (va_cpy (f s0.toNat) (f r0.toNat) 0 0 (c s0.toNat)) (c s0.toNat) (c s0.toNat) else va_cpy (f s0.toNat) (f r0.toNat) 0 0 (c s0.toNat)))) ∨ (r = 0 ∧ ¬ (0 ≤ r0 ∧ r0 < 4 ∧ 0 ≤ s0 ∧ s0 < 4) ∧ bAt E H o w c f))) 0 0 (fun q => o ≤ q ∧ q ≤ o + 158) := by
  refine Met.ofW (cc := b_B_copy) (maxL := 4) (ret := some .boolean) (by decide) rfl ?_
  intro p e s m args below meth cd s₁ Bd hml hv
  obtain ⟨hargs, hB, hK⟩ := hv
  have hx := Bd.exec
  have hb := Bd.bytes
  have hrt := Bd.returns
  have hts := atoms_spec (ws := Cond.code y_B_copy b_B_copy 4 (some .boolean) :: G0) Bd.pre
  have hG : ∀ w ∈ G0, w.before args s = true := fun w h => hts w (List.mem_cons_of_mem _ h)
  have hown : s.vm.findClass R_B = some m.cls := findClass_of_methodNamed Bd.named
  have hlocks := Bd.notSynchronized
  have hl := lv_entry ([.ref o, .int (iI r0), .int (iI s0), .int (iI (bI bk))]) (n := 4) (Nat.le_of_ble_eq_true rfl)
  rw [show entryFrame m args 4 = entryFrame m ([.ref o, .int (iI r0), .int (iI s0), .int (iI (bI bk))] : List Value).toArray 4 from by rw [hargs]]
  rw [lg_entry_eq]
  generalize (lg_sl ([.ref o, .int (iI r0), .int (iI s0), .int (iI (bI bk))]) ++ List.replicate (4 - (lg_sl ([.ref o, .int (iI r0), .int (iI s0), .int (iI (bI bk))])).length) Slot.unset).toArray = ls at hl ⊢
  have hl : lv_has ls 4 [(0, .ref o), (1, .int (iI r0)), (2, .int (iI s0)), (3, .int (iI (bI bk)))] := hl
  obtain ⟨R, hR⟩ : ∃ R, R = (headSpec (Cond.code y_B_copy b_B_copy 4 (some .boolean) :: G0) { frames := 2, cells := 0, slots := 0, locals := 81 }).room := ⟨_, rfl⟩
  rw [← hR]
  have hRf : R.frames = 2 := by rw [hR]; rfl
  have hRl : R.locals = 81 := by rw [hR]; rfl
  have hRc : R.cells = 0 := by rw [hR]; rfl
  have hRs : R.slots = 0 := by rw [hR]; rfl
  obtain ⟨Q, hQ⟩ : ∃ Q, Q = MQ below (hp_Qi (fun q => o ≤ q ∧ q ≤ o + 158) (fun r H => (r = 1 ∧ (0 ≤ r0 ∧ r0 < 4 ∧ 0 ≤ s0 ∧ s0 < 4) ∧ bAt E H o (hp_up w r0.toNat (w s0.toNat)) (hp_up c r0.toNat (c s0.toNat)) (hp_up f r0.toNat (if bk then bw_iv (va_cpy (f s0.toNat) (f r0.toNat) 0 0 (c s0.toNat)) (c s0.toNat) (c s0.toNat) else va_cpy (f s0.toNat) (f r0.toNat) 0 0 (c s0.toNat)))) ∨ (r = 0 ∧ ¬ (0 ≤ r0 ∧ r0 < 4 ∧ 0 ≤ s0 ∧ s0 < 4) ∧ bAt E H o w c f))) args s 0 0 (fun q => o ≤ q ∧ q ≤ o + 158) := ⟨_, rfl⟩
  rw [← hQ]
  obtain ⟨H, hH⟩ : ∃ H, H = s.heap := ⟨_, rfl⟩
  obtain ⟨locs, hlocs⟩ : ∃ locs : List Loc, locs = [] := ⟨_, rfl⟩
  have hS : va_S (fun q => o ≤ q ∧ q ≤ o + 158) s.heap H locs := by rw [hH, hlocs]; exact va_S.rf
  have hZ : H.size = s.heap.size := by rw [hH]
  rw [← hH] at hB
  rw [show W p l e R s m args below meth cd s.heap [] 0 0 Q (F0 m 0 ls []) = W p l e R s m args below meth cd H locs 0 0 Q (F0 m 0 ls []) from by rw [hH, hlocs]]
  have hbt := hB
  obtain ⟨hb0, hb1, hb2, hWs, hNs⟩ := id hbt
  refine lv_iload_n hx hb d_B_copy_0 rfl (lv_at hl 1 rfl) ?_
  refine hp_callS (W.runS (As := [.int (iI r0)]) (rest := []) ⟨hx, hb, hml, hown, hG⟩ (c_B_isSlot l E r0 (by unfold iR at *; omega)) (cwS 1 hG (hp_goodS ml_B_23 st_B_isSlot in_B co_B_isSlot) rfl rfl rfl hd_B_isSlot ⟨by rw [hRf]; exact Nat.le_of_ble_eq_true rfl, by rw [hRl]; exact Nat.le_of_ble_eq_true rfl⟩) (hp_preS hp_nsn hK trivial) rfl rfl hl.1 rfl (lv_room (Nat.le_of_ble_eq_true rfl)) d_B_copy_1 ⟨by rw [hRc]; exact Nat.le_of_ble_eq_true rfl, by rw [hRs]; exact Nat.le_of_ble_eq_true rfl⟩) ?_
  refine hp_ifb_eq (tgt := 14) hx hb d_B_copy_4 (by decide) (fun c4 => ?_) (fun c4 => ?_)
  · skip
    have c4 := of_decide_eq_false c4
    refine hp_iconst (z := 0) hx hb d_B_copy_14 (by rfl) ?_
    rw [hQ]
    refine hp_zretQ hx hb hrt hlocks d_B_copy_15 false (by first | rfl | assumption | simp [bI]) hS hZ ?_
    exact Or.inr ⟨rfl, by omega, hbt⟩
  · skip
    have c4 := of_decide_eq_true c4
    refine lv_iload_n hx hb d_B_copy_7 rfl (lv_at hl 2 rfl) ?_
    refine hp_callS (W.runS (As := [.int (iI s0)]) (rest := []) ⟨hx, hb, hml, hown, hG⟩ (c_B_isSlot l E s0 (by unfold iR at *; omega)) (cwS 1 hG (hp_goodS ml_B_23 st_B_isSlot in_B co_B_isSlot) rfl rfl rfl hd_B_isSlot ⟨by rw [hRf]; exact Nat.le_of_ble_eq_true rfl, by rw [hRl]; exact Nat.le_of_ble_eq_true rfl⟩) (hp_preS hp_nsn hK trivial) rfl rfl hl.1 rfl (lv_room (Nat.le_of_ble_eq_true rfl)) d_B_copy_8 ⟨by rw [hRc]; exact Nat.le_of_ble_eq_true rfl, by rw [hRs]; exact Nat.le_of_ble_eq_true rfl⟩) ?_
    refine hp_ifb_ne (tgt := 16) hx hb d_B_copy_11 (by decide) (fun c11 => ?_) (fun c11 => ?_)
    · skip
      have c11 := of_decide_eq_true c11
      obtain ⟨t, rfl⟩ : ∃ q : Nat, r0 = (q : Int) := ⟨r0.toNat, by omega⟩
      obtain ⟨u, rfl⟩ : ∃ q : Nat, s0 = (q : Int) := ⟨s0.toNat, by omega⟩
      obtain ⟨hwu, hvu⟩ := hWs u (by omega)
      have hu3 := hvu.2.2.1
      obtain ⟨⟨hw, hf1⟩, hv⟩ := hWs t (by omega)
      have hv1 := hv.1
      have hv2 := hv.2.1
      have hv3 := hv.2.2.1
      have hbd := hv.2.2.2.1
      have hok := hv.2.2.2.2
      by_cases etu : u = t
      · skip
        subst etu
        refine lv_aload_n hx hb d_B_copy_16 rfl (lv_at hl 0 rfl) ?_
        refine hp_get (C := R_B) (T := F_B) (N := 2) (v := .ref (o + 1)) hx hb hG la_B hown hK.1 hb0 rfl 0 (by decide) (hG _ fl_B_11) (fun _ h9 => h9) rfl d_B_copy_17 ?_
        refine lv_iload_n hx hb d_B_copy_20 rfl (lv_at hl 1 rfl) ?_
        refine hp_aald hx hb hK.1 2 hb1 rfl rfl d_B_copy_21 (by omega) u (by omega) (by omega) (v := .ref (o + 3 + 39 * u)) (by rw [if_pos (by omega)]; rfl) ?_
        refine lv_aload_n hx hb d_B_copy_22 rfl (lv_at hl 0 rfl) ?_
        refine hp_get (C := R_B) (T := F_B) (N := 2) (v := .ref (o + 1)) hx hb hG la_B hown hK.1 hb0 rfl 0 (by decide) (hG _ fl_B_11) (fun _ h9 => h9) rfl d_B_copy_23 ?_
        refine lv_iload_n hx hb d_B_copy_26 rfl (lv_at hl 2 rfl) ?_
        refine hp_aald hx hb hK.1 2 hb1 rfl rfl d_B_copy_27 (by omega) u (by omega) (by omega) (v := .ref (o + 3 + 39 * u)) (by rw [if_pos (by omega)]; rfl) ?_
        refine hp_callv (W.runV (As := [.ref (o + 3 + 39 * u)]) (rest := []) ⟨hx, hb, hml, hown, hG⟩ (c_W_take_self l E (o + 3 + 39 * u) (w u) (c u) (f u) hu3) (cwV 1 hG (hp_goodV ml_B_38 im_W_take se_W_take in_W co_W_take) rfl rfl rfl hd_W_take ⟨by rw [hRf]; exact Nat.le_of_ble_eq_true rfl, by rw [hRl]; exact Nat.le_of_ble_eq_true rfl⟩) (hp_preV (ci := 0) hp_nsn hK rfl hw ⟨hw, hf1⟩) rfl rfl hl.1 rfl (lv_room (Nat.le_of_ble_eq_true rfl)) d_B_copy_28 ⟨by rw [hRc]; exact Nat.le_of_ble_eq_true rfl, by rw [hRs]; exact Nat.le_of_ble_eq_true rfl⟩) hS (fun q h => by show _ ∧ _; rcases h with h | h <;> omega) (fun H locs hpost hz1 ho1 hS => ?_)
        have hZ := hz1.trans hZ
        have hb0 := hb0.keep (ho1 (o) (by omega))
        have hb1 := hb1.keep (ho1 (o + 1) (by omega))
        have hb2 := hb2.keep (ho1 (o + 2) (by omega))
        have hvg := vW_cpy hvu hbd
        have hbt := hbt.word (by omega) ho1 hpost hvg
        obtain ⟨hw, hf1⟩ := hpost
        refine lv_iload_n hx hb d_B_copy_31 rfl (lv_at hl 3 rfl) ?_
        refine hp_ifb_eq (tgt := 44) hx hb d_B_copy_32 (by decide) (fun c32 => ?_) (fun c32 => ?_)
        · skip
          refine hp_iconst (z := 1) hx hb d_B_copy_44 (by rfl) ?_
          rw [hQ]
          refine hp_zretQ hx hb hrt hlocks d_B_copy_45 true (by first | rfl | assumption | simp [bI]) hS hZ ?_
          first | rw [Int.toNat_natCast, Int.toNat_natCast] | rw [Int.toNat_natCast]
          rw [c32]
          exact Or.inl ⟨rfl, by omega, hbt⟩
        · skip
          refine lv_aload_n hx hb d_B_copy_35 rfl (lv_at hl 0 rfl) ?_
          refine hp_get (C := R_B) (T := F_B) (N := 2) (v := .ref (o + 1)) hx hb hG la_B hown hK.1 hb0 rfl 0 (by decide) (hG _ fl_B_11) (fun _ h9 => h9) rfl d_B_copy_36 ?_
          refine lv_iload_n hx hb d_B_copy_39 rfl (lv_at hl 1 rfl) ?_
          refine hp_aald hx hb hK.1 2 hb1 rfl rfl d_B_copy_40 (by omega) u (by omega) (by omega) (v := .ref (o + 3 + 39 * u)) (by rw [if_pos (by omega)]; rfl) ?_
          refine hp_callv (W.runV (As := []) (rest := []) ⟨hx, hb, hml, hown, hG⟩ (c_W_invert l E (o + 3 + 39 * u) (w u) (c u) (va_cpy (f u) (f u) 0 0 (c u)) hu3 hvg.2.2.2.1) (cwV 0 hG (hp_goodV ml_B_42 im_W_invert se_W_invert in_W co_W_invert) rfl rfl rfl hd_W_invert ⟨by rw [hRf]; exact Nat.le_of_ble_eq_true rfl, by rw [hRl]; exact Nat.le_of_ble_eq_true rfl⟩) (hp_preV (ci := 0) hp_nsn hK rfl hw ⟨hw, hf1⟩) rfl rfl hl.1 rfl (lv_room (Nat.le_of_ble_eq_true rfl)) d_B_copy_41 ⟨by rw [hRc]; exact Nat.le_of_ble_eq_true rfl, by rw [hRs]; exact Nat.le_of_ble_eq_true rfl⟩) hS (fun q h => by show _ ∧ _; rcases h with h | h <;> omega) (fun H locs hpost hz1 ho1 hS => ?_)
          have hZ := hz1.trans hZ
          have hbt := hbt.word (by omega) ho1 hpost (vW_iv hvg)
          rw [hp_up_up, hp_up_up, hp_up_up] at hbt
          refine hp_iconst (z := 1) hx hb d_B_copy_44 (by rfl) ?_
          rw [hQ]
          refine hp_zretQ hx hb hrt hlocks d_B_copy_45 true (by first | rfl | assumption | simp [bI]) hS hZ ?_
          first | rw [Int.toNat_natCast, Int.toNat_natCast] | rw [Int.toNat_natCast]
          rw [c32]
          exact Or.inl ⟨rfl, by omega, hbt⟩
      · skip
        obtain ⟨hw2, hf2⟩ := hwu
        refine lv_aload_n hx hb d_B_copy_16 rfl (lv_at hl 0 rfl) ?_
        refine hp_get (C := R_B) (T := F_B) (N := 2) (v := .ref (o + 1)) hx hb hG la_B hown hK.1 hb0 rfl 0 (by decide) (hG _ fl_B_11) (fun _ h9 => h9) rfl d_B_copy_17 ?_
        refine lv_iload_n hx hb d_B_copy_20 rfl (lv_at hl 1 rfl) ?_
        refine hp_aald hx hb hK.1 2 hb1 rfl rfl d_B_copy_21 (by omega) t (by omega) (by omega) (v := .ref (o + 3 + 39 * t)) (by rw [if_pos (by omega)]; rfl) ?_
        refine lv_aload_n hx hb d_B_copy_22 rfl (lv_at hl 0 rfl) ?_
        refine hp_get (C := R_B) (T := F_B) (N := 2) (v := .ref (o + 1)) hx hb hG la_B hown hK.1 hb0 rfl 0 (by decide) (hG _ fl_B_11) (fun _ h9 => h9) rfl d_B_copy_23 ?_
        refine lv_iload_n hx hb d_B_copy_26 rfl (lv_at hl 2 rfl) ?_
        refine hp_aald hx hb hK.1 2 hb1 rfl rfl d_B_copy_27 (by omega) u (by omega) (by omega) (v := .ref (o + 3 + 39 * u)) (by rw [if_pos (by omega)]; rfl) ?_
        refine hp_callv (W.runV (As := [.ref (o + 3 + 39 * u)]) (rest := []) ⟨hx, hb, hml, hown, hG⟩ (c_W_take l E (o + 3 + 39 * t) (w t) (c t) (f t) (o + 3 + 39 * u) (w u) (c u) (f u) (by omega) hu3) (cwV 1 hG (hp_goodV ml_B_38 im_W_take se_W_take in_W co_W_take) rfl rfl rfl hd_W_take ⟨by rw [hRf]; exact Nat.le_of_ble_eq_true rfl, by rw [hRl]; exact Nat.le_of_ble_eq_true rfl⟩) (hp_preV (ci := 0) hp_nsn hK rfl hw ⟨⟨hw, hf1⟩, hw2, hf2⟩) rfl rfl hl.1 rfl (lv_room (Nat.le_of_ble_eq_true rfl)) d_B_copy_28 ⟨by rw [hRc]; exact Nat.le_of_ble_eq_true rfl, by rw [hRs]; exact Nat.le_of_ble_eq_true rfl⟩) hS (fun q h => by show _ ∧ _; rcases h with h | h <;> omega) (fun H locs hpost hz1 ho1 hS => ?_)
        have hZ := hz1.trans hZ
        have hb0 := hb0.keep (ho1 (o) (by omega))
        have hb1 := hb1.keep (ho1 (o + 1) (by omega))
        have hb2 := hb2.keep (ho1 (o + 2) (by omega))
        have hvg := vW_cpy hvu hbd
        have hbt := hbt.word (by omega) ho1 hpost hvg
        obtain ⟨hw, hf1⟩ := hpost
        refine lv_iload_n hx hb d_B_copy_31 rfl (lv_at hl 3 rfl) ?_
        refine hp_ifb_eq (tgt := 44) hx hb d_B_copy_32 (by decide) (fun c32 => ?_) (fun c32 => ?_)
        · skip
          refine hp_iconst (z := 1) hx hb d_B_copy_44 (by rfl) ?_
          rw [hQ]
          refine hp_zretQ hx hb hrt hlocks d_B_copy_45 true (by first | rfl | assumption | simp [bI]) hS hZ ?_
          first | rw [Int.toNat_natCast, Int.toNat_natCast] | rw [Int.toNat_natCast]
          rw [c32]
          exact Or.inl ⟨rfl, by omega, hbt⟩
        · skip
          refine lv_aload_n hx hb d_B_copy_35 rfl (lv_at hl 0 rfl) ?_
          refine hp_get (C := R_B) (T := F_B) (N := 2) (v := .ref (o + 1)) hx hb hG la_B hown hK.1 hb0 rfl 0 (by decide) (hG _ fl_B_11) (fun _ h9 => h9) rfl d_B_copy_36 ?_
          refine lv_iload_n hx hb d_B_copy_39 rfl (lv_at hl 1 rfl) ?_
          refine hp_aald hx hb hK.1 2 hb1 rfl rfl d_B_copy_40 (by omega) t (by omega) (by omega) (v := .ref (o + 3 + 39 * t)) (by rw [if_pos (by omega)]; rfl) ?_
          refine hp_callv (W.runV (As := []) (rest := []) ⟨hx, hb, hml, hown, hG⟩ (c_W_invert l E (o + 3 + 39 * t) (w u) (c u) (va_cpy (f u) (f t) 0 0 (c u)) hu3 hvg.2.2.2.1) (cwV 0 hG (hp_goodV ml_B_42 im_W_invert se_W_invert in_W co_W_invert) rfl rfl rfl hd_W_invert ⟨by rw [hRf]; exact Nat.le_of_ble_eq_true rfl, by rw [hRl]; exact Nat.le_of_ble_eq_true rfl⟩) (hp_preV (ci := 0) hp_nsn hK rfl hw ⟨hw, hf1⟩) rfl rfl hl.1 rfl (lv_room (Nat.le_of_ble_eq_true rfl)) d_B_copy_41 ⟨by rw [hRc]; exact Nat.le_of_ble_eq_true rfl, by rw [hRs]; exact Nat.le_of_ble_eq_true rfl⟩) hS (fun q h => by show _ ∧ _; rcases h with h | h <;> omega) (fun H locs hpost hz1 ho1 hS => ?_)
          have hZ := hz1.trans hZ
          have hbt := hbt.word (by omega) ho1 hpost (vW_iv hvg)
          rw [hp_up_up, hp_up_up, hp_up_up] at hbt
          refine hp_iconst (z := 1) hx hb d_B_copy_44 (by rfl) ?_
          rw [hQ]
          refine hp_zretQ hx hb hrt hlocks d_B_copy_45 true (by first | rfl | assumption | simp [bI]) hS hZ ?_
          first | rw [Int.toNat_natCast, Int.toNat_natCast] | rw [Int.toNat_natCast]
          rw [c32]
          exact Or.inl ⟨rfl, by omega, hbt⟩
    · skip
      have c11 := of_decide_eq_false c11
      refine hp_iconst (z := 0) hx hb d_B_copy_14 (by rfl) ?_
      rw [hQ]
      refine hp_zretQ hx hb hrt hlocks d_B_copy_15 false (by first | rfl | assumption | simp [bI]) hS hZ ?_
      exact Or.inr ⟨rfl, by omega, hbt⟩
