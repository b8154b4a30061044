set_option maxHeartbeats 4000000 in
set_option maxRecDepth 100000 in
/-- appendSimple(i, negative) -/
theorem c_N_appendSimple (l : Launch) (E : hp_E) (b w c fr to : Nat) (pw : Int) (i : Nat) (ng : Bool) (g : Nat → Int) (hw8 : w ≤ 8) (hto : to < 32) (hi : 1 ≤ i ∧ i < w) : Met l y_N_appendSimple (Cond.code y_N_appendSimple b_N_appendSimple 6 (none) :: G0) ({ frames := 1, cells := 0, slots := 0, locals := 22 }) (hp_P E [.ref b, .int (iI (i : Int)), .int (iI (bI ng))] (fun H => ca E H b (oN b fr to pw) ∧ ca E H (b + 1) (oW (b + 1) w c) ∧ ca E H (b + 3) (oR E b) ∧ ca E H (b + 4 + to) (ai E 9 g))) (hp_Qv (fun q => q = b ∨ q = b + 4 + to) (fun H => ∃ g1 : Nat → Int, bn_h w g1 (gs_si w i ng).1 ∧ ca E H b (oN b fr (to + 1) pw) ∧ ca E H (b + 4 + to) (ai E 9 g1))) 0 0 (fun q => q = b ∨ q = b + 4 + to) := by
  refine Met.ofW (cc := b_N_appendSimple) (maxL := 6) (ret := none) (by decide) rfl ?_
  intro p e s m args below meth cd s₁ Bd hml hv
  obtain ⟨hargs, hB, hK⟩ := hv
  have hx := Bd.exec
  have hb := Bd.bytes
  have hrt := Bd.returns
  have hts := atoms_spec (ws := Cond.code y_N_appendSimple b_N_appendSimple 6 (none) :: G0) Bd.pre
  have hG : ∀ w ∈ G0, w.before args s = true := fun w h => hts w (List.mem_cons_of_mem _ h)
  have hown : s.vm.findClass R_N = some m.cls := findClass_of_methodNamed Bd.named
  have hlocks := Bd.notSynchronized
  have hl := lv_entry ([.ref b, .int (iI (i : Int)), .int (iI (bI ng))]) (n := 6) (Nat.le_of_ble_eq_true rfl)
  rw [show entryFrame m args 6 = entryFrame m ([.ref b, .int (iI (i : Int)), .int (iI (bI ng))] : List Value).toArray 6 from by rw [hargs]]
  rw [lg_entry_eq]
  generalize (lg_sl ([.ref b, .int (iI (i : Int)), .int (iI (bI ng))]) ++ List.replicate (6 - (lg_sl ([.ref b, .int (iI (i : Int)), .int (iI (bI ng))])).length) Slot.unset).toArray = ls at hl ⊢
  have hl : lv_has ls 6 [(0, .ref b), (1, .int (iI (i : Int))), (2, .int (iI (bI ng)))] := hl
  obtain ⟨R, hR⟩ : ∃ R, R = (headSpec (Cond.code y_N_appendSimple b_N_appendSimple 6 (none) :: G0) { frames := 1, cells := 0, slots := 0, locals := 22 }).room := ⟨_, rfl⟩
  rw [← hR]
  have hRf : R.frames = 1 := by rw [hR]; rfl
  have hRl : R.locals = 22 := by rw [hR]; rfl
  have hRc : R.cells = 0 := by rw [hR]; rfl
  have hRs : R.slots = 0 := by rw [hR]; rfl
  obtain ⟨Q, hQ⟩ : ∃ Q, Q = MQ below (hp_Qv (fun q => q = b ∨ q = b + 4 + to) (fun H => ∃ g1 : Nat → Int, bn_h w g1 (gs_si w i ng).1 ∧ ca E H b (oN b fr (to + 1) pw) ∧ ca E H (b + 4 + to) (ai E 9 g1))) args s 0 0 (fun q => q = b ∨ q = b + 4 + to) := ⟨_, rfl⟩
  rw [← hQ]
  obtain ⟨H, hH⟩ : ∃ H, H = s.heap := ⟨_, rfl⟩
  obtain ⟨locs, hlocs⟩ : ∃ locs : List Loc, locs = [] := ⟨_, rfl⟩
  have hS : va_S (fun q => q = b ∨ q = b + 4 + to) s.heap H locs := by rw [hH, hlocs]; exact va_S.rf
  have hZ : H.size = s.heap.size := by rw [hH]
  rw [← hH] at hB
  rw [show W p l e R s m args below meth cd s.heap [] 0 0 Q (F0 m 0 ls []) = W p l e R s m args below meth cd H locs 0 0 Q (F0 m 0 ls []) from by rw [hH, hlocs]]
  obtain ⟨hn, hw, hq, hg⟩ := hB
  refine lv_aload_n hx hb d_N_appendSimple_0 rfl (lv_at hl 0 rfl) ?_
  refine hp_get (C := R_N) (T := F_N) (N := 6) (v := .ref (b + 1)) hx hb hG la_N hown hK.1 hn rfl 0 (by decide) (hG _ fl_N_12) (fun _ h9 => h9) rfl d_N_appendSimple_1 ?_
  refine hp_get (C := R_W) (T := F_W) (N := 3) (v := .int (iI (w : Int))) hx hb hG la_W hown hK.1 hw rfl 1 (by decide) (hG _ fl_N_55) (fun _ h9 => h9) rfl d_N_appendSimple_4 ?_
  refine lv_istore_n (lv' := [(3, .int (iI (w : Int))), (0, .ref b), (1, .int (iI (i : Int))), (2, .int (iI (bI ng)))]) hx hb d_N_appendSimple_7 rfl hl (by decide) rfl (fun ls hl => ?_)
  refine lv_aload_n hx hb d_N_appendSimple_8 rfl (lv_at hl 1 rfl) ?_
  refine hp_get (C := R_N) (T := F_N) (N := 6) (v := .ref (b + 3)) hx hb hG la_N hown hK.1 hn rfl 1 (by decide) (hG _ fl_N_20) (fun _ h9 => h9) rfl d_N_appendSimple_9 ?_
  refine lv_aload_n hx hb d_N_appendSimple_12 rfl (lv_at hl 1 rfl) ?_
  refine hp_get (C := R_N) (T := F_N) (N := 6) (v := .int (iI (to : Int))) hx hb hG la_N hown hK.1 hn rfl 4 (by decide) (hG _ fl_N_31) (fun _ h9 => h9) rfl d_N_appendSimple_13 ?_
  refine hp_aald hx hb hK.1 4 hq rfl rfl d_N_appendSimple_16 (by omega) to (by omega) (by omega) (v := .ref (b + 4 + to)) (by rw [if_pos (by omega)]; rfl) ?_
  refine lv_astore (lv' := [(4, .ref (b + 4 + to)), (3, .int (iI (w : Int))), (0, .ref b), (1, .int (iI (i : Int))), (2, .int (iI (bI ng)))]) hx hb d_N_appendSimple_17 hl (by decide) rfl (fun ls hl => ?_)
  refine hp_iconst (z := 1) hx hb d_N_appendSimple_19 (by rfl) ?_
  refine lv_istore (lv' := [(5, .int (iI 1)), (4, .ref (b + 4 + to)), (3, .int (iI (w : Int))), (0, .ref b), (1, .int (iI (i : Int))), (2, .int (iI (bI ng)))]) hx hb d_N_appendSimple_20 hl (by decide) rfl (fun ls hl => ?_)
  have L22 : ∀ (N : Nat) (q : Nat) (g1 : Nat → Int), w + 2 - q < N → (1 ≤ q ∧ q ≤ w + 1) → (∀ r, 1 ≤ r → r < q → g1 r = bn_pre w ng r) → ∀ (H : Heap) (locs : List Loc), va_S (fun q => q = b ∨ q = b + 4 + to) s.heap H locs → H.size = s.heap.size → ca E H b (oN b fr to pw) → ca E H (b + 1) (oW (b + 1) w c) → ca E H (b + 3) (oR E b) → ca E H (b + 4 + to) (ai E 9 g1) → ∀ ls : Array Slot, lv_has ls 6 [(0, .ref b), (1, .int (iI (i : Int))), (2, .int (iI (bI ng))), (3, .int (iI (w : Int))), (4, .ref (b + 4 + to)), (5, .int (iI (q : Int)))] → W p l e R s m args below meth cd H locs 0 0 Q (F0 m 22 ls []) := by
    intro N
    induction N with
    | zero => intro q g1 hN; exact absurd hN (by omega)
    | succ N ih =>
      intro q g1 hN hq1 hin H locs hS hZ hn hw hq hg ls hl
      have ih22 := ih
      refine lv_iload hx hb d_N_appendSimple_22 (lv_at hl 5 rfl) ?_
      refine lv_iload_n hx hb d_N_appendSimple_24 rfl (lv_at hl 3 rfl) ?_
      refine hp_icmp_gt (tgt := 54) hx hb d_N_appendSimple_25 (by decide) (by unfold iR; omega) (by unfold iR; omega) (fun c25 => ?_) (fun c25 => ?_)
      · skip
        refine lv_aload hx hb d_N_appendSimple_54 (lv_at hl 4 rfl) ?_
        refine lv_iload_n hx hb d_N_appendSimple_56 rfl (lv_at hl 2 rfl) ?_
        refine hp_ifb_eq (tgt := 66) hx hb d_N_appendSimple_57 (by decide) (fun c57 => ?_) (fun c57 => ?_)
        · skip
          refine lv_iload_n hx hb d_N_appendSimple_66 rfl (lv_at hl 1 rfl) ?_
          refine hp_callv (va_Run.run (va_runSN (As := [.ref (b + 4 + to), .int (iI (i : Int))]) (rest := []) ⟨hx, hb, hml, hown, hG⟩ (c_B_swapAt l E (b + 4 + to) 9 i g1 (by omega) (by omega)) ⟨va_cnB 2 hG (hp_goodC co_B_swapAt) rfl rfl rfl (hK.2 _ ns_N_80) (hG _ in_B) hd_B_swapAt.2 ⟨by rw [hRf]; exact Nat.le_of_ble_eq_true rfl, by rw [hRl]; exact Nat.le_of_ble_eq_true rfl⟩, hG _ st_B_swapAt, trivial⟩ (hp_preS hp_nsn hK hg) rfl rfl hl.1 rfl (lv_room (Nat.le_of_ble_eq_true rfl)) d_N_appendSimple_67 ⟨by rw [hRc]; exact Nat.le_of_ble_eq_true rfl, by rw [hRs]; exact Nat.le_of_ble_eq_true rfl⟩)) hS (fun q h => by rw [h]; first | exact Or.inl rfl | exact Or.inr rfl) (fun H locs hpost hz1 ho1 hS => ?_)
          have hZ := hz1.trans hZ
          have hn := hn.keep (ho1 (b) (by omega))
          have hw := hw.keep (ho1 (b + 1) (by omega))
          have hq := hq.keep (ho1 (b + 3) (by omega))
          have hg := hpost
          refine lv_aload_n hx hb d_N_appendSimple_70 rfl (lv_at hl 0 rfl) ?_
          refine lv_dup hx hb d_N_appendSimple_71 rfl ?_
          refine hp_get (C := R_N) (T := F_N) (N := 6) (v := .int (iI (to : Int))) hx hb hG la_N hown hK.1 hn rfl 4 (by decide) (hG _ fl_N_31) (fun _ h9 => h9) rfl d_N_appendSimple_72 ?_
          refine hp_iconst (z := 1) hx hb d_N_appendSimple_75 (by rfl) ?_
          refine hp_iadd hx hb d_N_appendSimple_76 ?_
          refine hp_put (C := R_N) (T := F_N) (N := 6) (v := .int (iI ((to : Int) + 1))) (ty := .int) hx hb hG la_N t_N tk_N n_N hown hK.1 hn hS (by first | exact Or.inl rfl | exact Or.inr rfl) rfl 4 (by decide) (hG _ fl_N_31) (fun _ h9 => h9) rfl (by decide +kernel) rfl rfl (Nat.le_of_ble_eq_true rfl) d_N_appendSimple_77 (fun H locs hnn hz1 ho1 hS => ?_)
          have hZ := hz1.trans hZ
          have hw := hw.keep (ho1 (b + 1) (by omega))
          have hq := hq.keep (ho1 (b + 3) (by omega))
          have hg := hg.keep (ho1 (b + 4 + to) (by omega))
          have hn : ca E H (b) (.inr (1, [.ref (b + 1), .ref (b + 3), .ref (b + 36), .int (iI (fr : Int)), .int (iI ((to : Int) + 1)), .int (iI pw)])) := hnn
          rw [hQ]
          refine hp_vretQ hx hb hrt hlocks d_N_appendSimple_80 hS hZ ?_
          rw [c57] at hin ⊢
          first | exact ⟨_, bn_si_f hi.1 hi.2 (fun r h1 h2 => hin r h1 (by omega)), hn, hg⟩ | exact ⟨_, bn_si_t hi.1 hi.2 (fun r h1 h2 => hin r h1 (by omega)), hn, hg⟩
        · skip
          refine lv_iload_n hx hb d_N_appendSimple_60 rfl (lv_at hl 3 rfl) ?_
          refine lv_iload_n hx hb d_N_appendSimple_61 rfl (lv_at hl 1 rfl) ?_
          refine hp_isub hx hb d_N_appendSimple_62 ?_
          refine lv_goto (tgt := 67) hx hb d_N_appendSimple_63 (by decide) ?_
          rw [show (((w : Int) - (i : Int)) : Int) = (((w - i) : Nat) : Int) from by omega]
          refine hp_callv (va_Run.run (va_runSN (As := [.ref (b + 4 + to), .int (iI (((w - i) : Nat) : Int))]) (rest := []) ⟨hx, hb, hml, hown, hG⟩ (c_B_swapAt l E (b + 4 + to) 9 (w - i) g1 (by omega) (by omega)) ⟨va_cnB 2 hG (hp_goodC co_B_swapAt) rfl rfl rfl (hK.2 _ ns_N_80) (hG _ in_B) hd_B_swapAt.2 ⟨by rw [hRf]; exact Nat.le_of_ble_eq_true rfl, by rw [hRl]; exact Nat.le_of_ble_eq_true rfl⟩, hG _ st_B_swapAt, trivial⟩ (hp_preS hp_nsn hK hg) rfl rfl hl.1 rfl (lv_room (Nat.le_of_ble_eq_true rfl)) d_N_appendSimple_67 ⟨by rw [hRc]; exact Nat.le_of_ble_eq_true rfl, by rw [hRs]; exact Nat.le_of_ble_eq_true rfl⟩)) hS (fun q h => by rw [h]; first | exact Or.inl rfl | exact Or.inr rfl) (fun H locs hpost hz1 ho1 hS => ?_)
          have hZ := hz1.trans hZ
          have hn := hn.keep (ho1 (b) (by omega))
          have hw := hw.keep (ho1 (b + 1) (by omega))
          have hq := hq.keep (ho1 (b + 3) (by omega))
          have hg := hpost
          refine lv_aload_n hx hb d_N_appendSimple_70 rfl (lv_at hl 0 rfl) ?_
          refine lv_dup hx hb d_N_appendSimple_71 rfl ?_
          refine hp_get (C := R_N) (T := F_N) (N := 6) (v := .int (iI (to : Int))) hx hb hG la_N hown hK.1 hn rfl 4 (by decide) (hG _ fl_N_31) (fun _ h9 => h9) rfl d_N_appendSimple_72 ?_
          refine hp_iconst (z := 1) hx hb d_N_appendSimple_75 (by rfl) ?_
          refine hp_iadd hx hb d_N_appendSimple_76 ?_
          refine hp_put (C := R_N) (T := F_N) (N := 6) (v := .int (iI ((to : Int) + 1))) (ty := .int) hx hb hG la_N t_N tk_N n_N hown hK.1 hn hS (by first | exact Or.inl rfl | exact Or.inr rfl) rfl 4 (by decide) (hG _ fl_N_31) (fun _ h9 => h9) rfl (by decide +kernel) rfl rfl (Nat.le_of_ble_eq_true rfl) d_N_appendSimple_77 (fun H locs hnn hz1 ho1 hS => ?_)
          have hZ := hz1.trans hZ
          have hw := hw.keep (ho1 (b + 1) (by omega))
          have hq := hq.keep (ho1 (b + 3) (by omega))
          have hg := hg.keep (ho1 (b + 4 + to) (by omega))
          have hn : ca E H (b) (.inr (1, [.ref (b + 1), .ref (b + 3), .ref (b + 36), .int (iI (fr : Int)), .int (iI ((to : Int) + 1)), .int (iI pw)])) := hnn
          rw [hQ]
          refine hp_vretQ hx hb hrt hlocks d_N_appendSimple_80 hS hZ ?_
          rw [c57] at hin ⊢
          first | exact ⟨_, bn_si_f hi.1 hi.2 (fun r h1 h2 => hin r h1 (by omega)), hn, hg⟩ | exact ⟨_, bn_si_t hi.1 hi.2 (fun r h1 h2 => hin r h1 (by omega)), hn, hg⟩
      · skip
        refine lv_aload hx hb d_N_appendSimple_28 (lv_at hl 4 rfl) ?_
        refine lv_iload hx hb d_N_appendSimple_30 (lv_at hl 5 rfl) ?_
        refine lv_iload_n hx hb d_N_appendSimple_32 rfl (lv_at hl 2 rfl) ?_
        refine hp_ifb_eq (tgt := 45) hx hb d_N_appendSimple_33 (by decide) (fun c33 => ?_) (fun c33 => ?_)
        · skip
          refine lv_iload hx hb d_N_appendSimple_45 (lv_at hl 5 rfl) ?_
          refine hp_iast hx hb hK.1 0 hg hS (by first | exact Or.inl rfl | exact Or.inr rfl) rfl d_N_appendSimple_47 (by omega) q (by omega) (by omega) (fun H locs hgn hz1 ho1 hS => ?_)
          have hZ := hz1.trans hZ
          have hn := hn.keep (ho1 (b) (by omega))
          have hw := hw.keep (ho1 (b + 1) (by omega))
          have hq := hq.keep (ho1 (b + 3) (by omega))
          have hg : ca E H (b + 4 + to) (ai E 9 (hp_up g1 q (q : Int))) := hgn
          refine hp_iinc (z := ((q : Int) + 1)) (lv' := [(5, .int (iI ((q : Int) + 1))), (0, .ref b), (1, .int (iI (i : Int))), (2, .int (iI (bI ng))), (3, .int (iI (w : Int))), (4, .ref (b + 4 + to))]) hx hb d_N_appendSimple_48 hl (k := 5) rfl (by omega) (by decide) rfl (fun ls hl => ?_)
          refine lv_goto (tgt := 22) hx hb d_N_appendSimple_51 (by decide) ?_
          exact ih22  (q + 1) (hp_up g1 q (q : Int)) (by omega) (by omega) (by intro r h1 h2; by_cases e9 : r = q; (rw [e9, hp_up_s]; unfold bn_pre; rw [c33]; first | rfl | simp); (rw [hp_up_n _ _ e9]; exact hin r h1 (by omega))) H locs hS hZ hn hw hq hg ls (lv_sub hl [1, 2, 3, 4, 5, 0] rfl)
        · skip
          refine lv_iload_n hx hb d_N_appendSimple_36 rfl (lv_at hl 3 rfl) ?_
          refine hp_iconst (z := 1) hx hb d_N_appendSimple_37 (by rfl) ?_
          refine hp_iadd hx hb d_N_appendSimple_38 ?_
          refine lv_iload hx hb d_N_appendSimple_39 (lv_at hl 5 rfl) ?_
          refine hp_isub hx hb d_N_appendSimple_41 ?_
          refine lv_goto (tgt := 47) hx hb d_N_appendSimple_42 (by decide) ?_
          refine hp_iast hx hb hK.1 0 hg hS (by first | exact Or.inl rfl | exact Or.inr rfl) rfl d_N_appendSimple_47 (by omega) q (by omega) (by omega) (fun H locs hgn hz1 ho1 hS => ?_)
          have hZ := hz1.trans hZ
          have hn := hn.keep (ho1 (b) (by omega))
          have hw := hw.keep (ho1 (b + 1) (by omega))
          have hq := hq.keep (ho1 (b + 3) (by omega))
          have hg : ca E H (b + 4 + to) (ai E 9 (hp_up g1 q (((w : Int) + 1) - (q : Int)))) := hgn
          refine hp_iinc (z := ((q : Int) + 1)) (lv' := [(5, .int (iI ((q : Int) + 1))), (0, .ref b), (1, .int (iI (i : Int))), (2, .int (iI (bI ng))), (3, .int (iI (w : Int))), (4, .ref (b + 4 + to))]) hx hb d_N_appendSimple_48 hl (k := 5) rfl (by omega) (by decide) rfl (fun ls hl => ?_)
          refine lv_goto (tgt := 22) hx hb d_N_appendSimple_51 (by decide) ?_
          exact ih22  (q + 1) (hp_up g1 q (((w : Int) + 1) - (q : Int))) (by omega) (by omega) (by intro r h1 h2; by_cases e9 : r = q; (rw [e9, hp_up_s]; unfold bn_pre; rw [c33]; first | rfl | simp); (rw [hp_up_n _ _ e9]; exact hin r h1 (by omega))) H locs hS hZ hn hw hq hg ls (lv_sub hl [1, 2, 3, 4, 5, 0] rfl)
  exact L22 (w + 2 - 1 + 1) 1 g (by omega) (by omega) (by intro r h1 h2; omega) H locs hS hZ hn hw hq hg ls (lv_sub hl [3, 4, 5, 2, 1, 0] rfl)
