def chA (E : hp_E) (H : Heap) (mo : Nat) (th : Int) (md fe : Nat) (ps : Int) (lf : Nat → Int) (nx bf : Nat → Nat) : Prop := ca E H mo (oM mo th (md : Int) (fe : Int) ps) ∧ ca E H (mo + 4) (ai E 8192 lf) ∧ ca E H (mo + 5) (ai E 8192 (fun k => (nx k : Int))) ∧ ca E H (mo + 6) (ai E 8192 (fun k => (bf k : Int)))
theorem ch_fe {nx bf : Nat → Nat} {md fe : Nat} {l r fs : List Nat} (h : ch_I nx bf md fe l r fs) : fe < md := by
  obtain ⟨-, ⟨-, n2, n3⟩, f⟩ := h
  match fs, f with
  | [], f => have : fe = 0 := f; omega
  | y :: fs, f => rw [f.1]; exact (n2 y (by simp)).2
theorem hp_up_x {α : Type} (f : Nat → α) (k x : Nat) : hp_up f k (f x) x = f x := by
  unfold hp_up
  split <;> rfl

set_option maxHeartbeats 4000000 in
set_option maxRecDepth 100000 in
/-- clearChain() -/
theorem c_M_clearChain (l : Launch) (E : hp_E) (mo : Nat) (th ps : Int) (md fe : Nat) (lf : Nat → Int) (nx bf : Nat → Nat) : Met l y_M_clearChain (Cond.code y_M_clearChain b_M_clearChain 2 (none) :: G0) ({ frames := 0, cells := 0, slots := 0, locals := 0 }) (hp_P E [.ref mo] (fun H => chA E H mo th md fe ps lf nx bf)) (hp_Qv (fun q => q = mo ∨ q = mo + 4 ∨ q = mo + 5 ∨ q = mo + 6) (fun H => ∃ (lf1 : Nat → Int), lf1 1 = 0 ∧ chA E H mo th 2 0 ps lf1 (hp_up nx 0 1) (hp_up bf 1 0) ∧ ch_I (hp_up nx 0 1) (hp_up bf 1 0) 2 0 [] [] [])) 0 0 (fun q => q = mo ∨ q = mo + 4 ∨ q = mo + 5 ∨ q = mo + 6) := by
  refine Met.ofW (cc := b_M_clearChain) (maxL := 2) (ret := none) (by decide) rfl ?_
  intro p e s m args below meth cd s₁ Bd hml hv
  obtain ⟨hargs, hB, hK⟩ := hv
  have hx := Bd.exec
  have hb := Bd.bytes
  have hrt := Bd.returns
  have hts := atoms_spec (ws := Cond.code y_M_clearChain b_M_clearChain 2 (none) :: G0) Bd.pre
  have hG : ∀ w ∈ G0, w.before args s = true := fun w h => hts w (List.mem_cons_of_mem _ h)
  have hown : s.vm.findClass R_M = some m.cls := findClass_of_methodNamed Bd.named
  have hlocks := Bd.notSynchronized
  have hl := lv_entry ([.ref mo]) (n := 2) (Nat.le_of_ble_eq_true rfl)
  rw [show entryFrame m args 2 = entryFrame m ([.ref mo] : List Value).toArray 2 from by rw [hargs]]
  rw [lg_entry_eq]
  generalize (lg_sl ([.ref mo]) ++ List.replicate (2 - (lg_sl ([.ref mo])).length) Slot.unset).toArray = ls at hl ⊢
  have hl : lv_has ls 2 [(0, .ref mo)] := hl
  obtain ⟨R, hR⟩ : ∃ R, R = (headSpec (Cond.code y_M_clearChain b_M_clearChain 2 (none) :: G0) { frames := 0, cells := 0, slots := 0, locals := 0 }).room := ⟨_, rfl⟩
  rw [← hR]
  have hRf : R.frames = 0 := by rw [hR]; rfl
  have hRl : R.locals = 0 := by rw [hR]; rfl
  have hRc : R.cells = 0 := by rw [hR]; rfl
  have hRs : R.slots = 0 := by rw [hR]; rfl
  obtain ⟨Q, hQ⟩ : ∃ Q, Q = MQ below (hp_Qv (fun q => q = mo ∨ q = mo + 4 ∨ q = mo + 5 ∨ q = mo + 6) (fun H => ∃ (lf1 : Nat → Int), lf1 1 = 0 ∧ chA E H mo th 2 0 ps lf1 (hp_up nx 0 1) (hp_up bf 1 0) ∧ ch_I (hp_up nx 0 1) (hp_up bf 1 0) 2 0 [] [] [])) args s 0 0 (fun q => q = mo ∨ q = mo + 4 ∨ q = mo + 5 ∨ q = mo + 6) := ⟨_, rfl⟩
  rw [← hQ]
  obtain ⟨H, hH⟩ : ∃ H, H = s.heap := ⟨_, rfl⟩
  obtain ⟨locs, hlocs⟩ : ∃ locs : List Loc, locs = [] := ⟨_, rfl⟩
  have hS : va_S (fun q => q = mo ∨ q = mo + 4 ∨ q = mo + 5 ∨ q = mo + 6) s.heap H locs := by rw [hH, hlocs]; exact va_S.rf
  have hZ : H.size = s.heap.size := by rw [hH]
  rw [← hH] at hB
  rw [show W p l e R s m args below meth cd s.heap [] 0 0 Q (F0 m 0 ls []) = W p l e R s m args below meth cd H locs 0 0 Q (F0 m 0 ls []) from by rw [hH, hlocs]]
  obtain ⟨hm, hlf, hnx, hbf⟩ := hB
  refine hp_iconst (z := 0) hx hb d_M_clearChain_0 (by rfl) ?_
  refine lv_istore_n (lv' := [(1, .int (iI 0)), (0, .ref mo)]) hx hb d_M_clearChain_1 rfl hl (by decide) rfl (fun ls hl => ?_)
  have L2 : ∀ (N : Nat) (k : Nat) (lf1 : Nat → Int), 2 - k < N → (k ≤ 2) → (∀ i, i < k → lf1 i = 0) → ∀ (H : Heap) (locs : List Loc), va_S (fun q => q = mo ∨ q = mo + 4 ∨ q = mo + 5 ∨ q = mo + 6) s.heap H locs → H.size = s.heap.size → ca E H mo (oM mo th (md : Int) (fe : Int) ps) → ca E H (mo + 4) (ai E 8192 lf1) → ca E H (mo + 5) (ai E 8192 (fun k => (nx k : Int))) → ca E H (mo + 6) (ai E 8192 (fun k => (bf k : Int))) → ∀ ls : Array Slot, lv_has ls 2 [(0, .ref mo), (1, .int (iI (k : Int)))] → W p l e R s m args below meth cd H locs 0 0 Q (F0 m 2 ls []) := by
    intro N
    induction N with
    | zero => intro k lf1 hN; exact absurd hN (by omega)
    | succ N ih =>
      intro k lf1 hN hk hz H locs hS hZ hm hlf hnx hbf ls hl
      have ih2 := ih
      refine lv_iload_n hx hb d_M_clearChain_2 rfl (lv_at hl 1 rfl) ?_
      refine hp_iconst (z := 2) hx hb d_M_clearChain_3 (by rfl) ?_
      refine hp_icmp_ge (tgt := 20) hx hb d_M_clearChain_4 (by decide) (by unfold iR; omega) (by unfold iR; omega) (fun c4 => ?_) (fun c4 => ?_)
      · skip
        refine lv_aload_n hx hb d_M_clearChain_20 rfl (lv_at hl 0 rfl) ?_
        refine hp_get (C := R_M) (T := F_M) (N := 19) (v := .ref (mo + 5)) hx hb hG la_M hown hK.1 hm rfl 5 (by decide) (hG _ fl_M_22) (fun _ h9 => h9) rfl d_M_clearChain_21 ?_
        refine hp_iconst (z := 0) hx hb d_M_clearChain_24 (by rfl) ?_
        refine hp_iconst (z := 1) hx hb d_M_clearChain_25 (by rfl) ?_
        refine hp_iast hx hb hK.1 0 hnx hS (by show _ ∨ _; omega) rfl d_M_clearChain_26 (by omega) 0 (by omega) (by omega) (fun H locs hnxn hz1 ho1 hS => ?_)
        rw [show (1 : Int) = ((1 : Nat) : Int) from by omega, nn_up] at hnxn
        have hZ := hz1.trans hZ
        have hm := hm.keep (ho1 (mo) (by omega))
        have hlf := hlf.keep (ho1 (mo + 4) (by omega))
        have hbf := hbf.keep (ho1 (mo + 6) (by omega))
        have hnx : ca E H (mo + 5) (ai E 8192 (fun k => (((hp_up nx 0 1) k : Nat) : Int))) := hnxn
        refine lv_aload_n hx hb d_M_clearChain_27 rfl (lv_at hl 0 rfl) ?_
        refine hp_get (C := R_M) (T := F_M) (N := 19) (v := .ref (mo + 6)) hx hb hG la_M hown hK.1 hm rfl 6 (by decide) (hG _ fl_M_25) (fun _ h9 => h9) rfl d_M_clearChain_28 ?_
        refine hp_iconst (z := 1) hx hb d_M_clearChain_31 (by rfl) ?_
        refine hp_iconst (z := 0) hx hb d_M_clearChain_32 (by rfl) ?_
        refine hp_iast hx hb hK.1 0 hbf hS (by show _ ∨ _; omega) rfl d_M_clearChain_33 (by omega) 1 (by omega) (by omega) (fun H locs hbfn hz1 ho1 hS => ?_)
        rw [show (0 : Int) = ((0 : Nat) : Int) from by omega, nn_up] at hbfn
        have hZ := hz1.trans hZ
        have hm := hm.keep (ho1 (mo) (by omega))
        have hlf := hlf.keep (ho1 (mo + 4) (by omega))
        have hnx := hnx.keep (ho1 (mo + 5) (by omega))
        have hbf : ca E H (mo + 6) (ai E 8192 (fun k => (((hp_up bf 1 0) k : Nat) : Int))) := hbfn
        refine lv_aload_n hx hb d_M_clearChain_34 rfl (lv_at hl 0 rfl) ?_
        refine hp_iconst (z := 2) hx hb d_M_clearChain_35 (by rfl) ?_
        refine hp_put (C := R_M) (T := F_M) (N := 19) (v := .int (iI 2)) (ty := .int) hx hb hG la_M t_M tk_M n_M hown hK.1 hm hS (by show _ ∨ _; omega) rfl 7 (by decide) (hG _ fl_M_88) (fun _ h9 => h9) rfl (by decide +kernel) rfl rfl (Nat.le_of_ble_eq_true rfl) d_M_clearChain_36 (fun H locs hmn hz1 ho1 hS => ?_)
        have hZ := hz1.trans hZ
        have hlf := hlf.keep (ho1 (mo + 4) (by omega))
        have hnx := hnx.keep (ho1 (mo + 5) (by omega))
        have hbf := hbf.keep (ho1 (mo + 6) (by omega))
        have hm : ca E H (mo) (.inr (3, [.int (iI th), .ref (mo + 1), .ref (mo + 2), .ref (mo + 3), .ref (mo + 4), .ref (mo + 5), .ref (mo + 6), .int (iI 2), .int (iI (fe : Int)), .int (iI ps), .ref (mo + 7), .ref (mo + 8), .ref (mo + 9), .ref (mo + 10), .ref (mo + 11), .ref (mo + 12), .ref (mo + 13), .ref (mo + 14), .ref (mo + 15)])) := hmn
        refine lv_aload_n hx hb d_M_clearChain_39 rfl (lv_at hl 0 rfl) ?_
        refine hp_iconst (z := 0) hx hb d_M_clearChain_40 (by rfl) ?_
        refine hp_put (C := R_M) (T := F_M) (N := 19) (v := .int (iI 0)) (ty := .int) hx hb hG la_M t_M tk_M n_M hown hK.1 hm hS (by show _ ∨ _; omega) rfl 8 (by decide) (hG _ fl_M_91) (fun _ h9 => h9) rfl (by decide +kernel) rfl rfl (Nat.le_of_ble_eq_true rfl) d_M_clearChain_41 (fun H locs hmn hz1 ho1 hS => ?_)
        have hZ := hz1.trans hZ
        have hlf := hlf.keep (ho1 (mo + 4) (by omega))
        have hnx := hnx.keep (ho1 (mo + 5) (by omega))
        have hbf := hbf.keep (ho1 (mo + 6) (by omega))
        have hm : ca E H (mo) (.inr (3, [.int (iI th), .ref (mo + 1), .ref (mo + 2), .ref (mo + 3), .ref (mo + 4), .ref (mo + 5), .ref (mo + 6), .int (iI 2), .int (iI 0), .int (iI ps), .ref (mo + 7), .ref (mo + 8), .ref (mo + 9), .ref (mo + 10), .ref (mo + 11), .ref (mo + 12), .ref (mo + 13), .ref (mo + 14), .ref (mo + 15)])) := hmn
        rw [hQ]
        refine hp_vretQ hx hb hrt hlocks d_M_clearChain_44 hS hZ ?_
        refine ⟨lf1, hz 1 (by omega), ⟨hm, hlf, hnx, hbf⟩, ⟨trivial, hp_up_s _ _ _, hp_up_s _ _ _, trivial⟩, ⟨List.nodup_nil, fun z h9 => by simp at h9, rfl⟩, rfl⟩
      · skip
        refine lv_aload_n hx hb d_M_clearChain_7 rfl (lv_at hl 0 rfl) ?_
        refine hp_get (C := R_M) (T := F_M) (N := 19) (v := .ref (mo + 4)) hx hb hG la_M hown hK.1 hm rfl 4 (by decide) (hG _ fl_M_19) (fun _ h9 => h9) rfl d_M_clearChain_8 ?_
        refine lv_iload_n hx hb d_M_clearChain_11 rfl (lv_at hl 1 rfl) ?_
        refine hp_iconst (z := 0) hx hb d_M_clearChain_12 (by rfl) ?_
        refine hp_iast hx hb hK.1 0 hlf hS (by show _ ∨ _; omega) rfl d_M_clearChain_13 (by omega) k (by omega) (by omega) (fun H locs hlfn hz1 ho1 hS => ?_)
        have hZ := hz1.trans hZ
        have hm := hm.keep (ho1 (mo) (by omega))
        have hnx := hnx.keep (ho1 (mo + 5) (by omega))
        have hbf := hbf.keep (ho1 (mo + 6) (by omega))
        have hlf : ca E H (mo + 4) (ai E 8192 (hp_up lf1 k 0)) := hlfn
        refine hp_iinc (z := ((k : Int) + 1)) (lv' := [(1, .int (iI ((k : Int) + 1))), (0, .ref mo)]) hx hb d_M_clearChain_14 hl (k := 1) rfl (by omega) (by decide) rfl (fun ls hl => ?_)
        refine lv_goto (tgt := 2) hx hb d_M_clearChain_17 (by decide) ?_
        exact ih2  (k + 1) (hp_up lf1 k 0) (by omega) (by omega) (by intro i h9; by_cases e9 : i = k; (rw [e9, hp_up_s]); (rw [hp_up_n _ _ e9]; exact hz i (by omega))) H locs hS hZ hm hlf hnx hbf ls (lv_sub hl [1, 0] rfl)
  exact L2 (2 - 0 + 1) 0 lf (by omega) (by omega) (by intro i h; omega) H locs hS hZ hm hlf hnx hbf ls (lv_sub hl [1, 0] rfl)

set_option maxHeartbeats 4000000 in
set_option maxRecDepth 100000 in
/-- insert(behind, l) -/
theorem c_M_insert (l : Launch) (E : hp_E) (mo : Nat) (th ps : Int) (md fe : Nat) (lf : Nat → Int) (nx bf : Nat → Nat) (ll rr ff : List Nat) (lt : Int) (hI : ch_I nx bf md fe ll rr ff) (hmx : md ≤ 8192) (hln : ll.length + rr.length + 2 < 8192) : Met l y_M_insert (Cond.code y_M_insert b_M_insert 4 (some .int) :: G0) ({ frames := 0, cells := 0, slots := 0, locals := 0 }) (hp_P E [.ref mo, .int (iI ((ch_h ll 0 : Nat) : Int)), .int (iI lt)] (fun H => chA E H mo th md fe ps lf nx bf)) (hp_Qi (fun q => q = mo ∨ q = mo + 4 ∨ q = mo + 5 ∨ q = mo + 6) (fun q H => ∃ (k md1 fe1 : Nat) (lf1 : Nat → Int) (nx1 bf1 : Nat → Nat) (ff1 : List Nat), q = (k : Int) ∧ 2 ≤ k ∧ md1 ≤ 8192 ∧ lf1 k = lt ∧ (∀ z, z ≠ k → lf1 z = lf z) ∧ chA E H mo th md1 fe1 ps lf1 nx1 bf1 ∧ ch_I nx1 bf1 md1 fe1 (k :: ll) rr ff1)) 0 0 (fun q => q = mo ∨ q = mo + 4 ∨ q = mo + 5 ∨ q = mo + 6) := by
  refine Met.ofW (cc := b_M_insert) (maxL := 4) (ret := some .int) (by decide) rfl ?_
  intro p e s m args below meth cd s₁ Bd hml hv
  obtain ⟨hargs, hB, hK⟩ := hv
  have hx := Bd.exec
  have hb := Bd.bytes
  have hrt := Bd.returns
  have hts := atoms_spec (ws := Cond.code y_M_insert b_M_insert 4 (some .int) :: G0) Bd.pre
  have hG : ∀ w ∈ G0, w.before args s = true := fun w h => hts w (List.mem_cons_of_mem _ h)
  have hown : s.vm.findClass R_M = some m.cls := findClass_of_methodNamed Bd.named
  have hlocks := Bd.notSynchronized
  have hl := lv_entry ([.ref mo, .int (iI ((ch_h ll 0 : Nat) : Int)), .int (iI lt)]) (n := 4) (Nat.le_of_ble_eq_true rfl)
  rw [show entryFrame m args 4 = entryFrame m ([.ref mo, .int (iI ((ch_h ll 0 : Nat) : Int)), .int (iI lt)] : List Value).toArray 4 from by rw [hargs]]
  rw [lg_entry_eq]
  generalize (lg_sl ([.ref mo, .int (iI ((ch_h ll 0 : Nat) : Int)), .int (iI lt)]) ++ List.replicate (4 - (lg_sl ([.ref mo, .int (iI ((ch_h ll 0 : Nat) : Int)), .int (iI lt)])).length) Slot.unset).toArray = ls at hl ⊢
  have hl : lv_has ls 4 [(0, .ref mo), (1, .int (iI ((ch_h ll 0 : Nat) : Int))), (2, .int (iI lt))] := hl
  obtain ⟨R, hR⟩ : ∃ R, R = (headSpec (Cond.code y_M_insert b_M_insert 4 (some .int) :: G0) { frames := 0, cells := 0, slots := 0, locals := 0 }).room := ⟨_, rfl⟩
  rw [← hR]
  have hRf : R.frames = 0 := by rw [hR]; rfl
  have hRl : R.locals = 0 := by rw [hR]; rfl
  have hRc : R.cells = 0 := by rw [hR]; rfl
  have hRs : R.slots = 0 := by rw [hR]; rfl
  obtain ⟨Q, hQ⟩ : ∃ Q, Q = MQ below (hp_Qi (fun q => q = mo ∨ q = mo + 4 ∨ q = mo + 5 ∨ q = mo + 6) (fun q H => ∃ (k md1 fe1 : Nat) (lf1 : Nat → Int) (nx1 bf1 : Nat → Nat) (ff1 : List Nat), q = (k : Int) ∧ 2 ≤ k ∧ md1 ≤ 8192 ∧ lf1 k = lt ∧ (∀ z, z ≠ k → lf1 z = lf z) ∧ chA E H mo th md1 fe1 ps lf1 nx1 bf1 ∧ ch_I nx1 bf1 md1 fe1 (k :: ll) rr ff1)) args s 0 0 (fun q => q = mo ∨ q = mo + 4 ∨ q = mo + 5 ∨ q = mo + 6) := ⟨_, rfl⟩
  rw [← hQ]
  obtain ⟨H, hH⟩ : ∃ H, H = s.heap := ⟨_, rfl⟩
  obtain ⟨locs, hlocs⟩ : ∃ locs : List Loc, locs = [] := ⟨_, rfl⟩
  have hS : va_S (fun q => q = mo ∨ q = mo + 4 ∨ q = mo + 5 ∨ q = mo + 6) s.heap H locs := by rw [hH, hlocs]; exact va_S.rf
  have hZ : H.size = s.heap.size := by rw [hH]
  rw [← hH] at hB
  rw [show W p l e R s m args below meth cd s.heap [] 0 0 Q (F0 m 0 ls []) = W p l e R s m args below meth cd H locs 0 0 Q (F0 m 0 ls []) from by rw [hH, hlocs]]
  obtain ⟨hm, hlf, hnx, hbf⟩ := hB
  have hrg := ch_rng hI
  have hfe := ch_fe hI
  refine lv_aload_n hx hb d_M_insert_0 rfl (lv_at hl 0 rfl) ?_
  refine hp_get (C := R_M) (T := F_M) (N := 19) (v := .int (iI (fe : Int))) hx hb hG la_M hown hK.1 hm rfl 8 (by decide) (hG _ fl_M_91) (fun _ h9 => h9) rfl d_M_insert_1 ?_
  refine lv_istore_n (lv' := [(3, .int (iI (fe : Int))), (0, .ref mo), (1, .int (iI ((ch_h ll 0 : Nat) : Int))), (2, .int (iI lt))]) hx hb d_M_insert_4 rfl hl (by decide) rfl (fun ls hl => ?_)
  refine lv_iload_n hx hb d_M_insert_5 rfl (lv_at hl 0 rfl) ?_
  refine hp_if_le (tgt := 22) hx hb d_M_insert_6 (by decide) (by unfold iR; omega) (fun c6 => ?_) (fun c6 => ?_)
  · skip
    obtain ⟨emd, hkn, hnn, hff⟩ := ch_new2 hI (by omega)
    refine lv_aload_n hx hb d_M_insert_22 rfl (lv_at hl 1 rfl) ?_
    refine hp_get (C := R_M) (T := F_M) (N := 19) (v := .int (iI (md : Int))) hx hb hG la_M hown hK.1 hm rfl 7 (by decide) (hG _ fl_M_88) (fun _ h9 => h9) rfl d_M_insert_23 ?_
    refine lv_istore_n (lv' := [(3, .int (iI (md : Int))), (0, .ref mo), (1, .int (iI ((ch_h ll 0 : Nat) : Int))), (2, .int (iI lt))]) hx hb d_M_insert_26 rfl hl (by decide) rfl (fun ls hl => ?_)
    refine lv_aload_n hx hb d_M_insert_27 rfl (lv_at hl 1 rfl) ?_
    refine lv_dup hx hb d_M_insert_28 rfl ?_
    refine hp_get (C := R_M) (T := F_M) (N := 19) (v := .int (iI (md : Int))) hx hb hG la_M hown hK.1 hm rfl 7 (by decide) (hG _ fl_M_88) (fun _ h9 => h9) rfl d_M_insert_29 ?_
    refine hp_iconst (z := 1) hx hb d_M_insert_32 (by rfl) ?_
    refine hp_iadd hx hb d_M_insert_33 ?_
    refine hp_put (C := R_M) (T := F_M) (N := 19) (v := .int (iI ((md : Int) + 1))) (ty := .int) hx hb hG la_M t_M tk_M n_M hown hK.1 hm hS (by show _ ∨ _; omega) rfl 7 (by decide) (hG _ fl_M_88) (fun _ h9 => h9) rfl (by decide +kernel) rfl rfl (Nat.le_of_ble_eq_true rfl) d_M_insert_34 (fun H locs hmn hz1 ho1 hS => ?_)
    have hZ := hz1.trans hZ
    have hlf := hlf.keep (ho1 (mo + 4) (by omega))
    have hnx := hnx.keep (ho1 (mo + 5) (by omega))
    have hbf := hbf.keep (ho1 (mo + 6) (by omega))
    have hm : ca E H (mo) (.inr (3, [.int (iI th), .ref (mo + 1), .ref (mo + 2), .ref (mo + 3), .ref (mo + 4), .ref (mo + 5), .ref (mo + 6), .int (iI ((md : Int) + 1)), .int (iI (fe : Int)), .int (iI ps), .ref (mo + 7), .ref (mo + 8), .ref (mo + 9), .ref (mo + 10), .ref (mo + 11), .ref (mo + 12), .ref (mo + 13), .ref (mo + 14), .ref (mo + 15)])) := hmn
    refine lv_aload_n hx hb d_M_insert_37 rfl (lv_at hl 1 rfl) ?_
    refine hp_get (C := R_M) (T := F_M) (N := 19) (v := .ref (mo + 4)) hx hb hG la_M hown hK.1 hm rfl 4 (by decide) (hG _ fl_M_19) (fun _ h9 => h9) rfl d_M_insert_38 ?_
    refine lv_iload_n hx hb d_M_insert_41 rfl (lv_at hl 0 rfl) ?_
    refine lv_iload_n hx hb d_M_insert_42 rfl (lv_at hl 3 rfl) ?_
    refine hp_iast hx hb hK.1 0 hlf hS (by show _ ∨ _; omega) rfl d_M_insert_43 (by omega) md (by omega) (by omega) (fun H locs hlfn hz1 ho1 hS => ?_)
    have hZ := hz1.trans hZ
    have hm := hm.keep (ho1 (mo) (by omega))
    have hnx := hnx.keep (ho1 (mo + 5) (by omega))
    have hbf := hbf.keep (ho1 (mo + 6) (by omega))
    have hlf : ca E H (mo + 4) (ai E 8192 (hp_up lf md lt)) := hlfn
    refine lv_aload_n hx hb d_M_insert_44 rfl (lv_at hl 1 rfl) ?_
    refine hp_get (C := R_M) (T := F_M) (N := 19) (v := .ref (mo + 5)) hx hb hG la_M hown hK.1 hm rfl 5 (by decide) (hG _ fl_M_22) (fun _ h9 => h9) rfl d_M_insert_45 ?_
    refine lv_iload_n hx hb d_M_insert_48 rfl (lv_at hl 0 rfl) ?_
    refine lv_aload_n hx hb d_M_insert_49 rfl (lv_at hl 1 rfl) ?_
    refine hp_get (C := R_M) (T := F_M) (N := 19) (v := .ref (mo + 5)) hx hb hG la_M hown hK.1 hm rfl 5 (by decide) (hG _ fl_M_22) (fun _ h9 => h9) rfl d_M_insert_50 ?_
    refine lv_iload_n hx hb d_M_insert_53 rfl (lv_at hl 2 rfl) ?_
    refine hp_iald hx hb hK.1 0 hnx rfl d_M_insert_54 (by omega) (ch_h ll 0) (by omega) (by omega) ?_
    refine hp_iast hx hb hK.1 0 hnx hS (by show _ ∨ _; omega) rfl d_M_insert_55 (by omega) md (by omega) (by omega) (fun H locs hnxn hz1 ho1 hS => ?_)
    rw [show (((nx (ch_h ll 0) : Nat) : Int) : Int) = (((nx (ch_h ll 0)) : Nat) : Int) from by omega, nn_up] at hnxn
    have hZ := hz1.trans hZ
    have hm := hm.keep (ho1 (mo) (by omega))
    have hlf := hlf.keep (ho1 (mo + 4) (by omega))
    have hbf := hbf.keep (ho1 (mo + 6) (by omega))
    have hnx : ca E H (mo + 5) (ai E 8192 (fun k => (((hp_up nx md (nx (ch_h ll 0))) k : Nat) : Int))) := hnxn
    refine lv_aload_n hx hb d_M_insert_56 rfl (lv_at hl 1 rfl) ?_
    refine hp_get (C := R_M) (T := F_M) (N := 19) (v := .ref (mo + 6)) hx hb hG la_M hown hK.1 hm rfl 6 (by decide) (hG _ fl_M_25) (fun _ h9 => h9) rfl d_M_insert_57 ?_
    refine lv_iload_n hx hb d_M_insert_60 rfl (lv_at hl 0 rfl) ?_
    refine lv_iload_n hx hb d_M_insert_61 rfl (lv_at hl 2 rfl) ?_
    refine hp_iast hx hb hK.1 0 hbf hS (by show _ ∨ _; omega) rfl d_M_insert_62 (by omega) md (by omega) (by omega) (fun H locs hbfn hz1 ho1 hS => ?_)
    rw [show (((ch_h ll 0 : Nat) : Int) : Int) = (((ch_h ll 0) : Nat) : Int) from by omega, nn_up] at hbfn
    have hZ := hz1.trans hZ
    have hm := hm.keep (ho1 (mo) (by omega))
    have hlf := hlf.keep (ho1 (mo + 4) (by omega))
    have hnx := hnx.keep (ho1 (mo + 5) (by omega))
    have hbf : ca E H (mo + 6) (ai E 8192 (fun k => (((hp_up bf md (ch_h ll 0)) k : Nat) : Int))) := hbfn
    refine lv_aload_n hx hb d_M_insert_63 rfl (lv_at hl 1 rfl) ?_
    refine hp_get (C := R_M) (T := F_M) (N := 19) (v := .ref (mo + 6)) hx hb hG la_M hown hK.1 hm rfl 6 (by decide) (hG _ fl_M_25) (fun _ h9 => h9) rfl d_M_insert_64 ?_
    refine lv_aload_n hx hb d_M_insert_67 rfl (lv_at hl 1 rfl) ?_
    refine hp_get (C := R_M) (T := F_M) (N := 19) (v := .ref (mo + 5)) hx hb hG la_M hown hK.1 hm rfl 5 (by decide) (hG _ fl_M_22) (fun _ h9 => h9) rfl d_M_insert_68 ?_
    refine lv_iload_n hx hb d_M_insert_71 rfl (lv_at hl 2 rfl) ?_
    refine hp_iald hx hb hK.1 0 hnx rfl d_M_insert_72 (by omega) (ch_h ll 0) (by omega) (by omega) ?_
    refine lv_iload_n hx hb d_M_insert_73 rfl (lv_at hl 0 rfl) ?_
    have hy9 : ((hp_up nx md (nx (ch_h ll 0))) (ch_h ll 0)) < 8192 := by rw [hp_up_x, hI.1.2.1]; omega
    refine hp_iast hx hb hK.1 0 hbf hS (by show _ ∨ _; omega) rfl d_M_insert_74 (by omega) ((hp_up nx md (nx (ch_h ll 0))) (ch_h ll 0)) (by omega) (by omega) (fun H locs hbfn hz1 ho1 hS => ?_)
    rw [nn_up] at hbfn
    have hZ := hz1.trans hZ
    have hm := hm.keep (ho1 (mo) (by omega))
    have hlf := hlf.keep (ho1 (mo + 4) (by omega))
    have hnx := hnx.keep (ho1 (mo + 5) (by omega))
    have hbf : ca E H (mo + 6) (ai E 8192 (fun k => (((hp_up (hp_up bf md (ch_h ll 0)) ((hp_up nx md (nx (ch_h ll 0))) (ch_h ll 0)) md) k : Nat) : Int))) := hbfn
    refine lv_aload_n hx hb d_M_insert_75 rfl (lv_at hl 1 rfl) ?_
    refine hp_get (C := R_M) (T := F_M) (N := 19) (v := .ref (mo + 5)) hx hb hG la_M hown hK.1 hm rfl 5 (by decide) (hG _ fl_M_22) (fun _ h9 => h9) rfl d_M_insert_76 ?_
    refine lv_iload_n hx hb d_M_insert_79 rfl (lv_at hl 2 rfl) ?_
    refine lv_iload_n hx hb d_M_insert_80 rfl (lv_at hl 0 rfl) ?_
    refine hp_iast hx hb hK.1 0 hnx hS (by show _ ∨ _; omega) rfl d_M_insert_81 (by omega) (ch_h ll 0) (by omega) (by omega) (fun H locs hnxn hz1 ho1 hS => ?_)
    rw [nn_up] at hnxn
    have hZ := hz1.trans hZ
    have hm := hm.keep (ho1 (mo) (by omega))
    have hlf := hlf.keep (ho1 (mo + 4) (by omega))
    have hbf := hbf.keep (ho1 (mo + 6) (by omega))
    have hnx : ca E H (mo + 5) (ai E 8192 (fun k => (((hp_up (hp_up nx md (nx (ch_h ll 0))) (ch_h ll 0) md) k : Nat) : Int))) := hnxn
    refine lv_iload_n hx hb d_M_insert_82 rfl (lv_at hl 0 rfl) ?_
    rw [hQ]
    refine hp_iretQ hx hb hrt hlocks d_M_insert_83 hS hZ ?_
    refine ⟨md, (md + 1), fe, _, _, _, [], rfl, by omega, by omega, hp_up_s _ _ _, fun z h9 => hp_up_n _ _ h9, ⟨hm, hlf, hnx, hbf⟩, ch_put hI hkn (by omega) hnn hff rfl⟩
  · skip
    obtain ⟨ff1, ef, hkn, hk2, hkm, hnn, hff⟩ := ch_new1 hI rfl (by omega)
    refine lv_aload_n hx hb d_M_insert_9 rfl (lv_at hl 1 rfl) ?_
    refine lv_aload_n hx hb d_M_insert_10 rfl (lv_at hl 1 rfl) ?_
    refine hp_get (C := R_M) (T := F_M) (N := 19) (v := .ref (mo + 5)) hx hb hG la_M hown hK.1 hm rfl 5 (by decide) (hG _ fl_M_22) (fun _ h9 => h9) rfl d_M_insert_11 ?_
    refine lv_iload_n hx hb d_M_insert_14 rfl (lv_at hl 0 rfl) ?_
    refine hp_iald hx hb hK.1 0 hnx rfl d_M_insert_15 (by omega) fe (by omega) (by omega) ?_
    refine hp_put (C := R_M) (T := F_M) (N := 19) (v := .int (iI ((nx fe : Nat) : Int))) (ty := .int) hx hb hG la_M t_M tk_M n_M hown hK.1 hm hS (by show _ ∨ _; omega) rfl 8 (by decide) (hG _ fl_M_91) (fun _ h9 => h9) rfl (by decide +kernel) rfl rfl (Nat.le_of_ble_eq_true rfl) d_M_insert_16 (fun H locs hmn hz1 ho1 hS => ?_)
    have hZ := hz1.trans hZ
    have hlf := hlf.keep (ho1 (mo + 4) (by omega))
    have hnx := hnx.keep (ho1 (mo + 5) (by omega))
    have hbf := hbf.keep (ho1 (mo + 6) (by omega))
    have hm : ca E H (mo) (.inr (3, [.int (iI th), .ref (mo + 1), .ref (mo + 2), .ref (mo + 3), .ref (mo + 4), .ref (mo + 5), .ref (mo + 6), .int (iI (md : Int)), .int (iI ((nx fe : Nat) : Int)), .int (iI ps), .ref (mo + 7), .ref (mo + 8), .ref (mo + 9), .ref (mo + 10), .ref (mo + 11), .ref (mo + 12), .ref (mo + 13), .ref (mo + 14), .ref (mo + 15)])) := hmn
    refine lv_goto (tgt := 37) hx hb d_M_insert_19 (by decide) ?_
    refine lv_aload_n hx hb d_M_insert_37 rfl (lv_at hl 1 rfl) ?_
    refine hp_get (C := R_M) (T := F_M) (N := 19) (v := .ref (mo + 4)) hx hb hG la_M hown hK.1 hm rfl 4 (by decide) (hG _ fl_M_19) (fun _ h9 => h9) rfl d_M_insert_38 ?_
    refine lv_iload_n hx hb d_M_insert_41 rfl (lv_at hl 0 rfl) ?_
    refine lv_iload_n hx hb d_M_insert_42 rfl (lv_at hl 3 rfl) ?_
    refine hp_iast hx hb hK.1 0 hlf hS (by show _ ∨ _; omega) rfl d_M_insert_43 (by omega) fe (by omega) (by omega) (fun H locs hlfn hz1 ho1 hS => ?_)
    have hZ := hz1.trans hZ
    have hm := hm.keep (ho1 (mo) (by omega))
    have hnx := hnx.keep (ho1 (mo + 5) (by omega))
    have hbf := hbf.keep (ho1 (mo + 6) (by omega))
    have hlf : ca E H (mo + 4) (ai E 8192 (hp_up lf fe lt)) := hlfn
    refine lv_aload_n hx hb d_M_insert_44 rfl (lv_at hl 1 rfl) ?_
    refine hp_get (C := R_M) (T := F_M) (N := 19) (v := .ref (mo + 5)) hx hb hG la_M hown hK.1 hm rfl 5 (by decide) (hG _ fl_M_22) (fun _ h9 => h9) rfl d_M_insert_45 ?_
    refine lv_iload_n hx hb d_M_insert_48 rfl (lv_at hl 0 rfl) ?_
    refine lv_aload_n hx hb d_M_insert_49 rfl (lv_at hl 1 rfl) ?_
    refine hp_get (C := R_M) (T := F_M) (N := 19) (v := .ref (mo + 5)) hx hb hG la_M hown hK.1 hm rfl 5 (by decide) (hG _ fl_M_22) (fun _ h9 => h9) rfl d_M_insert_50 ?_
    refine lv_iload_n hx hb d_M_insert_53 rfl (lv_at hl 2 rfl) ?_
    refine hp_iald hx hb hK.1 0 hnx rfl d_M_insert_54 (by omega) (ch_h ll 0) (by omega) (by omega) ?_
    refine hp_iast hx hb hK.1 0 hnx hS (by show _ ∨ _; omega) rfl d_M_insert_55 (by omega) fe (by omega) (by omega) (fun H locs hnxn hz1 ho1 hS => ?_)
    rw [show (((nx (ch_h ll 0) : Nat) : Int) : Int) = (((nx (ch_h ll 0)) : Nat) : Int) from by omega, nn_up] at hnxn
    have hZ := hz1.trans hZ
    have hm := hm.keep (ho1 (mo) (by omega))
    have hlf := hlf.keep (ho1 (mo + 4) (by omega))
    have hbf := hbf.keep (ho1 (mo + 6) (by omega))
    have hnx : ca E H (mo + 5) (ai E 8192 (fun k => (((hp_up nx fe (nx (ch_h ll 0))) k : Nat) : Int))) := hnxn
    refine lv_aload_n hx hb d_M_insert_56 rfl (lv_at hl 1 rfl) ?_
    refine hp_get (C := R_M) (T := F_M) (N := 19) (v := .ref (mo + 6)) hx hb hG la_M hown hK.1 hm rfl 6 (by decide) (hG _ fl_M_25) (fun _ h9 => h9) rfl d_M_insert_57 ?_
    refine lv_iload_n hx hb d_M_insert_60 rfl (lv_at hl 0 rfl) ?_
    refine lv_iload_n hx hb d_M_insert_61 rfl (lv_at hl 2 rfl) ?_
    refine hp_iast hx hb hK.1 0 hbf hS (by show _ ∨ _; omega) rfl d_M_insert_62 (by omega) fe (by omega) (by omega) (fun H locs hbfn hz1 ho1 hS => ?_)
    rw [show (((ch_h ll 0 : Nat) : Int) : Int) = (((ch_h ll 0) : Nat) : Int) from by omega, nn_up] at hbfn
    have hZ := hz1.trans hZ
    have hm := hm.keep (ho1 (mo) (by omega))
    have hlf := hlf.keep (ho1 (mo + 4) (by omega))
    have hnx := hnx.keep (ho1 (mo + 5) (by omega))
    have hbf : ca E H (mo + 6) (ai E 8192 (fun k => (((hp_up bf fe (ch_h ll 0)) k : Nat) : Int))) := hbfn
    refine lv_aload_n hx hb d_M_insert_63 rfl (lv_at hl 1 rfl) ?_
    refine hp_get (C := R_M) (T := F_M) (N := 19) (v := .ref (mo + 6)) hx hb hG la_M hown hK.1 hm rfl 6 (by decide) (hG _ fl_M_25) (fun _ h9 => h9) rfl d_M_insert_64 ?_
    refine lv_aload_n hx hb d_M_insert_67 rfl (lv_at hl 1 rfl) ?_
    refine hp_get (C := R_M) (T := F_M) (N := 19) (v := .ref (mo + 5)) hx hb hG la_M hown hK.1 hm rfl 5 (by decide) (hG _ fl_M_22) (fun _ h9 => h9) rfl d_M_insert_68 ?_
    refine lv_iload_n hx hb d_M_insert_71 rfl (lv_at hl 2 rfl) ?_
    refine hp_iald hx hb hK.1 0 hnx rfl d_M_insert_72 (by omega) (ch_h ll 0) (by omega) (by omega) ?_
    refine lv_iload_n hx hb d_M_insert_73 rfl (lv_at hl 0 rfl) ?_
    have hy9 : ((hp_up nx fe (nx (ch_h ll 0))) (ch_h ll 0)) < 8192 := by rw [hp_up_x, hI.1.2.1]; omega
    refine hp_iast hx hb hK.1 0 hbf hS (by show _ ∨ _; omega) rfl d_M_insert_74 (by omega) ((hp_up nx fe (nx (ch_h ll 0))) (ch_h ll 0)) (by omega) (by omega) (fun H locs hbfn hz1 ho1 hS => ?_)
    rw [nn_up] at hbfn
    have hZ := hz1.trans hZ
    have hm := hm.keep (ho1 (mo) (by omega))
    have hlf := hlf.keep (ho1 (mo + 4) (by omega))
    have hnx := hnx.keep (ho1 (mo + 5) (by omega))
    have hbf : ca E H (mo + 6) (ai E 8192 (fun k => (((hp_up (hp_up bf fe (ch_h ll 0)) ((hp_up nx fe (nx (ch_h ll 0))) (ch_h ll 0)) fe) k : Nat) : Int))) := hbfn
    refine lv_aload_n hx hb d_M_insert_75 rfl (lv_at hl 1 rfl) ?_
    refine hp_get (C := R_M) (T := F_M) (N := 19) (v := .ref (mo + 5)) hx hb hG la_M hown hK.1 hm rfl 5 (by decide) (hG _ fl_M_22) (fun _ h9 => h9) rfl d_M_insert_76 ?_
    refine lv_iload_n hx hb d_M_insert_79 rfl (lv_at hl 2 rfl) ?_
    refine lv_iload_n hx hb d_M_insert_80 rfl (lv_at hl 0 rfl) ?_
    refine hp_iast hx hb hK.1 0 hnx hS (by show _ ∨ _; omega) rfl d_M_insert_81 (by omega) (ch_h ll 0) (by omega) (by omega) (fun H locs hnxn hz1 ho1 hS => ?_)
    rw [nn_up] at hnxn
    have hZ := hz1.trans hZ
    have hm := hm.keep (ho1 (mo) (by omega))
    have hlf := hlf.keep (ho1 (mo + 4) (by omega))
    have hbf := hbf.keep (ho1 (mo + 6) (by omega))
    have hnx : ca E H (mo + 5) (ai E 8192 (fun k => (((hp_up (hp_up nx fe (nx (ch_h ll 0))) (ch_h ll 0) fe) k : Nat) : Int))) := hnxn
    refine lv_iload_n hx hb d_M_insert_82 rfl (lv_at hl 0 rfl) ?_
    rw [hQ]
    refine hp_iretQ hx hb hrt hlocks d_M_insert_83 hS hZ ?_
    refine ⟨fe, md, (nx fe), _, _, _, ff1, rfl, by omega, by omega, hp_up_s _ _ _, fun z h9 => hp_up_n _ _ h9, ⟨hm, hlf, hnx, hbf⟩, ch_put hI hkn (by omega) hnn hff rfl⟩

set_option maxHeartbeats 4000000 in
set_option maxRecDepth 100000 in
/-- take(k) -/
theorem c_M_take (l : Launch) (E : hp_E) (mo : Nat) (th ps : Int) (md fe : Nat) (lf : Nat → Int) (nx bf : Nat → Nat) (ll rr ff : List Nat) (kk : Nat) (hI : ch_I nx bf md fe (kk :: ll) rr ff) (hmx : md ≤ 8192) : Met l y_M_take (Cond.code y_M_take b_M_take 2 (none) :: G0) ({ frames := 0, cells := 0, slots := 0, locals := 0 }) (hp_P E [.ref mo, .int (iI (kk : Int))] (fun H => chA E H mo th md fe ps lf nx bf)) (hp_Qv (fun q => q = mo ∨ q = mo + 4 ∨ q = mo + 5 ∨ q = mo + 6) (fun H => ∃ (nx1 bf1 : Nat → Nat), chA E H mo th md kk ps lf nx1 bf1 ∧ ch_I nx1 bf1 md kk ll rr (kk :: ff))) 0 0 (fun q => q = mo ∨ q = mo + 4 ∨ q = mo + 5 ∨ q = mo + 6) := by
  refine Met.ofW (cc := b_M_take) (maxL := 2) (ret := none) (by decide) rfl ?_
  intro p e s m args below meth cd s₁ Bd hml hv
  obtain ⟨hargs, hB, hK⟩ := hv
  have hx := Bd.exec
  have hb := Bd.bytes
  have hrt := Bd.returns
  have hts := atoms_spec (ws := Cond.code y_M_take b_M_take 2 (none) :: G0) Bd.pre
  have hG : ∀ w ∈ G0, w.before args s = true := fun w h => hts w (List.mem_cons_of_mem _ h)
  have hown : s.vm.findClass R_M = some m.cls := findClass_of_methodNamed Bd.named
  have hlocks := Bd.notSynchronized
  have hl := lv_entry ([.ref mo, .int (iI (kk : Int))]) (n := 2) (Nat.le_of_ble_eq_true rfl)
  rw [show entryFrame m args 2 = entryFrame m ([.ref mo, .int (iI (kk : Int))] : List Value).toArray 2 from by rw [hargs]]
  rw [lg_entry_eq]
  generalize (lg_sl ([.ref mo, .int (iI (kk : Int))]) ++ List.replicate (2 - (lg_sl ([.ref mo, .int (iI (kk : Int))])).length) Slot.unset).toArray = ls at hl ⊢
  have hl : lv_has ls 2 [(0, .ref mo), (1, .int (iI (kk : Int)))] := hl
  obtain ⟨R, hR⟩ : ∃ R, R = (headSpec (Cond.code y_M_take b_M_take 2 (none) :: G0) { frames := 0, cells := 0, slots := 0, locals := 0 }).room := ⟨_, rfl⟩
  rw [← hR]
  have hRf : R.frames = 0 := by rw [hR]; rfl
  have hRl : R.locals = 0 := by rw [hR]; rfl
  have hRc : R.cells = 0 := by rw [hR]; rfl
  have hRs : R.slots = 0 := by rw [hR]; rfl
  obtain ⟨Q, hQ⟩ : ∃ Q, Q = MQ below (hp_Qv (fun q => q = mo ∨ q = mo + 4 ∨ q = mo + 5 ∨ q = mo + 6) (fun H => ∃ (nx1 bf1 : Nat → Nat), chA E H mo th md kk ps lf nx1 bf1 ∧ ch_I nx1 bf1 md kk ll rr (kk :: ff))) args s 0 0 (fun q => q = mo ∨ q = mo + 4 ∨ q = mo + 5 ∨ q = mo + 6) := ⟨_, rfl⟩
  rw [← hQ]
  obtain ⟨H, hH⟩ : ∃ H, H = s.heap := ⟨_, rfl⟩
  obtain ⟨locs, hlocs⟩ : ∃ locs : List Loc, locs = [] := ⟨_, rfl⟩
  have hS : va_S (fun q => q = mo ∨ q = mo + 4 ∨ q = mo + 5 ∨ q = mo + 6) s.heap H locs := by rw [hH, hlocs]; exact va_S.rf
  have hZ : H.size = s.heap.size := by rw [hH]
  rw [← hH] at hB
  rw [show W p l e R s m args below meth cd s.heap [] 0 0 Q (F0 m 0 ls []) = W p l e R s m args below meth cd H locs 0 0 Q (F0 m 0 ls []) from by rw [hH, hlocs]]
  obtain ⟨hm, hlf, hnx, hbf⟩ := hB
  have hof := ch_off hI
  have hrg := ch_rng hof.2.2
  have hkb := hI.2.1.2.1 kk (by simp)
  have e1 : hp_up nx (bf kk) (nx kk) kk = nx kk := hp_up_x _ _ _
  have hb9 := hof.1
  have hn9 := hof.2.1
  have hfe := ch_fe hI
  refine lv_aload_n hx hb d_M_take_0 rfl (lv_at hl 0 rfl) ?_
  refine hp_get (C := R_M) (T := F_M) (N := 19) (v := .ref (mo + 5)) hx hb hG la_M hown hK.1 hm rfl 5 (by decide) (hG _ fl_M_22) (fun _ h9 => h9) rfl d_M_take_1 ?_
  refine lv_aload_n hx hb d_M_take_4 rfl (lv_at hl 0 rfl) ?_
  refine hp_get (C := R_M) (T := F_M) (N := 19) (v := .ref (mo + 6)) hx hb hG la_M hown hK.1 hm rfl 6 (by decide) (hG _ fl_M_25) (fun _ h9 => h9) rfl d_M_take_5 ?_
  refine lv_iload_n hx hb d_M_take_8 rfl (lv_at hl 1 rfl) ?_
  refine hp_iald hx hb hK.1 0 hbf rfl d_M_take_9 (by omega) kk (by omega) (by omega) ?_
  refine lv_aload_n hx hb d_M_take_10 rfl (lv_at hl 0 rfl) ?_
  refine hp_get (C := R_M) (T := F_M) (N := 19) (v := .ref (mo + 5)) hx hb hG la_M hown hK.1 hm rfl 5 (by decide) (hG _ fl_M_22) (fun _ h9 => h9) rfl d_M_take_11 ?_
  refine lv_iload_n hx hb d_M_take_14 rfl (lv_at hl 1 rfl) ?_
  refine hp_iald hx hb hK.1 0 hnx rfl d_M_take_15 (by omega) kk (by omega) (by omega) ?_
  refine hp_iast hx hb hK.1 0 hnx hS (by show _ ∨ _; omega) rfl d_M_take_16 (by omega) (bf kk) (by omega) (by omega) (fun H locs hnxn hz1 ho1 hS => ?_)
  rw [show (((nx kk : Nat) : Int) : Int) = (((nx kk) : Nat) : Int) from by omega, nn_up] at hnxn
  have hZ := hz1.trans hZ
  have hm := hm.keep (ho1 (mo) (by omega))
  have hlf := hlf.keep (ho1 (mo + 4) (by omega))
  have hbf := hbf.keep (ho1 (mo + 6) (by omega))
  have hnx : ca E H (mo + 5) (ai E 8192 (fun k => (((hp_up nx (bf kk) (nx kk)) k : Nat) : Int))) := hnxn
  refine lv_aload_n hx hb d_M_take_17 rfl (lv_at hl 0 rfl) ?_
  refine hp_get (C := R_M) (T := F_M) (N := 19) (v := .ref (mo + 6)) hx hb hG la_M hown hK.1 hm rfl 6 (by decide) (hG _ fl_M_25) (fun _ h9 => h9) rfl d_M_take_18 ?_
  refine lv_aload_n hx hb d_M_take_21 rfl (lv_at hl 0 rfl) ?_
  refine hp_get (C := R_M) (T := F_M) (N := 19) (v := .ref (mo + 5)) hx hb hG la_M hown hK.1 hm rfl 5 (by decide) (hG _ fl_M_22) (fun _ h9 => h9) rfl d_M_take_22 ?_
  refine lv_iload_n hx hb d_M_take_25 rfl (lv_at hl 1 rfl) ?_
  refine hp_iald hx hb hK.1 0 hnx rfl d_M_take_26 (by omega) kk (by omega) (by omega) ?_
  refine lv_aload_n hx hb d_M_take_27 rfl (lv_at hl 0 rfl) ?_
  refine hp_get (C := R_M) (T := F_M) (N := 19) (v := .ref (mo + 6)) hx hb hG la_M hown hK.1 hm rfl 6 (by decide) (hG _ fl_M_25) (fun _ h9 => h9) rfl d_M_take_28 ?_
  refine lv_iload_n hx hb d_M_take_31 rfl (lv_at hl 1 rfl) ?_
  refine hp_iald hx hb hK.1 0 hbf rfl d_M_take_32 (by omega) kk (by omega) (by omega) ?_
  refine hp_iast hx hb hK.1 0 hbf hS (by show _ ∨ _; omega) rfl d_M_take_33 (by omega) ((hp_up nx (bf kk) (nx kk)) kk) (by omega) (by omega) (fun H locs hbfn hz1 ho1 hS => ?_)
  rw [show (((bf kk : Nat) : Int) : Int) = (((bf kk) : Nat) : Int) from by omega, nn_up] at hbfn
  have hZ := hz1.trans hZ
  have hm := hm.keep (ho1 (mo) (by omega))
  have hlf := hlf.keep (ho1 (mo + 4) (by omega))
  have hnx := hnx.keep (ho1 (mo + 5) (by omega))
  have hbf : ca E H (mo + 6) (ai E 8192 (fun k => (((hp_up bf ((hp_up nx (bf kk) (nx kk)) kk) (bf kk)) k : Nat) : Int))) := hbfn
  refine lv_aload_n hx hb d_M_take_34 rfl (lv_at hl 0 rfl) ?_
  refine hp_get (C := R_M) (T := F_M) (N := 19) (v := .ref (mo + 5)) hx hb hG la_M hown hK.1 hm rfl 5 (by decide) (hG _ fl_M_22) (fun _ h9 => h9) rfl d_M_take_35 ?_
  refine lv_iload_n hx hb d_M_take_38 rfl (lv_at hl 1 rfl) ?_
  refine lv_aload_n hx hb d_M_take_39 rfl (lv_at hl 0 rfl) ?_
  refine hp_get (C := R_M) (T := F_M) (N := 19) (v := .int (iI (fe : Int))) hx hb hG la_M hown hK.1 hm rfl 8 (by decide) (hG _ fl_M_91) (fun _ h9 => h9) rfl d_M_take_40 ?_
  refine hp_iast hx hb hK.1 0 hnx hS (by show _ ∨ _; omega) rfl d_M_take_43 (by omega) kk (by omega) (by omega) (fun H locs hnxn hz1 ho1 hS => ?_)
  rw [nn_up] at hnxn
  have hZ := hz1.trans hZ
  have hm := hm.keep (ho1 (mo) (by omega))
  have hlf := hlf.keep (ho1 (mo + 4) (by omega))
  have hbf := hbf.keep (ho1 (mo + 6) (by omega))
  have hnx : ca E H (mo + 5) (ai E 8192 (fun k => (((hp_up (hp_up nx (bf kk) (nx kk)) kk fe) k : Nat) : Int))) := hnxn
  refine lv_aload_n hx hb d_M_take_44 rfl (lv_at hl 0 rfl) ?_
  refine lv_iload_n hx hb d_M_take_45 rfl (lv_at hl 1 rfl) ?_
  refine hp_put (C := R_M) (T := F_M) (N := 19) (v := .int (iI (kk : Int))) (ty := .int) hx hb hG la_M t_M tk_M n_M hown hK.1 hm hS (by show _ ∨ _; omega) rfl 8 (by decide) (hG _ fl_M_91) (fun _ h9 => h9) rfl (by decide +kernel) rfl rfl (Nat.le_of_ble_eq_true rfl) d_M_take_46 (fun H locs hmn hz1 ho1 hS => ?_)
  have hZ := hz1.trans hZ
  have hlf := hlf.keep (ho1 (mo + 4) (by omega))
  have hnx := hnx.keep (ho1 (mo + 5) (by omega))
  have hbf := hbf.keep (ho1 (mo + 6) (by omega))
  have hm : ca E H (mo) (.inr (3, [.int (iI th), .ref (mo + 1), .ref (mo + 2), .ref (mo + 3), .ref (mo + 4), .ref (mo + 5), .ref (mo + 6), .int (iI (md : Int)), .int (iI (kk : Int)), .int (iI ps), .ref (mo + 7), .ref (mo + 8), .ref (mo + 9), .ref (mo + 10), .ref (mo + 11), .ref (mo + 12), .ref (mo + 13), .ref (mo + 14), .ref (mo + 15)])) := hmn
  rw [hQ]
  refine hp_vretQ hx hb hrt hlocks d_M_take_49 hS hZ ?_
  rw [e1, hb9, hn9] at hbf
  rw [hb9, hn9] at hnx
  exact ⟨_, _, ⟨hm, hlf, hnx, hbf⟩, hof.2.2⟩

set_option maxHeartbeats 4000000 in
set_option maxRecDepth 100000 in
/-- isNear(i, j) -/
theorem c_M_isNear (l : Launch) (E : hp_E) (i j : Int) (hi : -100 < i ∧ i < 100) (hj : -100 < j ∧ j < 100) : Met l y_M_isNear (Cond.code y_M_isNear b_M_isNear 2 (some .boolean) :: G0) ({ frames := 0, cells := 0, slots := 0, locals := 0 }) (hp_P E [.int (iI i), .int (iI j)] (fun H => True)) (hp_Si (bI (decide (i - j = 1 ∨ j - i = 1)))) 0 0 (fun _ => False) := by
  refine Met.ofW (cc := b_M_isNear) (maxL := 2) (ret := some .boolean) (by decide) rfl ?_
  intro p e s m args below meth cd s₁ Bd hml hv
  obtain ⟨hargs, hB, hK⟩ := hv
  have hx := Bd.exec
  have hb := Bd.bytes
  have hrt := Bd.returns
  have hts := atoms_spec (ws := Cond.code y_M_isNear b_M_isNear 2 (some .boolean) :: G0) Bd.pre
  have hG : ∀ w ∈ G0, w.before args s = true := fun w h => hts w (List.mem_cons_of_mem _ h)
  have hown : s.vm.findClass R_M = some m.cls := findClass_of_methodNamed Bd.named
  have hlocks := Bd.notSynchronized
  have hl := lv_entry ([.int (iI i), .int (iI j)]) (n := 2) (Nat.le_of_ble_eq_true rfl)
  rw [show entryFrame m args 2 = entryFrame m ([.int (iI i), .int (iI j)] : List Value).toArray 2 from by rw [hargs]]
  rw [lg_entry_eq]
  generalize (lg_sl ([.int (iI i), .int (iI j)]) ++ List.replicate (2 - (lg_sl ([.int (iI i), .int (iI j)])).length) Slot.unset).toArray = ls at hl ⊢
  have hl : lv_has ls 2 [(0, .int (iI i)), (1, .int (iI j))] := hl
  obtain ⟨R, hR⟩ : ∃ R, R = (headSpec (Cond.code y_M_isNear b_M_isNear 2 (some .boolean) :: G0) { frames := 0, cells := 0, slots := 0, locals := 0 }).room := ⟨_, rfl⟩
  rw [← hR]
  have hRf : R.frames = 0 := by rw [hR]; rfl
  have hRl : R.locals = 0 := by rw [hR]; rfl
  have hRc : R.cells = 0 := by rw [hR]; rfl
  have hRs : R.slots = 0 := by rw [hR]; rfl
  obtain ⟨Q, hQ⟩ : ∃ Q, Q = MQ below (hp_Si (bI (decide (i - j = 1 ∨ j - i = 1)))) args s 0 0 (fun _ => False) := ⟨_, rfl⟩
  rw [← hQ]
  skip
  refine lv_iload_n hx hb d_M_isNear_0 rfl (lv_at hl 0 rfl) ?_
  refine lv_iload_n hx hb d_M_isNear_1 rfl (lv_at hl 1 rfl) ?_
  refine hp_isub hx hb d_M_isNear_2 ?_
  refine hp_iconst (z := 1) hx hb d_M_isNear_3 (by rfl) ?_
  refine hp_icmp_eq (tgt := 14) hx hb d_M_isNear_4 (by decide) (by unfold iR; omega) (by unfold iR; omega) (fun c4 => ?_) (fun c4 => ?_)
  · skip
    refine hp_iconst (z := 1) hx hb d_M_isNear_14 (by rfl) ?_
    refine lv_goto (tgt := 19) hx hb d_M_isNear_15 (by decide) ?_
    rw [hQ]
    refine hp_zretS hx hb hrt hlocks d_M_isNear_19 ?_
    simp only [bI]
    first | (rw [if_pos (by simp; omega)]) | (rw [if_neg (by simp; omega)])
  · skip
    refine lv_iload_n hx hb d_M_isNear_7 rfl (lv_at hl 1 rfl) ?_
    refine lv_iload_n hx hb d_M_isNear_8 rfl (lv_at hl 0 rfl) ?_
    refine hp_isub hx hb d_M_isNear_9 ?_
    refine hp_iconst (z := 1) hx hb d_M_isNear_10 (by rfl) ?_
    refine hp_icmp_ne (tgt := 18) hx hb d_M_isNear_11 (by decide) (by unfold iR; omega) (by unfold iR; omega) (fun c11 => ?_) (fun c11 => ?_)
    · skip
      refine hp_iconst (z := 0) hx hb d_M_isNear_18 (by rfl) ?_
      rw [hQ]
      refine hp_zretS hx hb hrt hlocks d_M_isNear_19 ?_
      simp only [bI]
      first | (rw [if_pos (by simp; omega)]) | (rw [if_neg (by simp; omega)])
    · skip
      refine hp_iconst (z := 1) hx hb d_M_isNear_14 (by rfl) ?_
      refine lv_goto (tgt := 19) hx hb d_M_isNear_15 (by decide) ?_
      rw [hQ]
      refine hp_zretS hx hb hrt hlocks d_M_isNear_19 ?_
      simp only [bI]
      first | (rw [if_pos (by simp; omega)]) | (rw [if_neg (by simp; omega)])
