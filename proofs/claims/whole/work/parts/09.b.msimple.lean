set_option maxHeartbeats 4000000 in
set_option maxRecDepth 100000 in
/-- isSlot(s) -/
theorem c_M_isSlot (l : Launch) (E : hp_E) (s0 : Int) (hs0 : iR s0) : Met l y_M_isSlot (Cond.code y_M_isSlot b_M_isSlot 1 (some .boolean) :: G0) ({ frames := 0, cells := 0, slots := 0, locals := 0 }) (hp_P E [.int (iI s0)] (fun H => True)) (hp_Si (bI (decide (0 ≤ s0 ∧ s0 < 4)))) 0 0 (fun _ => False) := by
  refine Met.ofW (cc := b_M_isSlot) (maxL := 1) (ret := some .boolean) (by decide) rfl ?_
  intro p e s m args below meth cd s₁ Bd hml hv
  obtain ⟨hargs, hB, hK⟩ := hv
  have hx := Bd.exec
  have hb := Bd.bytes
  have hrt := Bd.returns
  have hts := atoms_spec (ws := Cond.code y_M_isSlot b_M_isSlot 1 (some .boolean) :: G0) Bd.pre
  have hG : ∀ w ∈ G0, w.before args s = true := fun w h => hts w (List.mem_cons_of_mem _ h)
  have hown : s.vm.findClass R_M = some m.cls := findClass_of_methodNamed Bd.named
  have hlocks := Bd.notSynchronized
  have hl := lv_entry ([.int (iI s0)]) (n := 1) (Nat.le_of_ble_eq_true rfl)
  rw [show entryFrame m args 1 = entryFrame m ([.int (iI s0)] : List Value).toArray 1 from by rw [hargs]]
  rw [lg_entry_eq]
  generalize (lg_sl ([.int (iI s0)]) ++ List.replicate (1 - (lg_sl ([.int (iI s0)])).length) Slot.unset).toArray = ls at hl ⊢
  have hl : lv_has ls 1 [(0, .int (iI s0))] := hl
  obtain ⟨R, hR⟩ : ∃ R, R = (headSpec (Cond.code y_M_isSlot b_M_isSlot 1 (some .boolean) :: G0) { frames := 0, cells := 0, slots := 0, locals := 0 }).room := ⟨_, rfl⟩
  rw [← hR]
  have hRf : R.frames = 0 := by rw [hR]; rfl
  have hRl : R.locals = 0 := by rw [hR]; rfl
  have hRc : R.cells = 0 := by rw [hR]; rfl
  have hRs : R.slots = 0 := by rw [hR]; rfl
  obtain ⟨Q, hQ⟩ : ∃ Q, Q = MQ below (hp_Si (bI (decide (0 ≤ s0 ∧ s0 < 4)))) args s 0 0 (fun _ => False) := ⟨_, rfl⟩
  rw [← hQ]
  skip
  refine lv_iload_n hx hb d_M_isSlot_0 rfl (lv_at hl 0 rfl) ?_
  refine hp_if_lt (tgt := 13) hx hb d_M_isSlot_1 (by decide) (by unfold iR at *; omega) (fun c1 => ?_) (fun c1 => ?_)
  · skip
    refine hp_iconst (z := 0) hx hb d_M_isSlot_13 (by rfl) ?_
    rw [hQ]
    refine hp_zretS hx hb hrt hlocks d_M_isSlot_14 ?_
    simp only [bI]
    split <;> simp_all <;> omega
  · skip
    refine lv_iload_n hx hb d_M_isSlot_4 rfl (lv_at hl 0 rfl) ?_
    refine hp_iconst (z := 4) hx hb d_M_isSlot_5 (by rfl) ?_
    refine hp_icmp_ge (tgt := 13) hx hb d_M_isSlot_6 (by decide) (by unfold iR at *; omega) (by unfold iR at *; omega) (fun c6 => ?_) (fun c6 => ?_)
    · skip
      refine hp_iconst (z := 0) hx hb d_M_isSlot_13 (by rfl) ?_
      rw [hQ]
      refine hp_zretS hx hb hrt hlocks d_M_isSlot_14 ?_
      simp only [bI]
      split <;> simp_all <;> omega
    · skip
      refine hp_iconst (z := 1) hx hb d_M_isSlot_9 (by rfl) ?_
      refine lv_goto (tgt := 14) hx hb d_M_isSlot_10 (by decide) ?_
      rw [hQ]
      refine hp_zretS hx hb hrt hlocks d_M_isSlot_14 ?_
      simp only [bI]
      split <;> simp_all <;> omega

set_option maxHeartbeats 4000000 in
set_option maxRecDepth 100000 in
/-- value(l) -/
theorem c_M_value (l : Launch) (E : hp_E) (z : Int) (hz : -100 < z ∧ z < 100) : Met l y_M_value (Cond.code y_M_value b_M_value 1 (some .int) :: G0) ({ frames := 0, cells := 0, slots := 0, locals := 0 }) (hp_P E [.int (iI z)] (fun H => True)) (hp_Si (z.natAbs : Int)) 0 0 (fun _ => False) := by
  refine Met.ofW (cc := b_M_value) (maxL := 1) (ret := some .int) (by decide) rfl ?_
  intro p e s m args below meth cd s₁ Bd hml hv
  obtain ⟨hargs, hB, hK⟩ := hv
  have hx := Bd.exec
  have hb := Bd.bytes
  have hrt := Bd.returns
  have hts := atoms_spec (ws := Cond.code y_M_value b_M_value 1 (some .int) :: G0) Bd.pre
  have hG : ∀ w ∈ G0, w.before args s = true := fun w h => hts w (List.mem_cons_of_mem _ h)
  have hown : s.vm.findClass R_M = some m.cls := findClass_of_methodNamed Bd.named
  have hlocks := Bd.notSynchronized
  have hl := lv_entry ([.int (iI z)]) (n := 1) (Nat.le_of_ble_eq_true rfl)
  rw [show entryFrame m args 1 = entryFrame m ([.int (iI z)] : List Value).toArray 1 from by rw [hargs]]
  rw [lg_entry_eq]
  generalize (lg_sl ([.int (iI z)]) ++ List.replicate (1 - (lg_sl ([.int (iI z)])).length) Slot.unset).toArray = ls at hl ⊢
  have hl : lv_has ls 1 [(0, .int (iI z))] := hl
  obtain ⟨R, hR⟩ : ∃ R, R = (headSpec (Cond.code y_M_value b_M_value 1 (some .int) :: G0) { frames := 0, cells := 0, slots := 0, locals := 0 }).room := ⟨_, rfl⟩
  rw [← hR]
  have hRf : R.frames = 0 := by rw [hR]; rfl
  have hRl : R.locals = 0 := by rw [hR]; rfl
  have hRc : R.cells = 0 := by rw [hR]; rfl
  have hRs : R.slots = 0 := by rw [hR]; rfl
  obtain ⟨Q, hQ⟩ : ∃ Q, Q = MQ below (hp_Si (z.natAbs : Int)) args s 0 0 (fun _ => False) := ⟨_, rfl⟩
  rw [← hQ]
  skip
  refine lv_iload_n hx hb d_M_value_0 rfl (lv_at hl 0 rfl) ?_
  refine hp_if_ge (tgt := 9) hx hb d_M_value_1 (by decide) (by unfold iR; omega) (fun c1 => ?_) (fun c1 => ?_)
  · skip
    refine lv_iload_n hx hb d_M_value_9 rfl (lv_at hl 0 rfl) ?_
    rw [hQ]
    refine hp_iretS hx hb hrt hlocks d_M_value_10 ?_
    omega
  · skip
    refine lv_iload_n hx hb d_M_value_4 rfl (lv_at hl 0 rfl) ?_
    refine hp_ineg hx hb d_M_value_5 ?_
    refine lv_goto (tgt := 10) hx hb d_M_value_6 (by decide) ?_
    rw [hQ]
    refine hp_iretS hx hb hrt hlocks d_M_value_10 ?_
    omega

set_option maxHeartbeats 4000000 in
set_option maxRecDepth 100000 in
/-- letterAt(s, k) -/
theorem c_M_letterAt (l : Launch) (E : hp_E) (mo : Nat) (th md fe ps : Int) (w c : Nat → Nat) (g : Nat → Int) (kz : Nat → Bool) (t k : Nat) (hk : 32 * t + k < 128) : Met l y_M_letterAt (Cond.code y_M_letterAt b_M_letterAt 3 (some .int) :: G0) ({ frames := 0, cells := 0, slots := 0, locals := 0 }) (hp_P E [.ref mo, .int (iI (t : Int)), .int (iI (k : Int))] (fun H => mW E H mo th md fe ps w c g kz)) (hp_Si (gw g t k)) 0 0 (fun _ => False) := by
  refine Met.ofW (cc := b_M_letterAt) (maxL := 3) (ret := some .int) (by decide) rfl ?_
  intro p e s m args below meth cd s₁ Bd hml hv
  obtain ⟨hargs, hB, hK⟩ := hv
  have hx := Bd.exec
  have hb := Bd.bytes
  have hrt := Bd.returns
  have hts := atoms_spec (ws := Cond.code y_M_letterAt b_M_letterAt 3 (some .int) :: G0) Bd.pre
  have hG : ∀ w ∈ G0, w.before args s = true := fun w h => hts w (List.mem_cons_of_mem _ h)
  have hown : s.vm.findClass R_M = some m.cls := findClass_of_methodNamed Bd.named
  have hlocks := Bd.notSynchronized
  have hl := lv_entry ([.ref mo, .int (iI (t : Int)), .int (iI (k : Int))]) (n := 3) (Nat.le_of_ble_eq_true rfl)
  rw [show entryFrame m args 3 = entryFrame m ([.ref mo, .int (iI (t : Int)), .int (iI (k : Int))] : List Value).toArray 3 from by rw [hargs]]
  rw [lg_entry_eq]
  generalize (lg_sl ([.ref mo, .int (iI (t : Int)), .int (iI (k : Int))]) ++ List.replicate (3 - (lg_sl ([.ref mo, .int (iI (t : Int)), .int (iI (k : Int))])).length) Slot.unset).toArray = ls at hl ⊢
  have hl : lv_has ls 3 [(0, .ref mo), (1, .int (iI (t : Int))), (2, .int (iI (k : Int)))] := hl
  obtain ⟨R, hR⟩ : ∃ R, R = (headSpec (Cond.code y_M_letterAt b_M_letterAt 3 (some .int) :: G0) { frames := 0, cells := 0, slots := 0, locals := 0 }).room := ⟨_, rfl⟩
  rw [← hR]
  have hRf : R.frames = 0 := by rw [hR]; rfl
  have hRl : R.locals = 0 := by rw [hR]; rfl
  have hRc : R.cells = 0 := by rw [hR]; rfl
  have hRs : R.slots = 0 := by rw [hR]; rfl
  obtain ⟨Q, hQ⟩ : ∃ Q, Q = MQ below (hp_Si (gw g t k)) args s 0 0 (fun _ => False) := ⟨_, rfl⟩
  rw [← hQ]
  obtain ⟨hm, hsd, hsz, hwd, hkn⟩ := hB
  refine lv_aload_n hx hb d_M_letterAt_0 rfl (lv_at hl 0 rfl) ?_
  refine hp_get (C := R_M) (T := F_M) (N := 19) (v := .ref (mo + 3)) hx hb hG la_M hown hK.1 hm rfl 3 (by decide) (hG _ fl_M_16) (fun _ h9 => h9) rfl d_M_letterAt_1 ?_
  refine hp_bipush (z := 32) hx hb d_M_letterAt_4 (by rfl) ?_
  refine lv_iload_n hx hb d_M_letterAt_6 rfl (lv_at hl 1 rfl) ?_
  refine hp_imul hx hb d_M_letterAt_7 ?_
  refine lv_iload_n hx hb d_M_letterAt_8 rfl (lv_at hl 2 rfl) ?_
  refine hp_iadd hx hb d_M_letterAt_9 ?_
  refine hp_iald hx hb hK.1 0 hwd rfl d_M_letterAt_10 (by omega) ((32 * t) + k) (by omega) (by omega) ?_
  rw [hQ]
  refine hp_iretS hx hb hrt hlocks d_M_letterAt_11 ?_
  rfl

set_option maxHeartbeats 4000000 in
set_option maxRecDepth 100000 in
/-- strands(s, n) -/
theorem c_M_strands (l : Launch) (E : hp_E) (mo : Nat) (th md fe ps : Int) (w c : Nat → Nat) (g : Nat → Int) (kz : Nat → Bool) (s0 n0 : Int) (hs0 : iR s0) (hn0 : iR n0) : Met l y_M_strands (Cond.code y_M_strands b_M_strands 3 (some .boolean) :: G0) ({ frames := 1, cells := 0, slots := 0, locals := 20 }) (hp_P E [.ref mo, .int (iI s0), .int (iI n0)] (fun H => mW E H mo th md fe ps w c g kz)) (hp_Qi (fun q => q = mo ∨ q = mo + 1 ∨ q = mo + 2 ∨ q = mo + 3 ∨ q = mo + 10) (fun r H => (r = 1 ∧ (0 ≤ s0 ∧ s0 < 4 ∧ 1 ≤ n0 ∧ n0 ≤ 8) ∧ mW E H mo th md fe ps (hp_up w s0.toNat n0.toNat) (hp_up c s0.toNat 0) g (hp_up kz s0.toNat false)) ∨ (r = 0 ∧ ¬ (0 ≤ s0 ∧ s0 < 4 ∧ 1 ≤ n0 ∧ n0 ≤ 8) ∧ mW E H mo th md fe ps w c g kz))) 0 0 (fun q => q = mo ∨ q = mo + 1 ∨ q = mo + 2 ∨ q = mo + 3 ∨ q = mo + 10) := by
  refine Met.ofW (cc := b_M_strands) (maxL := 3) (ret := some .boolean) (by decide) rfl ?_
  intro p e s m args below meth cd s₁ Bd hml hv
  obtain ⟨hargs, hB, hK⟩ := hv
  have hx := Bd.exec
  have hb := Bd.bytes
  have hrt := Bd.returns
  have hts := atoms_spec (ws := Cond.code y_M_strands b_M_strands 3 (some .boolean) :: G0) Bd.pre
  have hG : ∀ w ∈ G0, w.before args s = true := fun w h => hts w (List.mem_cons_of_mem _ h)
  have hown : s.vm.findClass R_M = some m.cls := findClass_of_methodNamed Bd.named
  have hlocks := Bd.notSynchronized
  have hl := lv_entry ([.ref mo, .int (iI s0), .int (iI n0)]) (n := 3) (Nat.le_of_ble_eq_true rfl)
  rw [show entryFrame m args 3 = entryFrame m ([.ref mo, .int (iI s0), .int (iI n0)] : List Value).toArray 3 from by rw [hargs]]
  rw [lg_entry_eq]
  generalize (lg_sl ([.ref mo, .int (iI s0), .int (iI n0)]) ++ List.replicate (3 - (lg_sl ([.ref mo, .int (iI s0), .int (iI n0)])).length) Slot.unset).toArray = ls at hl ⊢
  have hl : lv_has ls 3 [(0, .ref mo), (1, .int (iI s0)), (2, .int (iI n0))] := hl
  obtain ⟨R, hR⟩ : ∃ R, R = (headSpec (Cond.code y_M_strands b_M_strands 3 (some .boolean) :: G0) { frames := 1, cells := 0, slots := 0, locals := 20 }).room := ⟨_, rfl⟩
  rw [← hR]
  have hRf : R.frames = 1 := by rw [hR]; rfl
  have hRl : R.locals = 20 := by rw [hR]; rfl
  have hRc : R.cells = 0 := by rw [hR]; rfl
  have hRs : R.slots = 0 := by rw [hR]; rfl
  obtain ⟨Q, hQ⟩ : ∃ Q, Q = MQ below (hp_Qi (fun q => q = mo ∨ q = mo + 1 ∨ q = mo + 2 ∨ q = mo + 3 ∨ q = mo + 10) (fun r H => (r = 1 ∧ (0 ≤ s0 ∧ s0 < 4 ∧ 1 ≤ n0 ∧ n0 ≤ 8) ∧ mW E H mo th md fe ps (hp_up w s0.toNat n0.toNat) (hp_up c s0.toNat 0) g (hp_up kz s0.toNat false)) ∨ (r = 0 ∧ ¬ (0 ≤ s0 ∧ s0 < 4 ∧ 1 ≤ n0 ∧ n0 ≤ 8) ∧ mW E H mo th md fe ps w c g kz))) args s 0 0 (fun q => q = mo ∨ q = mo + 1 ∨ q = mo + 2 ∨ q = mo + 3 ∨ q = mo + 10) := ⟨_, rfl⟩
  rw [← hQ]
  obtain ⟨H, hH⟩ : ∃ H, H = s.heap := ⟨_, rfl⟩
  obtain ⟨locs, hlocs⟩ : ∃ locs : List Loc, locs = [] := ⟨_, rfl⟩
  have hS : va_S (fun q => q = mo ∨ q = mo + 1 ∨ q = mo + 2 ∨ q = mo + 3 ∨ q = mo + 10) s.heap H locs := by rw [hH, hlocs]; exact va_S.rf
  have hZ : H.size = s.heap.size := by rw [hH]
  rw [← hH] at hB
  rw [show W p l e R s m args below meth cd s.heap [] 0 0 Q (F0 m 0 ls []) = W p l e R s m args below meth cd H locs 0 0 Q (F0 m 0 ls []) from by rw [hH, hlocs]]
  obtain ⟨hm, hsd, hsz, hwd, hkn⟩ := hB
  refine lv_iload_n hx hb d_M_strands_0 rfl (lv_at hl 1 rfl) ?_
  refine hp_callS (W.runS (As := [.int (iI s0)]) (rest := []) ⟨hx, hb, hml, hown, hG⟩ (c_M_isSlot l E s0 (by unfold iR at *; omega)) (cwS 1 hG (hp_goodS ml_M_60 st_M_isSlot in_M co_M_isSlot) rfl rfl rfl hd_M_isSlot ⟨by rw [hRf]; exact Nat.le_of_ble_eq_true rfl, by rw [hRl]; exact Nat.le_of_ble_eq_true rfl⟩) (hp_preS hp_nsn hK trivial) rfl rfl hl.1 rfl (lv_room (Nat.le_of_ble_eq_true rfl)) d_M_strands_1 ⟨by rw [hRc]; exact Nat.le_of_ble_eq_true rfl, by rw [hRs]; exact Nat.le_of_ble_eq_true rfl⟩) ?_
  refine hp_ifb_eq (tgt := 18) hx hb d_M_strands_4 (by decide) (fun c4 => ?_) (fun c4 => ?_)
  · skip
    have c4 := of_decide_eq_false c4
    refine hp_iconst (z := 0) hx hb d_M_strands_18 (by rfl) ?_
    rw [hQ]
    refine hp_zretQ hx hb hrt hlocks d_M_strands_19 false (by first | rfl | assumption | simp [bI]) hS hZ ?_
    exact Or.inr ⟨rfl, by omega, hm, hsd, hsz, hwd, hkn⟩
  · skip
    have c4 := of_decide_eq_true c4
    refine lv_iload_n hx hb d_M_strands_7 rfl (lv_at hl 2 rfl) ?_
    refine hp_iconst (z := 1) hx hb d_M_strands_8 (by rfl) ?_
    refine hp_icmp_lt (tgt := 18) hx hb d_M_strands_9 (by decide) (by unfold iR at *; omega) (by unfold iR at *; omega) (fun c9 => ?_) (fun c9 => ?_)
    · skip
      refine hp_iconst (z := 0) hx hb d_M_strands_18 (by rfl) ?_
      rw [hQ]
      refine hp_zretQ hx hb hrt hlocks d_M_strands_19 false (by first | rfl | assumption | simp [bI]) hS hZ ?_
      exact Or.inr ⟨rfl, by omega, hm, hsd, hsz, hwd, hkn⟩
    · skip
      refine lv_iload_n hx hb d_M_strands_12 rfl (lv_at hl 2 rfl) ?_
      refine hp_bipush (z := 8) hx hb d_M_strands_13 (by rfl) ?_
      refine hp_icmp_le (tgt := 20) hx hb d_M_strands_15 (by decide) (by unfold iR at *; omega) (by unfold iR at *; omega) (fun c15 => ?_) (fun c15 => ?_)
      · skip
        obtain ⟨t, rfl⟩ : ∃ q : Nat, s0 = (q : Int) := ⟨s0.toNat, by omega⟩
        obtain ⟨n, rfl⟩ : ∃ q : Nat, n0 = (q : Int) := ⟨n0.toNat, by omega⟩
        refine lv_aload_n hx hb d_M_strands_20 rfl (lv_at hl 0 rfl) ?_
        refine hp_get (C := R_M) (T := F_M) (N := 19) (v := .ref (mo + 1)) hx hb hG la_M hown hK.1 hm rfl 1 (by decide) (hG _ fl_M_7) (fun _ h9 => h9) rfl d_M_strands_21 ?_
        refine lv_iload_n hx hb d_M_strands_24 rfl (lv_at hl 1 rfl) ?_
        refine lv_iload_n hx hb d_M_strands_25 rfl (lv_at hl 2 rfl) ?_
        refine hp_iast hx hb hK.1 0 hsd hS (by show _ ∨ _; omega) rfl d_M_strands_26 (by omega) t (by omega) (by omega) (fun H locs hsdn hz1 ho1 hS => ?_)
        rw [nn_up] at hsdn
        have hZ := hz1.trans hZ
        have hm := hm.keep (ho1 (mo) (by omega))
        have hsz := hsz.keep (ho1 (mo + 2) (by omega))
        have hwd := hwd.keep (ho1 (mo + 3) (by omega))
        have hkn := hkn.keep (ho1 (mo + 10) (by omega))
        have hsd : ca E H (mo + 1) (ai E 4 (fun k => (((hp_up w t n) k : Nat) : Int))) := hsdn
        refine lv_aload_n hx hb d_M_strands_27 rfl (lv_at hl 0 rfl) ?_
        refine hp_get (C := R_M) (T := F_M) (N := 19) (v := .ref (mo + 2)) hx hb hG la_M hown hK.1 hm rfl 2 (by decide) (hG _ fl_M_13) (fun _ h9 => h9) rfl d_M_strands_28 ?_
        refine lv_iload_n hx hb d_M_strands_31 rfl (lv_at hl 1 rfl) ?_
        refine hp_iconst (z := 0) hx hb d_M_strands_32 (by rfl) ?_
        refine hp_iast hx hb hK.1 0 hsz hS (by show _ ∨ _; omega) rfl d_M_strands_33 (by omega) t (by omega) (by omega) (fun H locs hszn hz1 ho1 hS => ?_)
        rw [show (0 : Int) = ((0 : Nat) : Int) from by omega, nn_up] at hszn
        have hZ := hz1.trans hZ
        have hm := hm.keep (ho1 (mo) (by omega))
        have hsd := hsd.keep (ho1 (mo + 1) (by omega))
        have hwd := hwd.keep (ho1 (mo + 3) (by omega))
        have hkn := hkn.keep (ho1 (mo + 10) (by omega))
        have hsz : ca E H (mo + 2) (ai E 4 (fun k => (((hp_up c t 0) k : Nat) : Int))) := hszn
        refine lv_aload_n hx hb d_M_strands_34 rfl (lv_at hl 0 rfl) ?_
        refine hp_get (C := R_M) (T := F_M) (N := 19) (v := .ref (mo + 10)) hx hb hG la_M hown hK.1 hm rfl 13 (by decide) (hG _ fl_M_37) (fun _ h9 => h9) rfl d_M_strands_35 ?_
        refine lv_iload_n hx hb d_M_strands_38 rfl (lv_at hl 1 rfl) ?_
        refine hp_iconst (z := 0) hx hb d_M_strands_39 (by rfl) ?_
        refine hp_zast hx hb hK.1 1 hkn hS (by show _ ∨ _; omega) rfl d_M_strands_40 (by omega) false t (by omega) (by omega) (fun H locs hknn hz1 ho1 hS => ?_)
        have hZ := hz1.trans hZ
        have hm := hm.keep (ho1 (mo) (by omega))
        have hsd := hsd.keep (ho1 (mo + 1) (by omega))
        have hsz := hsz.keep (ho1 (mo + 2) (by omega))
        have hwd := hwd.keep (ho1 (mo + 3) (by omega))
        have hkn : ca E H (mo + 10) (hp_az (E.2 1) 4 (hp_up kz t false)) := hknn
        refine hp_iconst (z := 1) hx hb d_M_strands_41 (by rfl) ?_
        rw [hQ]
        refine hp_zretQ hx hb hrt hlocks d_M_strands_42 true (by first | rfl | assumption | simp [bI]) hS hZ ?_
        rw [Int.toNat_natCast, Int.toNat_natCast]
        exact Or.inl ⟨rfl, by omega, hm, hsd, hsz, hwd, hkn⟩
      · skip
        refine hp_iconst (z := 0) hx hb d_M_strands_18 (by rfl) ?_
        rw [hQ]
        refine hp_zretQ hx hb hrt hlocks d_M_strands_19 false (by first | rfl | assumption | simp [bI]) hS hZ ?_
        exact Or.inr ⟨rfl, by omega, hm, hsd, hsz, hwd, hkn⟩

set_option maxHeartbeats 4000000 in
set_option maxRecDepth 100000 in
/-- letter(s, l) -/
theorem c_M_letter (l : Launch) (E : hp_E) (mo : Nat) (th md fe ps : Int) (w c : Nat → Nat) (g : Nat → Int) (kz : Nat → Bool) (s0 l0 : Int) (hs0 : iR s0) (hl0 : iR l0) (hvm : ∀ i, i < 4 → 1 ≤ w i ∧ w i ≤ 8 ∧ c i ≤ 32) : Met l y_M_letter (Cond.code y_M_letter b_M_letter 3 (some .int) :: G0) ({ frames := 1, cells := 0, slots := 0, locals := 20 }) (hp_P E [.ref mo, .int (iI s0), .int (iI l0)] (fun H => mW E H mo th md fe ps w c g kz)) (hp_Qi (fun q => q = mo ∨ q = mo + 1 ∨ q = mo + 2 ∨ q = mo + 3 ∨ q = mo + 10) (fun r H => (r = (c s0.toNat : Int) + 1 ∧ (0 ≤ s0 ∧ s0 < 4 ∧ l0 ≠ 0 ∧ -(w s0.toNat : Int) < l0 ∧ l0 < (w s0.toNat : Int) ∧ c s0.toNat < 32) ∧ mW E H mo th md fe ps w (hp_up c s0.toNat (c s0.toNat + 1)) (hp_up g (32 * s0.toNat + c s0.toNat) l0) (hp_up kz s0.toNat false)) ∨ (r = -1 ∧ ¬ (0 ≤ s0 ∧ s0 < 4 ∧ l0 ≠ 0 ∧ -(w s0.toNat : Int) < l0 ∧ l0 < (w s0.toNat : Int) ∧ c s0.toNat < 32) ∧ mW E H mo th md fe ps w c g kz))) 0 0 (fun q => q = mo ∨ q = mo + 1 ∨ q = mo + 2 ∨ q = mo + 3 ∨ q = mo + 10) := by
  refine Met.ofW (cc := b_M_letter) (maxL := 3) (ret := some .int) (by decide) rfl ?_
  intro p e s m args below meth cd s₁ Bd hml hv
  obtain ⟨hargs, hB, hK⟩ := hv
  have hx := Bd.exec
  have hb := Bd.bytes
  have hrt := Bd.returns
  have hts := atoms_spec (ws := Cond.code y_M_letter b_M_letter 3 (some .int) :: G0) Bd.pre
  have hG : ∀ w ∈ G0, w.before args s = true := fun w h => hts w (List.mem_cons_of_mem _ h)
  have hown : s.vm.findClass R_M = some m.cls := findClass_of_methodNamed Bd.named
  have hlocks := Bd.notSynchronized
  have hl := lv_entry ([.ref mo, .int (iI s0), .int (iI l0)]) (n := 3) (Nat.le_of_ble_eq_true rfl)
  rw [show entryFrame m args 3 = entryFrame m ([.ref mo, .int (iI s0), .int (iI l0)] : List Value).toArray 3 from by rw [hargs]]
  rw [lg_entry_eq]
  generalize (lg_sl ([.ref mo, .int (iI s0), .int (iI l0)]) ++ List.replicate (3 - (lg_sl ([.ref mo, .int (iI s0), .int (iI l0)])).length) Slot.unset).toArray = ls at hl ⊢
  have hl : lv_has ls 3 [(0, .ref mo), (1, .int (iI s0)), (2, .int (iI l0))] := hl
  obtain ⟨R, hR⟩ : ∃ R, R = (headSpec (Cond.code y_M_letter b_M_letter 3 (some .int) :: G0) { frames := 1, cells := 0, slots := 0, locals := 20 }).room := ⟨_, rfl⟩
  rw [← hR]
  have hRf : R.frames = 1 := by rw [hR]; rfl
  have hRl : R.locals = 20 := by rw [hR]; rfl
  have hRc : R.cells = 0 := by rw [hR]; rfl
  have hRs : R.slots = 0 := by rw [hR]; rfl
  obtain ⟨Q, hQ⟩ : ∃ Q, Q = MQ below (hp_Qi (fun q => q = mo ∨ q = mo + 1 ∨ q = mo + 2 ∨ q = mo + 3 ∨ q = mo + 10) (fun r H => (r = (c s0.toNat : Int) + 1 ∧ (0 ≤ s0 ∧ s0 < 4 ∧ l0 ≠ 0 ∧ -(w s0.toNat : Int) < l0 ∧ l0 < (w s0.toNat : Int) ∧ c s0.toNat < 32) ∧ mW E H mo th md fe ps w (hp_up c s0.toNat (c s0.toNat + 1)) (hp_up g (32 * s0.toNat + c s0.toNat) l0) (hp_up kz s0.toNat false)) ∨ (r = -1 ∧ ¬ (0 ≤ s0 ∧ s0 < 4 ∧ l0 ≠ 0 ∧ -(w s0.toNat : Int) < l0 ∧ l0 < (w s0.toNat : Int) ∧ c s0.toNat < 32) ∧ mW E H mo th md fe ps w c g kz))) args s 0 0 (fun q => q = mo ∨ q = mo + 1 ∨ q = mo + 2 ∨ q = mo + 3 ∨ q = mo + 10) := ⟨_, rfl⟩
  rw [← hQ]
  obtain ⟨H, hH⟩ : ∃ H, H = s.heap := ⟨_, rfl⟩
  obtain ⟨locs, hlocs⟩ : ∃ locs : List Loc, locs = [] := ⟨_, rfl⟩
  have hS : va_S (fun q => q = mo ∨ q = mo + 1 ∨ q = mo + 2 ∨ q = mo + 3 ∨ q = mo + 10) s.heap H locs := by rw [hH, hlocs]; exact va_S.rf
  have hZ : H.size = s.heap.size := by rw [hH]
  rw [← hH] at hB
  rw [show W p l e R s m args below meth cd s.heap [] 0 0 Q (F0 m 0 ls []) = W p l e R s m args below meth cd H locs 0 0 Q (F0 m 0 ls []) from by rw [hH, hlocs]]
  obtain ⟨hm, hsd, hsz, hwd, hkn⟩ := hB
  refine lv_iload_n hx hb d_M_letter_0 rfl (lv_at hl 1 rfl) ?_
  refine hp_callS (W.runS (As := [.int (iI s0)]) (rest := []) ⟨hx, hb, hml, hown, hG⟩ (c_M_isSlot l E s0 (by unfold iR at *; omega)) (cwS 1 hG (hp_goodS ml_M_60 st_M_isSlot in_M co_M_isSlot) rfl rfl rfl hd_M_isSlot ⟨by rw [hRf]; exact Nat.le_of_ble_eq_true rfl, by rw [hRl]; exact Nat.le_of_ble_eq_true rfl⟩) (hp_preS hp_nsn hK trivial) rfl rfl hl.1 rfl (lv_room (Nat.le_of_ble_eq_true rfl)) d_M_letter_1 ⟨by rw [hRc]; exact Nat.le_of_ble_eq_true rfl, by rw [hRs]; exact Nat.le_of_ble_eq_true rfl⟩) ?_
  refine hp_ifb_eq (tgt := 43) hx hb d_M_letter_4 (by decide) (fun c4 => ?_) (fun c4 => ?_)
  · skip
    have c4 := of_decide_eq_false c4
    refine hp_iconst (z := (-1)) hx hb d_M_letter_43 (by rfl) ?_
    rw [hQ]
    refine hp_iretQ hx hb hrt hlocks d_M_letter_44 hS hZ ?_
    first | exact Or.inr ⟨rfl, by omega, hm, hsd, hsz, hwd, hkn⟩ | (rw [Int.toNat_natCast]; exact Or.inr ⟨rfl, by omega, hm, hsd, hsz, hwd, hkn⟩)
  · skip
    have c4 := of_decide_eq_true c4
    obtain ⟨t, rfl⟩ : ∃ q : Nat, s0 = (q : Int) := ⟨s0.toNat, by omega⟩
    have hvt := hvm t (by omega)
    refine lv_iload_n hx hb d_M_letter_7 rfl (lv_at hl 2 rfl) ?_
    refine hp_if_eq (tgt := 43) hx hb d_M_letter_8 (by decide) (by unfold iR at *; omega) (fun c8 => ?_) (fun c8 => ?_)
    · skip
      refine hp_iconst (z := (-1)) hx hb d_M_letter_43 (by rfl) ?_
      rw [hQ]
      refine hp_iretQ hx hb hrt hlocks d_M_letter_44 hS hZ ?_
      first | exact Or.inr ⟨rfl, by omega, hm, hsd, hsz, hwd, hkn⟩ | (rw [Int.toNat_natCast]; exact Or.inr ⟨rfl, by omega, hm, hsd, hsz, hwd, hkn⟩)
    · skip
      refine lv_iload_n hx hb d_M_letter_11 rfl (lv_at hl 2 rfl) ?_
      refine lv_aload_n hx hb d_M_letter_12 rfl (lv_at hl 0 rfl) ?_
      refine hp_get (C := R_M) (T := F_M) (N := 19) (v := .ref (mo + 1)) hx hb hG la_M hown hK.1 hm rfl 1 (by decide) (hG _ fl_M_7) (fun _ h9 => h9) rfl d_M_letter_13 ?_
      refine lv_iload_n hx hb d_M_letter_16 rfl (lv_at hl 1 rfl) ?_
      refine hp_iald hx hb hK.1 0 hsd rfl d_M_letter_17 (by omega) t (by omega) (by omega) ?_
      refine hp_icmp_ge (tgt := 43) hx hb d_M_letter_18 (by decide) (by unfold iR at *; omega) (by unfold iR at *; omega) (fun c18 => ?_) (fun c18 => ?_)
      · skip
        refine hp_iconst (z := (-1)) hx hb d_M_letter_43 (by rfl) ?_
        rw [hQ]
        refine hp_iretQ hx hb hrt hlocks d_M_letter_44 hS hZ ?_
        first | exact Or.inr ⟨rfl, by omega, hm, hsd, hsz, hwd, hkn⟩ | (rw [Int.toNat_natCast]; exact Or.inr ⟨rfl, by omega, hm, hsd, hsz, hwd, hkn⟩)
      · skip
        refine lv_iload_n hx hb d_M_letter_21 rfl (lv_at hl 2 rfl) ?_
        refine lv_aload_n hx hb d_M_letter_22 rfl (lv_at hl 0 rfl) ?_
        refine hp_get (C := R_M) (T := F_M) (N := 19) (v := .ref (mo + 1)) hx hb hG la_M hown hK.1 hm rfl 1 (by decide) (hG _ fl_M_7) (fun _ h9 => h9) rfl d_M_letter_23 ?_
        refine lv_iload_n hx hb d_M_letter_26 rfl (lv_at hl 1 rfl) ?_
        refine hp_iald hx hb hK.1 0 hsd rfl d_M_letter_27 (by omega) t (by omega) (by omega) ?_
        refine hp_ineg hx hb d_M_letter_28 ?_
        refine hp_icmp_le (tgt := 43) hx hb d_M_letter_29 (by decide) (by unfold iR at *; omega) (by unfold iR at *; omega) (fun c29 => ?_) (fun c29 => ?_)
        · skip
          refine hp_iconst (z := (-1)) hx hb d_M_letter_43 (by rfl) ?_
          rw [hQ]
          refine hp_iretQ hx hb hrt hlocks d_M_letter_44 hS hZ ?_
          first | exact Or.inr ⟨rfl, by omega, hm, hsd, hsz, hwd, hkn⟩ | (rw [Int.toNat_natCast]; exact Or.inr ⟨rfl, by omega, hm, hsd, hsz, hwd, hkn⟩)
        · skip
          refine lv_aload_n hx hb d_M_letter_32 rfl (lv_at hl 0 rfl) ?_
          refine hp_get (C := R_M) (T := F_M) (N := 19) (v := .ref (mo + 2)) hx hb hG la_M hown hK.1 hm rfl 2 (by decide) (hG _ fl_M_13) (fun _ h9 => h9) rfl d_M_letter_33 ?_
          refine lv_iload_n hx hb d_M_letter_36 rfl (lv_at hl 1 rfl) ?_
          refine hp_iald hx hb hK.1 0 hsz rfl d_M_letter_37 (by omega) t (by omega) (by omega) ?_
          refine hp_bipush (z := 32) hx hb d_M_letter_38 (by rfl) ?_
          refine hp_icmp_ne (tgt := 45) hx hb d_M_letter_40 (by decide) (by unfold iR at *; omega) (by unfold iR at *; omega) (fun c40 => ?_) (fun c40 => ?_)
          · skip
            refine lv_aload_n hx hb d_M_letter_45 rfl (lv_at hl 0 rfl) ?_
            refine hp_get (C := R_M) (T := F_M) (N := 19) (v := .ref (mo + 3)) hx hb hG la_M hown hK.1 hm rfl 3 (by decide) (hG _ fl_M_16) (fun _ h9 => h9) rfl d_M_letter_46 ?_
            refine hp_bipush (z := 32) hx hb d_M_letter_49 (by rfl) ?_
            refine lv_iload_n hx hb d_M_letter_51 rfl (lv_at hl 1 rfl) ?_
            refine hp_imul hx hb d_M_letter_52 ?_
            refine lv_aload_n hx hb d_M_letter_53 rfl (lv_at hl 0 rfl) ?_
            refine hp_get (C := R_M) (T := F_M) (N := 19) (v := .ref (mo + 2)) hx hb hG la_M hown hK.1 hm rfl 2 (by decide) (hG _ fl_M_13) (fun _ h9 => h9) rfl d_M_letter_54 ?_
            refine lv_iload_n hx hb d_M_letter_57 rfl (lv_at hl 1 rfl) ?_
            refine hp_iald hx hb hK.1 0 hsz rfl d_M_letter_58 (by omega) t (by omega) (by omega) ?_
            refine hp_iadd hx hb d_M_letter_59 ?_
            refine lv_iload_n hx hb d_M_letter_60 rfl (lv_at hl 2 rfl) ?_
            refine hp_iast hx hb hK.1 0 hwd hS (by show _ ∨ _; omega) rfl d_M_letter_61 (by omega) ((32 * t) + (c t)) (by omega) (by omega) (fun H locs hwdn hz1 ho1 hS => ?_)
            have hZ := hz1.trans hZ
            have hm := hm.keep (ho1 (mo) (by omega))
            have hsd := hsd.keep (ho1 (mo + 1) (by omega))
            have hsz := hsz.keep (ho1 (mo + 2) (by omega))
            have hkn := hkn.keep (ho1 (mo + 10) (by omega))
            have hwd : ca E H (mo + 3) (ai E 128 (hp_up g ((32 * t) + (c t)) l0)) := hwdn
            refine lv_aload_n hx hb d_M_letter_62 rfl (lv_at hl 0 rfl) ?_
            refine hp_get (C := R_M) (T := F_M) (N := 19) (v := .ref (mo + 2)) hx hb hG la_M hown hK.1 hm rfl 2 (by decide) (hG _ fl_M_13) (fun _ h9 => h9) rfl d_M_letter_63 ?_
            refine lv_iload_n hx hb d_M_letter_66 rfl (lv_at hl 1 rfl) ?_
            refine lv_dup2_11 hx hb d_M_letter_67 rfl rfl ?_
            refine hp_iald hx hb hK.1 0 hsz rfl d_M_letter_68 (by omega) t (by omega) (by omega) ?_
            refine hp_iconst (z := 1) hx hb d_M_letter_69 (by rfl) ?_
            refine hp_iadd hx hb d_M_letter_70 ?_
            refine hp_iast hx hb hK.1 0 hsz hS (by show _ ∨ _; omega) rfl d_M_letter_71 (by omega) t (by omega) (by omega) (fun H locs hszn hz1 ho1 hS => ?_)
            rw [show ((((c t : Nat) : Int) + 1) : Int) = ((((c t) + 1) : Nat) : Int) from by omega, nn_up] at hszn
            have hZ := hz1.trans hZ
            have hm := hm.keep (ho1 (mo) (by omega))
            have hsd := hsd.keep (ho1 (mo + 1) (by omega))
            have hwd := hwd.keep (ho1 (mo + 3) (by omega))
            have hkn := hkn.keep (ho1 (mo + 10) (by omega))
            have hsz : ca E H (mo + 2) (ai E 4 (fun k => (((hp_up c t ((c t) + 1)) k : Nat) : Int))) := hszn
            refine lv_aload_n hx hb d_M_letter_72 rfl (lv_at hl 0 rfl) ?_
            refine hp_get (C := R_M) (T := F_M) (N := 19) (v := .ref (mo + 10)) hx hb hG la_M hown hK.1 hm rfl 13 (by decide) (hG _ fl_M_37) (fun _ h9 => h9) rfl d_M_letter_73 ?_
            refine lv_iload_n hx hb d_M_letter_76 rfl (lv_at hl 1 rfl) ?_
            refine hp_iconst (z := 0) hx hb d_M_letter_77 (by rfl) ?_
            refine hp_zast hx hb hK.1 1 hkn hS (by show _ ∨ _; omega) rfl d_M_letter_78 (by omega) false t (by omega) (by omega) (fun H locs hknn hz1 ho1 hS => ?_)
            have hZ := hz1.trans hZ
            have hm := hm.keep (ho1 (mo) (by omega))
            have hsd := hsd.keep (ho1 (mo + 1) (by omega))
            have hsz := hsz.keep (ho1 (mo + 2) (by omega))
            have hwd := hwd.keep (ho1 (mo + 3) (by omega))
            have hkn : ca E H (mo + 10) (hp_az (E.2 1) 4 (hp_up kz t false)) := hknn
            refine lv_aload_n hx hb d_M_letter_79 rfl (lv_at hl 0 rfl) ?_
            refine hp_get (C := R_M) (T := F_M) (N := 19) (v := .ref (mo + 2)) hx hb hG la_M hown hK.1 hm rfl 2 (by decide) (hG _ fl_M_13) (fun _ h9 => h9) rfl d_M_letter_80 ?_
            refine lv_iload_n hx hb d_M_letter_83 rfl (lv_at hl 1 rfl) ?_
            refine hp_iald hx hb hK.1 0 hsz rfl d_M_letter_84 (by omega) t (by omega) (by omega) ?_
            rw [hQ]
            refine hp_iretQ hx hb hrt hlocks d_M_letter_85 hS hZ ?_
            rw [Int.toNat_natCast]
            refine Or.inl ⟨?_, by omega, hm, hsd, hsz, hwd, hkn⟩
            rw [hp_up_s]; omega
          · skip
            refine hp_iconst (z := (-1)) hx hb d_M_letter_43 (by rfl) ?_
            rw [hQ]
            refine hp_iretQ hx hb hrt hlocks d_M_letter_44 hS hZ ?_
            first | exact Or.inr ⟨rfl, by omega, hm, hsd, hsz, hwd, hkn⟩ | (rw [Int.toNat_natCast]; exact Or.inr ⟨rfl, by omega, hm, hsd, hsz, hwd, hkn⟩)

set_option maxHeartbeats 4000000 in
set_option maxRecDepth 100000 in
/-- at(s, k) -/
theorem c_M_at (l : Launch) (E : hp_E) (mo : Nat) (th md fe ps : Int) (w c : Nat → Nat) (g : Nat → Int) (kz : Nat → Bool) (s0 k0 : Int) (hs0 : iR s0) (hk0 : iR k0) (hvm : ∀ i, i < 4 → 1 ≤ w i ∧ w i ≤ 8 ∧ c i ≤ 32) : Met l y_M_at (Cond.code y_M_at b_M_at 3 (some .int) :: G0) ({ frames := 1, cells := 0, slots := 0, locals := 22 }) (hp_P E [.ref mo, .int (iI s0), .int (iI k0)] (fun H => mW E H mo th md fe ps w c g kz)) (hp_Si (if 0 ≤ s0 ∧ s0 < 4 ∧ 0 ≤ k0 ∧ k0 < (c s0.toNat : Int) then gw g s0.toNat k0.toNat else 0)) 0 0 (fun _ => False) := by
  refine Met.ofW (cc := b_M_at) (maxL := 3) (ret := some .int) (by decide) rfl ?_
  intro p e s m args below meth cd s₁ Bd hml hv
  obtain ⟨hargs, hB, hK⟩ := hv
  have hx := Bd.exec
  have hb := Bd.bytes
  have hrt := Bd.returns
  have hts := atoms_spec (ws := Cond.code y_M_at b_M_at 3 (some .int) :: G0) Bd.pre
  have hG : ∀ w ∈ G0, w.before args s = true := fun w h => hts w (List.mem_cons_of_mem _ h)
  have hown : s.vm.findClass R_M = some m.cls := findClass_of_methodNamed Bd.named
  have hlocks := Bd.notSynchronized
  have hl := lv_entry ([.ref mo, .int (iI s0), .int (iI k0)]) (n := 3) (Nat.le_of_ble_eq_true rfl)
  rw [show entryFrame m args 3 = entryFrame m ([.ref mo, .int (iI s0), .int (iI k0)] : List Value).toArray 3 from by rw [hargs]]
  rw [lg_entry_eq]
  generalize (lg_sl ([.ref mo, .int (iI s0), .int (iI k0)]) ++ List.replicate (3 - (lg_sl ([.ref mo, .int (iI s0), .int (iI k0)])).length) Slot.unset).toArray = ls at hl ⊢
  have hl : lv_has ls 3 [(0, .ref mo), (1, .int (iI s0)), (2, .int (iI k0))] := hl
  obtain ⟨R, hR⟩ : ∃ R, R = (headSpec (Cond.code y_M_at b_M_at 3 (some .int) :: G0) { frames := 1, cells := 0, slots := 0, locals := 22 }).room := ⟨_, rfl⟩
  rw [← hR]
  have hRf : R.frames = 1 := by rw [hR]; rfl
  have hRl : R.locals = 22 := by rw [hR]; rfl
  have hRc : R.cells = 0 := by rw [hR]; rfl
  have hRs : R.slots = 0 := by rw [hR]; rfl
  obtain ⟨Q, hQ⟩ : ∃ Q, Q = MQ below (hp_Si (if 0 ≤ s0 ∧ s0 < 4 ∧ 0 ≤ k0 ∧ k0 < (c s0.toNat : Int) then gw g s0.toNat k0.toNat else 0)) args s 0 0 (fun _ => False) := ⟨_, rfl⟩
  rw [← hQ]
  obtain ⟨hm, hsd, hsz, hwd, hkn⟩ := hB
  refine lv_iload_n hx hb d_M_at_0 rfl (lv_at hl 1 rfl) ?_
  refine hp_callS (W.runS (As := [.int (iI s0)]) (rest := []) ⟨hx, hb, hml, hown, hG⟩ (c_M_isSlot l E s0 (by unfold iR at *; omega)) (cwS 1 hG (hp_goodS ml_M_60 st_M_isSlot in_M co_M_isSlot) rfl rfl rfl hd_M_isSlot ⟨by rw [hRf]; exact Nat.le_of_ble_eq_true rfl, by rw [hRl]; exact Nat.le_of_ble_eq_true rfl⟩) (hp_preS hp_nsn hK trivial) rfl rfl hl.1 rfl (lv_room (Nat.le_of_ble_eq_true rfl)) d_M_at_1 ⟨by rw [hRc]; exact Nat.le_of_ble_eq_true rfl, by rw [hRs]; exact Nat.le_of_ble_eq_true rfl⟩) ?_
  refine hp_ifb_eq (tgt := 21) hx hb d_M_at_4 (by decide) (fun c4 => ?_) (fun c4 => ?_)
  · skip
    have c4 := of_decide_eq_false c4
    refine hp_iconst (z := 0) hx hb d_M_at_21 (by rfl) ?_
    refine lv_goto (tgt := 31) hx hb d_M_at_22 (by decide) ?_
    rw [hQ]
    refine hp_iretS hx hb hrt hlocks d_M_at_31 ?_
    first | (rw [if_neg (by omega)]) | (rw [Int.toNat_natCast, if_neg (by omega)]) | (rw [Int.toNat_natCast, Int.toNat_natCast, if_pos (by omega)])
  · skip
    have c4 := of_decide_eq_true c4
    obtain ⟨t, rfl⟩ : ∃ q : Nat, s0 = (q : Int) := ⟨s0.toNat, by omega⟩
    have hvt := hvm t (by omega)
    refine lv_iload_n hx hb d_M_at_7 rfl (lv_at hl 2 rfl) ?_
    refine hp_if_lt (tgt := 21) hx hb d_M_at_8 (by decide) (by unfold iR at *; omega) (fun c8 => ?_) (fun c8 => ?_)
    · skip
      refine hp_iconst (z := 0) hx hb d_M_at_21 (by rfl) ?_
      refine lv_goto (tgt := 31) hx hb d_M_at_22 (by decide) ?_
      rw [hQ]
      refine hp_iretS hx hb hrt hlocks d_M_at_31 ?_
      first | (rw [if_neg (by omega)]) | (rw [Int.toNat_natCast, if_neg (by omega)]) | (rw [Int.toNat_natCast, Int.toNat_natCast, if_pos (by omega)])
    · skip
      refine lv_iload_n hx hb d_M_at_11 rfl (lv_at hl 2 rfl) ?_
      refine lv_aload_n hx hb d_M_at_12 rfl (lv_at hl 0 rfl) ?_
      refine hp_get (C := R_M) (T := F_M) (N := 19) (v := .ref (mo + 2)) hx hb hG la_M hown hK.1 hm rfl 2 (by decide) (hG _ fl_M_13) (fun _ h9 => h9) rfl d_M_at_13 ?_
      refine lv_iload_n hx hb d_M_at_16 rfl (lv_at hl 1 rfl) ?_
      refine hp_iald hx hb hK.1 0 hsz rfl d_M_at_17 (by omega) t (by omega) (by omega) ?_
      refine hp_icmp_lt (tgt := 25) hx hb d_M_at_18 (by decide) (by unfold iR at *; omega) (by unfold iR at *; omega) (fun c18 => ?_) (fun c18 => ?_)
      · skip
        obtain ⟨k, rfl⟩ : ∃ q : Nat, k0 = (q : Int) := ⟨k0.toNat, by omega⟩
        refine lv_aload_n hx hb d_M_at_25 rfl (lv_at hl 0 rfl) ?_
        refine lv_iload_n hx hb d_M_at_26 rfl (lv_at hl 1 rfl) ?_
        refine lv_iload_n hx hb d_M_at_27 rfl (lv_at hl 2 rfl) ?_
        refine hp_callS (W.runV (As := [.int (iI (t : Int)), .int (iI (k : Int))]) (rest := []) ⟨hx, hb, hml, hown, hG⟩ (c_M_letterAt l E mo th md fe ps w c g kz t k (by omega)) (cwV 2 hG (hp_goodV ml_M_64 im_M_letterAt se_M_letterAt in_M co_M_letterAt) rfl rfl rfl hd_M_letterAt ⟨by rw [hRf]; exact Nat.le_of_ble_eq_true rfl, by rw [hRl]; exact Nat.le_of_ble_eq_true rfl⟩) (hp_preV (ci := 3) hp_nsn hK rfl hm ⟨hm, hsd, hsz, hwd, hkn⟩) rfl rfl hl.1 rfl (lv_room (Nat.le_of_ble_eq_true rfl)) d_M_at_28 ⟨by rw [hRc]; exact Nat.le_of_ble_eq_true rfl, by rw [hRs]; exact Nat.le_of_ble_eq_true rfl⟩) ?_
        rw [hQ]
        refine hp_iretS hx hb hrt hlocks d_M_at_31 ?_
        first | (rw [if_neg (by omega)]) | (rw [Int.toNat_natCast, if_neg (by omega)]) | (rw [Int.toNat_natCast, Int.toNat_natCast, if_pos (by omega)])
      · skip
        refine hp_iconst (z := 0) hx hb d_M_at_21 (by rfl) ?_
        refine lv_goto (tgt := 31) hx hb d_M_at_22 (by decide) ?_
        rw [hQ]
        refine hp_iretS hx hb hrt hlocks d_M_at_31 ?_
        first | (rw [if_neg (by omega)]) | (rw [Int.toNat_natCast, if_neg (by omega)]) | (rw [Int.toNat_natCast, Int.toNat_natCast, if_pos (by omega)])
