set_option maxHeartbeats 4000000 in
set_option maxRecDepth 100000 in
/-- swapAt(row, i) -/
theorem c_B_swapAt (l : Launch) (E : hp_E) (x n i : Nat) (g : Nat → Int) (hi : i + 1 < n) (hn : n ≤ 100) : Met l y_B_swapAt (Cond.code y_B_swapAt b_B_swapAt 3 (none) :: G0) ({ frames := 0, cells := 0, slots := 0, locals := 0 }) (hp_P E [.ref x, .int (iI (i : Int))] (fun H => ca E H x (ai E n g))) (hp_Qv (fun q => q = x) (fun H => ca E H x (ai E n (bw_sw g i)))) 0 0 (fun q => q = x) := by
  refine Met.ofW (cc := b_B_swapAt) (maxL := 3) (ret := none) (by decide) rfl ?_
  intro p e s m args below meth cd s₁ Bd hml hv
  obtain ⟨hargs, hB, hK⟩ := hv
  have hx := Bd.exec
  have hb := Bd.bytes
  have hrt := Bd.returns
  have hts := atoms_spec (ws := Cond.code y_B_swapAt b_B_swapAt 3 (none) :: G0) Bd.pre
  have hG : ∀ w ∈ G0, w.before args s = true := fun w h => hts w (List.mem_cons_of_mem _ h)
  have hown : s.vm.findClass R_B = some m.cls := findClass_of_methodNamed Bd.named
  have hlocks := Bd.notSynchronized
  have hl := lv_entry ([.ref x, .int (iI (i : Int))]) (n := 3) (Nat.le_of_ble_eq_true rfl)
  rw [show entryFrame m args 3 = entryFrame m ([.ref x, .int (iI (i : Int))] : List Value).toArray 3 from by rw [hargs]]
  rw [lg_entry_eq]
  generalize (lg_sl ([.ref x, .int (iI (i : Int))]) ++ List.replicate (3 - (lg_sl ([.ref x, .int (iI (i : Int))])).length) Slot.unset).toArray = ls at hl ⊢
  have hl : lv_has ls 3 [(0, .ref x), (1, .int (iI (i : Int)))] := hl
  obtain ⟨R, hR⟩ : ∃ R, R = (headSpec (Cond.code y_B_swapAt b_B_swapAt 3 (none) :: G0) { frames := 0, cells := 0, slots := 0, locals := 0 }).room := ⟨_, rfl⟩
  rw [← hR]
  have hRf : R.frames = 0 := by rw [hR]; rfl
  have hRl : R.locals = 0 := by rw [hR]; rfl
  have hRc : R.cells = 0 := by rw [hR]; rfl
  have hRs : R.slots = 0 := by rw [hR]; rfl
  obtain ⟨Q, hQ⟩ : ∃ Q, Q = MQ below (hp_Qv (fun q => q = x) (fun H => ca E H x (ai E n (bw_sw g i)))) args s 0 0 (fun q => q = x) := ⟨_, rfl⟩
  rw [← hQ]
  obtain ⟨H, hH⟩ : ∃ H, H = s.heap := ⟨_, rfl⟩
  obtain ⟨locs, hlocs⟩ : ∃ locs : List Loc, locs = [] := ⟨_, rfl⟩
  have hS : va_S (fun q => q = x) s.heap H locs := by rw [hH, hlocs]; exact va_S.rf
  have hZ : H.size = s.heap.size := by rw [hH]
  rw [← hH] at hB
  rw [show W p l e R s m args below meth cd s.heap [] 0 0 Q (F0 m 0 ls []) = W p l e R s m args below meth cd H locs 0 0 Q (F0 m 0 ls []) from by rw [hH, hlocs]]
  have hf1 := hB
  refine lv_aload_n hx hb d_B_swapAt_0 rfl (lv_at hl 0 rfl) ?_
  refine lv_iload_n hx hb d_B_swapAt_1 rfl (lv_at hl 1 rfl) ?_
  refine hp_iald hx hb hK.1 0 hf1 rfl d_B_swapAt_2 (by omega) i (by omega) (by omega) ?_
  refine lv_istore_n (lv' := [(2, .int (iI (g i))), (0, .ref x), (1, .int (iI (i : Int)))]) hx hb d_B_swapAt_3 rfl hl (by decide) rfl (fun ls hl => ?_)
  refine lv_aload_n hx hb d_B_swapAt_4 rfl (lv_at hl 1 rfl) ?_
  refine lv_iload_n hx hb d_B_swapAt_5 rfl (lv_at hl 2 rfl) ?_
  refine lv_aload_n hx hb d_B_swapAt_6 rfl (lv_at hl 1 rfl) ?_
  refine lv_iload_n hx hb d_B_swapAt_7 rfl (lv_at hl 2 rfl) ?_
  refine hp_iconst (z := 1) hx hb d_B_swapAt_8 (by rfl) ?_
  refine hp_iadd hx hb d_B_swapAt_9 ?_
  refine hp_iald hx hb hK.1 0 hf1 rfl d_B_swapAt_10 (by omega) (i + 1) (by omega) (by omega) ?_
  refine hp_iast hx hb hK.1 0 hf1 hS (by rfl) rfl d_B_swapAt_11 (by omega) i (by omega) (by omega) (fun H locs hf1n hz1 ho1 hS => ?_)
  have hZ := hz1.trans hZ
  have hf1 : ca E H (x) (ai E n (hp_up g i (g (i + 1)))) := hf1n
  refine lv_aload_n hx hb d_B_swapAt_12 rfl (lv_at hl 1 rfl) ?_
  refine lv_iload_n hx hb d_B_swapAt_13 rfl (lv_at hl 2 rfl) ?_
  refine hp_iconst (z := 1) hx hb d_B_swapAt_14 (by rfl) ?_
  refine hp_iadd hx hb d_B_swapAt_15 ?_
  refine lv_iload_n hx hb d_B_swapAt_16 rfl (lv_at hl 0 rfl) ?_
  refine hp_iast hx hb hK.1 0 hf1 hS (by rfl) rfl d_B_swapAt_17 (by omega) (i + 1) (by omega) (by omega) (fun H locs hf1n hz1 ho1 hS => ?_)
  have hZ := hz1.trans hZ
  have hf1 : ca E H (x) (ai E n (hp_up (hp_up g i (g (i + 1))) (i + 1) (g i))) := hf1n
  rw [hQ]
  refine hp_vretQ hx hb hrt hlocks d_B_swapAt_18 hS hZ ?_
  rw [show (bw_sw g i) = hp_up (hp_up g i (g (i + 1))) (i + 1) (g i) from rfl]
  exact hf1

set_option maxHeartbeats 4000000 in
set_option maxRecDepth 100000 in
/-- swapFar(k) -/
theorem c_W_swapFar (l : Launch) (E : hp_E) (a w c : Nat) (f : Nat → Int) (k0 : Int) (hk0 : iR k0) (hc : c ≤ 32) (hbd : bd f) : Met l y_W_swapFar (Cond.code y_W_swapFar b_W_swapFar 2 (some .boolean) :: G0) ({ frames := 2, cells := 0, slots := 0, locals := 42 }) (hp_P E [.ref a, .int (iI k0)] (fun H => wAt E H a w c f)) (hp_Qi (fun q => q = a ∨ q = a + 1) (fun r H => (r = 1 ∧ bw_far f c k0 ∧ wAt E H a w c (bw_sw f k0.toNat)) ∨ (r = 0 ∧ ¬ bw_far f c k0 ∧ wAt E H a w c f))) 0 0 (fun q => q = a ∨ q = a + 1) := by
  refine Met.ofW (cc := b_W_swapFar) (maxL := 2) (ret := some .boolean) (by decide) rfl ?_
  intro p e s m args below meth cd s₁ Bd hml hv
  obtain ⟨hargs, hB, hK⟩ := hv
  have hx := Bd.exec
  have hb := Bd.bytes
  have hrt := Bd.returns
  have hts := atoms_spec (ws := Cond.code y_W_swapFar b_W_swapFar 2 (some .boolean) :: G0) Bd.pre
  have hG : ∀ w ∈ G0, w.before args s = true := fun w h => hts w (List.mem_cons_of_mem _ h)
  have hown : s.vm.findClass R_W = some m.cls := findClass_of_methodNamed Bd.named
  have hlocks := Bd.notSynchronized
  have hl := lv_entry ([.ref a, .int (iI k0)]) (n := 2) (Nat.le_of_ble_eq_true rfl)
  rw [show entryFrame m args 2 = entryFrame m ([.ref a, .int (iI k0)] : List Value).toArray 2 from by rw [hargs]]
  rw [lg_entry_eq]
  generalize (lg_sl ([.ref a, .int (iI k0)]) ++ List.replicate (2 - (lg_sl ([.ref a, .int (iI k0)])).length) Slot.unset).toArray = ls at hl ⊢
  have hl : lv_has ls 2 [(0, .ref a), (1, .int (iI k0))] := hl
  obtain ⟨R, hR⟩ : ∃ R, R = (headSpec (Cond.code y_W_swapFar b_W_swapFar 2 (some .boolean) :: G0) { frames := 2, cells := 0, slots := 0, locals := 42 }).room := ⟨_, rfl⟩
  rw [← hR]
  have hRf : R.frames = 2 := by rw [hR]; rfl
  have hRl : R.locals = 42 := by rw [hR]; rfl
  have hRc : R.cells = 0 := by rw [hR]; rfl
  have hRs : R.slots = 0 := by rw [hR]; rfl
  obtain ⟨Q, hQ⟩ : ∃ Q, Q = MQ below (hp_Qi (fun q => q = a ∨ q = a + 1) (fun r H => (r = 1 ∧ bw_far f c k0 ∧ wAt E H a w c (bw_sw f k0.toNat)) ∨ (r = 0 ∧ ¬ bw_far f c k0 ∧ wAt E H a w c f))) args s 0 0 (fun q => q = a ∨ q = a + 1) := ⟨_, rfl⟩
  rw [← hQ]
  obtain ⟨H, hH⟩ : ∃ H, H = s.heap := ⟨_, rfl⟩
  obtain ⟨locs, hlocs⟩ : ∃ locs : List Loc, locs = [] := ⟨_, rfl⟩
  have hS : va_S (fun q => q = a ∨ q = a + 1) s.heap H locs := by rw [hH, hlocs]; exact va_S.rf
  have hZ : H.size = s.heap.size := by rw [hH]
  rw [← hH] at hB
  rw [show W p l e R s m args below meth cd s.heap [] 0 0 Q (F0 m 0 ls []) = W p l e R s m args below meth cd H locs 0 0 Q (F0 m 0 ls []) from by rw [hH, hlocs]]
  obtain ⟨hw, hf1⟩ := hB
  refine lv_aload_n hx hb d_W_swapFar_0 rfl (lv_at hl 0 rfl) ?_
  refine lv_iload_n hx hb d_W_swapFar_1 rfl (lv_at hl 1 rfl) ?_
  refine hp_iconst (z := 2) hx hb d_W_swapFar_2 (by rfl) ?_
  refine hp_callS (W.runV (As := [.int (iI k0), .int (iI 2)]) (rest := []) ⟨hx, hb, hml, hown, hG⟩ (c_W_hasLetters l E a w c f k0 2 (by unfold iR at *; omega) (by omega) hc) (cwV 2 hG (hp_goodV ml_W_56 im_W_hasLetters se_W_hasLetters in_W co_W_hasLetters) rfl rfl rfl hd_W_hasLetters ⟨by rw [hRf]; exact Nat.le_of_ble_eq_true rfl, by rw [hRl]; exact Nat.le_of_ble_eq_true rfl⟩) (hp_preV (ci := 0) hp_nsn hK rfl hw ⟨hw, hf1⟩) rfl rfl hl.1 rfl (lv_room (Nat.le_of_ble_eq_true rfl)) d_W_swapFar_3 ⟨by rw [hRc]; exact Nat.le_of_ble_eq_true rfl, by rw [hRs]; exact Nat.le_of_ble_eq_true rfl⟩) ?_
  refine hp_ifb_eq (tgt := 29) hx hb d_W_swapFar_6 (by decide) (fun c6 => ?_) (fun c6 => ?_)
  · skip
    have c6 := of_decide_eq_false c6
    refine hp_iconst (z := 0) hx hb d_W_swapFar_29 (by rfl) ?_
    rw [hQ]
    refine hp_zretQ hx hb hrt hlocks d_W_swapFar_30 false (by first | rfl | assumption | simp [bI]) hS hZ ?_
    exact Or.inr ⟨rfl, by first | (unfold bw_far; rw [Int.toNat_natCast]; omega) | (unfold bw_far; omega), hw, hf1⟩
  · skip
    have c6 := of_decide_eq_true c6
    obtain ⟨k, rfl⟩ : ∃ q : Nat, k0 = (q : Int) := ⟨k0.toNat, by omega⟩
    have h1 := hbd k
    have h2 := hbd (k + 1)
    refine lv_aload_n hx hb d_W_swapFar_9 rfl (lv_at hl 0 rfl) ?_
    refine lv_iload_n hx hb d_W_swapFar_10 rfl (lv_at hl 1 rfl) ?_
    refine hp_callS (W.runV (As := [.int (iI (k : Int))]) (rest := []) ⟨hx, hb, hml, hown, hG⟩ (c_W_value l E a w c f k (by omega) hbd) (cwV 1 hG (hp_goodV ml_W_43 im_W_value se_W_value in_W co_W_value) rfl rfl rfl hd_W_value ⟨by rw [hRf]; exact Nat.le_of_ble_eq_true rfl, by rw [hRl]; exact Nat.le_of_ble_eq_true rfl⟩) (hp_preV (ci := 0) hp_nsn hK rfl hw ⟨hw, hf1⟩) rfl rfl hl.1 rfl (lv_room (Nat.le_of_ble_eq_true rfl)) d_W_swapFar_11 ⟨by rw [hRc]; exact Nat.le_of_ble_eq_true rfl, by rw [hRs]; exact Nat.le_of_ble_eq_true rfl⟩) ?_
    refine lv_aload_n hx hb d_W_swapFar_14 rfl (lv_at hl 0 rfl) ?_
    refine lv_iload_n hx hb d_W_swapFar_15 rfl (lv_at hl 1 rfl) ?_
    refine hp_iconst (z := 1) hx hb d_W_swapFar_16 (by rfl) ?_
    refine hp_iadd hx hb d_W_swapFar_17 ?_
    refine hp_callS (W.runV (As := [.int (iI ((k : Int) + 1))]) (rest := [.int (iI ((f k).natAbs : Int))]) ⟨hx, hb, hml, hown, hG⟩ (c_W_value l E a w c f (k + 1) (by omega) hbd) (cwV 1 hG (hp_goodV ml_W_43 im_W_value se_W_value in_W co_W_value) rfl rfl rfl hd_W_value ⟨by rw [hRf]; exact Nat.le_of_ble_eq_true rfl, by rw [hRl]; exact Nat.le_of_ble_eq_true rfl⟩) (hp_preV (ci := 0) hp_nsn hK rfl hw ⟨hw, hf1⟩) rfl rfl hl.1 rfl (lv_room (Nat.le_of_ble_eq_true rfl)) d_W_swapFar_18 ⟨by rw [hRc]; exact Nat.le_of_ble_eq_true rfl, by rw [hRs]; exact Nat.le_of_ble_eq_true rfl⟩) ?_
    refine hp_isub hx hb d_W_swapFar_21 ?_
    refine hp_mabs (rest := []) hx hb (hml.trans hl.1.symm) hown (hG _ ml_W_28) (hG _ st_JM_abs) (hG _ in_JM) (hG _ co_JM_abs) (by omega) (by rw [hRl]; exact Nat.le_of_ble_eq_true rfl) (by omega) (by omega) d_W_swapFar_22 (by unfold iR at *; omega) ?_
    refine hp_iconst (z := 1) hx hb d_W_swapFar_25 (by rfl) ?_
    refine hp_icmp_gt (tgt := 31) hx hb d_W_swapFar_26 (by decide) (by unfold iR at *; omega) (by unfold iR at *; omega) (fun c26 => ?_) (fun c26 => ?_)
    · skip
      refine lv_aload_n hx hb d_W_swapFar_31 rfl (lv_at hl 0 rfl) ?_
      refine hp_get (C := R_W) (T := F_W) (N := 3) (v := .ref (a + 1)) hx hb hG la_W hown hK.1 hw rfl 0 (by decide) (hG _ fl_W_9) (fun _ h9 => h9) rfl d_W_swapFar_32 ?_
      refine lv_iload_n hx hb d_W_swapFar_35 rfl (lv_at hl 1 rfl) ?_
      refine hp_callv (va_Run.run (va_runSN (As := [.ref (a + 1), .int (iI (k : Int))]) (rest := []) ⟨hx, hb, hml, hown, hG⟩ (c_B_swapAt l E (a + 1) 32 k f (by omega) (by omega)) ⟨va_cnB 2 hG (hp_goodC co_B_swapAt) rfl rfl rfl (hK.2 _ ns_W_59) (hG _ in_B) hd_B_swapAt.2 ⟨by rw [hRf]; exact Nat.le_of_ble_eq_true rfl, by rw [hRl]; exact Nat.le_of_ble_eq_true rfl⟩, hG _ st_B_swapAt, trivial⟩ (hp_preS hp_nsn hK hf1) rfl rfl hl.1 rfl (lv_room (Nat.le_of_ble_eq_true rfl)) d_W_swapFar_36 ⟨by rw [hRc]; exact Nat.le_of_ble_eq_true rfl, by rw [hRs]; exact Nat.le_of_ble_eq_true rfl⟩)) hS (fun q h => by rw [h]; first | exact Or.inl rfl | exact Or.inr rfl | rfl | omega) (fun H locs hpost hz1 ho1 hS => ?_)
      have hZ := hz1.trans hZ
      have hw := hw.keep (ho1 (a) (by omega))
      have hf1 := hpost
      refine hp_iconst (z := 1) hx hb d_W_swapFar_39 (by rfl) ?_
      rw [hQ]
      refine hp_zretQ hx hb hrt hlocks d_W_swapFar_40 true (by first | rfl | assumption | simp [bI]) hS hZ ?_
      rw [Int.toNat_natCast]
      exact Or.inl ⟨rfl, by unfold bw_far; rw [Int.toNat_natCast]; omega, hw, hf1⟩
    · skip
      refine hp_iconst (z := 0) hx hb d_W_swapFar_29 (by rfl) ?_
      rw [hQ]
      refine hp_zretQ hx hb hrt hlocks d_W_swapFar_30 false (by first | rfl | assumption | simp [bI]) hS hZ ?_
      exact Or.inr ⟨rfl, by first | (unfold bw_far; rw [Int.toNat_natCast]; omega) | (unfold bw_far; omega), hw, hf1⟩

set_option maxHeartbeats 4000000 in
set_option maxRecDepth 100000 in
/-- canPass(k) -/
theorem c_W_canPass (l : Launch) (E : hp_E) (a w c : Nat) (f : Nat → Int) (k : Nat) (hk : k + 2 < 32) (hbd : bd f) : Met l y_W_canPass (Cond.code y_W_canPass b_W_canPass 4 (some .boolean) :: G0) ({ frames := 2, cells := 0, slots := 0, locals := 42 }) (hp_P E [.ref a, .int (iI (k : Int))] (fun H => wAt E H a w c f)) (hp_Si (bI (bw_can f k))) 0 0 (fun _ => False) := by
  refine Met.ofW (cc := b_W_canPass) (maxL := 4) (ret := some .boolean) (by decide) rfl ?_
  intro p e s m args below meth cd s₁ Bd hml hv
  obtain ⟨hargs, hB, hK⟩ := hv
  have hx := Bd.exec
  have hb := Bd.bytes
  have hrt := Bd.returns
  have hts := atoms_spec (ws := Cond.code y_W_canPass b_W_canPass 4 (some .boolean) :: G0) Bd.pre
  have hG : ∀ w ∈ G0, w.before args s = true := fun w h => hts w (List.mem_cons_of_mem _ h)
  have hown : s.vm.findClass R_W = some m.cls := findClass_of_methodNamed Bd.named
  have hlocks := Bd.notSynchronized
  have hl := lv_entry ([.ref a, .int (iI (k : Int))]) (n := 4) (Nat.le_of_ble_eq_true rfl)
  rw [show entryFrame m args 4 = entryFrame m ([.ref a, .int (iI (k : Int))] : List Value).toArray 4 from by rw [hargs]]
  rw [lg_entry_eq]
  generalize (lg_sl ([.ref a, .int (iI (k : Int))]) ++ List.replicate (4 - (lg_sl ([.ref a, .int (iI (k : Int))])).length) Slot.unset).toArray = ls at hl ⊢
  have hl : lv_has ls 4 [(0, .ref a), (1, .int (iI (k : Int)))] := hl
  obtain ⟨R, hR⟩ : ∃ R, R = (headSpec (Cond.code y_W_canPass b_W_canPass 4 (some .boolean) :: G0) { frames := 2, cells := 0, slots := 0, locals := 42 }).room := ⟨_, rfl⟩
  rw [← hR]
  have hRf : R.frames = 2 := by rw [hR]; rfl
  have hRl : R.locals = 42 := by rw [hR]; rfl
  have hRc : R.cells = 0 := by rw [hR]; rfl
  have hRs : R.slots = 0 := by rw [hR]; rfl
  obtain ⟨Q, hQ⟩ : ∃ Q, Q = MQ below (hp_Si (bI (bw_can f k))) args s 0 0 (fun _ => False) := ⟨_, rfl⟩
  rw [← hQ]
  obtain ⟨hw, hf1⟩ := hB
  have h1 := hbd k
  have h2 := hbd (k + 1)
  have h3 := hbd (k + 2)
  have h4 : -1 ≤ bw_sgn (f k) ∧ bw_sgn (f k) ≤ 1 := by unfold bw_sgn; split <;> (try split) <;> omega
  have h5 : -1 ≤ bw_sgn (f (k + 1)) ∧ bw_sgn (f (k + 1)) ≤ 1 := by unfold bw_sgn; split <;> (try split) <;> omega
  refine lv_aload_n hx hb d_W_canPass_0 rfl (lv_at hl 0 rfl) ?_
  refine lv_iload_n hx hb d_W_canPass_1 rfl (lv_at hl 1 rfl) ?_
  refine hp_callS (W.runV (As := [.int (iI (k : Int))]) (rest := []) ⟨hx, hb, hml, hown, hG⟩ (c_W_value l E a w c f k (by omega) hbd) (cwV 1 hG (hp_goodV ml_W_43 im_W_value se_W_value in_W co_W_value) rfl rfl rfl hd_W_value ⟨by rw [hRf]; exact Nat.le_of_ble_eq_true rfl, by rw [hRl]; exact Nat.le_of_ble_eq_true rfl⟩) (hp_preV (ci := 0) hp_nsn hK rfl hw ⟨hw, hf1⟩) rfl rfl hl.1 rfl (lv_room (Nat.le_of_ble_eq_true rfl)) d_W_canPass_2 ⟨by rw [hRc]; exact Nat.le_of_ble_eq_true rfl, by rw [hRs]; exact Nat.le_of_ble_eq_true rfl⟩) ?_
  refine lv_aload_n hx hb d_W_canPass_5 rfl (lv_at hl 0 rfl) ?_
  refine lv_iload_n hx hb d_W_canPass_6 rfl (lv_at hl 1 rfl) ?_
  refine hp_iconst (z := 2) hx hb d_W_canPass_7 (by rfl) ?_
  refine hp_iadd hx hb d_W_canPass_8 ?_
  refine hp_callS (W.runV (As := [.int (iI ((k : Int) + 2))]) (rest := [.int (iI ((f k).natAbs : Int))]) ⟨hx, hb, hml, hown, hG⟩ (c_W_value l E a w c f (k + 2) (by omega) hbd) (cwV 1 hG (hp_goodV ml_W_43 im_W_value se_W_value in_W co_W_value) rfl rfl rfl hd_W_value ⟨by rw [hRf]; exact Nat.le_of_ble_eq_true rfl, by rw [hRl]; exact Nat.le_of_ble_eq_true rfl⟩) (hp_preV (ci := 0) hp_nsn hK rfl hw ⟨hw, hf1⟩) rfl rfl hl.1 rfl (lv_room (Nat.le_of_ble_eq_true rfl)) d_W_canPass_9 ⟨by rw [hRc]; exact Nat.le_of_ble_eq_true rfl, by rw [hRs]; exact Nat.le_of_ble_eq_true rfl⟩) ?_
  refine hp_icmp_ne (tgt := 35) hx hb d_W_canPass_12 (by decide) (by unfold iR; omega) (by unfold iR; omega) (fun c12 => ?_) (fun c12 => ?_)
  · skip
    refine hp_iconst (z := 0) hx hb d_W_canPass_35 (by rfl) ?_
    rw [hQ]
    refine hp_zretS hx hb hrt hlocks d_W_canPass_36 ?_
    unfold bw_can
    rw [decide_eq_false (by omega)]
    rfl
  · skip
    refine lv_aload_n hx hb d_W_canPass_15 rfl (lv_at hl 0 rfl) ?_
    refine lv_iload_n hx hb d_W_canPass_16 rfl (lv_at hl 1 rfl) ?_
    refine hp_callS (W.runV (As := [.int (iI (k : Int))]) (rest := []) ⟨hx, hb, hml, hown, hG⟩ (c_W_value l E a w c f k (by omega) hbd) (cwV 1 hG (hp_goodV ml_W_43 im_W_value se_W_value in_W co_W_value) rfl rfl rfl hd_W_value ⟨by rw [hRf]; exact Nat.le_of_ble_eq_true rfl, by rw [hRl]; exact Nat.le_of_ble_eq_true rfl⟩) (hp_preV (ci := 0) hp_nsn hK rfl hw ⟨hw, hf1⟩) rfl rfl hl.1 rfl (lv_room (Nat.le_of_ble_eq_true rfl)) d_W_canPass_17 ⟨by rw [hRc]; exact Nat.le_of_ble_eq_true rfl, by rw [hRs]; exact Nat.le_of_ble_eq_true rfl⟩) ?_
    refine lv_aload_n hx hb d_W_canPass_20 rfl (lv_at hl 0 rfl) ?_
    refine lv_iload_n hx hb d_W_canPass_21 rfl (lv_at hl 1 rfl) ?_
    refine hp_iconst (z := 1) hx hb d_W_canPass_22 (by rfl) ?_
    refine hp_iadd hx hb d_W_canPass_23 ?_
    refine hp_callS (W.runV (As := [.int (iI ((k : Int) + 1))]) (rest := [.int (iI ((f k).natAbs : Int))]) ⟨hx, hb, hml, hown, hG⟩ (c_W_value l E a w c f (k + 1) (by omega) hbd) (cwV 1 hG (hp_goodV ml_W_43 im_W_value se_W_value in_W co_W_value) rfl rfl rfl hd_W_value ⟨by rw [hRf]; exact Nat.le_of_ble_eq_true rfl, by rw [hRl]; exact Nat.le_of_ble_eq_true rfl⟩) (hp_preV (ci := 0) hp_nsn hK rfl hw ⟨hw, hf1⟩) rfl rfl hl.1 rfl (lv_room (Nat.le_of_ble_eq_true rfl)) d_W_canPass_24 ⟨by rw [hRc]; exact Nat.le_of_ble_eq_true rfl, by rw [hRs]; exact Nat.le_of_ble_eq_true rfl⟩) ?_
    refine hp_isub hx hb d_W_canPass_27 ?_
    refine hp_mabs (rest := []) hx hb (hml.trans hl.1.symm) hown (hG _ ml_W_28) (hG _ st_JM_abs) (hG _ in_JM) (hG _ co_JM_abs) (by omega) (by rw [hRl]; exact Nat.le_of_ble_eq_true rfl) (by omega) (by omega) d_W_canPass_28 (by unfold iR; omega) ?_
    refine hp_iconst (z := 1) hx hb d_W_canPass_31 (by rfl) ?_
    refine hp_icmp_eq (tgt := 37) hx hb d_W_canPass_32 (by decide) (by unfold iR; omega) (by unfold iR; omega) (fun c32 => ?_) (fun c32 => ?_)
    · skip
      refine lv_aload_n hx hb d_W_canPass_37 rfl (lv_at hl 0 rfl) ?_
      refine hp_get (C := R_W) (T := F_W) (N := 3) (v := .ref (a + 1)) hx hb hG la_W hown hK.1 hw rfl 0 (by decide) (hG _ fl_W_9) (fun _ h9 => h9) rfl d_W_canPass_38 ?_
      refine lv_iload_n hx hb d_W_canPass_41 rfl (lv_at hl 1 rfl) ?_
      refine hp_iald hx hb hK.1 0 hf1 rfl d_W_canPass_42 (by omega) k (by omega) (by omega) ?_
      refine lv_aload_n hx hb d_W_canPass_43 rfl (lv_at hl 0 rfl) ?_
      refine hp_get (C := R_W) (T := F_W) (N := 3) (v := .ref (a + 1)) hx hb hG la_W hown hK.1 hw rfl 0 (by decide) (hG _ fl_W_9) (fun _ h9 => h9) rfl d_W_canPass_44 ?_
      refine lv_iload_n hx hb d_W_canPass_47 rfl (lv_at hl 1 rfl) ?_
      refine hp_iconst (z := 2) hx hb d_W_canPass_48 (by rfl) ?_
      refine hp_iadd hx hb d_W_canPass_49 ?_
      refine hp_iald hx hb hK.1 0 hf1 rfl d_W_canPass_50 (by omega) (k + 2) (by omega) (by omega) ?_
      refine hp_icmp_ne (tgt := 58) hx hb d_W_canPass_51 (by decide) (by unfold iR; omega) (by unfold iR; omega) (fun c51 => ?_) (fun c51 => ?_)
      · skip
        refine hp_iconst (z := 0) hx hb d_W_canPass_58 (by rfl) ?_
        refine lv_istore_n (lv' := [(2, .int (iI 0)), (0, .ref a), (1, .int (iI (k : Int)))]) hx hb d_W_canPass_59 rfl hl (by decide) rfl (fun ls hl => ?_)
        refine lv_aload_n hx hb d_W_canPass_60 rfl (lv_at hl 1 rfl) ?_
        refine hp_get (C := R_W) (T := F_W) (N := 3) (v := .ref (a + 1)) hx hb hG la_W hown hK.1 hw rfl 0 (by decide) (hG _ fl_W_9) (fun _ h9 => h9) rfl d_W_canPass_61 ?_
        refine lv_iload_n hx hb d_W_canPass_64 rfl (lv_at hl 2 rfl) ?_
        refine hp_iald hx hb hK.1 0 hf1 rfl d_W_canPass_65 (by omega) k (by omega) (by omega) ?_
        refine hp_callS (W.runS (As := [.int (iI (f k))]) (rest := []) ⟨hx, hb, hml, hown, hG⟩ (c_JI_signum l E (f k) (by omega) (by omega)) (va_cwS 1 hG (hp_goodT ml_W_34 st_JI_signum in_JI co_JI_signum) rfl rfl rfl hd_JI_signum.2 ⟨by rw [hRf]; exact Nat.le_of_ble_eq_true rfl, by rw [hRl]; exact Nat.le_of_ble_eq_true rfl⟩) (hp_preS hp_nsn hK trivial) rfl rfl hl.1 rfl (lv_room (Nat.le_of_ble_eq_true rfl)) d_W_canPass_66 ⟨by rw [hRc]; exact Nat.le_of_ble_eq_true rfl, by rw [hRs]; exact Nat.le_of_ble_eq_true rfl⟩) ?_
        refine lv_aload_n hx hb d_W_canPass_69 rfl (lv_at hl 1 rfl) ?_
        refine hp_get (C := R_W) (T := F_W) (N := 3) (v := .ref (a + 1)) hx hb hG la_W hown hK.1 hw rfl 0 (by decide) (hG _ fl_W_9) (fun _ h9 => h9) rfl d_W_canPass_70 ?_
        refine lv_iload_n hx hb d_W_canPass_73 rfl (lv_at hl 2 rfl) ?_
        refine hp_iconst (z := 1) hx hb d_W_canPass_74 (by rfl) ?_
        refine hp_iadd hx hb d_W_canPass_75 ?_
        refine hp_iald hx hb hK.1 0 hf1 rfl d_W_canPass_76 (by omega) (k + 1) (by omega) (by omega) ?_
        refine hp_callS (W.runS (As := [.int (iI (f (k + 1)))]) (rest := [.int (iI (bw_sgn (f k)))]) ⟨hx, hb, hml, hown, hG⟩ (c_JI_signum l E (f (k + 1)) (by omega) (by omega)) (va_cwS 1 hG (hp_goodT ml_W_34 st_JI_signum in_JI co_JI_signum) rfl rfl rfl hd_JI_signum.2 ⟨by rw [hRf]; exact Nat.le_of_ble_eq_true rfl, by rw [hRl]; exact Nat.le_of_ble_eq_true rfl⟩) (hp_preS hp_nsn hK trivial) rfl rfl hl.1 rfl (lv_room (Nat.le_of_ble_eq_true rfl)) d_W_canPass_77 ⟨by rw [hRc]; exact Nat.le_of_ble_eq_true rfl, by rw [hRs]; exact Nat.le_of_ble_eq_true rfl⟩) ?_
        refine hp_icmp_ne (tgt := 87) hx hb d_W_canPass_80 (by decide) (by unfold iR; omega) (by unfold iR; omega) (fun c80 => ?_) (fun c80 => ?_)
        · skip
          refine hp_iconst (z := 0) hx hb d_W_canPass_87 (by rfl) ?_
          refine lv_istore_n (lv' := [(3, .int (iI 0)), (2, .int (iI 0)), (0, .ref a), (1, .int (iI (k : Int)))]) hx hb d_W_canPass_88 rfl hl (by decide) rfl (fun ls hl => ?_)
          refine lv_iload_n hx hb d_W_canPass_89 rfl (lv_at hl 1 rfl) ?_
          refine hp_if_eq (tgt := 97) hx hb d_W_canPass_90 (by decide) (by unfold iR; omega) (fun c90 => ?_) (fun c90 => ?_)
          · skip
            refine hp_iconst (z := 1) hx hb d_W_canPass_97 (by rfl) ?_
            refine lv_goto (tgt := 102) hx hb d_W_canPass_98 (by decide) ?_
            rw [hQ]
            refine hp_zretS hx hb hrt hlocks d_W_canPass_102 ?_
            unfold bw_can
            first | (rw [decide_eq_true ⟨⟨by omega, by omega⟩, fun h => by omega⟩]; rfl) | (rw [decide_eq_false (fun h => by have h9 := h.2; omega)]; rfl)
          · skip
            exact absurd c90 (by first | decide | omega)
        · skip
          refine hp_iconst (z := 1) hx hb d_W_canPass_83 (by rfl) ?_
          refine lv_goto (tgt := 88) hx hb d_W_canPass_84 (by decide) ?_
          refine lv_istore_n (lv' := [(3, .int (iI 1)), (2, .int (iI 0)), (0, .ref a), (1, .int (iI (k : Int)))]) hx hb d_W_canPass_88 rfl hl (by decide) rfl (fun ls hl => ?_)
          refine lv_iload_n hx hb d_W_canPass_89 rfl (lv_at hl 1 rfl) ?_
          refine hp_if_eq (tgt := 97) hx hb d_W_canPass_90 (by decide) (by unfold iR; omega) (fun c90 => ?_) (fun c90 => ?_)
          · skip
            refine hp_iconst (z := 1) hx hb d_W_canPass_97 (by rfl) ?_
            refine lv_goto (tgt := 102) hx hb d_W_canPass_98 (by decide) ?_
            rw [hQ]
            refine hp_zretS hx hb hrt hlocks d_W_canPass_102 ?_
            unfold bw_can
            first | (rw [decide_eq_true ⟨⟨by omega, by omega⟩, fun h => by omega⟩]; rfl) | (rw [decide_eq_false (fun h => by have h9 := h.2; omega)]; rfl)
          · skip
            exact absurd c90 (by first | decide | omega)
      · skip
        refine hp_iconst (z := 1) hx hb d_W_canPass_54 (by rfl) ?_
        refine lv_goto (tgt := 59) hx hb d_W_canPass_55 (by decide) ?_
        refine lv_istore_n (lv' := [(2, .int (iI 1)), (0, .ref a), (1, .int (iI (k : Int)))]) hx hb d_W_canPass_59 rfl hl (by decide) rfl (fun ls hl => ?_)
        refine lv_aload_n hx hb d_W_canPass_60 rfl (lv_at hl 1 rfl) ?_
        refine hp_get (C := R_W) (T := F_W) (N := 3) (v := .ref (a + 1)) hx hb hG la_W hown hK.1 hw rfl 0 (by decide) (hG _ fl_W_9) (fun _ h9 => h9) rfl d_W_canPass_61 ?_
        refine lv_iload_n hx hb d_W_canPass_64 rfl (lv_at hl 2 rfl) ?_
        refine hp_iald hx hb hK.1 0 hf1 rfl d_W_canPass_65 (by omega) k (by omega) (by omega) ?_
        refine hp_callS (W.runS (As := [.int (iI (f k))]) (rest := []) ⟨hx, hb, hml, hown, hG⟩ (c_JI_signum l E (f k) (by omega) (by omega)) (va_cwS 1 hG (hp_goodT ml_W_34 st_JI_signum in_JI co_JI_signum) rfl rfl rfl hd_JI_signum.2 ⟨by rw [hRf]; exact Nat.le_of_ble_eq_true rfl, by rw [hRl]; exact Nat.le_of_ble_eq_true rfl⟩) (hp_preS hp_nsn hK trivial) rfl rfl hl.1 rfl (lv_room (Nat.le_of_ble_eq_true rfl)) d_W_canPass_66 ⟨by rw [hRc]; exact Nat.le_of_ble_eq_true rfl, by rw [hRs]; exact Nat.le_of_ble_eq_true rfl⟩) ?_
        refine lv_aload_n hx hb d_W_canPass_69 rfl (lv_at hl 1 rfl) ?_
        refine hp_get (C := R_W) (T := F_W) (N := 3) (v := .ref (a + 1)) hx hb hG la_W hown hK.1 hw rfl 0 (by decide) (hG _ fl_W_9) (fun _ h9 => h9) rfl d_W_canPass_70 ?_
        refine lv_iload_n hx hb d_W_canPass_73 rfl (lv_at hl 2 rfl) ?_
        refine hp_iconst (z := 1) hx hb d_W_canPass_74 (by rfl) ?_
        refine hp_iadd hx hb d_W_canPass_75 ?_
        refine hp_iald hx hb hK.1 0 hf1 rfl d_W_canPass_76 (by omega) (k + 1) (by omega) (by omega) ?_
        refine hp_callS (W.runS (As := [.int (iI (f (k + 1)))]) (rest := [.int (iI (bw_sgn (f k)))]) ⟨hx, hb, hml, hown, hG⟩ (c_JI_signum l E (f (k + 1)) (by omega) (by omega)) (va_cwS 1 hG (hp_goodT ml_W_34 st_JI_signum in_JI co_JI_signum) rfl rfl rfl hd_JI_signum.2 ⟨by rw [hRf]; exact Nat.le_of_ble_eq_true rfl, by rw [hRl]; exact Nat.le_of_ble_eq_true rfl⟩) (hp_preS hp_nsn hK trivial) rfl rfl hl.1 rfl (lv_room (Nat.le_of_ble_eq_true rfl)) d_W_canPass_77 ⟨by rw [hRc]; exact Nat.le_of_ble_eq_true rfl, by rw [hRs]; exact Nat.le_of_ble_eq_true rfl⟩) ?_
        refine hp_icmp_ne (tgt := 87) hx hb d_W_canPass_80 (by decide) (by unfold iR; omega) (by unfold iR; omega) (fun c80 => ?_) (fun c80 => ?_)
        · skip
          refine hp_iconst (z := 0) hx hb d_W_canPass_87 (by rfl) ?_
          refine lv_istore_n (lv' := [(3, .int (iI 0)), (2, .int (iI 1)), (0, .ref a), (1, .int (iI (k : Int)))]) hx hb d_W_canPass_88 rfl hl (by decide) rfl (fun ls hl => ?_)
          refine lv_iload_n hx hb d_W_canPass_89 rfl (lv_at hl 1 rfl) ?_
          refine hp_if_eq (tgt := 97) hx hb d_W_canPass_90 (by decide) (by unfold iR; omega) (fun c90 => ?_) (fun c90 => ?_)
          · skip
            exact absurd c90 (by first | decide | omega)
          · skip
            refine lv_iload_n hx hb d_W_canPass_93 rfl (lv_at hl 0 rfl) ?_
            refine hp_if_eq (tgt := 101) hx hb d_W_canPass_94 (by decide) (by unfold iR; omega) (fun c94 => ?_) (fun c94 => ?_)
            · skip
              refine hp_iconst (z := 0) hx hb d_W_canPass_101 (by rfl) ?_
              rw [hQ]
              refine hp_zretS hx hb hrt hlocks d_W_canPass_102 ?_
              unfold bw_can
              first | (rw [decide_eq_true ⟨⟨by omega, by omega⟩, fun h => by omega⟩]; rfl) | (rw [decide_eq_false (fun h => by have h9 := h.2; omega)]; rfl)
            · skip
              exact absurd c94 (by first | decide | omega)
        · skip
          refine hp_iconst (z := 1) hx hb d_W_canPass_83 (by rfl) ?_
          refine lv_goto (tgt := 88) hx hb d_W_canPass_84 (by decide) ?_
          refine lv_istore_n (lv' := [(3, .int (iI 1)), (2, .int (iI 1)), (0, .ref a), (1, .int (iI (k : Int)))]) hx hb d_W_canPass_88 rfl hl (by decide) rfl (fun ls hl => ?_)
          refine lv_iload_n hx hb d_W_canPass_89 rfl (lv_at hl 1 rfl) ?_
          refine hp_if_eq (tgt := 97) hx hb d_W_canPass_90 (by decide) (by unfold iR; omega) (fun c90 => ?_) (fun c90 => ?_)
          · skip
            exact absurd c90 (by first | decide | omega)
          · skip
            refine lv_iload_n hx hb d_W_canPass_93 rfl (lv_at hl 0 rfl) ?_
            refine hp_if_eq (tgt := 101) hx hb d_W_canPass_94 (by decide) (by unfold iR; omega) (fun c94 => ?_) (fun c94 => ?_)
            · skip
              exact absurd c94 (by first | decide | omega)
            · skip
              refine hp_iconst (z := 1) hx hb d_W_canPass_97 (by rfl) ?_
              refine lv_goto (tgt := 102) hx hb d_W_canPass_98 (by decide) ?_
              rw [hQ]
              refine hp_zretS hx hb hrt hlocks d_W_canPass_102 ?_
              unfold bw_can
              first | (rw [decide_eq_true ⟨⟨by omega, by omega⟩, fun h => by omega⟩]; rfl) | (rw [decide_eq_false (fun h => by have h9 := h.2; omega)]; rfl)
    · skip
      refine hp_iconst (z := 0) hx hb d_W_canPass_35 (by rfl) ?_
      rw [hQ]
      refine hp_zretS hx hb hrt hlocks d_W_canPass_36 ?_
      unfold bw_can
      rw [decide_eq_false (by omega)]
      rfl

set_option maxHeartbeats 4000000 in
set_option maxRecDepth 100000 in
/-- passOver(k) -/
theorem c_W_passOver (l : Launch) (E : hp_E) (a w c : Nat) (f : Nat → Int) (k0 : Int) (hk0 : iR k0) (hc : c ≤ 32) (hbd : bd f) : Met l y_W_passOver (Cond.code y_W_passOver b_W_passOver 7 (some .boolean) :: G0) ({ frames := 3, cells := 0, slots := 0, locals := 65 }) (hp_P E [.ref a, .int (iI k0)] (fun H => wAt E H a w c f)) (hp_Qi (fun q => q = a ∨ q = a + 1) (fun r H => (r = 1 ∧ (0 ≤ k0 ∧ k0 ≤ (c : Int) - 3 ∧ bw_can f k0.toNat = true) ∧ wAt E H a w c (bw_pas f k0.toNat)) ∨ (r = 0 ∧ ¬ (0 ≤ k0 ∧ k0 ≤ (c : Int) - 3 ∧ bw_can f k0.toNat = true) ∧ wAt E H a w c f))) 0 0 (fun q => q = a ∨ q = a + 1) := by
  refine Met.ofW (cc := b_W_passOver) (maxL := 7) (ret := some .boolean) (by decide) rfl ?_
  intro p e s m args below meth cd s₁ Bd hml hv
  obtain ⟨hargs, hB, hK⟩ := hv
  have hx := Bd.exec
  have hb := Bd.bytes
  have hrt := Bd.returns
  have hts := atoms_spec (ws := Cond.code y_W_passOver b_W_passOver 7 (some .boolean) :: G0) Bd.pre
  have hG : ∀ w ∈ G0, w.before args s = true := fun w h => hts w (List.mem_cons_of_mem _ h)
  have hown : s.vm.findClass R_W = some m.cls := findClass_of_methodNamed Bd.named
  have hlocks := Bd.notSynchronized
  have hl := lv_entry ([.ref a, .int (iI k0)]) (n := 7) (Nat.le_of_ble_eq_true rfl)
  rw [show entryFrame m args 7 = entryFrame m ([.ref a, .int (iI k0)] : List Value).toArray 7 from by rw [hargs]]
  rw [lg_entry_eq]
  generalize (lg_sl ([.ref a, .int (iI k0)]) ++ List.replicate (7 - (lg_sl ([.ref a, .int (iI k0)])).length) Slot.unset).toArray = ls at hl ⊢
  have hl : lv_has ls 7 [(0, .ref a), (1, .int (iI k0))] := hl
  obtain ⟨R, hR⟩ : ∃ R, R = (headSpec (Cond.code y_W_passOver b_W_passOver 7 (some .boolean) :: G0) { frames := 3, cells := 0, slots := 0, locals := 65 }).room := ⟨_, rfl⟩
  rw [← hR]
  have hRf : R.frames = 3 := by rw [hR]; rfl
  have hRl : R.locals = 65 := by rw [hR]; rfl
  have hRc : R.cells = 0 := by rw [hR]; rfl
  have hRs : R.slots = 0 := by rw [hR]; rfl
  obtain ⟨Q, hQ⟩ : ∃ Q, Q = MQ below (hp_Qi (fun q => q = a ∨ q = a + 1) (fun r H => (r = 1 ∧ (0 ≤ k0 ∧ k0 ≤ (c : Int) - 3 ∧ bw_can f k0.toNat = true) ∧ wAt E H a w c (bw_pas f k0.toNat)) ∨ (r = 0 ∧ ¬ (0 ≤ k0 ∧ k0 ≤ (c : Int) - 3 ∧ bw_can f k0.toNat = true) ∧ wAt E H a w c f))) args s 0 0 (fun q => q = a ∨ q = a + 1) := ⟨_, rfl⟩
  rw [← hQ]
  obtain ⟨H, hH⟩ : ∃ H, H = s.heap := ⟨_, rfl⟩
  obtain ⟨locs, hlocs⟩ : ∃ locs : List Loc, locs = [] := ⟨_, rfl⟩
  have hS : va_S (fun q => q = a ∨ q = a + 1) s.heap H locs := by rw [hH, hlocs]; exact va_S.rf
  have hZ : H.size = s.heap.size := by rw [hH]
  rw [← hH] at hB
  rw [show W p l e R s m args below meth cd s.heap [] 0 0 Q (F0 m 0 ls []) = W p l e R s m args below meth cd H locs 0 0 Q (F0 m 0 ls []) from by rw [hH, hlocs]]
  obtain ⟨hw, hf1⟩ := hB
  refine lv_aload_n hx hb d_W_passOver_0 rfl (lv_at hl 0 rfl) ?_
  refine lv_iload_n hx hb d_W_passOver_1 rfl (lv_at hl 1 rfl) ?_
  refine hp_iconst (z := 3) hx hb d_W_passOver_2 (by rfl) ?_
  refine hp_callS (W.runV (As := [.int (iI k0), .int (iI 3)]) (rest := []) ⟨hx, hb, hml, hown, hG⟩ (c_W_hasLetters l E a w c f k0 3 (by unfold iR at *; omega) (by omega) hc) (cwV 2 hG (hp_goodV ml_W_56 im_W_hasLetters se_W_hasLetters in_W co_W_hasLetters) rfl rfl rfl hd_W_hasLetters ⟨by rw [hRf]; exact Nat.le_of_ble_eq_true rfl, by rw [hRl]; exact Nat.le_of_ble_eq_true rfl⟩) (hp_preV (ci := 0) hp_nsn hK rfl hw ⟨hw, hf1⟩) rfl rfl hl.1 rfl (lv_room (Nat.le_of_ble_eq_true rfl)) d_W_passOver_3 ⟨by rw [hRc]; exact Nat.le_of_ble_eq_true rfl, by rw [hRs]; exact Nat.le_of_ble_eq_true rfl⟩) ?_
  refine hp_ifb_eq (tgt := 17) hx hb d_W_passOver_6 (by decide) (fun c6 => ?_) (fun c6 => ?_)
  · skip
    have c6 := of_decide_eq_false c6
    refine hp_iconst (z := 0) hx hb d_W_passOver_17 (by rfl) ?_
    rw [hQ]
    refine hp_zretQ hx hb hrt hlocks d_W_passOver_18 false (by first | rfl | assumption | simp [bI]) hS hZ ?_
    exact Or.inr ⟨rfl, by first | (rw [Int.toNat_natCast]; intro h; rw [c14] at h; exact absurd h.2.2 (by decide)) | omega, hw, hf1⟩
  · skip
    have c6 := of_decide_eq_true c6
    obtain ⟨k, rfl⟩ : ∃ q : Nat, k0 = (q : Int) := ⟨k0.toNat, by omega⟩
    have h1 := hbd k
    have h2 := hbd (k + 1)
    have h3 := hbd (k + 2)
    refine lv_aload_n hx hb d_W_passOver_9 rfl (lv_at hl 0 rfl) ?_
    refine lv_iload_n hx hb d_W_passOver_10 rfl (lv_at hl 1 rfl) ?_
    refine hp_callS (W.runV (As := [.int (iI (k : Int))]) (rest := []) ⟨hx, hb, hml, hown, hG⟩ (c_W_canPass l E a w c f k (by omega) hbd) (cwV 1 hG (hp_goodV ml_W_63 im_W_canPass se_W_canPass in_W co_W_canPass) rfl rfl rfl hd_W_canPass ⟨by rw [hRf]; exact Nat.le_of_ble_eq_true rfl, by rw [hRl]; exact Nat.le_of_ble_eq_true rfl⟩) (hp_preV (ci := 0) hp_nsn hK rfl hw ⟨hw, hf1⟩) rfl rfl hl.1 rfl (lv_room (Nat.le_of_ble_eq_true rfl)) d_W_passOver_11 ⟨by rw [hRc]; exact Nat.le_of_ble_eq_true rfl, by rw [hRs]; exact Nat.le_of_ble_eq_true rfl⟩) ?_
    refine hp_ifb_ne (tgt := 19) hx hb d_W_passOver_14 (by decide) (fun c14 => ?_) (fun c14 => ?_)
    · skip
      refine lv_aload_n hx hb d_W_passOver_19 rfl (lv_at hl 0 rfl) ?_
      refine lv_iload_n hx hb d_W_passOver_20 rfl (lv_at hl 1 rfl) ?_
      refine hp_callS (W.runV (As := [.int (iI (k : Int))]) (rest := []) ⟨hx, hb, hml, hown, hG⟩ (c_W_value l E a w c f k (by omega) hbd) (cwV 1 hG (hp_goodV ml_W_43 im_W_value se_W_value in_W co_W_value) rfl rfl rfl hd_W_value ⟨by rw [hRf]; exact Nat.le_of_ble_eq_true rfl, by rw [hRl]; exact Nat.le_of_ble_eq_true rfl⟩) (hp_preV (ci := 0) hp_nsn hK rfl hw ⟨hw, hf1⟩) rfl rfl hl.1 rfl (lv_room (Nat.le_of_ble_eq_true rfl)) d_W_passOver_21 ⟨by rw [hRc]; exact Nat.le_of_ble_eq_true rfl, by rw [hRs]; exact Nat.le_of_ble_eq_true rfl⟩) ?_
      refine lv_istore_n (lv' := [(2, .int (iI ((f k).natAbs : Int))), (0, .ref a), (1, .int (iI (k : Int)))]) hx hb d_W_passOver_24 rfl hl (by decide) rfl (fun ls hl => ?_)
      refine lv_aload_n hx hb d_W_passOver_25 rfl (lv_at hl 1 rfl) ?_
      refine lv_iload_n hx hb d_W_passOver_26 rfl (lv_at hl 2 rfl) ?_
      refine hp_iconst (z := 1) hx hb d_W_passOver_27 (by rfl) ?_
      refine hp_iadd hx hb d_W_passOver_28 ?_
      refine hp_callS (W.runV (As := [.int (iI ((k : Int) + 1))]) (rest := []) ⟨hx, hb, hml, hown, hG⟩ (c_W_value l E a w c f (k + 1) (by omega) hbd) (cwV 1 hG (hp_goodV ml_W_43 im_W_value se_W_value in_W co_W_value) rfl rfl rfl hd_W_value ⟨by rw [hRf]; exact Nat.le_of_ble_eq_true rfl, by rw [hRl]; exact Nat.le_of_ble_eq_true rfl⟩) (hp_preV (ci := 0) hp_nsn hK rfl hw ⟨hw, hf1⟩) rfl rfl hl.1 rfl (lv_room (Nat.le_of_ble_eq_true rfl)) d_W_passOver_29 ⟨by rw [hRc]; exact Nat.le_of_ble_eq_true rfl, by rw [hRs]; exact Nat.le_of_ble_eq_true rfl⟩) ?_
      refine lv_istore_n (lv' := [(3, .int (iI ((f (k + 1)).natAbs : Int))), (2, .int (iI ((f k).natAbs : Int))), (0, .ref a), (1, .int (iI (k : Int)))]) hx hb d_W_passOver_32 rfl hl (by decide) rfl (fun ls hl => ?_)
      refine lv_aload_n hx hb d_W_passOver_33 rfl (lv_at hl 2 rfl) ?_
      refine hp_get (C := R_W) (T := F_W) (N := 3) (v := .ref (a + 1)) hx hb hG la_W hown hK.1 hw rfl 0 (by decide) (hG _ fl_W_9) (fun _ h9 => h9) rfl d_W_passOver_34 ?_
      refine lv_iload_n hx hb d_W_passOver_37 rfl (lv_at hl 3 rfl) ?_
      refine hp_iald hx hb hK.1 0 hf1 rfl d_W_passOver_38 (by omega) k (by omega) (by omega) ?_
      refine hp_callS (W.runS (As := [.int (iI (f k))]) (rest := []) ⟨hx, hb, hml, hown, hG⟩ (c_JI_signum l E (f k) (by omega) (by omega)) (va_cwS 1 hG (hp_goodT ml_W_34 st_JI_signum in_JI co_JI_signum) rfl rfl rfl hd_JI_signum.2 ⟨by rw [hRf]; exact Nat.le_of_ble_eq_true rfl, by rw [hRl]; exact Nat.le_of_ble_eq_true rfl⟩) (hp_preS hp_nsn hK trivial) rfl rfl hl.1 rfl (lv_room (Nat.le_of_ble_eq_true rfl)) d_W_passOver_39 ⟨by rw [hRc]; exact Nat.le_of_ble_eq_true rfl, by rw [hRs]; exact Nat.le_of_ble_eq_true rfl⟩) ?_
      refine lv_istore (lv' := [(4, .int (iI (bw_sgn (f k)))), (3, .int (iI ((f (k + 1)).natAbs : Int))), (2, .int (iI ((f k).natAbs : Int))), (0, .ref a), (1, .int (iI (k : Int)))]) hx hb d_W_passOver_42 hl (by decide) rfl (fun ls hl => ?_)
      refine lv_aload_n hx hb d_W_passOver_44 rfl (lv_at hl 3 rfl) ?_
      refine hp_get (C := R_W) (T := F_W) (N := 3) (v := .ref (a + 1)) hx hb hG la_W hown hK.1 hw rfl 0 (by decide) (hG _ fl_W_9) (fun _ h9 => h9) rfl d_W_passOver_45 ?_
      refine lv_iload_n hx hb d_W_passOver_48 rfl (lv_at hl 4 rfl) ?_
      refine hp_iconst (z := 1) hx hb d_W_passOver_49 (by rfl) ?_
      refine hp_iadd hx hb d_W_passOver_50 ?_
      refine hp_iald hx hb hK.1 0 hf1 rfl d_W_passOver_51 (by omega) (k + 1) (by omega) (by omega) ?_
      refine hp_callS (W.runS (As := [.int (iI (f (k + 1)))]) (rest := []) ⟨hx, hb, hml, hown, hG⟩ (c_JI_signum l E (f (k + 1)) (by omega) (by omega)) (va_cwS 1 hG (hp_goodT ml_W_34 st_JI_signum in_JI co_JI_signum) rfl rfl rfl hd_JI_signum.2 ⟨by rw [hRf]; exact Nat.le_of_ble_eq_true rfl, by rw [hRl]; exact Nat.le_of_ble_eq_true rfl⟩) (hp_preS hp_nsn hK trivial) rfl rfl hl.1 rfl (lv_room (Nat.le_of_ble_eq_true rfl)) d_W_passOver_52 ⟨by rw [hRc]; exact Nat.le_of_ble_eq_true rfl, by rw [hRs]; exact Nat.le_of_ble_eq_true rfl⟩) ?_
      refine lv_istore (lv' := [(5, .int (iI (bw_sgn (f (k + 1))))), (4, .int (iI (bw_sgn (f k)))), (3, .int (iI ((f (k + 1)).natAbs : Int))), (2, .int (iI ((f k).natAbs : Int))), (0, .ref a), (1, .int (iI (k : Int)))]) hx hb d_W_passOver_55 hl (by decide) rfl (fun ls hl => ?_)
      refine lv_aload_n hx hb d_W_passOver_57 rfl (lv_at hl 4 rfl) ?_
      refine hp_get (C := R_W) (T := F_W) (N := 3) (v := .ref (a + 1)) hx hb hG la_W hown hK.1 hw rfl 0 (by decide) (hG _ fl_W_9) (fun _ h9 => h9) rfl d_W_passOver_58 ?_
      refine lv_iload_n hx hb d_W_passOver_61 rfl (lv_at hl 5 rfl) ?_
      refine hp_iconst (z := 2) hx hb d_W_passOver_62 (by rfl) ?_
      refine hp_iadd hx hb d_W_passOver_63 ?_
      refine hp_iald hx hb hK.1 0 hf1 rfl d_W_passOver_64 (by omega) (k + 2) (by omega) (by omega) ?_
      refine hp_callS (W.runS (As := [.int (iI (f (k + 2)))]) (rest := []) ⟨hx, hb, hml, hown, hG⟩ (c_JI_signum l E (f (k + 2)) (by omega) (by omega)) (va_cwS 1 hG (hp_goodT ml_W_34 st_JI_signum in_JI co_JI_signum) rfl rfl rfl hd_JI_signum.2 ⟨by rw [hRf]; exact Nat.le_of_ble_eq_true rfl, by rw [hRl]; exact Nat.le_of_ble_eq_true rfl⟩) (hp_preS hp_nsn hK trivial) rfl rfl hl.1 rfl (lv_room (Nat.le_of_ble_eq_true rfl)) d_W_passOver_65 ⟨by rw [hRc]; exact Nat.le_of_ble_eq_true rfl, by rw [hRs]; exact Nat.le_of_ble_eq_true rfl⟩) ?_
      refine lv_istore (lv' := [(6, .int (iI (bw_sgn (f (k + 2))))), (5, .int (iI (bw_sgn (f (k + 1))))), (4, .int (iI (bw_sgn (f k)))), (3, .int (iI ((f (k + 1)).natAbs : Int))), (2, .int (iI ((f k).natAbs : Int))), (0, .ref a), (1, .int (iI (k : Int)))]) hx hb d_W_passOver_68 hl (by decide) rfl (fun ls hl => ?_)
      refine lv_aload_n hx hb d_W_passOver_70 rfl (lv_at hl 5 rfl) ?_
      refine hp_get (C := R_W) (T := F_W) (N := 3) (v := .ref (a + 1)) hx hb hG la_W hown hK.1 hw rfl 0 (by decide) (hG _ fl_W_9) (fun _ h9 => h9) rfl d_W_passOver_71 ?_
      refine lv_iload_n hx hb d_W_passOver_74 rfl (lv_at hl 6 rfl) ?_
      refine lv_iload hx hb d_W_passOver_75 (lv_at hl 0 rfl) ?_
      refine lv_iload_n hx hb d_W_passOver_77 rfl (lv_at hl 3 rfl) ?_
      refine hp_imul hx hb d_W_passOver_78 ?_
      refine hp_iast hx hb hK.1 0 hf1 hS (by first | exact Or.inl rfl | exact Or.inr rfl | rfl | omega) rfl d_W_passOver_79 (by omega) k (by omega) (by omega) (fun H locs hf1n hz1 ho1 hS => ?_)
      have hZ := hz1.trans hZ
      have hw := hw.keep (ho1 (a) (by omega))
      have hf1 : ca E H (a + 1) (ai E 32 (hp_up f k ((bw_sgn (f (k + 2))) * ((f (k + 1)).natAbs : Int)))) := hf1n
      refine lv_aload_n hx hb d_W_passOver_80 rfl (lv_at hl 5 rfl) ?_
      refine hp_get (C := R_W) (T := F_W) (N := 3) (v := .ref (a + 1)) hx hb hG la_W hown hK.1 hw rfl 0 (by decide) (hG _ fl_W_9) (fun _ h9 => h9) rfl d_W_passOver_81 ?_
      refine lv_iload_n hx hb d_W_passOver_84 rfl (lv_at hl 6 rfl) ?_
      refine hp_iconst (z := 1) hx hb d_W_passOver_85 (by rfl) ?_
      refine hp_iadd hx hb d_W_passOver_86 ?_
      refine lv_iload hx hb d_W_passOver_87 (lv_at hl 1 rfl) ?_
      refine lv_iload_n hx hb d_W_passOver_89 rfl (lv_at hl 4 rfl) ?_
      refine hp_imul hx hb d_W_passOver_90 ?_
      refine hp_iast hx hb hK.1 0 hf1 hS (by first | exact Or.inl rfl | exact Or.inr rfl | rfl | omega) rfl d_W_passOver_91 (by omega) (k + 1) (by omega) (by omega) (fun H locs hf1n hz1 ho1 hS => ?_)
      have hZ := hz1.trans hZ
      have hw := hw.keep (ho1 (a) (by omega))
      have hf1 : ca E H (a + 1) (ai E 32 (hp_up (hp_up f k ((bw_sgn (f (k + 2))) * ((f (k + 1)).natAbs : Int))) (k + 1) ((bw_sgn (f (k + 1))) * ((f k).natAbs : Int)))) := hf1n
      refine lv_aload_n hx hb d_W_passOver_92 rfl (lv_at hl 5 rfl) ?_
      refine hp_get (C := R_W) (T := F_W) (N := 3) (v := .ref (a + 1)) hx hb hG la_W hown hK.1 hw rfl 0 (by decide) (hG _ fl_W_9) (fun _ h9 => h9) rfl d_W_passOver_93 ?_
      refine lv_iload_n hx hb d_W_passOver_96 rfl (lv_at hl 6 rfl) ?_
      refine hp_iconst (z := 2) hx hb d_W_passOver_97 (by rfl) ?_
      refine hp_iadd hx hb d_W_passOver_98 ?_
      refine lv_iload hx hb d_W_passOver_99 (lv_at hl 2 rfl) ?_
      refine lv_iload_n hx hb d_W_passOver_101 rfl (lv_at hl 3 rfl) ?_
      refine hp_imul hx hb d_W_passOver_102 ?_
      refine hp_iast hx hb hK.1 0 hf1 hS (by first | exact Or.inl rfl | exact Or.inr rfl | rfl | omega) rfl d_W_passOver_103 (by omega) (k + 2) (by omega) (by omega) (fun H locs hf1n hz1 ho1 hS => ?_)
      have hZ := hz1.trans hZ
      have hw := hw.keep (ho1 (a) (by omega))
      have hf1 : ca E H (a + 1) (ai E 32 (hp_up (hp_up (hp_up f k ((bw_sgn (f (k + 2))) * ((f (k + 1)).natAbs : Int))) (k + 1) ((bw_sgn (f (k + 1))) * ((f k).natAbs : Int))) (k + 2) ((bw_sgn (f k)) * ((f (k + 1)).natAbs : Int)))) := hf1n
      refine hp_iconst (z := 1) hx hb d_W_passOver_104 (by rfl) ?_
      rw [hQ]
      refine hp_zretQ hx hb hrt hlocks d_W_passOver_105 true (by first | rfl | assumption | simp [bI]) hS hZ ?_
      rw [Int.toNat_natCast]
      exact Or.inl ⟨rfl, ⟨by omega, by omega, c14⟩, hw, hf1⟩
    · skip
      refine hp_iconst (z := 0) hx hb d_W_passOver_17 (by rfl) ?_
      rw [hQ]
      refine hp_zretQ hx hb hrt hlocks d_W_passOver_18 false (by first | rfl | assumption | simp [bI]) hS hZ ?_
      exact Or.inr ⟨rfl, by first | (rw [Int.toNat_natCast]; intro h; rw [c14] at h; exact absurd h.2.2 (by decide)) | omega, hw, hf1⟩

set_option maxHeartbeats 4000000 in
set_option maxRecDepth 100000 in
/-- madeLabel(k, place) -/
theorem c_W_madeLabel (l : Launch) (E : hp_E) (a w c : Nat) (f : Nat → Int) (k : Nat) (p0 : Int) (hk : k < 32) (hbd : bd f) : Met l y_W_madeLabel (Cond.code y_W_madeLabel b_W_madeLabel 3 (some .int) :: G0) ({ frames := 2, cells := 0, slots := 0, locals := 42 }) (hp_P E [.ref a, .int (iI (k : Int)), .int (iI p0)] (fun H => wAt E H a w c f)) (hp_Si (bw_mk w f k p0)) 0 0 (fun _ => False) := by
  refine Met.ofW (cc := b_W_madeLabel) (maxL := 3) (ret := some .int) (by decide) rfl ?_
  intro p e s m args below meth cd s₁ Bd hml hv
  obtain ⟨hargs, hB, hK⟩ := hv
  have hx := Bd.exec
  have hb := Bd.bytes
  have hrt := Bd.returns
  have hts := atoms_spec (ws := Cond.code y_W_madeLabel b_W_madeLabel 3 (some .int) :: G0) Bd.pre
  have hG : ∀ w ∈ G0, w.before args s = true := fun w h => hts w (List.mem_cons_of_mem _ h)
  have hown : s.vm.findClass R_W = some m.cls := findClass_of_methodNamed Bd.named
  have hlocks := Bd.notSynchronized
  have hl := lv_entry ([.ref a, .int (iI (k : Int)), .int (iI p0)]) (n := 3) (Nat.le_of_ble_eq_true rfl)
  rw [show entryFrame m args 3 = entryFrame m ([.ref a, .int (iI (k : Int)), .int (iI p0)] : List Value).toArray 3 from by rw [hargs]]
  rw [lg_entry_eq]
  generalize (lg_sl ([.ref a, .int (iI (k : Int)), .int (iI p0)]) ++ List.replicate (3 - (lg_sl ([.ref a, .int (iI (k : Int)), .int (iI p0)])).length) Slot.unset).toArray = ls at hl ⊢
  have hl : lv_has ls 3 [(0, .ref a), (1, .int (iI (k : Int))), (2, .int (iI p0))] := hl
  obtain ⟨R, hR⟩ : ∃ R, R = (headSpec (Cond.code y_W_madeLabel b_W_madeLabel 3 (some .int) :: G0) { frames := 2, cells := 0, slots := 0, locals := 42 }).room := ⟨_, rfl⟩
  rw [← hR]
  have hRf : R.frames = 2 := by rw [hR]; rfl
  have hRl : R.locals = 42 := by rw [hR]; rfl
  have hRc : R.cells = 0 := by rw [hR]; rfl
  have hRs : R.slots = 0 := by rw [hR]; rfl
  obtain ⟨Q, hQ⟩ : ∃ Q, Q = MQ below (hp_Si (bw_mk w f k p0)) args s 0 0 (fun _ => False) := ⟨_, rfl⟩
  rw [← hQ]
  obtain ⟨hw, hf1⟩ := hB
  refine lv_aload_n hx hb d_W_madeLabel_0 rfl (lv_at hl 0 rfl) ?_
  refine hp_get (C := R_W) (T := F_W) (N := 3) (v := .int (iI (w : Int))) hx hb hG la_W hown hK.1 hw rfl 1 (by decide) (hG _ fl_W_15) (fun _ h9 => h9) rfl d_W_madeLabel_1 ?_
  refine hp_iconst (z := 1) hx hb d_W_madeLabel_4 (by rfl) ?_
  refine hp_iadd hx hb d_W_madeLabel_5 ?_
  refine hp_iconst (z := 2) hx hb d_W_madeLabel_6 (by rfl) ?_
  refine lv_iload_n hx hb d_W_madeLabel_7 rfl (lv_at hl 1 rfl) ?_
  refine hp_imul hx hb d_W_madeLabel_8 ?_
  refine hp_iadd hx hb d_W_madeLabel_9 ?_
  refine lv_iload_n hx hb d_W_madeLabel_10 rfl (lv_at hl 2 rfl) ?_
  refine lv_aload_n hx hb d_W_madeLabel_11 rfl (lv_at hl 0 rfl) ?_
  refine lv_iload_n hx hb d_W_madeLabel_12 rfl (lv_at hl 1 rfl) ?_
  refine hp_callS (W.runV (As := [.int (iI (k : Int))]) (rest := [.int (iI p0), .int (iI (((w : Int) + 1) + (2 * (k : Int))))]) ⟨hx, hb, hml, hown, hG⟩ (c_W_value l E a w c f k (by omega) hbd) (cwV 1 hG (hp_goodV ml_W_43 im_W_value se_W_value in_W co_W_value) rfl rfl rfl hd_W_value ⟨by rw [hRf]; exact Nat.le_of_ble_eq_true rfl, by rw [hRl]; exact Nat.le_of_ble_eq_true rfl⟩) (hp_preV (ci := 0) hp_nsn hK rfl hw ⟨hw, hf1⟩) rfl rfl hl.1 rfl (lv_room (Nat.le_of_ble_eq_true rfl)) d_W_madeLabel_13 ⟨by rw [hRc]; exact Nat.le_of_ble_eq_true rfl, by rw [hRs]; exact Nat.le_of_ble_eq_true rfl⟩) ?_
  refine hp_isub hx hb d_W_madeLabel_16 ?_
  refine hp_iadd hx hb d_W_madeLabel_17 ?_
  rw [hQ]
  refine hp_iretS hx hb hrt hlocks d_W_madeLabel_18 ?_
  rfl

set_option maxHeartbeats 4000000 in
set_option maxRecDepth 100000 in
/-- labelAbove(k, place) -/
theorem c_W_labelAbove (l : Launch) (E : hp_E) (a w c : Nat) (f : Nat → Int) (k : Nat) (p0 : Int) (hk : k < 32) (hp : iR p0) (hbd : bd f) : Met l y_W_labelAbove (Cond.code y_W_labelAbove b_W_labelAbove 4 (some .int) :: G0) ({ frames := 3, cells := 0, slots := 0, locals := 64 }) (hp_P E [.ref a, .int (iI (k : Int)), .int (iI p0)] (fun H => wAt E H a w c f)) (hp_Si (bw_lab w f p0 k)) 0 0 (fun _ => False) := by
  refine Met.ofW (cc := b_W_labelAbove) (maxL := 4) (ret := some .int) (by decide) rfl ?_
  intro p e s m args below meth cd s₁ Bd hml hv
  obtain ⟨hargs, hB, hK⟩ := hv
  have hx := Bd.exec
  have hb := Bd.bytes
  have hrt := Bd.returns
  have hts := atoms_spec (ws := Cond.code y_W_labelAbove b_W_labelAbove 4 (some .int) :: G0) Bd.pre
  have hG : ∀ w ∈ G0, w.before args s = true := fun w h => hts w (List.mem_cons_of_mem _ h)
  have hown : s.vm.findClass R_W = some m.cls := findClass_of_methodNamed Bd.named
  have hlocks := Bd.notSynchronized
  have hl := lv_entry ([.ref a, .int (iI (k : Int)), .int (iI p0)]) (n := 4) (Nat.le_of_ble_eq_true rfl)
  rw [show entryFrame m args 4 = entryFrame m ([.ref a, .int (iI (k : Int)), .int (iI p0)] : List Value).toArray 4 from by rw [hargs]]
  rw [lg_entry_eq]
  generalize (lg_sl ([.ref a, .int (iI (k : Int)), .int (iI p0)]) ++ List.replicate (4 - (lg_sl ([.ref a, .int (iI (k : Int)), .int (iI p0)])).length) Slot.unset).toArray = ls at hl ⊢
  have hl : lv_has ls 4 [(0, .ref a), (1, .int (iI (k : Int))), (2, .int (iI p0))] := hl
  obtain ⟨R, hR⟩ : ∃ R, R = (headSpec (Cond.code y_W_labelAbove b_W_labelAbove 4 (some .int) :: G0) { frames := 3, cells := 0, slots := 0, locals := 64 }).room := ⟨_, rfl⟩
  rw [← hR]
  have hRf : R.frames = 3 := by rw [hR]; rfl
  have hRl : R.locals = 64 := by rw [hR]; rfl
  have hRc : R.cells = 0 := by rw [hR]; rfl
  have hRs : R.slots = 0 := by rw [hR]; rfl
  obtain ⟨Q, hQ⟩ : ∃ Q, Q = MQ below (hp_Si (bw_lab w f p0 k)) args s 0 0 (fun _ => False) := ⟨_, rfl⟩
  rw [← hQ]
  obtain ⟨hw, hf1⟩ := hB
  refine lv_iload_n hx hb d_W_labelAbove_0 rfl (lv_at hl 1 rfl) ?_
  refine hp_iconst (z := 1) hx hb d_W_labelAbove_1 (by rfl) ?_
  refine hp_isub hx hb d_W_labelAbove_2 ?_
  refine lv_istore_n (lv' := [(3, .int (iI ((k : Int) - 1))), (0, .ref a), (1, .int (iI (k : Int))), (2, .int (iI p0))]) hx hb d_W_labelAbove_3 rfl hl (by decide) rfl (fun ls hl => ?_)
  have L4 : ∀ (N : Nat) (m0 : Nat) (j : Int), m0 < N → (m0 ≤ k) → (j = (m0 : Int) - 1) → (∀ i, m0 ≤ i → i < k → bw_t f i p0 = false) → ∀ ls : Array Slot, lv_has ls 4 [(0, .ref a), (1, .int (iI (k : Int))), (2, .int (iI p0)), (3, .int (iI j))] → W p l e R s m args below meth cd s.heap [] 0 0 Q (F0 m 4 ls []) := by
    intro N
    induction N with
    | zero => intro m0 j hN; exact absurd hN (by omega)
    | succ N ih =>
      intro m0 j hN hm hj hno  ls hl
      have ih4 := ih
      refine lv_iload_n hx hb d_W_labelAbove_4 rfl (lv_at hl 3 rfl) ?_
      refine hp_if_lt (tgt := 30) hx hb d_W_labelAbove_5 (by decide) (by unfold iR; omega) (fun c5 => ?_) (fun c5 => ?_)
      · skip
        refine lv_iload_n hx hb d_W_labelAbove_30 rfl (lv_at hl 2 rfl) ?_
        rw [hQ]
        refine hp_iretS hx hb hrt hlocks d_W_labelAbove_31 ?_
        have e : m0 = 0 := by omega
        rw [e] at hno
        rw [bw_lab_skip (m := 0) (by omega) hno]
        rfl
      · skip
        obtain ⟨i, rfl⟩ : ∃ i, m0 = i + 1 := ⟨m0 - 1, by omega⟩
        obtain rfl : j = (i : Int) := by omega
        refine lv_aload_n hx hb d_W_labelAbove_8 rfl (lv_at hl 0 rfl) ?_
        refine lv_iload_n hx hb d_W_labelAbove_9 rfl (lv_at hl 3 rfl) ?_
        refine lv_iload_n hx hb d_W_labelAbove_10 rfl (lv_at hl 2 rfl) ?_
        refine hp_callS (W.runV (As := [.int (iI (i : Int)), .int (iI p0)]) (rest := []) ⟨hx, hb, hml, hown, hG⟩ (c_W_touches l E a w c f i p0 (by omega) (by unfold iR at *; omega) hbd) (cwV 2 hG (hp_goodV ml_W_53 im_W_touches se_W_touches in_W co_W_touches) rfl rfl rfl hd_W_touches ⟨by rw [hRf]; exact Nat.le_of_ble_eq_true rfl, by rw [hRl]; exact Nat.le_of_ble_eq_true rfl⟩) (hp_preV (ci := 0) hp_nsn hK rfl hw ⟨hw, hf1⟩) rfl rfl hl.1 rfl (lv_room (Nat.le_of_ble_eq_true rfl)) d_W_labelAbove_11 ⟨by rw [hRc]; exact Nat.le_of_ble_eq_true rfl, by rw [hRs]; exact Nat.le_of_ble_eq_true rfl⟩) ?_
        refine hp_ifb_eq (tgt := 24) hx hb d_W_labelAbove_14 (by decide) (fun c14 => ?_) (fun c14 => ?_)
        · skip
          refine hp_iinc (z := ((i : Int) - 1)) (lv' := [(3, .int (iI ((i : Int) - 1))), (0, .ref a), (1, .int (iI (k : Int))), (2, .int (iI p0))]) hx hb d_W_labelAbove_24 hl (k := 3) rfl (by omega) (by decide) rfl (fun ls hl => ?_)
          refine lv_goto (tgt := 4) hx hb d_W_labelAbove_27 (by decide) ?_
          exact ih4  i ((i : Int) - 1) (by omega) (by omega) (by omega) (by intro i9 h1 h2; by_cases q : i9 = i; (rw [q]; exact c14); exact hno i9 (by omega) h2) ls (lv_sub hl [1, 2, 3, 0] rfl)
        · skip
          refine lv_aload_n hx hb d_W_labelAbove_17 rfl (lv_at hl 0 rfl) ?_
          refine lv_iload_n hx hb d_W_labelAbove_18 rfl (lv_at hl 3 rfl) ?_
          refine lv_iload_n hx hb d_W_labelAbove_19 rfl (lv_at hl 2 rfl) ?_
          refine hp_callS (W.runV (As := [.int (iI (i : Int)), .int (iI p0)]) (rest := []) ⟨hx, hb, hml, hown, hG⟩ (c_W_madeLabel l E a w c f i p0 (by omega) hbd) (cwV 2 hG (hp_goodV ml_W_74 im_W_madeLabel se_W_madeLabel in_W co_W_madeLabel) rfl rfl rfl hd_W_madeLabel ⟨by rw [hRf]; exact Nat.le_of_ble_eq_true rfl, by rw [hRl]; exact Nat.le_of_ble_eq_true rfl⟩) (hp_preV (ci := 0) hp_nsn hK rfl hw ⟨hw, hf1⟩) rfl rfl hl.1 rfl (lv_room (Nat.le_of_ble_eq_true rfl)) d_W_labelAbove_20 ⟨by rw [hRc]; exact Nat.le_of_ble_eq_true rfl, by rw [hRs]; exact Nat.le_of_ble_eq_true rfl⟩) ?_
          rw [hQ]
          refine hp_iretS hx hb hrt hlocks d_W_labelAbove_23 ?_
          rw [bw_lab_skip (m := i + 1) hm hno]
          simp only [bw_lab]
          rw [c14]
          rfl
  exact L4 (k + 1) k ((k : Int) - 1) (by omega) (by omega) (by omega) (by intro i h1 h2; omega) ls (lv_sub hl [1, 2, 3, 0] rfl)

set_option maxHeartbeats 4000000 in
set_option maxRecDepth 100000 in
/-- labelBelow(k, place) -/
theorem c_W_labelBelow (l : Launch) (E : hp_E) (a w c : Nat) (f : Nat → Int) (k : Nat) (p0 : Int) (hk : k < 32) (hp : iR p0) (hc : c ≤ 32) (hbd : bd f) : Met l y_W_labelBelow (Cond.code y_W_labelBelow b_W_labelBelow 3 (some .int) :: G0) ({ frames := 4, cells := 0, slots := 0, locals := 87 }) (hp_P E [.ref a, .int (iI (k : Int)), .int (iI p0)] (fun H => wAt E H a w c f)) (hp_Si (bw_low w c f k p0)) 0 0 (fun _ => False) := by
  refine Met.ofW (cc := b_W_labelBelow) (maxL := 3) (ret := some .int) (by decide) rfl ?_
  intro p e s m args below meth cd s₁ Bd hml hv
  obtain ⟨hargs, hB, hK⟩ := hv
  have hx := Bd.exec
  have hb := Bd.bytes
  have hrt := Bd.returns
  have hts := atoms_spec (ws := Cond.code y_W_labelBelow b_W_labelBelow 3 (some .int) :: G0) Bd.pre
  have hG : ∀ w ∈ G0, w.before args s = true := fun w h => hts w (List.mem_cons_of_mem _ h)
  have hown : s.vm.findClass R_W = some m.cls := findClass_of_methodNamed Bd.named
  have hlocks := Bd.notSynchronized
  have hl := lv_entry ([.ref a, .int (iI (k : Int)), .int (iI p0)]) (n := 3) (Nat.le_of_ble_eq_true rfl)
  rw [show entryFrame m args 3 = entryFrame m ([.ref a, .int (iI (k : Int)), .int (iI p0)] : List Value).toArray 3 from by rw [hargs]]
  rw [lg_entry_eq]
  generalize (lg_sl ([.ref a, .int (iI (k : Int)), .int (iI p0)]) ++ List.replicate (3 - (lg_sl ([.ref a, .int (iI (k : Int)), .int (iI p0)])).length) Slot.unset).toArray = ls at hl ⊢
  have hl : lv_has ls 3 [(0, .ref a), (1, .int (iI (k : Int))), (2, .int (iI p0))] := hl
  obtain ⟨R, hR⟩ : ∃ R, R = (headSpec (Cond.code y_W_labelBelow b_W_labelBelow 3 (some .int) :: G0) { frames := 4, cells := 0, slots := 0, locals := 87 }).room := ⟨_, rfl⟩
  rw [← hR]
  have hRf : R.frames = 4 := by rw [hR]; rfl
  have hRl : R.locals = 87 := by rw [hR]; rfl
  have hRc : R.cells = 0 := by rw [hR]; rfl
  have hRs : R.slots = 0 := by rw [hR]; rfl
  obtain ⟨Q, hQ⟩ : ∃ Q, Q = MQ below (hp_Si (bw_low w c f k p0)) args s 0 0 (fun _ => False) := ⟨_, rfl⟩
  rw [← hQ]
  obtain ⟨hw, hf1⟩ := hB
  refine lv_aload_n hx hb d_W_labelBelow_0 rfl (lv_at hl 0 rfl) ?_
  refine lv_iload_n hx hb d_W_labelBelow_1 rfl (lv_at hl 1 rfl) ?_
  refine hp_iconst (z := 1) hx hb d_W_labelBelow_2 (by rfl) ?_
  refine hp_iadd hx hb d_W_labelBelow_3 ?_
  refine lv_iload_n hx hb d_W_labelBelow_4 rfl (lv_at hl 2 rfl) ?_
  refine hp_callS (W.runV (As := [.int (iI ((k : Int) + 1)), .int (iI p0)]) (rest := []) ⟨hx, hb, hml, hown, hG⟩ (c_W_touchedFrom l E a w c f (k + 1) p0 (by omega) (by unfold iR at *; omega) hc hbd) (cwV 2 hG (hp_goodV ml_W_49 im_W_touchedFrom se_W_touchedFrom in_W co_W_touchedFrom) rfl rfl rfl hd_W_touchedFrom ⟨by rw [hRf]; exact Nat.le_of_ble_eq_true rfl, by rw [hRl]; exact Nat.le_of_ble_eq_true rfl⟩) (hp_preV (ci := 0) hp_nsn hK rfl hw ⟨hw, hf1⟩) rfl rfl hl.1 rfl (lv_room (Nat.le_of_ble_eq_true rfl)) d_W_labelBelow_5 ⟨by rw [hRc]; exact Nat.le_of_ble_eq_true rfl, by rw [hRs]; exact Nat.le_of_ble_eq_true rfl⟩) ?_
  refine hp_ifb_eq (tgt := 20) hx hb d_W_labelBelow_8 (by decide) (fun c8 => ?_) (fun c8 => ?_)
  · skip
    refine lv_iload_n hx hb d_W_labelBelow_20 rfl (lv_at hl 2 rfl) ?_
    rw [hQ]
    refine hp_iretS hx hb hrt hlocks d_W_labelBelow_21 ?_
    unfold bw_low
    rw [c8]
    rfl
  · skip
    refine lv_aload_n hx hb d_W_labelBelow_11 rfl (lv_at hl 0 rfl) ?_
    refine lv_iload_n hx hb d_W_labelBelow_12 rfl (lv_at hl 1 rfl) ?_
    refine lv_iload_n hx hb d_W_labelBelow_13 rfl (lv_at hl 2 rfl) ?_
    refine hp_callS (W.runV (As := [.int (iI (k : Int)), .int (iI p0)]) (rest := []) ⟨hx, hb, hml, hown, hG⟩ (c_W_madeLabel l E a w c f k p0 (by omega) hbd) (cwV 2 hG (hp_goodV ml_W_74 im_W_madeLabel se_W_madeLabel in_W co_W_madeLabel) rfl rfl rfl hd_W_madeLabel ⟨by rw [hRf]; exact Nat.le_of_ble_eq_true rfl, by rw [hRl]; exact Nat.le_of_ble_eq_true rfl⟩) (hp_preV (ci := 0) hp_nsn hK rfl hw ⟨hw, hf1⟩) rfl rfl hl.1 rfl (lv_room (Nat.le_of_ble_eq_true rfl)) d_W_labelBelow_14 ⟨by rw [hRc]; exact Nat.le_of_ble_eq_true rfl, by rw [hRs]; exact Nat.le_of_ble_eq_true rfl⟩) ?_
    refine lv_goto (tgt := 21) hx hb d_W_labelBelow_17 (by decide) ?_
    rw [hQ]
    refine hp_iretS hx hb hrt hlocks d_W_labelBelow_21 ?_
    unfold bw_low
    rw [c8]
    rfl
