set_option maxHeartbeats 4000000 in
set_option maxRecDepth 100000 in
/-- clear(n) -/
theorem c_W_clear (l : Launch) (E : hp_E) (a w c : Nat) (f : Nat → Int) (n : Nat) : Met l y_W_clear (Cond.code y_W_clear b_W_clear 2 (none) :: G0) ({ frames := 0, cells := 0, slots := 0, locals := 0 }) (hp_P E [.ref a, .int (iI (n : Int))] (fun H => wAt E H a w c f)) (hp_Qv (fun q => q = a ∨ q = a + 1) (fun H => wAt E H a n 0 f)) 0 0 (fun q => q = a ∨ q = a + 1) := by
  refine Met.ofW (cc := b_W_clear) (maxL := 2) (ret := none) (by decide) rfl ?_
  intro p e s m args below meth cd s₁ Bd hml hv
  obtain ⟨hargs, hB, hK⟩ := hv
  have hx := Bd.exec
  have hb := Bd.bytes
  have hrt := Bd.returns
  have hts := atoms_spec (ws := Cond.code y_W_clear b_W_clear 2 (none) :: G0) Bd.pre
  have hG : ∀ w ∈ G0, w.before args s = true := fun w h => hts w (List.mem_cons_of_mem _ h)
  have hown : s.vm.findClass R_W = some m.cls := findClass_of_methodNamed Bd.named
  have hlocks := Bd.notSynchronized
  have hl := lv_entry ([.ref a, .int (iI (n : Int))]) (n := 2) (Nat.le_of_ble_eq_true rfl)
  rw [show entryFrame m args 2 = entryFrame m ([.ref a, .int (iI (n : Int))] : List Value).toArray 2 from by rw [hargs]]
  rw [lg_entry_eq]
  generalize (lg_sl ([.ref a, .int (iI (n : Int))]) ++ List.replicate (2 - (lg_sl ([.ref a, .int (iI (n : Int))])).length) Slot.unset).toArray = ls at hl ⊢
  have hl : lv_has ls 2 [(0, .ref a), (1, .int (iI (n : Int)))] := hl
  obtain ⟨R, hR⟩ : ∃ R, R = (headSpec (Cond.code y_W_clear b_W_clear 2 (none) :: G0) { frames := 0, cells := 0, slots := 0, locals := 0 }).room := ⟨_, rfl⟩
  rw [← hR]
  have hRf : R.frames = 0 := by rw [hR]; rfl
  have hRl : R.locals = 0 := by rw [hR]; rfl
  have hRc : R.cells = 0 := by rw [hR]; rfl
  have hRs : R.slots = 0 := by rw [hR]; rfl
  obtain ⟨Q, hQ⟩ : ∃ Q, Q = MQ below (hp_Qv (fun q => q = a ∨ q = a + 1) (fun H => wAt E H a n 0 f)) args s 0 0 (fun q => q = a ∨ q = a + 1) := ⟨_, rfl⟩
  rw [← hQ]
  obtain ⟨H, hH⟩ : ∃ H, H = s.heap := ⟨_, rfl⟩
  obtain ⟨locs, hlocs⟩ : ∃ locs : List Loc, locs = [] := ⟨_, rfl⟩
  have hS : va_S (fun q => q = a ∨ q = a + 1) s.heap H locs := by rw [hH, hlocs]; exact va_S.rf
  have hZ : H.size = s.heap.size := by rw [hH]
  rw [← hH] at hB
  rw [show W p l e R s m args below meth cd s.heap [] 0 0 Q (F0 m 0 ls []) = W p l e R s m args below meth cd H locs 0 0 Q (F0 m 0 ls []) from by rw [hH, hlocs]]
  obtain ⟨hw, hf1⟩ := hB
  refine lv_aload_n hx hb d_W_clear_0 rfl (lv_at hl 0 rfl) ?_
  refine lv_iload_n hx hb d_W_clear_1 rfl (lv_at hl 1 rfl) ?_
  refine hp_put (C := R_W) (T := F_W) (N := 3) (v := .int (iI (n : Int))) (ty := .int) hx hb hG la_W t_W tk_W n_W hown hK.1 hw hS (by first | exact Or.inl rfl | exact Or.inr rfl | rfl | omega) rfl 1 (by decide) (hG _ fl_W_15) (fun _ h9 => h9) rfl (by decide +kernel) rfl rfl (Nat.le_of_ble_eq_true rfl) d_W_clear_2 (fun H locs hwn hz1 ho1 hS => ?_)
  have hZ := hz1.trans hZ
  have hf1 := hf1.keep (ho1 (a + 1) (by omega))
  have hw : ca E H (a) (.inr (0, [.ref (a + 1), .int (iI (n : Int)), .int (iI (c : Int))])) := hwn
  refine lv_aload_n hx hb d_W_clear_5 rfl (lv_at hl 0 rfl) ?_
  refine hp_iconst (z := 0) hx hb d_W_clear_6 (by rfl) ?_
  refine hp_put (C := R_W) (T := F_W) (N := 3) (v := .int (iI 0)) (ty := .int) hx hb hG la_W t_W tk_W n_W hown hK.1 hw hS (by first | exact Or.inl rfl | exact Or.inr rfl | rfl | omega) rfl 2 (by decide) (hG _ fl_W_19) (fun _ h9 => h9) rfl (by decide +kernel) rfl rfl (Nat.le_of_ble_eq_true rfl) d_W_clear_7 (fun H locs hwn hz1 ho1 hS => ?_)
  have hZ := hz1.trans hZ
  have hf1 := hf1.keep (ho1 (a + 1) (by omega))
  have hw : ca E H (a) (.inr (0, [.ref (a + 1), .int (iI (n : Int)), .int (iI 0)])) := hwn
  rw [hQ]
  refine hp_vretQ hx hb hrt hlocks d_W_clear_10 hS hZ ?_
  exact ⟨hw, hf1⟩

set_option maxHeartbeats 4000000 in
set_option maxRecDepth 100000 in
/-- append(l) -/
theorem c_W_append (l : Launch) (E : hp_E) (a w c : Nat) (f : Nat → Int) (l0 : Int) (hl0 : iR l0) (hw8 : w ≤ 8) (hc : c ≤ 32) : Met l y_W_append (Cond.code y_W_append b_W_append 2 (some .boolean) :: G0) ({ frames := 0, cells := 0, slots := 0, locals := 0 }) (hp_P E [.ref a, .int (iI l0)] (fun H => wAt E H a w c f)) (hp_Qi (fun q => q = a ∨ q = a + 1) (fun r H => (r = 1 ∧ (l0 ≠ 0 ∧ -(w : Int) < l0 ∧ l0 < (w : Int) ∧ c < 32) ∧ wAt E H a w (c + 1) (hp_up f c l0)) ∨ (r = 0 ∧ ¬ (l0 ≠ 0 ∧ -(w : Int) < l0 ∧ l0 < (w : Int) ∧ c < 32) ∧ wAt E H a w c f))) 0 0 (fun q => q = a ∨ q = a + 1) := by
  refine Met.ofW (cc := b_W_append) (maxL := 2) (ret := some .boolean) (by decide) rfl ?_
  intro p e s m args below meth cd s₁ Bd hml hv
  obtain ⟨hargs, hB, hK⟩ := hv
  have hx := Bd.exec
  have hb := Bd.bytes
  have hrt := Bd.returns
  have hts := atoms_spec (ws := Cond.code y_W_append b_W_append 2 (some .boolean) :: G0) Bd.pre
  have hG : ∀ w ∈ G0, w.before args s = true := fun w h => hts w (List.mem_cons_of_mem _ h)
  have hown : s.vm.findClass R_W = some m.cls := findClass_of_methodNamed Bd.named
  have hlocks := Bd.notSynchronized
  have hl := lv_entry ([.ref a, .int (iI l0)]) (n := 2) (Nat.le_of_ble_eq_true rfl)
  rw [show entryFrame m args 2 = entryFrame m ([.ref a, .int (iI l0)] : List Value).toArray 2 from by rw [hargs]]
  rw [lg_entry_eq]
  generalize (lg_sl ([.ref a, .int (iI l0)]) ++ List.replicate (2 - (lg_sl ([.ref a, .int (iI l0)])).length) Slot.unset).toArray = ls at hl ⊢
  have hl : lv_has ls 2 [(0, .ref a), (1, .int (iI l0))] := hl
  obtain ⟨R, hR⟩ : ∃ R, R = (headSpec (Cond.code y_W_append b_W_append 2 (some .boolean) :: G0) { frames := 0, cells := 0, slots := 0, locals := 0 }).room := ⟨_, rfl⟩
  rw [← hR]
  have hRf : R.frames = 0 := by rw [hR]; rfl
  have hRl : R.locals = 0 := by rw [hR]; rfl
  have hRc : R.cells = 0 := by rw [hR]; rfl
  have hRs : R.slots = 0 := by rw [hR]; rfl
  obtain ⟨Q, hQ⟩ : ∃ Q, Q = MQ below (hp_Qi (fun q => q = a ∨ q = a + 1) (fun r H => (r = 1 ∧ (l0 ≠ 0 ∧ -(w : Int) < l0 ∧ l0 < (w : Int) ∧ c < 32) ∧ wAt E H a w (c + 1) (hp_up f c l0)) ∨ (r = 0 ∧ ¬ (l0 ≠ 0 ∧ -(w : Int) < l0 ∧ l0 < (w : Int) ∧ c < 32) ∧ wAt E H a w c f))) args s 0 0 (fun q => q = a ∨ q = a + 1) := ⟨_, rfl⟩
  rw [← hQ]
  obtain ⟨H, hH⟩ : ∃ H, H = s.heap := ⟨_, rfl⟩
  obtain ⟨locs, hlocs⟩ : ∃ locs : List Loc, locs = [] := ⟨_, rfl⟩
  have hS : va_S (fun q => q = a ∨ q = a + 1) s.heap H locs := by rw [hH, hlocs]; exact va_S.rf
  have hZ : H.size = s.heap.size := by rw [hH]
  rw [← hH] at hB
  rw [show W p l e R s m args below meth cd s.heap [] 0 0 Q (F0 m 0 ls []) = W p l e R s m args below meth cd H locs 0 0 Q (F0 m 0 ls []) from by rw [hH, hlocs]]
  obtain ⟨hw, hf1⟩ := hB
  refine lv_iload_n hx hb d_W_append_0 rfl (lv_at hl 1 rfl) ?_
  refine hp_if_eq (tgt := 30) hx hb d_W_append_1 (by decide) (by unfold iR at *; omega) (fun c1 => ?_) (fun c1 => ?_)
  · skip
    refine hp_iconst (z := 0) hx hb d_W_append_30 (by rfl) ?_
    rw [hQ]
    refine hp_zretQ hx hb hrt hlocks d_W_append_31 false (by first | rfl | assumption | simp [bI]) hS hZ ?_
    exact Or.inr ⟨rfl, by omega, hw, hf1⟩
  · skip
    refine lv_iload_n hx hb d_W_append_4 rfl (lv_at hl 1 rfl) ?_
    refine lv_aload_n hx hb d_W_append_5 rfl (lv_at hl 0 rfl) ?_
    refine hp_get (C := R_W) (T := F_W) (N := 3) (v := .int (iI (w : Int))) hx hb hG la_W hown hK.1 hw rfl 1 (by decide) (hG _ fl_W_15) (fun _ h9 => h9) rfl d_W_append_6 ?_
    refine hp_ineg hx hb d_W_append_9 ?_
    refine hp_icmp_le (tgt := 30) hx hb d_W_append_10 (by decide) (by unfold iR at *; omega) (by unfold iR at *; omega) (fun c10 => ?_) (fun c10 => ?_)
    · skip
      refine hp_iconst (z := 0) hx hb d_W_append_30 (by rfl) ?_
      rw [hQ]
      refine hp_zretQ hx hb hrt hlocks d_W_append_31 false (by first | rfl | assumption | simp [bI]) hS hZ ?_
      exact Or.inr ⟨rfl, by omega, hw, hf1⟩
    · skip
      refine lv_iload_n hx hb d_W_append_13 rfl (lv_at hl 1 rfl) ?_
      refine lv_aload_n hx hb d_W_append_14 rfl (lv_at hl 0 rfl) ?_
      refine hp_get (C := R_W) (T := F_W) (N := 3) (v := .int (iI (w : Int))) hx hb hG la_W hown hK.1 hw rfl 1 (by decide) (hG _ fl_W_15) (fun _ h9 => h9) rfl d_W_append_15 ?_
      refine hp_icmp_ge (tgt := 30) hx hb d_W_append_18 (by decide) (by unfold iR at *; omega) (by unfold iR at *; omega) (fun c18 => ?_) (fun c18 => ?_)
      · skip
        refine hp_iconst (z := 0) hx hb d_W_append_30 (by rfl) ?_
        rw [hQ]
        refine hp_zretQ hx hb hrt hlocks d_W_append_31 false (by first | rfl | assumption | simp [bI]) hS hZ ?_
        exact Or.inr ⟨rfl, by omega, hw, hf1⟩
      · skip
        refine lv_aload_n hx hb d_W_append_21 rfl (lv_at hl 0 rfl) ?_
        refine hp_get (C := R_W) (T := F_W) (N := 3) (v := .int (iI (c : Int))) hx hb hG la_W hown hK.1 hw rfl 2 (by decide) (hG _ fl_W_19) (fun _ h9 => h9) rfl d_W_append_22 ?_
        refine hp_bipush (z := 32) hx hb d_W_append_25 (by rfl) ?_
        refine hp_icmp_lt (tgt := 32) hx hb d_W_append_27 (by decide) (by unfold iR at *; omega) (by unfold iR at *; omega) (fun c27 => ?_) (fun c27 => ?_)
        · skip
          refine lv_aload_n hx hb d_W_append_32 rfl (lv_at hl 0 rfl) ?_
          refine hp_get (C := R_W) (T := F_W) (N := 3) (v := .ref (a + 1)) hx hb hG la_W hown hK.1 hw rfl 0 (by decide) (hG _ fl_W_9) (fun _ h9 => h9) rfl d_W_append_33 ?_
          refine lv_aload_n hx hb d_W_append_36 rfl (lv_at hl 0 rfl) ?_
          refine hp_get (C := R_W) (T := F_W) (N := 3) (v := .int (iI (c : Int))) hx hb hG la_W hown hK.1 hw rfl 2 (by decide) (hG _ fl_W_19) (fun _ h9 => h9) rfl d_W_append_37 ?_
          refine lv_iload_n hx hb d_W_append_40 rfl (lv_at hl 1 rfl) ?_
          refine hp_iast hx hb hK.1 0 hf1 hS (by first | exact Or.inl rfl | exact Or.inr rfl | rfl | omega) rfl d_W_append_41 (by omega) c (by omega) (by omega) (fun H locs hf1n hz1 ho1 hS => ?_)
          have hZ := hz1.trans hZ
          have hw := hw.keep (ho1 (a) (by omega))
          have hf1 : ca E H (a + 1) (ai E 32 (hp_up f c l0)) := hf1n
          refine lv_aload_n hx hb d_W_append_42 rfl (lv_at hl 0 rfl) ?_
          refine lv_dup hx hb d_W_append_43 rfl ?_
          refine hp_get (C := R_W) (T := F_W) (N := 3) (v := .int (iI (c : Int))) hx hb hG la_W hown hK.1 hw rfl 2 (by decide) (hG _ fl_W_19) (fun _ h9 => h9) rfl d_W_append_44 ?_
          refine hp_iconst (z := 1) hx hb d_W_append_47 (by rfl) ?_
          refine hp_iadd hx hb d_W_append_48 ?_
          refine hp_put (C := R_W) (T := F_W) (N := 3) (v := .int (iI ((c : Int) + 1))) (ty := .int) hx hb hG la_W t_W tk_W n_W hown hK.1 hw hS (by first | exact Or.inl rfl | exact Or.inr rfl | rfl | omega) rfl 2 (by decide) (hG _ fl_W_19) (fun _ h9 => h9) rfl (by decide +kernel) rfl rfl (Nat.le_of_ble_eq_true rfl) d_W_append_49 (fun H locs hwn hz1 ho1 hS => ?_)
          have hZ := hz1.trans hZ
          have hf1 := hf1.keep (ho1 (a + 1) (by omega))
          have hw : ca E H (a) (.inr (0, [.ref (a + 1), .int (iI (w : Int)), .int (iI ((c : Int) + 1))])) := hwn
          refine hp_iconst (z := 1) hx hb d_W_append_52 (by rfl) ?_
          rw [hQ]
          refine hp_zretQ hx hb hrt hlocks d_W_append_53 true (by first | rfl | assumption | simp [bI]) hS hZ ?_
          exact Or.inl ⟨rfl, ⟨by omega, by omega, by omega, by omega⟩, hw, hf1⟩
        · skip
          refine hp_iconst (z := 0) hx hb d_W_append_30 (by rfl) ?_
          rw [hQ]
          refine hp_zretQ hx hb hrt hlocks d_W_append_31 false (by first | rfl | assumption | simp [bI]) hS hZ ?_
          exact Or.inr ⟨rfl, by omega, hw, hf1⟩

set_option maxHeartbeats 4000000 in
set_option maxRecDepth 100000 in
/-- take(other) -/
theorem c_W_take (l : Launch) (E : hp_E) (a w c : Nat) (f : Nat → Int) (b w2 c2 : Nat) (g : Nat → Int) (hab : b ≠ a ∧ b ≠ a + 1 ∧ a ≠ b + 1) (hc2 : c2 ≤ 32) : Met l y_W_take (Cond.code y_W_take b_W_take 2 (none) :: G0) ({ frames := 1, cells := 0, slots := 0, locals := 60 }) (hp_P E [.ref a, .ref b] (fun H => wAt E H a w c f ∧ wAt E H b w2 c2 g)) (hp_Qv (fun q => q = a ∨ q = a + 1) (fun H => wAt E H a w2 c2 (va_cpy g f 0 0 c2))) 0 0 (fun q => q = a ∨ q = a + 1) := by
  refine Met.ofW (cc := b_W_take) (maxL := 2) (ret := none) (by decide) rfl ?_
  intro p e s m args below meth cd s₁ Bd hml hv
  obtain ⟨hargs, hB, hK⟩ := hv
  have hx := Bd.exec
  have hb := Bd.bytes
  have hrt := Bd.returns
  have hts := atoms_spec (ws := Cond.code y_W_take b_W_take 2 (none) :: G0) Bd.pre
  have hG : ∀ w ∈ G0, w.before args s = true := fun w h => hts w (List.mem_cons_of_mem _ h)
  have hown : s.vm.findClass R_W = some m.cls := findClass_of_methodNamed Bd.named
  have hlocks := Bd.notSynchronized
  have hl := lv_entry ([.ref a, .ref b]) (n := 2) (Nat.le_of_ble_eq_true rfl)
  rw [show entryFrame m args 2 = entryFrame m ([.ref a, .ref b] : List Value).toArray 2 from by rw [hargs]]
  rw [lg_entry_eq]
  generalize (lg_sl ([.ref a, .ref b]) ++ List.replicate (2 - (lg_sl ([.ref a, .ref b])).length) Slot.unset).toArray = ls at hl ⊢
  have hl : lv_has ls 2 [(0, .ref a), (1, .ref b)] := hl
  obtain ⟨R, hR⟩ : ∃ R, R = (headSpec (Cond.code y_W_take b_W_take 2 (none) :: G0) { frames := 1, cells := 0, slots := 0, locals := 60 }).room := ⟨_, rfl⟩
  rw [← hR]
  have hRf : R.frames = 1 := by rw [hR]; rfl
  have hRl : R.locals = 60 := by rw [hR]; rfl
  have hRc : R.cells = 0 := by rw [hR]; rfl
  have hRs : R.slots = 0 := by rw [hR]; rfl
  obtain ⟨Q, hQ⟩ : ∃ Q, Q = MQ below (hp_Qv (fun q => q = a ∨ q = a + 1) (fun H => wAt E H a w2 c2 (va_cpy g f 0 0 c2))) args s 0 0 (fun q => q = a ∨ q = a + 1) := ⟨_, rfl⟩
  rw [← hQ]
  obtain ⟨H, hH⟩ : ∃ H, H = s.heap := ⟨_, rfl⟩
  obtain ⟨locs, hlocs⟩ : ∃ locs : List Loc, locs = [] := ⟨_, rfl⟩
  have hS : va_S (fun q => q = a ∨ q = a + 1) s.heap H locs := by rw [hH, hlocs]; exact va_S.rf
  have hZ : H.size = s.heap.size := by rw [hH]
  rw [← hH] at hB
  rw [show W p l e R s m args below meth cd s.heap [] 0 0 Q (F0 m 0 ls []) = W p l e R s m args below meth cd H locs 0 0 Q (F0 m 0 ls []) from by rw [hH, hlocs]]
  obtain ⟨⟨hw, hf1⟩, hw2, hf2⟩ := hB
  refine lv_aload_n hx hb d_W_take_0 rfl (lv_at hl 0 rfl) ?_
  refine lv_aload_n hx hb d_W_take_1 rfl (lv_at hl 1 rfl) ?_
  refine hp_get (C := R_W) (T := F_W) (N := 3) (v := .int (iI (w2 : Int))) hx hb hG la_W hown hK.1 hw2 rfl 1 (by decide) (hG _ fl_W_15) (fun _ h9 => h9) rfl d_W_take_2 ?_
  refine hp_put (C := R_W) (T := F_W) (N := 3) (v := .int (iI (w2 : Int))) (ty := .int) hx hb hG la_W t_W tk_W n_W hown hK.1 hw hS (by first | exact Or.inl rfl | exact Or.inr rfl | rfl | omega) rfl 1 (by decide) (hG _ fl_W_15) (fun _ h9 => h9) rfl (by decide +kernel) rfl rfl (Nat.le_of_ble_eq_true rfl) d_W_take_5 (fun H locs hwn hz1 ho1 hS => ?_)
  have hZ := hz1.trans hZ
  have hf1 := hf1.keep (ho1 (a + 1) (by omega))
  have hw2 := hw2.keep (ho1 (b) (by omega))
  have hf2 := hf2.keep (ho1 (b + 1) (by omega))
  have hw : ca E H (a) (.inr (0, [.ref (a + 1), .int (iI (w2 : Int)), .int (iI (c : Int))])) := hwn
  refine lv_aload_n hx hb d_W_take_8 rfl (lv_at hl 0 rfl) ?_
  refine lv_aload_n hx hb d_W_take_9 rfl (lv_at hl 1 rfl) ?_
  refine hp_get (C := R_W) (T := F_W) (N := 3) (v := .int (iI (c2 : Int))) hx hb hG la_W hown hK.1 hw2 rfl 2 (by decide) (hG _ fl_W_19) (fun _ h9 => h9) rfl d_W_take_10 ?_
  refine hp_put (C := R_W) (T := F_W) (N := 3) (v := .int (iI (c2 : Int))) (ty := .int) hx hb hG la_W t_W tk_W n_W hown hK.1 hw hS (by first | exact Or.inl rfl | exact Or.inr rfl | rfl | omega) rfl 2 (by decide) (hG _ fl_W_19) (fun _ h9 => h9) rfl (by decide +kernel) rfl rfl (Nat.le_of_ble_eq_true rfl) d_W_take_13 (fun H locs hwn hz1 ho1 hS => ?_)
  have hZ := hz1.trans hZ
  have hf1 := hf1.keep (ho1 (a + 1) (by omega))
  have hw2 := hw2.keep (ho1 (b) (by omega))
  have hf2 := hf2.keep (ho1 (b + 1) (by omega))
  have hw : ca E H (a) (.inr (0, [.ref (a + 1), .int (iI (w2 : Int)), .int (iI (c2 : Int))])) := hwn
  refine lv_aload_n hx hb d_W_take_16 rfl (lv_at hl 1 rfl) ?_
  refine hp_get (C := R_W) (T := F_W) (N := 3) (v := .ref (b + 1)) hx hb hG la_W hown hK.1 hw2 rfl 0 (by decide) (hG _ fl_W_9) (fun _ h9 => h9) rfl d_W_take_17 ?_
  refine hp_iconst (z := 0) hx hb d_W_take_20 (by rfl) ?_
  refine lv_aload_n hx hb d_W_take_21 rfl (lv_at hl 0 rfl) ?_
  refine hp_get (C := R_W) (T := F_W) (N := 3) (v := .ref (a + 1)) hx hb hG la_W hown hK.1 hw rfl 0 (by decide) (hG _ fl_W_9) (fun _ h9 => h9) rfl d_W_take_22 ?_
  refine hp_iconst (z := 0) hx hb d_W_take_25 (by rfl) ?_
  refine lv_aload_n hx hb d_W_take_26 rfl (lv_at hl 0 rfl) ?_
  refine hp_get (C := R_W) (T := F_W) (N := 3) (v := .int (iI (c2 : Int))) hx hb hG la_W hown hK.1 hw rfl 2 (by decide) (hG _ fl_W_19) (fun _ h9 => h9) rfl d_W_take_27 ?_
  refine hp_copy (rest := []) hx hb (hml.trans hl.1.symm) hown (hG _ ml_W_22) (hG _ na_JS_arraycopy) (hG _ st_JS_arraycopy) (hG _ in_JS) hK.1 0 hf2 hf1 hS (by first | exact Or.inl rfl | exact Or.inr rfl | rfl | omega) rfl (by omega) (by rw [hRl]; exact Nat.le_of_ble_eq_true rfl) d_W_take_30 0 0 c2 (by omega) (by omega) (by omega) (by omega) (by omega) (by omega) (by omega) (fun H locs hf1n hz1 ho1 hS => ?_)
  have hZ := hz1.trans hZ
  have hw := hw.keep (ho1 (a) (by omega))
  have hw2 := hw2.keep (ho1 (b) (by omega))
  have hf2 := hf2.keep (ho1 (b + 1) (by omega))
  have hf1 : ca E H (a + 1) (ai E 32 (va_cpy g f 0 0 c2)) := hf1n
  rw [hQ]
  refine hp_vretQ hx hb hrt hlocks d_W_take_33 hS hZ ?_
  exact ⟨hw, hf1⟩

set_option maxHeartbeats 4000000 in
set_option maxRecDepth 100000 in
/-- take(this) -/
theorem c_W_take_self (l : Launch) (E : hp_E) (a w c : Nat) (f : Nat → Int) (hc : c ≤ 32) : Met l y_W_take (Cond.code y_W_take b_W_take 2 (none) :: G0) ({ frames := 1, cells := 0, slots := 0, locals := 60 }) (hp_P E [.ref a, .ref a] (fun H => wAt E H a w c f)) (hp_Qv (fun q => q = a ∨ q = a + 1) (fun H => wAt E H a w c (va_cpy f f 0 0 c))) 0 0 (fun q => q = a ∨ q = a + 1) := by
  refine Met.ofW (cc := b_W_take) (maxL := 2) (ret := none) (by decide) rfl ?_
  intro p e s m args below meth cd s₁ Bd hml hv
  obtain ⟨hargs, hB, hK⟩ := hv
  have hx := Bd.exec
  have hb := Bd.bytes
  have hrt := Bd.returns
  have hts := atoms_spec (ws := Cond.code y_W_take b_W_take 2 (none) :: G0) Bd.pre
  have hG : ∀ w ∈ G0, w.before args s = true := fun w h => hts w (List.mem_cons_of_mem _ h)
  have hown : s.vm.findClass R_W = some m.cls := findClass_of_methodNamed Bd.named
  have hlocks := Bd.notSynchronized
  have hl := lv_entry ([.ref a, .ref a]) (n := 2) (Nat.le_of_ble_eq_true rfl)
  rw [show entryFrame m args 2 = entryFrame m ([.ref a, .ref a] : List Value).toArray 2 from by rw [hargs]]
  rw [lg_entry_eq]
  generalize (lg_sl ([.ref a, .ref a]) ++ List.replicate (2 - (lg_sl ([.ref a, .ref a])).length) Slot.unset).toArray = ls at hl ⊢
  have hl : lv_has ls 2 [(0, .ref a), (1, .ref a)] := hl
  obtain ⟨R, hR⟩ : ∃ R, R = (headSpec (Cond.code y_W_take b_W_take 2 (none) :: G0) { frames := 1, cells := 0, slots := 0, locals := 60 }).room := ⟨_, rfl⟩
  rw [← hR]
  have hRf : R.frames = 1 := by rw [hR]; rfl
  have hRl : R.locals = 60 := by rw [hR]; rfl
  have hRc : R.cells = 0 := by rw [hR]; rfl
  have hRs : R.slots = 0 := by rw [hR]; rfl
  obtain ⟨Q, hQ⟩ : ∃ Q, Q = MQ below (hp_Qv (fun q => q = a ∨ q = a + 1) (fun H => wAt E H a w c (va_cpy f f 0 0 c))) args s 0 0 (fun q => q = a ∨ q = a + 1) := ⟨_, rfl⟩
  rw [← hQ]
  obtain ⟨H, hH⟩ : ∃ H, H = s.heap := ⟨_, rfl⟩
  obtain ⟨locs, hlocs⟩ : ∃ locs : List Loc, locs = [] := ⟨_, rfl⟩
  have hS : va_S (fun q => q = a ∨ q = a + 1) s.heap H locs := by rw [hH, hlocs]; exact va_S.rf
  have hZ : H.size = s.heap.size := by rw [hH]
  rw [← hH] at hB
  rw [show W p l e R s m args below meth cd s.heap [] 0 0 Q (F0 m 0 ls []) = W p l e R s m args below meth cd H locs 0 0 Q (F0 m 0 ls []) from by rw [hH, hlocs]]
  obtain ⟨hw, hf1⟩ := hB
  refine lv_aload_n hx hb d_W_take_0 rfl (lv_at hl 0 rfl) ?_
  refine lv_aload_n hx hb d_W_take_1 rfl (lv_at hl 1 rfl) ?_
  refine hp_get (C := R_W) (T := F_W) (N := 3) (v := .int (iI (w : Int))) hx hb hG la_W hown hK.1 hw rfl 1 (by decide) (hG _ fl_W_15) (fun _ h9 => h9) rfl d_W_take_2 ?_
  refine hp_put (C := R_W) (T := F_W) (N := 3) (v := .int (iI (w : Int))) (ty := .int) hx hb hG la_W t_W tk_W n_W hown hK.1 hw hS (by first | exact Or.inl rfl | exact Or.inr rfl | rfl | omega) rfl 1 (by decide) (hG _ fl_W_15) (fun _ h9 => h9) rfl (by decide +kernel) rfl rfl (Nat.le_of_ble_eq_true rfl) d_W_take_5 (fun H locs hwn hz1 ho1 hS => ?_)
  have hZ := hz1.trans hZ
  have hf1 := hf1.keep (ho1 (a + 1) (by omega))
  have hw : ca E H (a) (.inr (0, [.ref (a + 1), .int (iI (w : Int)), .int (iI (c : Int))])) := hwn
  refine lv_aload_n hx hb d_W_take_8 rfl (lv_at hl 0 rfl) ?_
  refine lv_aload_n hx hb d_W_take_9 rfl (lv_at hl 1 rfl) ?_
  refine hp_get (C := R_W) (T := F_W) (N := 3) (v := .int (iI (c : Int))) hx hb hG la_W hown hK.1 hw rfl 2 (by decide) (hG _ fl_W_19) (fun _ h9 => h9) rfl d_W_take_10 ?_
  refine hp_put (C := R_W) (T := F_W) (N := 3) (v := .int (iI (c : Int))) (ty := .int) hx hb hG la_W t_W tk_W n_W hown hK.1 hw hS (by first | exact Or.inl rfl | exact Or.inr rfl | rfl | omega) rfl 2 (by decide) (hG _ fl_W_19) (fun _ h9 => h9) rfl (by decide +kernel) rfl rfl (Nat.le_of_ble_eq_true rfl) d_W_take_13 (fun H locs hwn hz1 ho1 hS => ?_)
  have hZ := hz1.trans hZ
  have hf1 := hf1.keep (ho1 (a + 1) (by omega))
  have hw : ca E H (a) (.inr (0, [.ref (a + 1), .int (iI (w : Int)), .int (iI (c : Int))])) := hwn
  refine lv_aload_n hx hb d_W_take_16 rfl (lv_at hl 1 rfl) ?_
  refine hp_get (C := R_W) (T := F_W) (N := 3) (v := .ref (a + 1)) hx hb hG la_W hown hK.1 hw rfl 0 (by decide) (hG _ fl_W_9) (fun _ h9 => h9) rfl d_W_take_17 ?_
  refine hp_iconst (z := 0) hx hb d_W_take_20 (by rfl) ?_
  refine lv_aload_n hx hb d_W_take_21 rfl (lv_at hl 0 rfl) ?_
  refine hp_get (C := R_W) (T := F_W) (N := 3) (v := .ref (a + 1)) hx hb hG la_W hown hK.1 hw rfl 0 (by decide) (hG _ fl_W_9) (fun _ h9 => h9) rfl d_W_take_22 ?_
  refine hp_iconst (z := 0) hx hb d_W_take_25 (by rfl) ?_
  refine lv_aload_n hx hb d_W_take_26 rfl (lv_at hl 0 rfl) ?_
  refine hp_get (C := R_W) (T := F_W) (N := 3) (v := .int (iI (c : Int))) hx hb hG la_W hown hK.1 hw rfl 2 (by decide) (hG _ fl_W_19) (fun _ h9 => h9) rfl d_W_take_27 ?_
  refine hp_copy (rest := []) hx hb (hml.trans hl.1.symm) hown (hG _ ml_W_22) (hG _ na_JS_arraycopy) (hG _ st_JS_arraycopy) (hG _ in_JS) hK.1 0 hf1 hf1 hS (by first | exact Or.inl rfl | exact Or.inr rfl | rfl | omega) rfl (by omega) (by rw [hRl]; exact Nat.le_of_ble_eq_true rfl) d_W_take_30 0 0 c (by omega) (by omega) (by omega) (by omega) (by omega) (by omega) (by omega) (fun H locs hf1n hz1 ho1 hS => ?_)
  have hZ := hz1.trans hZ
  have hw := hw.keep (ho1 (a) (by omega))
  have hf1 : ca E H (a + 1) (ai E 32 (va_cpy f f 0 0 c)) := hf1n
  rw [hQ]
  refine hp_vretQ hx hb hrt hlocks d_W_take_33 hS hZ ?_
  exact ⟨hw, hf1⟩

set_option maxHeartbeats 4000000 in
set_option maxRecDepth 100000 in
/-- equalTo(other) -/
theorem c_W_equalTo (l : Launch) (E : hp_E) (a w c : Nat) (f : Nat → Int) (b w2 c2 : Nat) (g : Nat → Int) (hw8 : w ≤ 8) (hw28 : w2 ≤ 8) (hc : c ≤ 32) (hc2 : c2 ≤ 32) (hbd : bd f) (hbg : bd g) : Met l y_W_equalTo (Cond.code y_W_equalTo b_W_equalTo 3 (some .boolean) :: G0) ({ frames := 0, cells := 0, slots := 0, locals := 0 }) (hp_P E [.ref a, .ref b] (fun H => wAt E H a w c f ∧ wAt E H b w2 c2 g)) (hp_Si (bI (decide (w = w2 ∧ c = c2 ∧ ∀ k, k < c → f k = g k)))) 0 0 (fun _ => False) := by
  refine Met.ofW (cc := b_W_equalTo) (maxL := 3) (ret := some .boolean) (by decide) rfl ?_
  intro p e s m args below meth cd s₁ Bd hml hv
  obtain ⟨hargs, hB, hK⟩ := hv
  have hx := Bd.exec
  have hb := Bd.bytes
  have hrt := Bd.returns
  have hts := atoms_spec (ws := Cond.code y_W_equalTo b_W_equalTo 3 (some .boolean) :: G0) Bd.pre
  have hG : ∀ w ∈ G0, w.before args s = true := fun w h => hts w (List.mem_cons_of_mem _ h)
  have hown : s.vm.findClass R_W = some m.cls := findClass_of_methodNamed Bd.named
  have hlocks := Bd.notSynchronized
  have hl := lv_entry ([.ref a, .ref b]) (n := 3) (Nat.le_of_ble_eq_true rfl)
  rw [show entryFrame m args 3 = entryFrame m ([.ref a, .ref b] : List Value).toArray 3 from by rw [hargs]]
  rw [lg_entry_eq]
  generalize (lg_sl ([.ref a, .ref b]) ++ List.replicate (3 - (lg_sl ([.ref a, .ref b])).length) Slot.unset).toArray = ls at hl ⊢
  have hl : lv_has ls 3 [(0, .ref a), (1, .ref b)] := hl
  obtain ⟨R, hR⟩ : ∃ R, R = (headSpec (Cond.code y_W_equalTo b_W_equalTo 3 (some .boolean) :: G0) { frames := 0, cells := 0, slots := 0, locals := 0 }).room := ⟨_, rfl⟩
  rw [← hR]
  have hRf : R.frames = 0 := by rw [hR]; rfl
  have hRl : R.locals = 0 := by rw [hR]; rfl
  have hRc : R.cells = 0 := by rw [hR]; rfl
  have hRs : R.slots = 0 := by rw [hR]; rfl
  obtain ⟨Q, hQ⟩ : ∃ Q, Q = MQ below (hp_Si (bI (decide (w = w2 ∧ c = c2 ∧ ∀ k, k < c → f k = g k)))) args s 0 0 (fun _ => False) := ⟨_, rfl⟩
  rw [← hQ]
  obtain ⟨⟨hw, hf1⟩, hw2, hf2⟩ := hB
  refine lv_aload_n hx hb d_W_equalTo_0 rfl (lv_at hl 0 rfl) ?_
  refine hp_get (C := R_W) (T := F_W) (N := 3) (v := .int (iI (w : Int))) hx hb hG la_W hown hK.1 hw rfl 1 (by decide) (hG _ fl_W_15) (fun _ h9 => h9) rfl d_W_equalTo_1 ?_
  refine lv_aload_n hx hb d_W_equalTo_4 rfl (lv_at hl 1 rfl) ?_
  refine hp_get (C := R_W) (T := F_W) (N := 3) (v := .int (iI (w2 : Int))) hx hb hG la_W hown hK.1 hw2 rfl 1 (by decide) (hG _ fl_W_15) (fun _ h9 => h9) rfl d_W_equalTo_5 ?_
  refine hp_icmp_ne (tgt := 22) hx hb d_W_equalTo_8 (by decide) (by unfold iR; omega) (by unfold iR; omega) (fun c8 => ?_) (fun c8 => ?_)
  · skip
    refine hp_iconst (z := 0) hx hb d_W_equalTo_22 (by rfl) ?_
    rw [hQ]
    refine hp_zretS hx hb hrt hlocks d_W_equalTo_23 ?_
    rw [decide_eq_false (by omega)]
    rfl
  · skip
    refine lv_aload_n hx hb d_W_equalTo_11 rfl (lv_at hl 0 rfl) ?_
    refine hp_get (C := R_W) (T := F_W) (N := 3) (v := .int (iI (c : Int))) hx hb hG la_W hown hK.1 hw rfl 2 (by decide) (hG _ fl_W_19) (fun _ h9 => h9) rfl d_W_equalTo_12 ?_
    refine lv_aload_n hx hb d_W_equalTo_15 rfl (lv_at hl 1 rfl) ?_
    refine hp_get (C := R_W) (T := F_W) (N := 3) (v := .int (iI (c2 : Int))) hx hb hG la_W hown hK.1 hw2 rfl 2 (by decide) (hG _ fl_W_19) (fun _ h9 => h9) rfl d_W_equalTo_16 ?_
    refine hp_icmp_eq (tgt := 24) hx hb d_W_equalTo_19 (by decide) (by unfold iR; omega) (by unfold iR; omega) (fun c19 => ?_) (fun c19 => ?_)
    · skip
      refine hp_iconst (z := 0) hx hb d_W_equalTo_24 (by rfl) ?_
      refine lv_istore_n (lv' := [(2, .int (iI 0)), (0, .ref a), (1, .ref b)]) hx hb d_W_equalTo_25 rfl hl (by decide) rfl (fun ls hl => ?_)
      have L26 : ∀ (N : Nat) (k : Nat), c - k < N → (k ≤ c) → (∀ i, i < k → f i = g i) → ∀ ls : Array Slot, lv_has ls 3 [(0, .ref a), (1, .ref b), (2, .int (iI (k : Int)))] → W p l e R s m args below meth cd s.heap [] 0 0 Q (F0 m 26 ls []) := by
        intro N
        induction N with
        | zero => intro k hN; exact absurd hN (by omega)
        | succ N ih =>
          intro k hN hk he  ls hl
          have ih26 := ih
          refine lv_iload_n hx hb d_W_equalTo_26 rfl (lv_at hl 2 rfl) ?_
          refine lv_aload_n hx hb d_W_equalTo_27 rfl (lv_at hl 0 rfl) ?_
          refine hp_get (C := R_W) (T := F_W) (N := 3) (v := .int (iI (c : Int))) hx hb hG la_W hown hK.1 hw rfl 2 (by decide) (hG _ fl_W_19) (fun _ h9 => h9) rfl d_W_equalTo_28 ?_
          refine hp_icmp_ge (tgt := 57) hx hb d_W_equalTo_31 (by decide) (by unfold iR; omega) (by unfold iR; omega) (fun c31 => ?_) (fun c31 => ?_)
          · skip
            refine hp_iconst (z := 1) hx hb d_W_equalTo_57 (by rfl) ?_
            rw [hQ]
            refine hp_zretS hx hb hrt hlocks d_W_equalTo_58 ?_
            rw [decide_eq_true ⟨by omega, by omega, fun i h => he i (by omega)⟩]
            rfl
          · skip
            have hk2 := hbd k
            have hk3 := hbg k
            refine lv_aload_n hx hb d_W_equalTo_34 rfl (lv_at hl 0 rfl) ?_
            refine hp_get (C := R_W) (T := F_W) (N := 3) (v := .ref (a + 1)) hx hb hG la_W hown hK.1 hw rfl 0 (by decide) (hG _ fl_W_9) (fun _ h9 => h9) rfl d_W_equalTo_35 ?_
            refine lv_iload_n hx hb d_W_equalTo_38 rfl (lv_at hl 2 rfl) ?_
            refine hp_iald hx hb hK.1 0 hf1 rfl d_W_equalTo_39 (by omega) k (by omega) (by omega) ?_
            refine lv_aload_n hx hb d_W_equalTo_40 rfl (lv_at hl 1 rfl) ?_
            refine hp_get (C := R_W) (T := F_W) (N := 3) (v := .ref (b + 1)) hx hb hG la_W hown hK.1 hw2 rfl 0 (by decide) (hG _ fl_W_9) (fun _ h9 => h9) rfl d_W_equalTo_41 ?_
            refine lv_iload_n hx hb d_W_equalTo_44 rfl (lv_at hl 2 rfl) ?_
            refine hp_iald hx hb hK.1 0 hf2 rfl d_W_equalTo_45 (by omega) k (by omega) (by omega) ?_
            refine hp_icmp_eq (tgt := 51) hx hb d_W_equalTo_46 (by decide) (by unfold iR; omega) (by unfold iR; omega) (fun c46 => ?_) (fun c46 => ?_)
            · skip
              refine hp_iinc (z := ((k : Int) + 1)) (lv' := [(2, .int (iI ((k : Int) + 1))), (0, .ref a), (1, .ref b)]) hx hb d_W_equalTo_51 hl (k := 2) rfl (by omega) (by decide) rfl (fun ls hl => ?_)
              refine lv_goto (tgt := 26) hx hb d_W_equalTo_54 (by decide) ?_
              exact ih26  (k + 1) (by omega) (by omega) (by intro i h; by_cases q : i = k; (rw [q]; exact c46); exact he i (by omega)) ls (lv_sub hl [1, 2, 0] rfl)
            · skip
              refine hp_iconst (z := 0) hx hb d_W_equalTo_49 (by rfl) ?_
              rw [hQ]
              refine hp_zretS hx hb hrt hlocks d_W_equalTo_50 ?_
              rw [decide_eq_false (fun h => c46 (h.2.2 k (by omega)))]
              rfl
      exact L26 (c - 0 + 1) 0 (by omega) (by omega) (by intro i h; omega) ls (lv_sub hl [1, 2, 0] rfl)
    · skip
      refine hp_iconst (z := 0) hx hb d_W_equalTo_22 (by rfl) ?_
      rw [hQ]
      refine hp_zretS hx hb hrt hlocks d_W_equalTo_23 ?_
      rw [decide_eq_false (by omega)]
      rfl

set_option maxHeartbeats 4000000 in
set_option maxRecDepth 100000 in
/-- invert() -/
theorem c_W_invert (l : Launch) (E : hp_E) (a w c : Nat) (f : Nat → Int) (hc : c ≤ 32) (hbd : bd f) : Met l y_W_invert (Cond.code y_W_invert b_W_invert 4 (none) :: G0) ({ frames := 0, cells := 0, slots := 0, locals := 0 }) (hp_P E [.ref a] (fun H => wAt E H a w c f)) (hp_Qv (fun q => q = a ∨ q = a + 1) (fun H => wAt E H a w c (bw_iv f c c))) 0 0 (fun q => q = a ∨ q = a + 1) := by
  refine Met.ofW (cc := b_W_invert) (maxL := 4) (ret := none) (by decide) rfl ?_
  intro p e s m args below meth cd s₁ Bd hml hv
  obtain ⟨hargs, hB, hK⟩ := hv
  have hx := Bd.exec
  have hb := Bd.bytes
  have hrt := Bd.returns
  have hts := atoms_spec (ws := Cond.code y_W_invert b_W_invert 4 (none) :: G0) Bd.pre
  have hG : ∀ w ∈ G0, w.before args s = true := fun w h => hts w (List.mem_cons_of_mem _ h)
  have hown : s.vm.findClass R_W = some m.cls := findClass_of_methodNamed Bd.named
  have hlocks := Bd.notSynchronized
  have hl := lv_entry ([.ref a]) (n := 4) (Nat.le_of_ble_eq_true rfl)
  rw [show entryFrame m args 4 = entryFrame m ([.ref a] : List Value).toArray 4 from by rw [hargs]]
  rw [lg_entry_eq]
  generalize (lg_sl ([.ref a]) ++ List.replicate (4 - (lg_sl ([.ref a])).length) Slot.unset).toArray = ls at hl ⊢
  have hl : lv_has ls 4 [(0, .ref a)] := hl
  obtain ⟨R, hR⟩ : ∃ R, R = (headSpec (Cond.code y_W_invert b_W_invert 4 (none) :: G0) { frames := 0, cells := 0, slots := 0, locals := 0 }).room := ⟨_, rfl⟩
  rw [← hR]
  have hRf : R.frames = 0 := by rw [hR]; rfl
  have hRl : R.locals = 0 := by rw [hR]; rfl
  have hRc : R.cells = 0 := by rw [hR]; rfl
  have hRs : R.slots = 0 := by rw [hR]; rfl
  obtain ⟨Q, hQ⟩ : ∃ Q, Q = MQ below (hp_Qv (fun q => q = a ∨ q = a + 1) (fun H => wAt E H a w c (bw_iv f c c))) args s 0 0 (fun q => q = a ∨ q = a + 1) := ⟨_, rfl⟩
  rw [← hQ]
  obtain ⟨H, hH⟩ : ∃ H, H = s.heap := ⟨_, rfl⟩
  obtain ⟨locs, hlocs⟩ : ∃ locs : List Loc, locs = [] := ⟨_, rfl⟩
  have hS : va_S (fun q => q = a ∨ q = a + 1) s.heap H locs := by rw [hH, hlocs]; exact va_S.rf
  have hZ : H.size = s.heap.size := by rw [hH]
  rw [← hH] at hB
  rw [show W p l e R s m args below meth cd s.heap [] 0 0 Q (F0 m 0 ls []) = W p l e R s m args below meth cd H locs 0 0 Q (F0 m 0 ls []) from by rw [hH, hlocs]]
  obtain ⟨hw, hf1⟩ := hB
  refine hp_iconst (z := 0) hx hb d_W_invert_0 (by rfl) ?_
  refine lv_istore_n (lv' := [(1, .int (iI 0)), (0, .ref a)]) hx hb d_W_invert_1 rfl hl (by decide) rfl (fun ls hl => ?_)
  refine lv_aload_n hx hb d_W_invert_2 rfl (lv_at hl 1 rfl) ?_
  refine hp_get (C := R_W) (T := F_W) (N := 3) (v := .int (iI (c : Int))) hx hb hG la_W hown hK.1 hw rfl 2 (by decide) (hG _ fl_W_19) (fun _ h9 => h9) rfl d_W_invert_3 ?_
  refine hp_iconst (z := 1) hx hb d_W_invert_6 (by rfl) ?_
  refine hp_isub hx hb d_W_invert_7 ?_
  refine lv_istore_n (lv' := [(2, .int (iI ((c : Int) - 1))), (1, .int (iI 0)), (0, .ref a)]) hx hb d_W_invert_8 rfl hl (by decide) rfl (fun ls hl => ?_)
  have L9 : ∀ (N : Nat) (i : Nat) (j : Int) (g : Nat → Int), c - i < N → (i ≤ c) → (j = (c : Int) - 1 - i) → (g = bw_iv f c i) → ∀ (H : Heap) (locs : List Loc), va_S (fun q => q = a ∨ q = a + 1) s.heap H locs → H.size = s.heap.size → ca E H a (oW a w c) → ca E H (a + 1) (ai E 32 g) → ∀ ls : Array Slot, lv_has ls 4 [(0, .ref a), (1, .int (iI (i : Int))), (2, .int (iI j))] → W p l e R s m args below meth cd H locs 0 0 Q (F0 m 9 ls []) := by
    intro N
    induction N with
    | zero => intro i j g hN; exact absurd hN (by omega)
    | succ N ih =>
      intro i j g hN hi hj hg H locs hS hZ hw hf1 ls hl
      have ih9 := ih
      refine lv_iload_n hx hb d_W_invert_9 rfl (lv_at hl 1 rfl) ?_
      refine lv_iload_n hx hb d_W_invert_10 rfl (lv_at hl 2 rfl) ?_
      refine hp_icmp_gt (tgt := 51) hx hb d_W_invert_11 (by decide) (by unfold iR; omega) (by unfold iR; omega) (fun c11 => ?_) (fun c11 => ?_)
      · skip
        rw [hQ]
        refine hp_vretQ hx hb hrt hlocks d_W_invert_51 hS hZ ?_
        have e : bw_iv f c i = bw_iv f c c := by funext k; unfold bw_iv; by_cases q : k < c; (rw [if_pos (by omega), if_pos (by omega)]); (rw [if_neg (by omega), if_neg (by omega)])
        rw [hg, e] at hf1
        exact ⟨hw, hf1⟩
      · skip
        refine lv_aload_n hx hb d_W_invert_14 rfl (lv_at hl 0 rfl) ?_
        refine hp_get (C := R_W) (T := F_W) (N := 3) (v := .ref (a + 1)) hx hb hG la_W hown hK.1 hw rfl 0 (by decide) (hG _ fl_W_9) (fun _ h9 => h9) rfl d_W_invert_15 ?_
        refine lv_iload_n hx hb d_W_invert_18 rfl (lv_at hl 1 rfl) ?_
        refine hp_iald hx hb hK.1 0 hf1 rfl d_W_invert_19 (by omega) i (by omega) (by omega) ?_
        refine lv_istore_n (lv' := [(3, .int (iI (g i))), (0, .ref a), (1, .int (iI (i : Int))), (2, .int (iI j))]) hx hb d_W_invert_20 rfl hl (by decide) rfl (fun ls hl => ?_)
        refine lv_aload_n hx hb d_W_invert_21 rfl (lv_at hl 1 rfl) ?_
        refine hp_get (C := R_W) (T := F_W) (N := 3) (v := .ref (a + 1)) hx hb hG la_W hown hK.1 hw rfl 0 (by decide) (hG _ fl_W_9) (fun _ h9 => h9) rfl d_W_invert_22 ?_
        refine lv_iload_n hx hb d_W_invert_25 rfl (lv_at hl 2 rfl) ?_
        refine lv_aload_n hx hb d_W_invert_26 rfl (lv_at hl 1 rfl) ?_
        refine hp_get (C := R_W) (T := F_W) (N := 3) (v := .ref (a + 1)) hx hb hG la_W hown hK.1 hw rfl 0 (by decide) (hG _ fl_W_9) (fun _ h9 => h9) rfl d_W_invert_27 ?_
        refine lv_iload_n hx hb d_W_invert_30 rfl (lv_at hl 3 rfl) ?_
        refine hp_iald hx hb hK.1 0 hf1 rfl d_W_invert_31 (by omega) (c - 1 - i) (by omega) (by omega) ?_
        refine hp_ineg hx hb d_W_invert_32 ?_
        refine hp_iast hx hb hK.1 0 hf1 hS (by first | exact Or.inl rfl | exact Or.inr rfl | rfl | omega) rfl d_W_invert_33 (by omega) i (by omega) (by omega) (fun H locs hf1n hz1 ho1 hS => ?_)
        have hZ := hz1.trans hZ
        have hw := hw.keep (ho1 (a) (by omega))
        have hf1 : ca E H (a + 1) (ai E 32 (hp_up g i (-(g (c - 1 - i))))) := hf1n
        refine lv_aload_n hx hb d_W_invert_34 rfl (lv_at hl 1 rfl) ?_
        refine hp_get (C := R_W) (T := F_W) (N := 3) (v := .ref (a + 1)) hx hb hG la_W hown hK.1 hw rfl 0 (by decide) (hG _ fl_W_9) (fun _ h9 => h9) rfl d_W_invert_35 ?_
        refine lv_iload_n hx hb d_W_invert_38 rfl (lv_at hl 3 rfl) ?_
        refine lv_iload_n hx hb d_W_invert_39 rfl (lv_at hl 0 rfl) ?_
        refine hp_ineg hx hb d_W_invert_40 ?_
        refine hp_iast hx hb hK.1 0 hf1 hS (by first | exact Or.inl rfl | exact Or.inr rfl | rfl | omega) rfl d_W_invert_41 (by omega) (c - 1 - i) (by omega) (by omega) (fun H locs hf1n hz1 ho1 hS => ?_)
        have hZ := hz1.trans hZ
        have hw := hw.keep (ho1 (a) (by omega))
        have hf1 : ca E H (a + 1) (ai E 32 (hp_up (hp_up g i (-(g (c - 1 - i)))) (c - 1 - i) (-(g i)))) := hf1n
        refine hp_iinc (z := ((i : Int) + 1)) (lv' := [(1, .int (iI ((i : Int) + 1))), (3, .int (iI (g i))), (0, .ref a), (2, .int (iI j))]) hx hb d_W_invert_42 hl (k := 2) rfl (by omega) (by decide) rfl (fun ls hl => ?_)
        refine hp_iinc (z := (j - 1)) (lv' := [(2, .int (iI (j - 1))), (1, .int (iI ((i : Int) + 1))), (3, .int (iI (g i))), (0, .ref a)]) hx hb d_W_invert_45 hl (k := 3) rfl (by omega) (by decide) rfl (fun ls hl => ?_)
        refine lv_goto (tgt := 9) hx hb d_W_invert_48 (by decide) ?_
        exact ih9  (i + 1) (j - 1) (hp_up (hp_up g i (-(g (c - 1 - i)))) (c - 1 - i) (-(g i))) (by omega) (by omega) (by omega) (by subst hg; funext k; simp only [hp_up, bw_iv]; repeat' split; all_goals (first | omega | rfl | (subst_vars; first | omega | rfl | (congr 2; omega) | (congr 1; omega) | skip))) H locs hS hZ hw hf1 ls (lv_sub hl [3, 1, 0] rfl)
  exact L9 (c - 0 + 1) 0 ((c : Int) - 1) f (by omega) (by omega) (by omega) (by funext k; unfold bw_iv; rw [if_neg (by omega)]) H locs hS hZ hw hf1 ls (lv_sub hl [2, 1, 0] rfl)

set_option maxHeartbeats 4000000 in
set_option maxRecDepth 100000 in
/-- cancelNeighbours() -/
theorem c_W_cancelNeighbours (l : Launch) (E : hp_E) (a w c : Nat) (f : Nat → Int) (hc : c ≤ 32) (hbd : bd f) : Met l y_W_cancelNeighbours (Cond.code y_W_cancelNeighbours b_W_cancelNeighbours 3 (none) :: G0) ({ frames := 0, cells := 0, slots := 0, locals := 0 }) (hp_P E [.ref a] (fun H => wAt E H a w c f)) (hp_Qv (fun q => q = a ∨ q = a + 1) (fun H => ∃ (g : Nat → Int), bd g ∧ bw_st g (bw_rs f c).length (bw_rs f c) ∧ wAt E H a w (bw_rs f c).length g)) 0 0 (fun q => q = a ∨ q = a + 1) := by
  refine Met.ofW (cc := b_W_cancelNeighbours) (maxL := 3) (ret := none) (by decide) rfl ?_
  intro p e s m args below meth cd s₁ Bd hml hv
  obtain ⟨hargs, hB, hK⟩ := hv
  have hx := Bd.exec
  have hb := Bd.bytes
  have hrt := Bd.returns
  have hts := atoms_spec (ws := Cond.code y_W_cancelNeighbours b_W_cancelNeighbours 3 (none) :: G0) Bd.pre
  have hG : ∀ w ∈ G0, w.before args s = true := fun w h => hts w (List.mem_cons_of_mem _ h)
  have hown : s.vm.findClass R_W = some m.cls := findClass_of_methodNamed Bd.named
  have hlocks := Bd.notSynchronized
  have hl := lv_entry ([.ref a]) (n := 3) (Nat.le_of_ble_eq_true rfl)
  rw [show entryFrame m args 3 = entryFrame m ([.ref a] : List Value).toArray 3 from by rw [hargs]]
  rw [lg_entry_eq]
  generalize (lg_sl ([.ref a]) ++ List.replicate (3 - (lg_sl ([.ref a])).length) Slot.unset).toArray = ls at hl ⊢
  have hl : lv_has ls 3 [(0, .ref a)] := hl
  obtain ⟨R, hR⟩ : ∃ R, R = (headSpec (Cond.code y_W_cancelNeighbours b_W_cancelNeighbours 3 (none) :: G0) { frames := 0, cells := 0, slots := 0, locals := 0 }).room := ⟨_, rfl⟩
  rw [← hR]
  have hRf : R.frames = 0 := by rw [hR]; rfl
  have hRl : R.locals = 0 := by rw [hR]; rfl
  have hRc : R.cells = 0 := by rw [hR]; rfl
  have hRs : R.slots = 0 := by rw [hR]; rfl
  obtain ⟨Q, hQ⟩ : ∃ Q, Q = MQ below (hp_Qv (fun q => q = a ∨ q = a + 1) (fun H => ∃ (g : Nat → Int), bd g ∧ bw_st g (bw_rs f c).length (bw_rs f c) ∧ wAt E H a w (bw_rs f c).length g)) args s 0 0 (fun q => q = a ∨ q = a + 1) := ⟨_, rfl⟩
  rw [← hQ]
  obtain ⟨H, hH⟩ : ∃ H, H = s.heap := ⟨_, rfl⟩
  obtain ⟨locs, hlocs⟩ : ∃ locs : List Loc, locs = [] := ⟨_, rfl⟩
  have hS : va_S (fun q => q = a ∨ q = a + 1) s.heap H locs := by rw [hH, hlocs]; exact va_S.rf
  have hZ : H.size = s.heap.size := by rw [hH]
  rw [← hH] at hB
  rw [show W p l e R s m args below meth cd s.heap [] 0 0 Q (F0 m 0 ls []) = W p l e R s m args below meth cd H locs 0 0 Q (F0 m 0 ls []) from by rw [hH, hlocs]]
  obtain ⟨hw, hf1⟩ := hB
  refine hp_iconst (z := 0) hx hb d_W_cancelNeighbours_0 (by rfl) ?_
  refine lv_istore_n (lv' := [(1, .int (iI 0)), (0, .ref a)]) hx hb d_W_cancelNeighbours_1 rfl hl (by decide) rfl (fun ls hl => ?_)
  refine hp_iconst (z := 0) hx hb d_W_cancelNeighbours_2 (by rfl) ?_
  refine lv_istore_n (lv' := [(2, .int (iI 0)), (1, .int (iI 0)), (0, .ref a)]) hx hb d_W_cancelNeighbours_3 rfl hl (by decide) rfl (fun ls hl => ?_)
  have L4 : ∀ (N : Nat) (i k : Nat) (g : Nat → Int), c - k < N → (i ≤ k ∧ k ≤ c) → (bw_st g i (bw_rs f k)) → (∀ j, k ≤ j → g j = f j) → (bd g) → ∀ (H : Heap) (locs : List Loc), va_S (fun q => q = a ∨ q = a + 1) s.heap H locs → H.size = s.heap.size → ca E H a (oW a w c) → ca E H (a + 1) (ai E 32 g) → ∀ ls : Array Slot, lv_has ls 3 [(0, .ref a), (1, .int (iI (i : Int))), (2, .int (iI (k : Int)))] → W p l e R s m args below meth cd H locs 0 0 Q (F0 m 4 ls []) := by
    intro N
    induction N with
    | zero => intro i k g hN; exact absurd hN (by omega)
    | succ N ih =>
      intro i k g hN hik hst hre hbg H locs hS hZ hw hf1 ls hl
      have ih4 := ih
      refine lv_iload_n hx hb d_W_cancelNeighbours_4 rfl (lv_at hl 2 rfl) ?_
      refine lv_aload_n hx hb d_W_cancelNeighbours_5 rfl (lv_at hl 0 rfl) ?_
      refine hp_get (C := R_W) (T := F_W) (N := 3) (v := .int (iI (c : Int))) hx hb hG la_W hown hK.1 hw rfl 2 (by decide) (hG _ fl_W_19) (fun _ h9 => h9) rfl d_W_cancelNeighbours_6 ?_
      refine hp_icmp_ge (tgt := 61) hx hb d_W_cancelNeighbours_9 (by decide) (by unfold iR; omega) (by unfold iR; omega) (fun c9 => ?_) (fun c9 => ?_)
      · skip
        refine lv_aload_n hx hb d_W_cancelNeighbours_61 rfl (lv_at hl 0 rfl) ?_
        refine lv_iload_n hx hb d_W_cancelNeighbours_62 rfl (lv_at hl 1 rfl) ?_
        refine hp_put (C := R_W) (T := F_W) (N := 3) (v := .int (iI (i : Int))) (ty := .int) hx hb hG la_W t_W tk_W n_W hown hK.1 hw hS (by first | exact Or.inl rfl | exact Or.inr rfl | rfl | omega) rfl 2 (by decide) (hG _ fl_W_19) (fun _ h9 => h9) rfl (by decide +kernel) rfl rfl (Nat.le_of_ble_eq_true rfl) d_W_cancelNeighbours_63 (fun H locs hwn hz1 ho1 hS => ?_)
        have hZ := hz1.trans hZ
        have hf1 := hf1.keep (ho1 (a + 1) (by omega))
        have hw : ca E H (a) (.inr (0, [.ref (a + 1), .int (iI (w : Int)), .int (iI (i : Int))])) := hwn
        rw [hQ]
        refine hp_vretQ hx hb hrt hlocks d_W_cancelNeighbours_66 hS hZ ?_
        have e : k = c := by omega
        rw [e] at hst
        exact ⟨g, hbg, by rw [← hst.1]; exact hst, by rw [← hst.1]; exact ⟨hw, hf1⟩⟩
      · skip
        have hk2 := hbg k
        have hk3 := hbg (i - 1)
        have hk4 := hre k (by omega)
        refine lv_iload_n hx hb d_W_cancelNeighbours_12 rfl (lv_at hl 1 rfl) ?_
        refine hp_if_le (tgt := 40) hx hb d_W_cancelNeighbours_13 (by decide) (by unfold iR; omega) (fun c13 => ?_) (fun c13 => ?_)
        · skip
          refine lv_aload_n hx hb d_W_cancelNeighbours_40 rfl (lv_at hl 0 rfl) ?_
          refine hp_get (C := R_W) (T := F_W) (N := 3) (v := .ref (a + 1)) hx hb hG la_W hown hK.1 hw rfl 0 (by decide) (hG _ fl_W_9) (fun _ h9 => h9) rfl d_W_cancelNeighbours_41 ?_
          refine lv_iload_n hx hb d_W_cancelNeighbours_44 rfl (lv_at hl 1 rfl) ?_
          refine lv_aload_n hx hb d_W_cancelNeighbours_45 rfl (lv_at hl 0 rfl) ?_
          refine hp_get (C := R_W) (T := F_W) (N := 3) (v := .ref (a + 1)) hx hb hG la_W hown hK.1 hw rfl 0 (by decide) (hG _ fl_W_9) (fun _ h9 => h9) rfl d_W_cancelNeighbours_46 ?_
          refine lv_iload_n hx hb d_W_cancelNeighbours_49 rfl (lv_at hl 2 rfl) ?_
          refine hp_iald hx hb hK.1 0 hf1 rfl d_W_cancelNeighbours_50 (by omega) k (by omega) (by omega) ?_
          refine hp_iast hx hb hK.1 0 hf1 hS (by first | exact Or.inl rfl | exact Or.inr rfl | rfl | omega) rfl d_W_cancelNeighbours_51 (by omega) i (by omega) (by omega) (fun H locs hf1n hz1 ho1 hS => ?_)
          have hZ := hz1.trans hZ
          have hw := hw.keep (ho1 (a) (by omega))
          have hf1 : ca E H (a + 1) (ai E 32 (hp_up g i (g k))) := hf1n
          refine hp_iinc (z := ((i : Int) + 1)) (lv' := [(1, .int (iI ((i : Int) + 1))), (0, .ref a), (2, .int (iI (k : Int)))]) hx hb d_W_cancelNeighbours_52 hl (k := 1) rfl (by omega) (by decide) rfl (fun ls hl => ?_)
          refine hp_iinc (z := ((k : Int) + 1)) (lv' := [(2, .int (iI ((k : Int) + 1))), (1, .int (iI ((i : Int) + 1))), (0, .ref a)]) hx hb d_W_cancelNeighbours_55 hl (k := 2) rfl (by omega) (by decide) rfl (fun ls hl => ?_)
          refine lv_goto (tgt := 4) hx hb d_W_cancelNeighbours_58 (by decide) ?_
          exact ih4  (i + 1) (k + 1) (hp_up g i (g k)) (by omega) (by omega) (by show bw_st _ _ (bw_psh (bw_rs f k) (f k)); first | exact bw_st_pop hst (by omega) (by omega) | (rw [hk4]; exact bw_st_push hst (by omega))) (by intro j hj; first | exact hre j (by omega) | (rw [hp_up_n _ _ (by omega)]; exact hre j (by omega))) (by first | exact hbg | exact bd_up hbg (by omega) (by omega)) H locs hS hZ hw hf1 ls (lv_sub hl [2, 1, 0] rfl)
        · skip
          refine lv_aload_n hx hb d_W_cancelNeighbours_16 rfl (lv_at hl 0 rfl) ?_
          refine hp_get (C := R_W) (T := F_W) (N := 3) (v := .ref (a + 1)) hx hb hG la_W hown hK.1 hw rfl 0 (by decide) (hG _ fl_W_9) (fun _ h9 => h9) rfl d_W_cancelNeighbours_17 ?_
          refine lv_iload_n hx hb d_W_cancelNeighbours_20 rfl (lv_at hl 1 rfl) ?_
          refine hp_iconst (z := 1) hx hb d_W_cancelNeighbours_21 (by rfl) ?_
          refine hp_isub hx hb d_W_cancelNeighbours_22 ?_
          refine hp_iald hx hb hK.1 0 hf1 rfl d_W_cancelNeighbours_23 (by omega) (i - 1) (by omega) (by omega) ?_
          refine lv_aload_n hx hb d_W_cancelNeighbours_24 rfl (lv_at hl 0 rfl) ?_
          refine hp_get (C := R_W) (T := F_W) (N := 3) (v := .ref (a + 1)) hx hb hG la_W hown hK.1 hw rfl 0 (by decide) (hG _ fl_W_9) (fun _ h9 => h9) rfl d_W_cancelNeighbours_25 ?_
          refine lv_iload_n hx hb d_W_cancelNeighbours_28 rfl (lv_at hl 2 rfl) ?_
          refine hp_iald hx hb hK.1 0 hf1 rfl d_W_cancelNeighbours_29 (by omega) k (by omega) (by omega) ?_
          refine hp_ineg hx hb d_W_cancelNeighbours_30 ?_
          refine hp_icmp_ne (tgt := 40) hx hb d_W_cancelNeighbours_31 (by decide) (by unfold iR; omega) (by unfold iR; omega) (fun c31 => ?_) (fun c31 => ?_)
          · skip
            refine lv_aload_n hx hb d_W_cancelNeighbours_40 rfl (lv_at hl 0 rfl) ?_
            refine hp_get (C := R_W) (T := F_W) (N := 3) (v := .ref (a + 1)) hx hb hG la_W hown hK.1 hw rfl 0 (by decide) (hG _ fl_W_9) (fun _ h9 => h9) rfl d_W_cancelNeighbours_41 ?_
            refine lv_iload_n hx hb d_W_cancelNeighbours_44 rfl (lv_at hl 1 rfl) ?_
            refine lv_aload_n hx hb d_W_cancelNeighbours_45 rfl (lv_at hl 0 rfl) ?_
            refine hp_get (C := R_W) (T := F_W) (N := 3) (v := .ref (a + 1)) hx hb hG la_W hown hK.1 hw rfl 0 (by decide) (hG _ fl_W_9) (fun _ h9 => h9) rfl d_W_cancelNeighbours_46 ?_
            refine lv_iload_n hx hb d_W_cancelNeighbours_49 rfl (lv_at hl 2 rfl) ?_
            refine hp_iald hx hb hK.1 0 hf1 rfl d_W_cancelNeighbours_50 (by omega) k (by omega) (by omega) ?_
            refine hp_iast hx hb hK.1 0 hf1 hS (by first | exact Or.inl rfl | exact Or.inr rfl | rfl | omega) rfl d_W_cancelNeighbours_51 (by omega) i (by omega) (by omega) (fun H locs hf1n hz1 ho1 hS => ?_)
            have hZ := hz1.trans hZ
            have hw := hw.keep (ho1 (a) (by omega))
            have hf1 : ca E H (a + 1) (ai E 32 (hp_up g i (g k))) := hf1n
            refine hp_iinc (z := ((i : Int) + 1)) (lv' := [(1, .int (iI ((i : Int) + 1))), (0, .ref a), (2, .int (iI (k : Int)))]) hx hb d_W_cancelNeighbours_52 hl (k := 1) rfl (by omega) (by decide) rfl (fun ls hl => ?_)
            refine hp_iinc (z := ((k : Int) + 1)) (lv' := [(2, .int (iI ((k : Int) + 1))), (1, .int (iI ((i : Int) + 1))), (0, .ref a)]) hx hb d_W_cancelNeighbours_55 hl (k := 2) rfl (by omega) (by decide) rfl (fun ls hl => ?_)
            refine lv_goto (tgt := 4) hx hb d_W_cancelNeighbours_58 (by decide) ?_
            exact ih4  (i + 1) (k + 1) (hp_up g i (g k)) (by omega) (by omega) (by show bw_st _ _ (bw_psh (bw_rs f k) (f k)); first | exact bw_st_pop hst (by omega) (by omega) | (rw [hk4]; exact bw_st_push hst (by omega))) (by intro j hj; first | exact hre j (by omega) | (rw [hp_up_n _ _ (by omega)]; exact hre j (by omega))) (by first | exact hbg | exact bd_up hbg (by omega) (by omega)) H locs hS hZ hw hf1 ls (lv_sub hl [2, 1, 0] rfl)
          · skip
            refine hp_iinc (z := ((i : Int) - 1)) (lv' := [(1, .int (iI ((i : Int) - 1))), (0, .ref a), (2, .int (iI (k : Int)))]) hx hb d_W_cancelNeighbours_34 hl (k := 1) rfl (by omega) (by decide) rfl (fun ls hl => ?_)
            refine lv_goto (tgt := 55) hx hb d_W_cancelNeighbours_37 (by decide) ?_
            refine hp_iinc (z := ((k : Int) + 1)) (lv' := [(2, .int (iI ((k : Int) + 1))), (1, .int (iI ((i : Int) - 1))), (0, .ref a)]) hx hb d_W_cancelNeighbours_55 hl (k := 2) rfl (by omega) (by decide) rfl (fun ls hl => ?_)
            refine lv_goto (tgt := 4) hx hb d_W_cancelNeighbours_58 (by decide) ?_
            rw [show (((i : Int) - 1) : Int) = (((i - 1) : Nat) : Int) from by omega] at hl
            exact ih4  (i - 1) (k + 1) g (by omega) (by omega) (by show bw_st _ _ (bw_psh (bw_rs f k) (f k)); first | exact bw_st_pop hst (by omega) (by omega) | (rw [hk4]; exact bw_st_push hst (by omega))) (by intro j hj; first | exact hre j (by omega) | (rw [hp_up_n _ _ (by omega)]; exact hre j (by omega))) (by first | exact hbg | exact bd_up hbg (by omega) (by omega)) H locs hS hZ hw hf1 ls (lv_sub hl [2, 1, 0] rfl)
  exact L4 (c - 0 + 1) 0 0 f (by omega) (by omega) (by exact bw_st_0 _) (by intro j _; rfl) (by exact hbd) H locs hS hZ hw hf1 ls (lv_sub hl [2, 1, 0] rfl)

set_option maxHeartbeats 4000000 in
set_option maxRecDepth 100000 in
/-- cancelEnds() -/
theorem c_W_cancelEnds (l : Launch) (E : hp_E) (a w c : Nat) (f : Nat → Int) (hc : c ≤ 32) (hbd : bd f) : Met l y_W_cancelEnds (Cond.code y_W_cancelEnds b_W_cancelEnds 2 (none) :: G0) ({ frames := 1, cells := 0, slots := 0, locals := 60 }) (hp_P E [.ref a] (fun H => wAt E H a w c f)) (hp_Qv (fun q => q = a ∨ q = a + 1) (fun H => ∃ n : Nat, bw_gone f c n ∧ 2 * n ≤ c ∧ wAt E H a w (c - 2 * n) (va_cpy f f n 0 (c - 2 * n)))) 0 0 (fun q => q = a ∨ q = a + 1) := by
  refine Met.ofW (cc := b_W_cancelEnds) (maxL := 2) (ret := none) (by decide) rfl ?_
  intro p e s m args below meth cd s₁ Bd hml hv
  obtain ⟨hargs, hB, hK⟩ := hv
  have hx := Bd.exec
  have hb := Bd.bytes
  have hrt := Bd.returns
  have hts := atoms_spec (ws := Cond.code y_W_cancelEnds b_W_cancelEnds 2 (none) :: G0) Bd.pre
  have hG : ∀ w ∈ G0, w.before args s = true := fun w h => hts w (List.mem_cons_of_mem _ h)
  have hown : s.vm.findClass R_W = some m.cls := findClass_of_methodNamed Bd.named
  have hlocks := Bd.notSynchronized
  have hl := lv_entry ([.ref a]) (n := 2) (Nat.le_of_ble_eq_true rfl)
  rw [show entryFrame m args 2 = entryFrame m ([.ref a] : List Value).toArray 2 from by rw [hargs]]
  rw [lg_entry_eq]
  generalize (lg_sl ([.ref a]) ++ List.replicate (2 - (lg_sl ([.ref a])).length) Slot.unset).toArray = ls at hl ⊢
  have hl : lv_has ls 2 [(0, .ref a)] := hl
  obtain ⟨R, hR⟩ : ∃ R, R = (headSpec (Cond.code y_W_cancelEnds b_W_cancelEnds 2 (none) :: G0) { frames := 1, cells := 0, slots := 0, locals := 60 }).room := ⟨_, rfl⟩
  rw [← hR]
  have hRf : R.frames = 1 := by rw [hR]; rfl
  have hRl : R.locals = 60 := by rw [hR]; rfl
  have hRc : R.cells = 0 := by rw [hR]; rfl
  have hRs : R.slots = 0 := by rw [hR]; rfl
  obtain ⟨Q, hQ⟩ : ∃ Q, Q = MQ below (hp_Qv (fun q => q = a ∨ q = a + 1) (fun H => ∃ n : Nat, bw_gone f c n ∧ 2 * n ≤ c ∧ wAt E H a w (c - 2 * n) (va_cpy f f n 0 (c - 2 * n)))) args s 0 0 (fun q => q = a ∨ q = a + 1) := ⟨_, rfl⟩
  rw [← hQ]
  obtain ⟨H, hH⟩ : ∃ H, H = s.heap := ⟨_, rfl⟩
  obtain ⟨locs, hlocs⟩ : ∃ locs : List Loc, locs = [] := ⟨_, rfl⟩
  have hS : va_S (fun q => q = a ∨ q = a + 1) s.heap H locs := by rw [hH, hlocs]; exact va_S.rf
  have hZ : H.size = s.heap.size := by rw [hH]
  rw [← hH] at hB
  rw [show W p l e R s m args below meth cd s.heap [] 0 0 Q (F0 m 0 ls []) = W p l e R s m args below meth cd H locs 0 0 Q (F0 m 0 ls []) from by rw [hH, hlocs]]
  obtain ⟨hw, hf1⟩ := hB
  refine hp_iconst (z := 0) hx hb d_W_cancelEnds_0 (by rfl) ?_
  refine lv_istore_n (lv' := [(1, .int (iI 0)), (0, .ref a)]) hx hb d_W_cancelEnds_1 rfl hl (by decide) rfl (fun ls hl => ?_)
  have L2 : ∀ (N : Nat) (n : Nat), c - n < N → (2 * n ≤ c) → (∀ i, i < n → i + i + 1 < c ∧ f i = -f (c - 1 - i)) → ∀ ls : Array Slot, lv_has ls 2 [(0, .ref a), (1, .int (iI (n : Int)))] → W p l e R s m args below meth cd H locs 0 0 Q (F0 m 2 ls []) := by
    intro N
    induction N with
    | zero => intro n hN; exact absurd hN (by omega)
    | succ N ih =>
      intro n hN hn hg  ls hl
      have ih2 := ih
      refine lv_iload_n hx hb d_W_cancelEnds_2 rfl (lv_at hl 1 rfl) ?_
      refine lv_aload_n hx hb d_W_cancelEnds_3 rfl (lv_at hl 0 rfl) ?_
      refine hp_get (C := R_W) (T := F_W) (N := 3) (v := .int (iI (c : Int))) hx hb hG la_W hown hK.1 hw rfl 2 (by decide) (hG _ fl_W_19) (fun _ h9 => h9) rfl d_W_cancelEnds_4 ?_
      refine hp_iconst (z := 1) hx hb d_W_cancelEnds_7 (by rfl) ?_
      refine hp_isub hx hb d_W_cancelEnds_8 ?_
      refine lv_iload_n hx hb d_W_cancelEnds_9 rfl (lv_at hl 1 rfl) ?_
      refine hp_isub hx hb d_W_cancelEnds_10 ?_
      refine hp_icmp_ge (tgt := 43) hx hb d_W_cancelEnds_11 (by decide) (by unfold iR; omega) (by unfold iR; omega) (fun c11 => ?_) (fun c11 => ?_)
      · skip
        refine lv_aload_n hx hb d_W_cancelEnds_43 rfl (lv_at hl 0 rfl) ?_
        refine lv_dup hx hb d_W_cancelEnds_44 rfl ?_
        refine hp_get (C := R_W) (T := F_W) (N := 3) (v := .int (iI (c : Int))) hx hb hG la_W hown hK.1 hw rfl 2 (by decide) (hG _ fl_W_19) (fun _ h9 => h9) rfl d_W_cancelEnds_45 ?_
        refine hp_iconst (z := 2) hx hb d_W_cancelEnds_48 (by rfl) ?_
        refine lv_iload_n hx hb d_W_cancelEnds_49 rfl (lv_at hl 1 rfl) ?_
        refine hp_imul hx hb d_W_cancelEnds_50 ?_
        refine hp_isub hx hb d_W_cancelEnds_51 ?_
        refine hp_put (C := R_W) (T := F_W) (N := 3) (v := .int (iI ((c : Int) - (2 * (n : Int))))) (ty := .int) hx hb hG la_W t_W tk_W n_W hown hK.1 hw hS (by first | exact Or.inl rfl | exact Or.inr rfl | rfl | omega) rfl 2 (by decide) (hG _ fl_W_19) (fun _ h9 => h9) rfl (by decide +kernel) rfl rfl (Nat.le_of_ble_eq_true rfl) d_W_cancelEnds_52 (fun H locs hwn hz1 ho1 hS => ?_)
        have hZ := hz1.trans hZ
        have hf1 := hf1.keep (ho1 (a + 1) (by omega))
        have hw : ca E H (a) (.inr (0, [.ref (a + 1), .int (iI (w : Int)), .int (iI ((c : Int) - (2 * (n : Int))))])) := hwn
        refine lv_aload_n hx hb d_W_cancelEnds_55 rfl (lv_at hl 0 rfl) ?_
        refine hp_get (C := R_W) (T := F_W) (N := 3) (v := .ref (a + 1)) hx hb hG la_W hown hK.1 hw rfl 0 (by decide) (hG _ fl_W_9) (fun _ h9 => h9) rfl d_W_cancelEnds_56 ?_
        refine lv_iload_n hx hb d_W_cancelEnds_59 rfl (lv_at hl 1 rfl) ?_
        refine lv_aload_n hx hb d_W_cancelEnds_60 rfl (lv_at hl 0 rfl) ?_
        refine hp_get (C := R_W) (T := F_W) (N := 3) (v := .ref (a + 1)) hx hb hG la_W hown hK.1 hw rfl 0 (by decide) (hG _ fl_W_9) (fun _ h9 => h9) rfl d_W_cancelEnds_61 ?_
        refine hp_iconst (z := 0) hx hb d_W_cancelEnds_64 (by rfl) ?_
        refine lv_aload_n hx hb d_W_cancelEnds_65 rfl (lv_at hl 0 rfl) ?_
        refine hp_get (C := R_W) (T := F_W) (N := 3) (v := .int (iI ((c : Int) - (2 * (n : Int))))) hx hb hG la_W hown hK.1 hw rfl 2 (by decide) (hG _ fl_W_19) (fun _ h9 => h9) rfl d_W_cancelEnds_66 ?_
        refine hp_copy (rest := []) hx hb (hml.trans hl.1.symm) hown (hG _ ml_W_22) (hG _ na_JS_arraycopy) (hG _ st_JS_arraycopy) (hG _ in_JS) hK.1 0 hf1 hf1 hS (by first | exact Or.inl rfl | exact Or.inr rfl | rfl | omega) rfl (by omega) (by rw [hRl]; exact Nat.le_of_ble_eq_true rfl) d_W_cancelEnds_69 n 0 (c - 2 * n) (by omega) (by omega) (by omega) (by omega) (by omega) (by omega) (by omega) (fun H locs hf1n hz1 ho1 hS => ?_)
        have hZ := hz1.trans hZ
        have hw := hw.keep (ho1 (a) (by omega))
        have hf1 : ca E H (a + 1) (ai E 32 (va_cpy f f n 0 (c - 2 * n))) := hf1n
        rw [hQ]
        refine hp_vretQ hx hb hrt hlocks d_W_cancelEnds_72 hS hZ ?_
        exact ⟨n, ⟨hg, by omega⟩, hn, by rw [show ((c : Int) - (2 * (n : Int))) = ((c - 2 * n : Nat) : Int) by omega] at hw; exact hw, hf1⟩
      · skip
        have hk2 := hbd n
        have hk3 := hbd (c - 1 - n)
        refine lv_aload_n hx hb d_W_cancelEnds_14 rfl (lv_at hl 0 rfl) ?_
        refine hp_get (C := R_W) (T := F_W) (N := 3) (v := .ref (a + 1)) hx hb hG la_W hown hK.1 hw rfl 0 (by decide) (hG _ fl_W_9) (fun _ h9 => h9) rfl d_W_cancelEnds_15 ?_
        refine lv_iload_n hx hb d_W_cancelEnds_18 rfl (lv_at hl 1 rfl) ?_
        refine hp_iald hx hb hK.1 0 hf1 rfl d_W_cancelEnds_19 (by omega) n (by omega) (by omega) ?_
        refine lv_aload_n hx hb d_W_cancelEnds_20 rfl (lv_at hl 0 rfl) ?_
        refine hp_get (C := R_W) (T := F_W) (N := 3) (v := .ref (a + 1)) hx hb hG la_W hown hK.1 hw rfl 0 (by decide) (hG _ fl_W_9) (fun _ h9 => h9) rfl d_W_cancelEnds_21 ?_
        refine lv_aload_n hx hb d_W_cancelEnds_24 rfl (lv_at hl 0 rfl) ?_
        refine hp_get (C := R_W) (T := F_W) (N := 3) (v := .int (iI (c : Int))) hx hb hG la_W hown hK.1 hw rfl 2 (by decide) (hG _ fl_W_19) (fun _ h9 => h9) rfl d_W_cancelEnds_25 ?_
        refine hp_iconst (z := 1) hx hb d_W_cancelEnds_28 (by rfl) ?_
        refine hp_isub hx hb d_W_cancelEnds_29 ?_
        refine lv_iload_n hx hb d_W_cancelEnds_30 rfl (lv_at hl 1 rfl) ?_
        refine hp_isub hx hb d_W_cancelEnds_31 ?_
        refine hp_iald hx hb hK.1 0 hf1 rfl d_W_cancelEnds_32 (by omega) (c - 1 - n) (by omega) (by omega) ?_
        refine hp_ineg hx hb d_W_cancelEnds_33 ?_
        refine hp_icmp_ne (tgt := 43) hx hb d_W_cancelEnds_34 (by decide) (by unfold iR; omega) (by unfold iR; omega) (fun c34 => ?_) (fun c34 => ?_)
        · skip
          refine lv_aload_n hx hb d_W_cancelEnds_43 rfl (lv_at hl 0 rfl) ?_
          refine lv_dup hx hb d_W_cancelEnds_44 rfl ?_
          refine hp_get (C := R_W) (T := F_W) (N := 3) (v := .int (iI (c : Int))) hx hb hG la_W hown hK.1 hw rfl 2 (by decide) (hG _ fl_W_19) (fun _ h9 => h9) rfl d_W_cancelEnds_45 ?_
          refine hp_iconst (z := 2) hx hb d_W_cancelEnds_48 (by rfl) ?_
          refine lv_iload_n hx hb d_W_cancelEnds_49 rfl (lv_at hl 1 rfl) ?_
          refine hp_imul hx hb d_W_cancelEnds_50 ?_
          refine hp_isub hx hb d_W_cancelEnds_51 ?_
          refine hp_put (C := R_W) (T := F_W) (N := 3) (v := .int (iI ((c : Int) - (2 * (n : Int))))) (ty := .int) hx hb hG la_W t_W tk_W n_W hown hK.1 hw hS (by first | exact Or.inl rfl | exact Or.inr rfl | rfl | omega) rfl 2 (by decide) (hG _ fl_W_19) (fun _ h9 => h9) rfl (by decide +kernel) rfl rfl (Nat.le_of_ble_eq_true rfl) d_W_cancelEnds_52 (fun H locs hwn hz1 ho1 hS => ?_)
          have hZ := hz1.trans hZ
          have hf1 := hf1.keep (ho1 (a + 1) (by omega))
          have hw : ca E H (a) (.inr (0, [.ref (a + 1), .int (iI (w : Int)), .int (iI ((c : Int) - (2 * (n : Int))))])) := hwn
          refine lv_aload_n hx hb d_W_cancelEnds_55 rfl (lv_at hl 0 rfl) ?_
          refine hp_get (C := R_W) (T := F_W) (N := 3) (v := .ref (a + 1)) hx hb hG la_W hown hK.1 hw rfl 0 (by decide) (hG _ fl_W_9) (fun _ h9 => h9) rfl d_W_cancelEnds_56 ?_
          refine lv_iload_n hx hb d_W_cancelEnds_59 rfl (lv_at hl 1 rfl) ?_
          refine lv_aload_n hx hb d_W_cancelEnds_60 rfl (lv_at hl 0 rfl) ?_
          refine hp_get (C := R_W) (T := F_W) (N := 3) (v := .ref (a + 1)) hx hb hG la_W hown hK.1 hw rfl 0 (by decide) (hG _ fl_W_9) (fun _ h9 => h9) rfl d_W_cancelEnds_61 ?_
          refine hp_iconst (z := 0) hx hb d_W_cancelEnds_64 (by rfl) ?_
          refine lv_aload_n hx hb d_W_cancelEnds_65 rfl (lv_at hl 0 rfl) ?_
          refine hp_get (C := R_W) (T := F_W) (N := 3) (v := .int (iI ((c : Int) - (2 * (n : Int))))) hx hb hG la_W hown hK.1 hw rfl 2 (by decide) (hG _ fl_W_19) (fun _ h9 => h9) rfl d_W_cancelEnds_66 ?_
          refine hp_copy (rest := []) hx hb (hml.trans hl.1.symm) hown (hG _ ml_W_22) (hG _ na_JS_arraycopy) (hG _ st_JS_arraycopy) (hG _ in_JS) hK.1 0 hf1 hf1 hS (by first | exact Or.inl rfl | exact Or.inr rfl | rfl | omega) rfl (by omega) (by rw [hRl]; exact Nat.le_of_ble_eq_true rfl) d_W_cancelEnds_69 n 0 (c - 2 * n) (by omega) (by omega) (by omega) (by omega) (by omega) (by omega) (by omega) (fun H locs hf1n hz1 ho1 hS => ?_)
          have hZ := hz1.trans hZ
          have hw := hw.keep (ho1 (a) (by omega))
          have hf1 : ca E H (a + 1) (ai E 32 (va_cpy f f n 0 (c - 2 * n))) := hf1n
          rw [hQ]
          refine hp_vretQ hx hb hrt hlocks d_W_cancelEnds_72 hS hZ ?_
          exact ⟨n, ⟨hg, by omega⟩, hn, by rw [show ((c : Int) - (2 * (n : Int))) = ((c - 2 * n : Nat) : Int) by omega] at hw; exact hw, hf1⟩
        · skip
          refine hp_iinc (z := ((n : Int) + 1)) (lv' := [(1, .int (iI ((n : Int) + 1))), (0, .ref a)]) hx hb d_W_cancelEnds_37 hl (k := 1) rfl (by omega) (by decide) rfl (fun ls hl => ?_)
          refine lv_goto (tgt := 2) hx hb d_W_cancelEnds_40 (by decide) ?_
          exact ih2  (n + 1) (by omega) (by omega) (by intro i h; by_cases q : i = n; (rw [q]; exact ⟨by omega, c34⟩); exact hg i (by omega)) ls (lv_sub hl [1, 0] rfl)
  exact L2 (c - 0 + 1) 0 (by omega) (by omega) (by intro i h; omega) ls (lv_sub hl [1, 0] rfl)

set_option maxHeartbeats 4000000 in
set_option maxRecDepth 100000 in
/-- firstToBack() -/
theorem c_W_firstToBack (l : Launch) (E : hp_E) (a w c : Nat) (f : Nat → Int) (hc : c ≤ 32) : Met l y_W_firstToBack (Cond.code y_W_firstToBack b_W_firstToBack 2 (some .boolean) :: G0) ({ frames := 1, cells := 0, slots := 0, locals := 60 }) (hp_P E [.ref a] (fun H => wAt E H a w c f)) (hp_Qi (fun q => q = a ∨ q = a + 1) (fun r H => (r = 1 ∧ 0 < c ∧ wAt E H a w c (hp_up (va_cpy f f 1 0 (c - 1)) (c - 1) (f 0))) ∨ (r = 0 ∧ c = 0 ∧ wAt E H a w c f))) 0 0 (fun q => q = a ∨ q = a + 1) := by
  refine Met.ofW (cc := b_W_firstToBack) (maxL := 2) (ret := some .boolean) (by decide) rfl ?_
  intro p e s m args below meth cd s₁ Bd hml hv
  obtain ⟨hargs, hB, hK⟩ := hv
  have hx := Bd.exec
  have hb := Bd.bytes
  have hrt := Bd.returns
  have hts := atoms_spec (ws := Cond.code y_W_firstToBack b_W_firstToBack 2 (some .boolean) :: G0) Bd.pre
  have hG : ∀ w ∈ G0, w.before args s = true := fun w h => hts w (List.mem_cons_of_mem _ h)
  have hown : s.vm.findClass R_W = some m.cls := findClass_of_methodNamed Bd.named
  have hlocks := Bd.notSynchronized
  have hl := lv_entry ([.ref a]) (n := 2) (Nat.le_of_ble_eq_true rfl)
  rw [show entryFrame m args 2 = entryFrame m ([.ref a] : List Value).toArray 2 from by rw [hargs]]
  rw [lg_entry_eq]
  generalize (lg_sl ([.ref a]) ++ List.replicate (2 - (lg_sl ([.ref a])).length) Slot.unset).toArray = ls at hl ⊢
  have hl : lv_has ls 2 [(0, .ref a)] := hl
  obtain ⟨R, hR⟩ : ∃ R, R = (headSpec (Cond.code y_W_firstToBack b_W_firstToBack 2 (some .boolean) :: G0) { frames := 1, cells := 0, slots := 0, locals := 60 }).room := ⟨_, rfl⟩
  rw [← hR]
  have hRf : R.frames = 1 := by rw [hR]; rfl
  have hRl : R.locals = 60 := by rw [hR]; rfl
  have hRc : R.cells = 0 := by rw [hR]; rfl
  have hRs : R.slots = 0 := by rw [hR]; rfl
  obtain ⟨Q, hQ⟩ : ∃ Q, Q = MQ below (hp_Qi (fun q => q = a ∨ q = a + 1) (fun r H => (r = 1 ∧ 0 < c ∧ wAt E H a w c (hp_up (va_cpy f f 1 0 (c - 1)) (c - 1) (f 0))) ∨ (r = 0 ∧ c = 0 ∧ wAt E H a w c f))) args s 0 0 (fun q => q = a ∨ q = a + 1) := ⟨_, rfl⟩
  rw [← hQ]
  obtain ⟨H, hH⟩ : ∃ H, H = s.heap := ⟨_, rfl⟩
  obtain ⟨locs, hlocs⟩ : ∃ locs : List Loc, locs = [] := ⟨_, rfl⟩
  have hS : va_S (fun q => q = a ∨ q = a + 1) s.heap H locs := by rw [hH, hlocs]; exact va_S.rf
  have hZ : H.size = s.heap.size := by rw [hH]
  rw [← hH] at hB
  rw [show W p l e R s m args below meth cd s.heap [] 0 0 Q (F0 m 0 ls []) = W p l e R s m args below meth cd H locs 0 0 Q (F0 m 0 ls []) from by rw [hH, hlocs]]
  obtain ⟨hw, hf1⟩ := hB
  refine lv_aload_n hx hb d_W_firstToBack_0 rfl (lv_at hl 0 rfl) ?_
  refine hp_get (C := R_W) (T := F_W) (N := 3) (v := .int (iI (c : Int))) hx hb hG la_W hown hK.1 hw rfl 2 (by decide) (hG _ fl_W_19) (fun _ h9 => h9) rfl d_W_firstToBack_1 ?_
  refine hp_if_ne (tgt := 9) hx hb d_W_firstToBack_4 (by decide) (by unfold iR; omega) (fun c4 => ?_) (fun c4 => ?_)
  · skip
    refine lv_aload_n hx hb d_W_firstToBack_9 rfl (lv_at hl 0 rfl) ?_
    refine hp_get (C := R_W) (T := F_W) (N := 3) (v := .ref (a + 1)) hx hb hG la_W hown hK.1 hw rfl 0 (by decide) (hG _ fl_W_9) (fun _ h9 => h9) rfl d_W_firstToBack_10 ?_
    refine hp_iconst (z := 0) hx hb d_W_firstToBack_13 (by rfl) ?_
    refine hp_iald hx hb hK.1 0 hf1 rfl d_W_firstToBack_14 (by omega) 0 (by omega) (by omega) ?_
    refine lv_istore_n (lv' := [(1, .int (iI (f 0))), (0, .ref a)]) hx hb d_W_firstToBack_15 rfl hl (by decide) rfl (fun ls hl => ?_)
    refine lv_aload_n hx hb d_W_firstToBack_16 rfl (lv_at hl 1 rfl) ?_
    refine hp_get (C := R_W) (T := F_W) (N := 3) (v := .ref (a + 1)) hx hb hG la_W hown hK.1 hw rfl 0 (by decide) (hG _ fl_W_9) (fun _ h9 => h9) rfl d_W_firstToBack_17 ?_
    refine hp_iconst (z := 1) hx hb d_W_firstToBack_20 (by rfl) ?_
    refine lv_aload_n hx hb d_W_firstToBack_21 rfl (lv_at hl 1 rfl) ?_
    refine hp_get (C := R_W) (T := F_W) (N := 3) (v := .ref (a + 1)) hx hb hG la_W hown hK.1 hw rfl 0 (by decide) (hG _ fl_W_9) (fun _ h9 => h9) rfl d_W_firstToBack_22 ?_
    refine hp_iconst (z := 0) hx hb d_W_firstToBack_25 (by rfl) ?_
    refine lv_aload_n hx hb d_W_firstToBack_26 rfl (lv_at hl 1 rfl) ?_
    refine hp_get (C := R_W) (T := F_W) (N := 3) (v := .int (iI (c : Int))) hx hb hG la_W hown hK.1 hw rfl 2 (by decide) (hG _ fl_W_19) (fun _ h9 => h9) rfl d_W_firstToBack_27 ?_
    refine hp_iconst (z := 1) hx hb d_W_firstToBack_30 (by rfl) ?_
    refine hp_isub hx hb d_W_firstToBack_31 ?_
    refine hp_copy (rest := []) hx hb (hml.trans hl.1.symm) hown (hG _ ml_W_22) (hG _ na_JS_arraycopy) (hG _ st_JS_arraycopy) (hG _ in_JS) hK.1 0 hf1 hf1 hS (by first | exact Or.inl rfl | exact Or.inr rfl | rfl | omega) rfl (by omega) (by rw [hRl]; exact Nat.le_of_ble_eq_true rfl) d_W_firstToBack_32 1 0 (c - 1) (by omega) (by omega) (by omega) (by omega) (by omega) (by omega) (by omega) (fun H locs hf1n hz1 ho1 hS => ?_)
    have hZ := hz1.trans hZ
    have hw := hw.keep (ho1 (a) (by omega))
    have hf1 : ca E H (a + 1) (ai E 32 (va_cpy f f 1 0 (c - 1))) := hf1n
    refine lv_aload_n hx hb d_W_firstToBack_35 rfl (lv_at hl 1 rfl) ?_
    refine hp_get (C := R_W) (T := F_W) (N := 3) (v := .ref (a + 1)) hx hb hG la_W hown hK.1 hw rfl 0 (by decide) (hG _ fl_W_9) (fun _ h9 => h9) rfl d_W_firstToBack_36 ?_
    refine lv_aload_n hx hb d_W_firstToBack_39 rfl (lv_at hl 1 rfl) ?_
    refine hp_get (C := R_W) (T := F_W) (N := 3) (v := .int (iI (c : Int))) hx hb hG la_W hown hK.1 hw rfl 2 (by decide) (hG _ fl_W_19) (fun _ h9 => h9) rfl d_W_firstToBack_40 ?_
    refine hp_iconst (z := 1) hx hb d_W_firstToBack_43 (by rfl) ?_
    refine hp_isub hx hb d_W_firstToBack_44 ?_
    refine lv_iload_n hx hb d_W_firstToBack_45 rfl (lv_at hl 0 rfl) ?_
    refine hp_iast hx hb hK.1 0 hf1 hS (by first | exact Or.inl rfl | exact Or.inr rfl | rfl | omega) rfl d_W_firstToBack_46 (by omega) (c - 1) (by omega) (by omega) (fun H locs hf1n hz1 ho1 hS => ?_)
    have hZ := hz1.trans hZ
    have hw := hw.keep (ho1 (a) (by omega))
    have hf1 : ca E H (a + 1) (ai E 32 (hp_up (va_cpy f f 1 0 (c - 1)) (c - 1) (f 0))) := hf1n
    refine hp_iconst (z := 1) hx hb d_W_firstToBack_47 (by rfl) ?_
    rw [hQ]
    refine hp_zretQ hx hb hrt hlocks d_W_firstToBack_48 true (by first | rfl | assumption | simp [bI]) hS hZ ?_
    exact Or.inl ⟨rfl, by omega, hw, hf1⟩
  · skip
    refine hp_iconst (z := 0) hx hb d_W_firstToBack_7 (by rfl) ?_
    rw [hQ]
    refine hp_zretQ hx hb hrt hlocks d_W_firstToBack_8 false (by first | rfl | assumption | simp [bI]) hS hZ ?_
    exact Or.inr ⟨rfl, by omega, hw, hf1⟩

set_option maxHeartbeats 4000000 in
set_option maxRecDepth 100000 in
/-- lastToFront() -/
theorem c_W_lastToFront (l : Launch) (E : hp_E) (a w c : Nat) (f : Nat → Int) (hc : c ≤ 32) : Met l y_W_lastToFront (Cond.code y_W_lastToFront b_W_lastToFront 2 (some .boolean) :: G0) ({ frames := 1, cells := 0, slots := 0, locals := 60 }) (hp_P E [.ref a] (fun H => wAt E H a w c f)) (hp_Qi (fun q => q = a ∨ q = a + 1) (fun r H => (r = 1 ∧ 0 < c ∧ wAt E H a w c (hp_up (va_cpy f f 0 1 (c - 1)) 0 (f (c - 1)))) ∨ (r = 0 ∧ c = 0 ∧ wAt E H a w c f))) 0 0 (fun q => q = a ∨ q = a + 1) := by
  refine Met.ofW (cc := b_W_lastToFront) (maxL := 2) (ret := some .boolean) (by decide) rfl ?_
  intro p e s m args below meth cd s₁ Bd hml hv
  obtain ⟨hargs, hB, hK⟩ := hv
  have hx := Bd.exec
  have hb := Bd.bytes
  have hrt := Bd.returns
  have hts := atoms_spec (ws := Cond.code y_W_lastToFront b_W_lastToFront 2 (some .boolean) :: G0) Bd.pre
  have hG : ∀ w ∈ G0, w.before args s = true := fun w h => hts w (List.mem_cons_of_mem _ h)
  have hown : s.vm.findClass R_W = some m.cls := findClass_of_methodNamed Bd.named
  have hlocks := Bd.notSynchronized
  have hl := lv_entry ([.ref a]) (n := 2) (Nat.le_of_ble_eq_true rfl)
  rw [show entryFrame m args 2 = entryFrame m ([.ref a] : List Value).toArray 2 from by rw [hargs]]
  rw [lg_entry_eq]
  generalize (lg_sl ([.ref a]) ++ List.replicate (2 - (lg_sl ([.ref a])).length) Slot.unset).toArray = ls at hl ⊢
  have hl : lv_has ls 2 [(0, .ref a)] := hl
  obtain ⟨R, hR⟩ : ∃ R, R = (headSpec (Cond.code y_W_lastToFront b_W_lastToFront 2 (some .boolean) :: G0) { frames := 1, cells := 0, slots := 0, locals := 60 }).room := ⟨_, rfl⟩
  rw [← hR]
  have hRf : R.frames = 1 := by rw [hR]; rfl
  have hRl : R.locals = 60 := by rw [hR]; rfl
  have hRc : R.cells = 0 := by rw [hR]; rfl
  have hRs : R.slots = 0 := by rw [hR]; rfl
  obtain ⟨Q, hQ⟩ : ∃ Q, Q = MQ below (hp_Qi (fun q => q = a ∨ q = a + 1) (fun r H => (r = 1 ∧ 0 < c ∧ wAt E H a w c (hp_up (va_cpy f f 0 1 (c - 1)) 0 (f (c - 1)))) ∨ (r = 0 ∧ c = 0 ∧ wAt E H a w c f))) args s 0 0 (fun q => q = a ∨ q = a + 1) := ⟨_, rfl⟩
  rw [← hQ]
  obtain ⟨H, hH⟩ : ∃ H, H = s.heap := ⟨_, rfl⟩
  obtain ⟨locs, hlocs⟩ : ∃ locs : List Loc, locs = [] := ⟨_, rfl⟩
  have hS : va_S (fun q => q = a ∨ q = a + 1) s.heap H locs := by rw [hH, hlocs]; exact va_S.rf
  have hZ : H.size = s.heap.size := by rw [hH]
  rw [← hH] at hB
  rw [show W p l e R s m args below meth cd s.heap [] 0 0 Q (F0 m 0 ls []) = W p l e R s m args below meth cd H locs 0 0 Q (F0 m 0 ls []) from by rw [hH, hlocs]]
  obtain ⟨hw, hf1⟩ := hB
  refine lv_aload_n hx hb d_W_lastToFront_0 rfl (lv_at hl 0 rfl) ?_
  refine hp_get (C := R_W) (T := F_W) (N := 3) (v := .int (iI (c : Int))) hx hb hG la_W hown hK.1 hw rfl 2 (by decide) (hG _ fl_W_19) (fun _ h9 => h9) rfl d_W_lastToFront_1 ?_
  refine hp_if_ne (tgt := 9) hx hb d_W_lastToFront_4 (by decide) (by unfold iR; omega) (fun c4 => ?_) (fun c4 => ?_)
  · skip
    refine lv_aload_n hx hb d_W_lastToFront_9 rfl (lv_at hl 0 rfl) ?_
    refine hp_get (C := R_W) (T := F_W) (N := 3) (v := .ref (a + 1)) hx hb hG la_W hown hK.1 hw rfl 0 (by decide) (hG _ fl_W_9) (fun _ h9 => h9) rfl d_W_lastToFront_10 ?_
    refine lv_aload_n hx hb d_W_lastToFront_13 rfl (lv_at hl 0 rfl) ?_
    refine hp_get (C := R_W) (T := F_W) (N := 3) (v := .int (iI (c : Int))) hx hb hG la_W hown hK.1 hw rfl 2 (by decide) (hG _ fl_W_19) (fun _ h9 => h9) rfl d_W_lastToFront_14 ?_
    refine hp_iconst (z := 1) hx hb d_W_lastToFront_17 (by rfl) ?_
    refine hp_isub hx hb d_W_lastToFront_18 ?_
    refine hp_iald hx hb hK.1 0 hf1 rfl d_W_lastToFront_19 (by omega) (c - 1) (by omega) (by omega) ?_
    refine lv_istore_n (lv' := [(1, .int (iI (f (c - 1)))), (0, .ref a)]) hx hb d_W_lastToFront_20 rfl hl (by decide) rfl (fun ls hl => ?_)
    refine lv_aload_n hx hb d_W_lastToFront_21 rfl (lv_at hl 1 rfl) ?_
    refine hp_get (C := R_W) (T := F_W) (N := 3) (v := .ref (a + 1)) hx hb hG la_W hown hK.1 hw rfl 0 (by decide) (hG _ fl_W_9) (fun _ h9 => h9) rfl d_W_lastToFront_22 ?_
    refine hp_iconst (z := 0) hx hb d_W_lastToFront_25 (by rfl) ?_
    refine lv_aload_n hx hb d_W_lastToFront_26 rfl (lv_at hl 1 rfl) ?_
    refine hp_get (C := R_W) (T := F_W) (N := 3) (v := .ref (a + 1)) hx hb hG la_W hown hK.1 hw rfl 0 (by decide) (hG _ fl_W_9) (fun _ h9 => h9) rfl d_W_lastToFront_27 ?_
    refine hp_iconst (z := 1) hx hb d_W_lastToFront_30 (by rfl) ?_
    refine lv_aload_n hx hb d_W_lastToFront_31 rfl (lv_at hl 1 rfl) ?_
    refine hp_get (C := R_W) (T := F_W) (N := 3) (v := .int (iI (c : Int))) hx hb hG la_W hown hK.1 hw rfl 2 (by decide) (hG _ fl_W_19) (fun _ h9 => h9) rfl d_W_lastToFront_32 ?_
    refine hp_iconst (z := 1) hx hb d_W_lastToFront_35 (by rfl) ?_
    refine hp_isub hx hb d_W_lastToFront_36 ?_
    refine hp_copy (rest := []) hx hb (hml.trans hl.1.symm) hown (hG _ ml_W_22) (hG _ na_JS_arraycopy) (hG _ st_JS_arraycopy) (hG _ in_JS) hK.1 0 hf1 hf1 hS (by first | exact Or.inl rfl | exact Or.inr rfl | rfl | omega) rfl (by omega) (by rw [hRl]; exact Nat.le_of_ble_eq_true rfl) d_W_lastToFront_37 0 1 (c - 1) (by omega) (by omega) (by omega) (by omega) (by omega) (by omega) (by omega) (fun H locs hf1n hz1 ho1 hS => ?_)
    have hZ := hz1.trans hZ
    have hw := hw.keep (ho1 (a) (by omega))
    have hf1 : ca E H (a + 1) (ai E 32 (va_cpy f f 0 1 (c - 1))) := hf1n
    refine lv_aload_n hx hb d_W_lastToFront_40 rfl (lv_at hl 1 rfl) ?_
    refine hp_get (C := R_W) (T := F_W) (N := 3) (v := .ref (a + 1)) hx hb hG la_W hown hK.1 hw rfl 0 (by decide) (hG _ fl_W_9) (fun _ h9 => h9) rfl d_W_lastToFront_41 ?_
    refine hp_iconst (z := 0) hx hb d_W_lastToFront_44 (by rfl) ?_
    refine lv_iload_n hx hb d_W_lastToFront_45 rfl (lv_at hl 0 rfl) ?_
    refine hp_iast hx hb hK.1 0 hf1 hS (by first | exact Or.inl rfl | exact Or.inr rfl | rfl | omega) rfl d_W_lastToFront_46 (by omega) 0 (by omega) (by omega) (fun H locs hf1n hz1 ho1 hS => ?_)
    have hZ := hz1.trans hZ
    have hw := hw.keep (ho1 (a) (by omega))
    have hf1 : ca E H (a + 1) (ai E 32 (hp_up (va_cpy f f 0 1 (c - 1)) 0 (f (c - 1)))) := hf1n
    refine hp_iconst (z := 1) hx hb d_W_lastToFront_47 (by rfl) ?_
    rw [hQ]
    refine hp_zretQ hx hb hrt hlocks d_W_lastToFront_48 true (by first | rfl | assumption | simp [bI]) hS hZ ?_
    exact Or.inl ⟨rfl, by omega, hw, hf1⟩
  · skip
    refine hp_iconst (z := 0) hx hb d_W_lastToFront_7 (by rfl) ?_
    rw [hQ]
    refine hp_zretQ hx hb hrt hlocks d_W_lastToFront_8 false (by first | rfl | assumption | simp [bI]) hS hZ ?_
    exact Or.inr ⟨rfl, by omega, hw, hf1⟩

set_option maxHeartbeats 4000000 in
set_option maxRecDepth 100000 in
/-- addStrand(sign) -/
theorem c_W_addStrand (l : Launch) (E : hp_E) (a w c : Nat) (f : Nat → Int) (sg : Int) (hsg : iR sg) (hw8 : w ≤ 8) (hc : c ≤ 32) : Met l y_W_addStrand (Cond.code y_W_addStrand b_W_addStrand 2 (some .boolean) :: G0) ({ frames := 0, cells := 0, slots := 0, locals := 0 }) (hp_P E [.ref a, .int (iI sg)] (fun H => wAt E H a w c f)) (hp_Qi (fun q => q = a ∨ q = a + 1) (fun r H => (r = 1 ∧ ((sg = 1 ∨ sg = -1) ∧ w < 8 ∧ c < 32) ∧ wAt E H a (w + 1) (c + 1) (hp_up f c (sg * (w : Int)))) ∨ (r = 0 ∧ ¬ ((sg = 1 ∨ sg = -1) ∧ w < 8 ∧ c < 32) ∧ wAt E H a w c f))) 0 0 (fun q => q = a ∨ q = a + 1) := by
  refine Met.ofW (cc := b_W_addStrand) (maxL := 2) (ret := some .boolean) (by decide) rfl ?_
  intro p e s m args below meth cd s₁ Bd hml hv
  obtain ⟨hargs, hB, hK⟩ := hv
  have hx := Bd.exec
  have hb := Bd.bytes
  have hrt := Bd.returns
  have hts := atoms_spec (ws := Cond.code y_W_addStrand b_W_addStrand 2 (some .boolean) :: G0) Bd.pre
  have hG : ∀ w ∈ G0, w.before args s = true := fun w h => hts w (List.mem_cons_of_mem _ h)
  have hown : s.vm.findClass R_W = some m.cls := findClass_of_methodNamed Bd.named
  have hlocks := Bd.notSynchronized
  have hl := lv_entry ([.ref a, .int (iI sg)]) (n := 2) (Nat.le_of_ble_eq_true rfl)
  rw [show entryFrame m args 2 = entryFrame m ([.ref a, .int (iI sg)] : List Value).toArray 2 from by rw [hargs]]
  rw [lg_entry_eq]
  generalize (lg_sl ([.ref a, .int (iI sg)]) ++ List.replicate (2 - (lg_sl ([.ref a, .int (iI sg)])).length) Slot.unset).toArray = ls at hl ⊢
  have hl : lv_has ls 2 [(0, .ref a), (1, .int (iI sg))] := hl
  obtain ⟨R, hR⟩ : ∃ R, R = (headSpec (Cond.code y_W_addStrand b_W_addStrand 2 (some .boolean) :: G0) { frames := 0, cells := 0, slots := 0, locals := 0 }).room := ⟨_, rfl⟩
  rw [← hR]
  have hRf : R.frames = 0 := by rw [hR]; rfl
  have hRl : R.locals = 0 := by rw [hR]; rfl
  have hRc : R.cells = 0 := by rw [hR]; rfl
  have hRs : R.slots = 0 := by rw [hR]; rfl
  obtain ⟨Q, hQ⟩ : ∃ Q, Q = MQ below (hp_Qi (fun q => q = a ∨ q = a + 1) (fun r H => (r = 1 ∧ ((sg = 1 ∨ sg = -1) ∧ w < 8 ∧ c < 32) ∧ wAt E H a (w + 1) (c + 1) (hp_up f c (sg * (w : Int)))) ∨ (r = 0 ∧ ¬ ((sg = 1 ∨ sg = -1) ∧ w < 8 ∧ c < 32) ∧ wAt E H a w c f))) args s 0 0 (fun q => q = a ∨ q = a + 1) := ⟨_, rfl⟩
  rw [← hQ]
  obtain ⟨H, hH⟩ : ∃ H, H = s.heap := ⟨_, rfl⟩
  obtain ⟨locs, hlocs⟩ : ∃ locs : List Loc, locs = [] := ⟨_, rfl⟩
  have hS : va_S (fun q => q = a ∨ q = a + 1) s.heap H locs := by rw [hH, hlocs]; exact va_S.rf
  have hZ : H.size = s.heap.size := by rw [hH]
  rw [← hH] at hB
  rw [show W p l e R s m args below meth cd s.heap [] 0 0 Q (F0 m 0 ls []) = W p l e R s m args below meth cd H locs 0 0 Q (F0 m 0 ls []) from by rw [hH, hlocs]]
  obtain ⟨hw, hf1⟩ := hB
  refine lv_iload_n hx hb d_W_addStrand_0 rfl (lv_at hl 1 rfl) ?_
  refine hp_iconst (z := 1) hx hb d_W_addStrand_1 (by rfl) ?_
  refine hp_icmp_eq (tgt := 10) hx hb d_W_addStrand_2 (by decide) (by unfold iR at *; omega) (by unfold iR at *; omega) (fun c2 => ?_) (fun c2 => ?_)
  · skip
    refine lv_aload_n hx hb d_W_addStrand_10 rfl (lv_at hl 0 rfl) ?_
    refine hp_get (C := R_W) (T := F_W) (N := 3) (v := .int (iI (w : Int))) hx hb hG la_W hown hK.1 hw rfl 1 (by decide) (hG _ fl_W_15) (fun _ h9 => h9) rfl d_W_addStrand_11 ?_
    refine hp_bipush (z := 8) hx hb d_W_addStrand_14 (by rfl) ?_
    refine hp_icmp_ge (tgt := 28) hx hb d_W_addStrand_16 (by decide) (by unfold iR at *; omega) (by unfold iR at *; omega) (fun c16 => ?_) (fun c16 => ?_)
    · skip
      refine hp_iconst (z := 0) hx hb d_W_addStrand_28 (by rfl) ?_
      rw [hQ]
      refine hp_zretQ hx hb hrt hlocks d_W_addStrand_29 false (by first | rfl | assumption | simp [bI]) hS hZ ?_
      exact Or.inr ⟨rfl, by omega, hw, hf1⟩
    · skip
      refine lv_aload_n hx hb d_W_addStrand_19 rfl (lv_at hl 0 rfl) ?_
      refine hp_get (C := R_W) (T := F_W) (N := 3) (v := .int (iI (c : Int))) hx hb hG la_W hown hK.1 hw rfl 2 (by decide) (hG _ fl_W_19) (fun _ h9 => h9) rfl d_W_addStrand_20 ?_
      refine hp_bipush (z := 32) hx hb d_W_addStrand_23 (by rfl) ?_
      refine hp_icmp_lt (tgt := 30) hx hb d_W_addStrand_25 (by decide) (by unfold iR at *; omega) (by unfold iR at *; omega) (fun c25 => ?_) (fun c25 => ?_)
      · skip
        refine lv_aload_n hx hb d_W_addStrand_30 rfl (lv_at hl 0 rfl) ?_
        refine hp_get (C := R_W) (T := F_W) (N := 3) (v := .ref (a + 1)) hx hb hG la_W hown hK.1 hw rfl 0 (by decide) (hG _ fl_W_9) (fun _ h9 => h9) rfl d_W_addStrand_31 ?_
        refine lv_aload_n hx hb d_W_addStrand_34 rfl (lv_at hl 0 rfl) ?_
        refine hp_get (C := R_W) (T := F_W) (N := 3) (v := .int (iI (c : Int))) hx hb hG la_W hown hK.1 hw rfl 2 (by decide) (hG _ fl_W_19) (fun _ h9 => h9) rfl d_W_addStrand_35 ?_
        refine lv_iload_n hx hb d_W_addStrand_38 rfl (lv_at hl 1 rfl) ?_
        refine lv_aload_n hx hb d_W_addStrand_39 rfl (lv_at hl 0 rfl) ?_
        refine hp_get (C := R_W) (T := F_W) (N := 3) (v := .int (iI (w : Int))) hx hb hG la_W hown hK.1 hw rfl 1 (by decide) (hG _ fl_W_15) (fun _ h9 => h9) rfl d_W_addStrand_40 ?_
        refine hp_imul hx hb d_W_addStrand_43 ?_
        refine hp_iast hx hb hK.1 0 hf1 hS (by first | exact Or.inl rfl | exact Or.inr rfl | rfl | omega) rfl d_W_addStrand_44 (by omega) c (by omega) (by omega) (fun H locs hf1n hz1 ho1 hS => ?_)
        have hZ := hz1.trans hZ
        have hw := hw.keep (ho1 (a) (by omega))
        have hf1 : ca E H (a + 1) (ai E 32 (hp_up f c (sg * (w : Int)))) := hf1n
        refine lv_aload_n hx hb d_W_addStrand_45 rfl (lv_at hl 0 rfl) ?_
        refine lv_dup hx hb d_W_addStrand_46 rfl ?_
        refine hp_get (C := R_W) (T := F_W) (N := 3) (v := .int (iI (c : Int))) hx hb hG la_W hown hK.1 hw rfl 2 (by decide) (hG _ fl_W_19) (fun _ h9 => h9) rfl d_W_addStrand_47 ?_
        refine hp_iconst (z := 1) hx hb d_W_addStrand_50 (by rfl) ?_
        refine hp_iadd hx hb d_W_addStrand_51 ?_
        refine hp_put (C := R_W) (T := F_W) (N := 3) (v := .int (iI ((c : Int) + 1))) (ty := .int) hx hb hG la_W t_W tk_W n_W hown hK.1 hw hS (by first | exact Or.inl rfl | exact Or.inr rfl | rfl | omega) rfl 2 (by decide) (hG _ fl_W_19) (fun _ h9 => h9) rfl (by decide +kernel) rfl rfl (Nat.le_of_ble_eq_true rfl) d_W_addStrand_52 (fun H locs hwn hz1 ho1 hS => ?_)
        have hZ := hz1.trans hZ
        have hf1 := hf1.keep (ho1 (a + 1) (by omega))
        have hw : ca E H (a) (.inr (0, [.ref (a + 1), .int (iI (w : Int)), .int (iI ((c : Int) + 1))])) := hwn
        refine lv_aload_n hx hb d_W_addStrand_55 rfl (lv_at hl 0 rfl) ?_
        refine lv_dup hx hb d_W_addStrand_56 rfl ?_
        refine hp_get (C := R_W) (T := F_W) (N := 3) (v := .int (iI (w : Int))) hx hb hG la_W hown hK.1 hw rfl 1 (by decide) (hG _ fl_W_15) (fun _ h9 => h9) rfl d_W_addStrand_57 ?_
        refine hp_iconst (z := 1) hx hb d_W_addStrand_60 (by rfl) ?_
        refine hp_iadd hx hb d_W_addStrand_61 ?_
        refine hp_put (C := R_W) (T := F_W) (N := 3) (v := .int (iI ((w : Int) + 1))) (ty := .int) hx hb hG la_W t_W tk_W n_W hown hK.1 hw hS (by first | exact Or.inl rfl | exact Or.inr rfl | rfl | omega) rfl 1 (by decide) (hG _ fl_W_15) (fun _ h9 => h9) rfl (by decide +kernel) rfl rfl (Nat.le_of_ble_eq_true rfl) d_W_addStrand_62 (fun H locs hwn hz1 ho1 hS => ?_)
        have hZ := hz1.trans hZ
        have hf1 := hf1.keep (ho1 (a + 1) (by omega))
        have hw : ca E H (a) (.inr (0, [.ref (a + 1), .int (iI ((w : Int) + 1)), .int (iI ((c : Int) + 1))])) := hwn
        refine hp_iconst (z := 1) hx hb d_W_addStrand_65 (by rfl) ?_
        rw [hQ]
        refine hp_zretQ hx hb hrt hlocks d_W_addStrand_66 true (by first | rfl | assumption | simp [bI]) hS hZ ?_
        exact Or.inl ⟨rfl, ⟨by omega, by omega, by omega⟩, hw, hf1⟩
      · skip
        refine hp_iconst (z := 0) hx hb d_W_addStrand_28 (by rfl) ?_
        rw [hQ]
        refine hp_zretQ hx hb hrt hlocks d_W_addStrand_29 false (by first | rfl | assumption | simp [bI]) hS hZ ?_
        exact Or.inr ⟨rfl, by omega, hw, hf1⟩
  · skip
    refine lv_iload_n hx hb d_W_addStrand_5 rfl (lv_at hl 1 rfl) ?_
    refine hp_iconst (z := (-1)) hx hb d_W_addStrand_6 (by rfl) ?_
    refine hp_icmp_ne (tgt := 28) hx hb d_W_addStrand_7 (by decide) (by unfold iR at *; omega) (by unfold iR at *; omega) (fun c7 => ?_) (fun c7 => ?_)
    · skip
      refine hp_iconst (z := 0) hx hb d_W_addStrand_28 (by rfl) ?_
      rw [hQ]
      refine hp_zretQ hx hb hrt hlocks d_W_addStrand_29 false (by first | rfl | assumption | simp [bI]) hS hZ ?_
      exact Or.inr ⟨rfl, by omega, hw, hf1⟩
    · skip
      refine lv_aload_n hx hb d_W_addStrand_10 rfl (lv_at hl 0 rfl) ?_
      refine hp_get (C := R_W) (T := F_W) (N := 3) (v := .int (iI (w : Int))) hx hb hG la_W hown hK.1 hw rfl 1 (by decide) (hG _ fl_W_15) (fun _ h9 => h9) rfl d_W_addStrand_11 ?_
      refine hp_bipush (z := 8) hx hb d_W_addStrand_14 (by rfl) ?_
      refine hp_icmp_ge (tgt := 28) hx hb d_W_addStrand_16 (by decide) (by unfold iR at *; omega) (by unfold iR at *; omega) (fun c16 => ?_) (fun c16 => ?_)
      · skip
        refine hp_iconst (z := 0) hx hb d_W_addStrand_28 (by rfl) ?_
        rw [hQ]
        refine hp_zretQ hx hb hrt hlocks d_W_addStrand_29 false (by first | rfl | assumption | simp [bI]) hS hZ ?_
        exact Or.inr ⟨rfl, by omega, hw, hf1⟩
      · skip
        refine lv_aload_n hx hb d_W_addStrand_19 rfl (lv_at hl 0 rfl) ?_
        refine hp_get (C := R_W) (T := F_W) (N := 3) (v := .int (iI (c : Int))) hx hb hG la_W hown hK.1 hw rfl 2 (by decide) (hG _ fl_W_19) (fun _ h9 => h9) rfl d_W_addStrand_20 ?_
        refine hp_bipush (z := 32) hx hb d_W_addStrand_23 (by rfl) ?_
        refine hp_icmp_lt (tgt := 30) hx hb d_W_addStrand_25 (by decide) (by unfold iR at *; omega) (by unfold iR at *; omega) (fun c25 => ?_) (fun c25 => ?_)
        · skip
          refine lv_aload_n hx hb d_W_addStrand_30 rfl (lv_at hl 0 rfl) ?_
          refine hp_get (C := R_W) (T := F_W) (N := 3) (v := .ref (a + 1)) hx hb hG la_W hown hK.1 hw rfl 0 (by decide) (hG _ fl_W_9) (fun _ h9 => h9) rfl d_W_addStrand_31 ?_
          refine lv_aload_n hx hb d_W_addStrand_34 rfl (lv_at hl 0 rfl) ?_
          refine hp_get (C := R_W) (T := F_W) (N := 3) (v := .int (iI (c : Int))) hx hb hG la_W hown hK.1 hw rfl 2 (by decide) (hG _ fl_W_19) (fun _ h9 => h9) rfl d_W_addStrand_35 ?_
          refine lv_iload_n hx hb d_W_addStrand_38 rfl (lv_at hl 1 rfl) ?_
          refine lv_aload_n hx hb d_W_addStrand_39 rfl (lv_at hl 0 rfl) ?_
          refine hp_get (C := R_W) (T := F_W) (N := 3) (v := .int (iI (w : Int))) hx hb hG la_W hown hK.1 hw rfl 1 (by decide) (hG _ fl_W_15) (fun _ h9 => h9) rfl d_W_addStrand_40 ?_
          refine hp_imul hx hb d_W_addStrand_43 ?_
          refine hp_iast hx hb hK.1 0 hf1 hS (by first | exact Or.inl rfl | exact Or.inr rfl | rfl | omega) rfl d_W_addStrand_44 (by omega) c (by omega) (by omega) (fun H locs hf1n hz1 ho1 hS => ?_)
          have hZ := hz1.trans hZ
          have hw := hw.keep (ho1 (a) (by omega))
          have hf1 : ca E H (a + 1) (ai E 32 (hp_up f c (sg * (w : Int)))) := hf1n
          refine lv_aload_n hx hb d_W_addStrand_45 rfl (lv_at hl 0 rfl) ?_
          refine lv_dup hx hb d_W_addStrand_46 rfl ?_
          refine hp_get (C := R_W) (T := F_W) (N := 3) (v := .int (iI (c : Int))) hx hb hG la_W hown hK.1 hw rfl 2 (by decide) (hG _ fl_W_19) (fun _ h9 => h9) rfl d_W_addStrand_47 ?_
          refine hp_iconst (z := 1) hx hb d_W_addStrand_50 (by rfl) ?_
          refine hp_iadd hx hb d_W_addStrand_51 ?_
          refine hp_put (C := R_W) (T := F_W) (N := 3) (v := .int (iI ((c : Int) + 1))) (ty := .int) hx hb hG la_W t_W tk_W n_W hown hK.1 hw hS (by first | exact Or.inl rfl | exact Or.inr rfl | rfl | omega) rfl 2 (by decide) (hG _ fl_W_19) (fun _ h9 => h9) rfl (by decide +kernel) rfl rfl (Nat.le_of_ble_eq_true rfl) d_W_addStrand_52 (fun H locs hwn hz1 ho1 hS => ?_)
          have hZ := hz1.trans hZ
          have hf1 := hf1.keep (ho1 (a + 1) (by omega))
          have hw : ca E H (a) (.inr (0, [.ref (a + 1), .int (iI (w : Int)), .int (iI ((c : Int) + 1))])) := hwn
          refine lv_aload_n hx hb d_W_addStrand_55 rfl (lv_at hl 0 rfl) ?_
          refine lv_dup hx hb d_W_addStrand_56 rfl ?_
          refine hp_get (C := R_W) (T := F_W) (N := 3) (v := .int (iI (w : Int))) hx hb hG la_W hown hK.1 hw rfl 1 (by decide) (hG _ fl_W_15) (fun _ h9 => h9) rfl d_W_addStrand_57 ?_
          refine hp_iconst (z := 1) hx hb d_W_addStrand_60 (by rfl) ?_
          refine hp_iadd hx hb d_W_addStrand_61 ?_
          refine hp_put (C := R_W) (T := F_W) (N := 3) (v := .int (iI ((w : Int) + 1))) (ty := .int) hx hb hG la_W t_W tk_W n_W hown hK.1 hw hS (by first | exact Or.inl rfl | exact Or.inr rfl | rfl | omega) rfl 1 (by decide) (hG _ fl_W_15) (fun _ h9 => h9) rfl (by decide +kernel) rfl rfl (Nat.le_of_ble_eq_true rfl) d_W_addStrand_62 (fun H locs hwn hz1 ho1 hS => ?_)
          have hZ := hz1.trans hZ
          have hf1 := hf1.keep (ho1 (a + 1) (by omega))
          have hw : ca E H (a) (.inr (0, [.ref (a + 1), .int (iI ((w : Int) + 1)), .int (iI ((c : Int) + 1))])) := hwn
          refine hp_iconst (z := 1) hx hb d_W_addStrand_65 (by rfl) ?_
          rw [hQ]
          refine hp_zretQ hx hb hrt hlocks d_W_addStrand_66 true (by first | rfl | assumption | simp [bI]) hS hZ ?_
          exact Or.inl ⟨rfl, ⟨by omega, by omega, by omega⟩, hw, hf1⟩
        · skip
          refine hp_iconst (z := 0) hx hb d_W_addStrand_28 (by rfl) ?_
          rw [hQ]
          refine hp_zretQ hx hb hrt hlocks d_W_addStrand_29 false (by first | rfl | assumption | simp [bI]) hS hZ ?_
          exact Or.inr ⟨rfl, by omega, hw, hf1⟩

set_option maxHeartbeats 4000000 in
set_option maxRecDepth 100000 in
/-- dropStrand() -/
theorem c_W_dropStrand (l : Launch) (E : hp_E) (a w c : Nat) (f : Nat → Int) (hw8 : w ≤ 8) (hc : c ≤ 32) (hbd : bd f) : Met l y_W_dropStrand (Cond.code y_W_dropStrand b_W_dropStrand 2 (some .boolean) :: G0) ({ frames := 2, cells := 0, slots := 0, locals := 42 }) (hp_P E [.ref a] (fun H => wAt E H a w c f)) (hp_Qi (fun q => q = a ∨ q = a + 1) (fun r H => (r = 1 ∧ (0 < c ∧ (f (c - 1)).natAbs + 1 = w ∧ ∀ i, i < c - 1 → (f i).natAbs + 1 ≠ w) ∧ wAt E H a (w - 1) (c - 1) f) ∨ (r = 0 ∧ ¬ (0 < c ∧ (f (c - 1)).natAbs + 1 = w ∧ ∀ i, i < c - 1 → (f i).natAbs + 1 ≠ w) ∧ wAt E H a w c f))) 0 0 (fun q => q = a ∨ q = a + 1) := by
  refine Met.ofW (cc := b_W_dropStrand) (maxL := 2) (ret := some .boolean) (by decide) rfl ?_
  intro p e s m args below meth cd s₁ Bd hml hv
  obtain ⟨hargs, hB, hK⟩ := hv
  have hx := Bd.exec
  have hb := Bd.bytes
  have hrt := Bd.returns
  have hts := atoms_spec (ws := Cond.code y_W_dropStrand b_W_dropStrand 2 (some .boolean) :: G0) Bd.pre
  have hG : ∀ w ∈ G0, w.before args s = true := fun w h => hts w (List.mem_cons_of_mem _ h)
  have hown : s.vm.findClass R_W = some m.cls := findClass_of_methodNamed Bd.named
  have hlocks := Bd.notSynchronized
  have hl := lv_entry ([.ref a]) (n := 2) (Nat.le_of_ble_eq_true rfl)
  rw [show entryFrame m args 2 = entryFrame m ([.ref a] : List Value).toArray 2 from by rw [hargs]]
  rw [lg_entry_eq]
  generalize (lg_sl ([.ref a]) ++ List.replicate (2 - (lg_sl ([.ref a])).length) Slot.unset).toArray = ls at hl ⊢
  have hl : lv_has ls 2 [(0, .ref a)] := hl
  obtain ⟨R, hR⟩ : ∃ R, R = (headSpec (Cond.code y_W_dropStrand b_W_dropStrand 2 (some .boolean) :: G0) { frames := 2, cells := 0, slots := 0, locals := 42 }).room := ⟨_, rfl⟩
  rw [← hR]
  have hRf : R.frames = 2 := by rw [hR]; rfl
  have hRl : R.locals = 42 := by rw [hR]; rfl
  have hRc : R.cells = 0 := by rw [hR]; rfl
  have hRs : R.slots = 0 := by rw [hR]; rfl
  obtain ⟨Q, hQ⟩ : ∃ Q, Q = MQ below (hp_Qi (fun q => q = a ∨ q = a + 1) (fun r H => (r = 1 ∧ (0 < c ∧ (f (c - 1)).natAbs + 1 = w ∧ ∀ i, i < c - 1 → (f i).natAbs + 1 ≠ w) ∧ wAt E H a (w - 1) (c - 1) f) ∨ (r = 0 ∧ ¬ (0 < c ∧ (f (c - 1)).natAbs + 1 = w ∧ ∀ i, i < c - 1 → (f i).natAbs + 1 ≠ w) ∧ wAt E H a w c f))) args s 0 0 (fun q => q = a ∨ q = a + 1) := ⟨_, rfl⟩
  rw [← hQ]
  obtain ⟨H, hH⟩ : ∃ H, H = s.heap := ⟨_, rfl⟩
  obtain ⟨locs, hlocs⟩ : ∃ locs : List Loc, locs = [] := ⟨_, rfl⟩
  have hS : va_S (fun q => q = a ∨ q = a + 1) s.heap H locs := by rw [hH, hlocs]; exact va_S.rf
  have hZ : H.size = s.heap.size := by rw [hH]
  rw [← hH] at hB
  rw [show W p l e R s m args below meth cd s.heap [] 0 0 Q (F0 m 0 ls []) = W p l e R s m args below meth cd H locs 0 0 Q (F0 m 0 ls []) from by rw [hH, hlocs]]
  obtain ⟨hw, hf1⟩ := hB
  refine lv_aload_n hx hb d_W_dropStrand_0 rfl (lv_at hl 0 rfl) ?_
  refine hp_get (C := R_W) (T := F_W) (N := 3) (v := .int (iI (c : Int))) hx hb hG la_W hown hK.1 hw rfl 2 (by decide) (hG _ fl_W_19) (fun _ h9 => h9) rfl d_W_dropStrand_1 ?_
  refine hp_if_eq (tgt := 26) hx hb d_W_dropStrand_4 (by decide) (by unfold iR; omega) (fun c4 => ?_) (fun c4 => ?_)
  · skip
    refine hp_iconst (z := 0) hx hb d_W_dropStrand_26 (by rfl) ?_
    rw [hQ]
    refine hp_zretQ hx hb hrt hlocks d_W_dropStrand_27 false (by first | rfl | assumption | simp [bI]) hS hZ ?_
    exact Or.inr ⟨rfl, by omega, hw, hf1⟩
  · skip
    have hk9 := hbd (c - 1)
    refine lv_aload_n hx hb d_W_dropStrand_7 rfl (lv_at hl 0 rfl) ?_
    refine lv_aload_n hx hb d_W_dropStrand_8 rfl (lv_at hl 0 rfl) ?_
    refine hp_get (C := R_W) (T := F_W) (N := 3) (v := .int (iI (c : Int))) hx hb hG la_W hown hK.1 hw rfl 2 (by decide) (hG _ fl_W_19) (fun _ h9 => h9) rfl d_W_dropStrand_9 ?_
    refine hp_iconst (z := 1) hx hb d_W_dropStrand_12 (by rfl) ?_
    refine hp_isub hx hb d_W_dropStrand_13 ?_
    rw [show (((c : Int) - 1) : Int) = (((c - 1) : Nat) : Int) from by omega]
    refine hp_callS (W.runV (As := [.int (iI (((c - 1) : Nat) : Int))]) (rest := []) ⟨hx, hb, hml, hown, hG⟩ (c_W_value l E a w c f (c - 1) (by omega) hbd) (cwV 1 hG (hp_goodV ml_W_43 im_W_value se_W_value in_W co_W_value) rfl rfl rfl hd_W_value ⟨by rw [hRf]; exact Nat.le_of_ble_eq_true rfl, by rw [hRl]; exact Nat.le_of_ble_eq_true rfl⟩) (hp_preV (ci := 0) hp_nsn hK rfl hw ⟨hw, hf1⟩) rfl rfl hl.1 rfl (lv_room (Nat.le_of_ble_eq_true rfl)) d_W_dropStrand_14 ⟨by rw [hRc]; exact Nat.le_of_ble_eq_true rfl, by rw [hRs]; exact Nat.le_of_ble_eq_true rfl⟩) ?_
    refine lv_aload_n hx hb d_W_dropStrand_17 rfl (lv_at hl 0 rfl) ?_
    refine hp_get (C := R_W) (T := F_W) (N := 3) (v := .int (iI (w : Int))) hx hb hG la_W hown hK.1 hw rfl 1 (by decide) (hG _ fl_W_15) (fun _ h9 => h9) rfl d_W_dropStrand_18 ?_
    refine hp_iconst (z := 1) hx hb d_W_dropStrand_21 (by rfl) ?_
    refine hp_isub hx hb d_W_dropStrand_22 ?_
    refine hp_icmp_eq (tgt := 28) hx hb d_W_dropStrand_23 (by decide) (by unfold iR; omega) (by unfold iR; omega) (fun c23 => ?_) (fun c23 => ?_)
    · skip
      refine hp_iconst (z := 0) hx hb d_W_dropStrand_28 (by rfl) ?_
      refine lv_istore_n (lv' := [(1, .int (iI 0)), (0, .ref a)]) hx hb d_W_dropStrand_29 rfl hl (by decide) rfl (fun ls hl => ?_)
      have L30 : ∀ (N : Nat) (k : Nat), c - k < N → (k ≤ c - 1) → (∀ i, i < k → (f i).natAbs + 1 ≠ w) → ∀ ls : Array Slot, lv_has ls 2 [(0, .ref a), (1, .int (iI (k : Int)))] → W p l e R s m args below meth cd H locs 0 0 Q (F0 m 30 ls []) := by
        intro N
        induction N with
        | zero => intro k hN; exact absurd hN (by omega)
        | succ N ih =>
          intro k hN hk hno  ls hl
          have ih30 := ih
          refine lv_iload_n hx hb d_W_dropStrand_30 rfl (lv_at hl 1 rfl) ?_
          refine lv_aload_n hx hb d_W_dropStrand_31 rfl (lv_at hl 0 rfl) ?_
          refine hp_get (C := R_W) (T := F_W) (N := 3) (v := .int (iI (c : Int))) hx hb hG la_W hown hK.1 hw rfl 2 (by decide) (hG _ fl_W_19) (fun _ h9 => h9) rfl d_W_dropStrand_32 ?_
          refine hp_iconst (z := 1) hx hb d_W_dropStrand_35 (by rfl) ?_
          refine hp_isub hx hb d_W_dropStrand_36 ?_
          refine hp_icmp_ge (tgt := 62) hx hb d_W_dropStrand_37 (by decide) (by unfold iR; omega) (by unfold iR; omega) (fun c37 => ?_) (fun c37 => ?_)
          · skip
            refine lv_aload_n hx hb d_W_dropStrand_62 rfl (lv_at hl 0 rfl) ?_
            refine lv_dup hx hb d_W_dropStrand_63 rfl ?_
            refine hp_get (C := R_W) (T := F_W) (N := 3) (v := .int (iI (c : Int))) hx hb hG la_W hown hK.1 hw rfl 2 (by decide) (hG _ fl_W_19) (fun _ h9 => h9) rfl d_W_dropStrand_64 ?_
            refine hp_iconst (z := 1) hx hb d_W_dropStrand_67 (by rfl) ?_
            refine hp_isub hx hb d_W_dropStrand_68 ?_
            refine hp_put (C := R_W) (T := F_W) (N := 3) (v := .int (iI ((c : Int) - 1))) (ty := .int) hx hb hG la_W t_W tk_W n_W hown hK.1 hw hS (by first | exact Or.inl rfl | exact Or.inr rfl | rfl | omega) rfl 2 (by decide) (hG _ fl_W_19) (fun _ h9 => h9) rfl (by decide +kernel) rfl rfl (Nat.le_of_ble_eq_true rfl) d_W_dropStrand_69 (fun H locs hwn hz1 ho1 hS => ?_)
            have hZ := hz1.trans hZ
            have hf1 := hf1.keep (ho1 (a + 1) (by omega))
            have hw : ca E H (a) (.inr (0, [.ref (a + 1), .int (iI (w : Int)), .int (iI ((c : Int) - 1))])) := hwn
            refine lv_aload_n hx hb d_W_dropStrand_72 rfl (lv_at hl 0 rfl) ?_
            refine lv_dup hx hb d_W_dropStrand_73 rfl ?_
            refine hp_get (C := R_W) (T := F_W) (N := 3) (v := .int (iI (w : Int))) hx hb hG la_W hown hK.1 hw rfl 1 (by decide) (hG _ fl_W_15) (fun _ h9 => h9) rfl d_W_dropStrand_74 ?_
            refine hp_iconst (z := 1) hx hb d_W_dropStrand_77 (by rfl) ?_
            refine hp_isub hx hb d_W_dropStrand_78 ?_
            refine hp_put (C := R_W) (T := F_W) (N := 3) (v := .int (iI ((w : Int) - 1))) (ty := .int) hx hb hG la_W t_W tk_W n_W hown hK.1 hw hS (by first | exact Or.inl rfl | exact Or.inr rfl | rfl | omega) rfl 1 (by decide) (hG _ fl_W_15) (fun _ h9 => h9) rfl (by decide +kernel) rfl rfl (Nat.le_of_ble_eq_true rfl) d_W_dropStrand_79 (fun H locs hwn hz1 ho1 hS => ?_)
            have hZ := hz1.trans hZ
            have hf1 := hf1.keep (ho1 (a + 1) (by omega))
            have hw : ca E H (a) (.inr (0, [.ref (a + 1), .int (iI ((w : Int) - 1)), .int (iI ((c : Int) - 1))])) := hwn
            refine hp_iconst (z := 1) hx hb d_W_dropStrand_82 (by rfl) ?_
            rw [hQ]
            refine hp_zretQ hx hb hrt hlocks d_W_dropStrand_83 true (by first | rfl | assumption | simp [bI]) hS hZ ?_
            refine Or.inl ⟨rfl, ⟨by omega, by omega, fun i h => hno i (by omega)⟩, ?_, hf1⟩
            rw [show (w : Int) - 1 = ((w - 1 : Nat) : Int) by omega, show (c : Int) - 1 = ((c - 1 : Nat) : Int) by omega] at hw
            exact hw
          · skip
            have hk2 := hbd k
            refine lv_aload_n hx hb d_W_dropStrand_40 rfl (lv_at hl 0 rfl) ?_
            refine lv_iload_n hx hb d_W_dropStrand_41 rfl (lv_at hl 1 rfl) ?_
            refine hp_callS (W.runV (As := [.int (iI (k : Int))]) (rest := []) ⟨hx, hb, hml, hown, hG⟩ (c_W_value l E a w c f k (by omega) hbd) (cwV 1 hG (hp_goodV ml_W_43 im_W_value se_W_value in_W co_W_value) rfl rfl rfl hd_W_value ⟨by rw [hRf]; exact Nat.le_of_ble_eq_true rfl, by rw [hRl]; exact Nat.le_of_ble_eq_true rfl⟩) (hp_preV (ci := 0) hp_nsn hK rfl hw ⟨hw, hf1⟩) rfl rfl hl.1 rfl (lv_room (Nat.le_of_ble_eq_true rfl)) d_W_dropStrand_42 ⟨by rw [hRc]; exact Nat.le_of_ble_eq_true rfl, by rw [hRs]; exact Nat.le_of_ble_eq_true rfl⟩) ?_
            refine lv_aload_n hx hb d_W_dropStrand_45 rfl (lv_at hl 0 rfl) ?_
            refine hp_get (C := R_W) (T := F_W) (N := 3) (v := .int (iI (w : Int))) hx hb hG la_W hown hK.1 hw rfl 1 (by decide) (hG _ fl_W_15) (fun _ h9 => h9) rfl d_W_dropStrand_46 ?_
            refine hp_iconst (z := 1) hx hb d_W_dropStrand_49 (by rfl) ?_
            refine hp_isub hx hb d_W_dropStrand_50 ?_
            refine hp_icmp_ne (tgt := 56) hx hb d_W_dropStrand_51 (by decide) (by unfold iR; omega) (by unfold iR; omega) (fun c51 => ?_) (fun c51 => ?_)
            · skip
              refine hp_iinc (z := ((k : Int) + 1)) (lv' := [(1, .int (iI ((k : Int) + 1))), (0, .ref a)]) hx hb d_W_dropStrand_56 hl (k := 1) rfl (by omega) (by decide) rfl (fun ls hl => ?_)
              refine lv_goto (tgt := 30) hx hb d_W_dropStrand_59 (by decide) ?_
              exact ih30  (k + 1) (by omega) (by omega) (by intro i h; by_cases q : i = k; (rw [q]; omega); exact hno i (by omega)) ls (lv_sub hl [1, 0] rfl)
            · skip
              refine hp_iconst (z := 0) hx hb d_W_dropStrand_54 (by rfl) ?_
              rw [hQ]
              refine hp_zretQ hx hb hrt hlocks d_W_dropStrand_55 false (by first | rfl | assumption | simp [bI]) hS hZ ?_
              exact Or.inr ⟨rfl, fun h => h.2.2 k (by omega) (by omega), hw, hf1⟩
      exact L30 (c - 0 + 1) 0 (by omega) (by omega) (by intro i h; omega) ls (lv_sub hl [1, 0] rfl)
    · skip
      refine hp_iconst (z := 0) hx hb d_W_dropStrand_26 (by rfl) ?_
      rw [hQ]
      refine hp_zretQ hx hb hrt hlocks d_W_dropStrand_27 false (by first | rfl | assumption | simp [bI]) hS hZ ?_
      exact Or.inr ⟨rfl, by omega, hw, hf1⟩
