set_option maxHeartbeats 4000000 in
set_option maxRecDepth 100000 in
/-- isTurn -/
theorem c_N_isTurn (l : Launch) (E : hp_E) (b w c fr to : Nat) (pw : Int) (x : Nat) (g : Nat → Int) (hw8 : w ≤ 8) (hbg : ∀ j, 1 ≤ j → j ≤ w → iR (g j)) : Met l y_N_isTurn (Cond.code y_N_isTurn b_N_isTurn 3 (some .boolean) :: G0) ({ frames := 0, cells := 0, slots := 0, locals := 0 }) (hp_P E [.ref b, .ref x] (fun H => ca E H b (oN b fr to pw) ∧ ca E H (b + 1) (oW (b + 1) w c) ∧ ca E H x (ai E 9 g))) (hp_Si (bI (decide (∀ p : Nat, p < w + 1 → 1 ≤ p → g p = (w : Int) + 1 - p)))) 0 0 (fun _ => False) := by
  refine Met.ofW (cc := b_N_isTurn) (maxL := 3) (ret := some .boolean) (by decide) rfl ?_
  intro p e s m args below meth cd s₁ Bd hml hv
  obtain ⟨hargs, hB, hK⟩ := hv
  have hx := Bd.exec
  have hb := Bd.bytes
  have hrt := Bd.returns
  have hts := atoms_spec (ws := Cond.code y_N_isTurn b_N_isTurn 3 (some .boolean) :: G0) Bd.pre
  have hG : ∀ w ∈ G0, w.before args s = true := fun w h => hts w (List.mem_cons_of_mem _ h)
  have hown : s.vm.findClass R_N = some m.cls := findClass_of_methodNamed Bd.named
  have hlocks := Bd.notSynchronized
  have hl := lv_entry ([.ref b, .ref x]) (n := 3) (Nat.le_of_ble_eq_true rfl)
  rw [show entryFrame m args 3 = entryFrame m ([.ref b, .ref x] : List Value).toArray 3 from by rw [hargs]]
  rw [lg_entry_eq]
  generalize (lg_sl ([.ref b, .ref x]) ++ List.replicate (3 - (lg_sl ([.ref b, .ref x])).length) Slot.unset).toArray = ls at hl ⊢
  have hl : lv_has ls 3 [(0, .ref b), (1, .ref x)] := hl
  obtain ⟨R, hR⟩ : ∃ R, R = (headSpec (Cond.code y_N_isTurn b_N_isTurn 3 (some .boolean) :: G0) { frames := 0, cells := 0, slots := 0, locals := 0 }).room := ⟨_, rfl⟩
  rw [← hR]
  have hRf : R.frames = 0 := by rw [hR]; rfl
  have hRl : R.locals = 0 := by rw [hR]; rfl
  have hRc : R.cells = 0 := by rw [hR]; rfl
  have hRs : R.slots = 0 := by rw [hR]; rfl
  obtain ⟨Q, hQ⟩ : ∃ Q, Q = MQ below (hp_Si (bI (decide (∀ p : Nat, p < w + 1 → 1 ≤ p → g p = (w : Int) + 1 - p)))) args s 0 0 (fun _ => False) := ⟨_, rfl⟩
  rw [← hQ]
  obtain ⟨hn, hw, hg⟩ := hB
  refine hp_iconst (z := 1) hx hb d_N_isTurn_0 (by rfl) ?_
  refine lv_istore_n (lv' := [(2, .int (iI 1)), (0, .ref b), (1, .ref x)]) hx hb d_N_isTurn_1 rfl hl (by decide) rfl (fun ls hl => ?_)
  have L2 : ∀ (N : Nat) (q : Nat), w + 2 - q < N → (1 ≤ q ∧ q ≤ w + 1) → (∀ p : Nat, p < q → 1 ≤ p → g p = (w : Int) + 1 - p) → ∀ ls : Array Slot, lv_has ls 3 [(0, .ref b), (1, .ref x), (2, .int (iI (q : Int)))] → W p l e R s m args below meth cd s.heap [] 0 0 Q (F0 m 2 ls []) := by
    intro N
    induction N with
    | zero => intro q hN; exact absurd hN (by omega)
    | succ N ih =>
      intro q hN hq he  ls hl
      have ih2 := ih
      refine lv_iload_n hx hb d_N_isTurn_2 rfl (lv_at hl 2 rfl) ?_
      refine lv_aload_n hx hb d_N_isTurn_3 rfl (lv_at hl 0 rfl) ?_
      refine hp_get (C := R_N) (T := F_N) (N := 6) (v := .ref (b + 1)) hx hb hG la_N hown hK.1 hn rfl 0 (by decide) (hG _ fl_N_12) (fun _ h9 => h9) rfl d_N_isTurn_4 ?_
      refine hp_get (C := R_W) (T := F_W) (N := 3) (v := .int (iI (w : Int))) hx hb hG la_W hown hK.1 hw rfl 1 (by decide) (hG _ fl_N_55) (fun _ h9 => h9) rfl d_N_isTurn_7 ?_
      refine hp_icmp_gt (tgt := 38) hx hb d_N_isTurn_10 (by decide) (by first | exact hbg _ (by omega) (by omega) | (unfold iR; omega)) (by first | exact hbg _ (by omega) (by omega) | (unfold iR; omega)) (fun c10 => ?_) (fun c10 => ?_)
      · skip
        refine hp_iconst (z := 1) hx hb d_N_isTurn_38 (by rfl) ?_
        rw [hQ]
        refine hp_zretS hx hb hrt hlocks d_N_isTurn_39 ?_
        rw [decide_eq_true (fun p h1 h2 => he p (by omega) h2)]
        rfl
      · skip
        refine lv_aload_n hx hb d_N_isTurn_13 rfl (lv_at hl 1 rfl) ?_
        refine lv_iload_n hx hb d_N_isTurn_14 rfl (lv_at hl 2 rfl) ?_
        refine hp_iald hx hb hK.1 0 hg rfl d_N_isTurn_15 (by omega) q (by omega) (by omega) ?_
        refine lv_aload_n hx hb d_N_isTurn_16 rfl (lv_at hl 0 rfl) ?_
        refine hp_get (C := R_N) (T := F_N) (N := 6) (v := .ref (b + 1)) hx hb hG la_N hown hK.1 hn rfl 0 (by decide) (hG _ fl_N_12) (fun _ h9 => h9) rfl d_N_isTurn_17 ?_
        refine hp_get (C := R_W) (T := F_W) (N := 3) (v := .int (iI (w : Int))) hx hb hG la_W hown hK.1 hw rfl 1 (by decide) (hG _ fl_N_55) (fun _ h9 => h9) rfl d_N_isTurn_20 ?_
        refine hp_iconst (z := 1) hx hb d_N_isTurn_23 (by rfl) ?_
        refine hp_iadd hx hb d_N_isTurn_24 ?_
        refine lv_iload_n hx hb d_N_isTurn_25 rfl (lv_at hl 2 rfl) ?_
        refine hp_isub hx hb d_N_isTurn_26 ?_
        refine hp_icmp_eq (tgt := 32) hx hb d_N_isTurn_27 (by decide) (by first | exact hbg _ (by omega) (by omega) | (unfold iR; omega)) (by first | exact hbg _ (by omega) (by omega) | (unfold iR; omega)) (fun c27 => ?_) (fun c27 => ?_)
        · skip
          refine hp_iinc (z := ((q : Int) + 1)) (lv' := [(2, .int (iI ((q : Int) + 1))), (0, .ref b), (1, .ref x)]) hx hb d_N_isTurn_32 hl (k := 2) rfl (by omega) (by decide) rfl (fun ls hl => ?_)
          refine lv_goto (tgt := 2) hx hb d_N_isTurn_35 (by decide) ?_
          exact ih2  (q + 1) (by omega) (by omega) (by intro p h1 h2; by_cases e9 : p = q; (subst e9; omega); exact he p (by omega) h2) ls (lv_sub hl [1, 2, 0] rfl)
        · skip
          refine hp_iconst (z := 0) hx hb d_N_isTurn_30 (by rfl) ?_
          rw [hQ]
          refine hp_zretS hx hb hrt hlocks d_N_isTurn_31 ?_
          rw [decide_eq_false (fun h => by have := h q (by omega) (by omega); omega)]
          rfl
  exact L2 (w + 2 - 1 + 1) 1 (by omega) (by omega) (by intro p h1 h2; omega) ls (lv_sub hl [1, 2, 0] rfl)

set_option maxHeartbeats 4000000 in
set_option maxRecDepth 100000 in
/-- isNone -/
theorem c_N_isNone (l : Launch) (E : hp_E) (b w c fr to : Nat) (pw : Int) (x : Nat) (g : Nat → Int) (hw8 : w ≤ 8) (hbg : ∀ j, 1 ≤ j → j ≤ w → iR (g j)) : Met l y_N_isNone (Cond.code y_N_isNone b_N_isNone 3 (some .boolean) :: G0) ({ frames := 0, cells := 0, slots := 0, locals := 0 }) (hp_P E [.ref b, .ref x] (fun H => ca E H b (oN b fr to pw) ∧ ca E H (b + 1) (oW (b + 1) w c) ∧ ca E H x (ai E 9 g))) (hp_Si (bI (decide (∀ p : Nat, p < w + 1 → 1 ≤ p → g p = (p : Int))))) 0 0 (fun _ => False) := by
  refine Met.ofW (cc := b_N_isNone) (maxL := 3) (ret := some .boolean) (by decide) rfl ?_
  intro p e s m args below meth cd s₁ Bd hml hv
  obtain ⟨hargs, hB, hK⟩ := hv
  have hx := Bd.exec
  have hb := Bd.bytes
  have hrt := Bd.returns
  have hts := atoms_spec (ws := Cond.code y_N_isNone b_N_isNone 3 (some .boolean) :: G0) Bd.pre
  have hG : ∀ w ∈ G0, w.before args s = true := fun w h => hts w (List.mem_cons_of_mem _ h)
  have hown : s.vm.findClass R_N = some m.cls := findClass_of_methodNamed Bd.named
  have hlocks := Bd.notSynchronized
  have hl := lv_entry ([.ref b, .ref x]) (n := 3) (Nat.le_of_ble_eq_true rfl)
  rw [show entryFrame m args 3 = entryFrame m ([.ref b, .ref x] : List Value).toArray 3 from by rw [hargs]]
  rw [lg_entry_eq]
  generalize (lg_sl ([.ref b, .ref x]) ++ List.replicate (3 - (lg_sl ([.ref b, .ref x])).length) Slot.unset).toArray = ls at hl ⊢
  have hl : lv_has ls 3 [(0, .ref b), (1, .ref x)] := hl
  obtain ⟨R, hR⟩ : ∃ R, R = (headSpec (Cond.code y_N_isNone b_N_isNone 3 (some .boolean) :: G0) { frames := 0, cells := 0, slots := 0, locals := 0 }).room := ⟨_, rfl⟩
  rw [← hR]
  have hRf : R.frames = 0 := by rw [hR]; rfl
  have hRl : R.locals = 0 := by rw [hR]; rfl
  have hRc : R.cells = 0 := by rw [hR]; rfl
  have hRs : R.slots = 0 := by rw [hR]; rfl
  obtain ⟨Q, hQ⟩ : ∃ Q, Q = MQ below (hp_Si (bI (decide (∀ p : Nat, p < w + 1 → 1 ≤ p → g p = (p : Int))))) args s 0 0 (fun _ => False) := ⟨_, rfl⟩
  rw [← hQ]
  obtain ⟨hn, hw, hg⟩ := hB
  refine hp_iconst (z := 1) hx hb d_N_isNone_0 (by rfl) ?_
  refine lv_istore_n (lv' := [(2, .int (iI 1)), (0, .ref b), (1, .ref x)]) hx hb d_N_isNone_1 rfl hl (by decide) rfl (fun ls hl => ?_)
  have L2 : ∀ (N : Nat) (q : Nat), w + 2 - q < N → (1 ≤ q ∧ q ≤ w + 1) → (∀ p : Nat, p < q → 1 ≤ p → g p = (p : Int)) → ∀ ls : Array Slot, lv_has ls 3 [(0, .ref b), (1, .ref x), (2, .int (iI (q : Int)))] → W p l e R s m args below meth cd s.heap [] 0 0 Q (F0 m 2 ls []) := by
    intro N
    induction N with
    | zero => intro q hN; exact absurd hN (by omega)
    | succ N ih =>
      intro q hN hq he  ls hl
      have ih2 := ih
      refine lv_iload_n hx hb d_N_isNone_2 rfl (lv_at hl 2 rfl) ?_
      refine lv_aload_n hx hb d_N_isNone_3 rfl (lv_at hl 0 rfl) ?_
      refine hp_get (C := R_N) (T := F_N) (N := 6) (v := .ref (b + 1)) hx hb hG la_N hown hK.1 hn rfl 0 (by decide) (hG _ fl_N_12) (fun _ h9 => h9) rfl d_N_isNone_4 ?_
      refine hp_get (C := R_W) (T := F_W) (N := 3) (v := .int (iI (w : Int))) hx hb hG la_W hown hK.1 hw rfl 1 (by decide) (hG _ fl_N_55) (fun _ h9 => h9) rfl d_N_isNone_7 ?_
      refine hp_icmp_gt (tgt := 28) hx hb d_N_isNone_10 (by decide) (by first | exact hbg _ (by omega) (by omega) | (unfold iR; omega)) (by first | exact hbg _ (by omega) (by omega) | (unfold iR; omega)) (fun c10 => ?_) (fun c10 => ?_)
      · skip
        refine hp_iconst (z := 1) hx hb d_N_isNone_28 (by rfl) ?_
        rw [hQ]
        refine hp_zretS hx hb hrt hlocks d_N_isNone_29 ?_
        rw [decide_eq_true (fun p h1 h2 => he p (by omega) h2)]
        rfl
      · skip
        refine lv_aload_n hx hb d_N_isNone_13 rfl (lv_at hl 1 rfl) ?_
        refine lv_iload_n hx hb d_N_isNone_14 rfl (lv_at hl 2 rfl) ?_
        refine hp_iald hx hb hK.1 0 hg rfl d_N_isNone_15 (by omega) q (by omega) (by omega) ?_
        refine lv_iload_n hx hb d_N_isNone_16 rfl (lv_at hl 2 rfl) ?_
        refine hp_icmp_eq (tgt := 22) hx hb d_N_isNone_17 (by decide) (by first | exact hbg _ (by omega) (by omega) | (unfold iR; omega)) (by first | exact hbg _ (by omega) (by omega) | (unfold iR; omega)) (fun c17 => ?_) (fun c17 => ?_)
        · skip
          refine hp_iinc (z := ((q : Int) + 1)) (lv' := [(2, .int (iI ((q : Int) + 1))), (0, .ref b), (1, .ref x)]) hx hb d_N_isNone_22 hl (k := 2) rfl (by omega) (by decide) rfl (fun ls hl => ?_)
          refine lv_goto (tgt := 2) hx hb d_N_isNone_25 (by decide) ?_
          exact ih2  (q + 1) (by omega) (by omega) (by intro p h1 h2; by_cases e9 : p = q; (subst e9; omega); exact he p (by omega) h2) ls (lv_sub hl [1, 2, 0] rfl)
        · skip
          refine hp_iconst (z := 0) hx hb d_N_isNone_20 (by rfl) ?_
          rw [hQ]
          refine hp_zretS hx hb hrt hlocks d_N_isNone_21 ?_
          rw [decide_eq_false (fun h => by have := h q (by omega) (by omega); omega)]
          rfl
  exact L2 (w + 2 - 1 + 1) 1 (by omega) (by omega) (by intro p h1 h2; omega) ls (lv_sub hl [1, 2, 0] rfl)

set_option maxHeartbeats 4000000 in
set_option maxRecDepth 100000 in
/-- sweepOver(right) -/
theorem c_N_sweepOver (l : Launch) (E : hp_E) (b w c fr to : Nat) (pw : Int) (y : Nat) (S T : gs_P) (sf h : Nat → Int) (hw8 : w ≤ 8) (hy : y ≠ b ∧ y ≠ b + 1 ∧ y ≠ b + 36) (oS : gs_ok w S) (oT : gs_ok w T) (hsf : bn_h w sf S.2) (hh0 : bn_h w h T.1) : Met l y_N_sweepOver (Cond.code y_N_sweepOver b_N_sweepOver 4 (some .boolean) :: G0) ({ frames := 1, cells := 0, slots := 0, locals := 22 }) (hp_P E [.ref b, .ref y] (fun H => ca E H b (oN b fr to pw) ∧ ca E H (b + 1) (oW (b + 1) w c) ∧ ca E H (b + 36) (ai E 9 sf) ∧ ca E H y (ai E 9 h))) (hp_Qi (fun q => q = y ∨ q = b + 36) (fun r H => ∃ (k : Nat) (S1 T1 : gs_P) (sf1 h1 : Nat → Int), gs_pr w k S T S1 T1 ∧ r = bI (decide (k ≠ 0)) ∧ (k = 0 → gs_lw w S T) ∧ bn_h w sf1 S1.2 ∧ bn_h w h1 T1.1 ∧ ca E H (b + 36) (ai E 9 sf1) ∧ ca E H y (ai E 9 h1))) 0 0 (fun q => q = y ∨ q = b + 36) := by
  refine Met.ofW (cc := b_N_sweepOver) (maxL := 4) (ret := some .boolean) (by decide) rfl ?_
  intro p e s m args below meth cd s₁ Bd hml hv
  obtain ⟨hargs, hB, hK⟩ := hv
  have hx := Bd.exec
  have hb := Bd.bytes
  have hrt := Bd.returns
  have hts := atoms_spec (ws := Cond.code y_N_sweepOver b_N_sweepOver 4 (some .boolean) :: G0) Bd.pre
  have hG : ∀ w ∈ G0, w.before args s = true := fun w h => hts w (List.mem_cons_of_mem _ h)
  have hown : s.vm.findClass R_N = some m.cls := findClass_of_methodNamed Bd.named
  have hlocks := Bd.notSynchronized
  have hl := lv_entry ([.ref b, .ref y]) (n := 4) (Nat.le_of_ble_eq_true rfl)
  rw [show entryFrame m args 4 = entryFrame m ([.ref b, .ref y] : List Value).toArray 4 from by rw [hargs]]
  rw [lg_entry_eq]
  generalize (lg_sl ([.ref b, .ref y]) ++ List.replicate (4 - (lg_sl ([.ref b, .ref y])).length) Slot.unset).toArray = ls at hl ⊢
  have hl : lv_has ls 4 [(0, .ref b), (1, .ref y)] := hl
  obtain ⟨R, hR⟩ : ∃ R, R = (headSpec (Cond.code y_N_sweepOver b_N_sweepOver 4 (some .boolean) :: G0) { frames := 1, cells := 0, slots := 0, locals := 22 }).room := ⟨_, rfl⟩
  rw [← hR]
  have hRf : R.frames = 1 := by rw [hR]; rfl
  have hRl : R.locals = 22 := by rw [hR]; rfl
  have hRc : R.cells = 0 := by rw [hR]; rfl
  have hRs : R.slots = 0 := by rw [hR]; rfl
  obtain ⟨Q, hQ⟩ : ∃ Q, Q = MQ below (hp_Qi (fun q => q = y ∨ q = b + 36) (fun r H => ∃ (k : Nat) (S1 T1 : gs_P) (sf1 h1 : Nat → Int), gs_pr w k S T S1 T1 ∧ r = bI (decide (k ≠ 0)) ∧ (k = 0 → gs_lw w S T) ∧ bn_h w sf1 S1.2 ∧ bn_h w h1 T1.1 ∧ ca E H (b + 36) (ai E 9 sf1) ∧ ca E H y (ai E 9 h1))) args s 0 0 (fun q => q = y ∨ q = b + 36) := ⟨_, rfl⟩
  rw [← hQ]
  obtain ⟨H, hH⟩ : ∃ H, H = s.heap := ⟨_, rfl⟩
  obtain ⟨locs, hlocs⟩ : ∃ locs : List Loc, locs = [] := ⟨_, rfl⟩
  have hS : va_S (fun q => q = y ∨ q = b + 36) s.heap H locs := by rw [hH, hlocs]; exact va_S.rf
  have hZ : H.size = s.heap.size := by rw [hH]
  rw [← hH] at hB
  rw [show W p l e R s m args below meth cd s.heap [] 0 0 Q (F0 m 0 ls []) = W p l e R s m args below meth cd H locs 0 0 Q (F0 m 0 ls []) from by rw [hH, hlocs]]
  obtain ⟨hn, hw, hs, hh⟩ := hB
  refine hp_iconst (z := 0) hx hb d_N_sweepOver_0 (by rfl) ?_
  refine lv_istore_n (lv' := [(2, .int (iI 0)), (0, .ref b), (1, .ref y)]) hx hb d_N_sweepOver_1 rfl hl (by decide) rfl (fun ls hl => ?_)
  refine hp_iconst (z := 1) hx hb d_N_sweepOver_2 (by rfl) ?_
  refine lv_istore_n (lv' := [(3, .int (iI 1)), (2, .int (iI 0)), (0, .ref b), (1, .ref y)]) hx hb d_N_sweepOver_3 rfl hl (by decide) rfl (fun ls hl => ?_)
  have L4 : ∀ (N : Nat) (i k : Nat) (mv : Int) (S1 T1 : gs_P) (sf1 h1 : Nat → Int), w + 2 - i < N → (1 ≤ i ∧ i ≤ w + 1) → (gs_pr w k S T S1 T1) → (mv = bI (decide (k ≠ 0))) → (k = 0 → ∀ j, 1 ≤ j → j < i → j < w → ¬ gs_can j S T) → (bn_h w sf1 S1.2) → (bn_h w h1 T1.1) → ∀ (H : Heap) (locs : List Loc), va_S (fun q => q = y ∨ q = b + 36) s.heap H locs → H.size = s.heap.size → ca E H b (oN b fr to pw) → ca E H (b + 1) (oW (b + 1) w c) → ca E H (b + 36) (ai E 9 sf1) → ca E H y (ai E 9 h1) → ∀ ls : Array Slot, lv_has ls 4 [(0, .ref b), (1, .ref y), (2, .int (iI mv)), (3, .int (iI (i : Int)))] → W p l e R s m args below meth cd H locs 0 0 Q (F0 m 4 ls []) := by
    intro N
    induction N with
    | zero => intro i k mv S1 T1 sf1 h1 hN; exact absurd hN (by omega)
    | succ N ih =>
      intro i k mv S1 T1 sf1 h1 hN hi hpr hmv hk0 hs1 hh1 H locs hS hZ hn hw hs hh ls hl
      have ih4 := ih
      refine lv_iload_n hx hb d_N_sweepOver_4 rfl (lv_at hl 3 rfl) ?_
      refine lv_aload_n hx hb d_N_sweepOver_5 rfl (lv_at hl 0 rfl) ?_
      refine hp_get (C := R_N) (T := F_N) (N := 6) (v := .ref (b + 1)) hx hb hG la_N hown hK.1 hn rfl 0 (by decide) (hG _ fl_N_12) (fun _ h9 => h9) rfl d_N_sweepOver_6 ?_
      refine hp_get (C := R_W) (T := F_W) (N := 3) (v := .int (iI (w : Int))) hx hb hG la_W hown hK.1 hw rfl 1 (by decide) (hG _ fl_N_55) (fun _ h9 => h9) rfl d_N_sweepOver_9 ?_
      refine hp_icmp_ge (tgt := 64) hx hb d_N_sweepOver_12 (by decide) (by unfold iR; omega) (by unfold iR; omega) (fun c12 => ?_) (fun c12 => ?_)
      · skip
        refine lv_iload_n hx hb d_N_sweepOver_64 rfl (lv_at hl 2 rfl) ?_
        rw [hQ]
        refine hp_zretQ hx hb hrt hlocks d_N_sweepOver_65 (decide (k ≠ 0)) (by first | rfl | assumption | simp [bI]) hS hZ ?_
        exact ⟨k, S1, T1, sf1, h1, hpr, hmv, fun hk j g1 g2 => hk0 hk j g1 (by omega) g2, hs1, hh1, hs, hh⟩
      · skip
        have o := gs_pr_ok k oS oT hpr
        have v1 := hs1 i (by omega) (by omega)
        have v2 := hs1 (i + 1) (by omega) (by omega)
        have v3 := hh1 i (by omega) (by omega)
        have v4 := hh1 (i + 1) (by omega) (by omega)
        have u1 := gs_inv_rng o.1 (q := i) (by omega) (by omega)
        have u2 := gs_inv_rng o.1 (q := i + 1) (by omega) (by omega)
        have u3 := gs_rng o.2 (p := i) (by omega) (by omega)
        have u4 := gs_rng o.2 (p := i + 1) (by omega) (by omega)
        refine lv_aload_n hx hb d_N_sweepOver_15 rfl (lv_at hl 1 rfl) ?_
        refine lv_iload_n hx hb d_N_sweepOver_16 rfl (lv_at hl 3 rfl) ?_
        refine hp_iald hx hb hK.1 0 hh rfl d_N_sweepOver_17 (by omega) i (by omega) (by omega) ?_
        refine lv_aload_n hx hb d_N_sweepOver_18 rfl (lv_at hl 1 rfl) ?_
        refine lv_iload_n hx hb d_N_sweepOver_19 rfl (lv_at hl 3 rfl) ?_
        refine hp_iconst (z := 1) hx hb d_N_sweepOver_20 (by rfl) ?_
        refine hp_iadd hx hb d_N_sweepOver_21 ?_
        refine hp_iald hx hb hK.1 0 hh rfl d_N_sweepOver_22 (by omega) (i + 1) (by omega) (by omega) ?_
        refine hp_icmp_le (tgt := 58) hx hb d_N_sweepOver_23 (by decide) (by unfold iR; omega) (by unfold iR; omega) (fun c23 => ?_) (fun c23 => ?_)
        · skip
          refine hp_iinc (z := ((i : Int) + 1)) (lv' := [(3, .int (iI ((i : Int) + 1))), (0, .ref b), (1, .ref y), (2, .int (iI mv))]) hx hb d_N_sweepOver_58 hl (k := 3) rfl (by omega) (by decide) rfl (fun ls hl => ?_)
          refine lv_goto (tgt := 4) hx hb d_N_sweepOver_61 (by decide) ?_
          exact ih4  (i + 1) k mv S1 T1 sf1 h1 (by omega) (by omega) (by first | exact hpr | exact gs_pr_snoc hpr (by omega) (by omega) hcan) (by first | exact hmv | (rw [decide_eq_true (by omega)]; rfl)) (by intro hk j g1 g2 g3; first | (by_cases e9 : j = i; (subst e9; intro hc; subst hk; obtain ⟨e1, e2⟩ := hpr; subst e1; subst e2; first | exact hcan hc | (have := hc.1; have := hc.2; omega)); exact hk0 hk j g1 (by omega) g3) | omega) (by first | exact hs1 | exact bn_h_L hs1 (by omega) (by omega)) (by first | exact hh1 | exact bn_h_R hh1 (by omega) (by omega)) H locs hS hZ hn hw hs hh ls (lv_sub hl [1, 2, 3, 0] rfl)
        · skip
          refine lv_aload_n hx hb d_N_sweepOver_26 rfl (lv_at hl 0 rfl) ?_
          refine hp_get (C := R_N) (T := F_N) (N := 6) (v := .ref (b + 36)) hx hb hG la_N hown hK.1 hn rfl 2 (by decide) (hG _ fl_N_23) (fun _ h9 => h9) rfl d_N_sweepOver_27 ?_
          refine lv_iload_n hx hb d_N_sweepOver_30 rfl (lv_at hl 3 rfl) ?_
          refine hp_iald hx hb hK.1 0 hs rfl d_N_sweepOver_31 (by omega) i (by omega) (by omega) ?_
          refine lv_aload_n hx hb d_N_sweepOver_32 rfl (lv_at hl 0 rfl) ?_
          refine hp_get (C := R_N) (T := F_N) (N := 6) (v := .ref (b + 36)) hx hb hG la_N hown hK.1 hn rfl 2 (by decide) (hG _ fl_N_23) (fun _ h9 => h9) rfl d_N_sweepOver_33 ?_
          refine lv_iload_n hx hb d_N_sweepOver_36 rfl (lv_at hl 3 rfl) ?_
          refine hp_iconst (z := 1) hx hb d_N_sweepOver_37 (by rfl) ?_
          refine hp_iadd hx hb d_N_sweepOver_38 ?_
          refine hp_iald hx hb hK.1 0 hs rfl d_N_sweepOver_39 (by omega) (i + 1) (by omega) (by omega) ?_
          refine hp_icmp_ge (tgt := 58) hx hb d_N_sweepOver_40 (by decide) (by unfold iR; omega) (by unfold iR; omega) (fun c40 => ?_) (fun c40 => ?_)
          · skip
            refine hp_iinc (z := ((i : Int) + 1)) (lv' := [(3, .int (iI ((i : Int) + 1))), (0, .ref b), (1, .ref y), (2, .int (iI mv))]) hx hb d_N_sweepOver_58 hl (k := 3) rfl (by omega) (by decide) rfl (fun ls hl => ?_)
            refine lv_goto (tgt := 4) hx hb d_N_sweepOver_61 (by decide) ?_
            exact ih4  (i + 1) k mv S1 T1 sf1 h1 (by omega) (by omega) (by first | exact hpr | exact gs_pr_snoc hpr (by omega) (by omega) hcan) (by first | exact hmv | (rw [decide_eq_true (by omega)]; rfl)) (by intro hk j g1 g2 g3; first | (by_cases e9 : j = i; (subst e9; intro hc; subst hk; obtain ⟨e1, e2⟩ := hpr; subst e1; subst e2; first | exact hcan hc | (have := hc.1; have := hc.2; omega)); exact hk0 hk j g1 (by omega) g3) | omega) (by first | exact hs1 | exact bn_h_L hs1 (by omega) (by omega)) (by first | exact hh1 | exact bn_h_R hh1 (by omega) (by omega)) H locs hS hZ hn hw hs hh ls (lv_sub hl [1, 2, 3, 0] rfl)
          · skip
            have hcan : gs_can i S1 T1 := ⟨by omega, by omega⟩
            refine lv_aload_n hx hb d_N_sweepOver_43 rfl (lv_at hl 1 rfl) ?_
            refine lv_iload_n hx hb d_N_sweepOver_44 rfl (lv_at hl 3 rfl) ?_
            refine hp_callv (va_Run.run (va_runSN (As := [.ref y, .int (iI (i : Int))]) (rest := []) ⟨hx, hb, hml, hown, hG⟩ (c_B_swapAt l E y 9 i h1 (by omega) (by omega)) ⟨va_cnB 2 hG (hp_goodC co_B_swapAt) rfl rfl rfl (hK.2 _ ns_N_80) (hG _ in_B) hd_B_swapAt.2 ⟨by rw [hRf]; exact Nat.le_of_ble_eq_true rfl, by rw [hRl]; exact Nat.le_of_ble_eq_true rfl⟩, hG _ st_B_swapAt, trivial⟩ (hp_preS hp_nsn hK hh) rfl rfl hl.1 rfl (lv_room (Nat.le_of_ble_eq_true rfl)) d_N_sweepOver_45 ⟨by rw [hRc]; exact Nat.le_of_ble_eq_true rfl, by rw [hRs]; exact Nat.le_of_ble_eq_true rfl⟩)) hS (fun q h => by rw [h]; first | exact Or.inl rfl | exact Or.inr rfl | rfl | omega) (fun H locs hpost hz1 ho1 hS => ?_)
            have hZ := hz1.trans hZ
            have hn := hn.keep (ho1 (b) (by omega))
            have hw := hw.keep (ho1 (b + 1) (by omega))
            have hs := hs.keep (ho1 (b + 36) (by omega))
            have hh := hpost
            refine lv_aload_n hx hb d_N_sweepOver_48 rfl (lv_at hl 0 rfl) ?_
            refine hp_get (C := R_N) (T := F_N) (N := 6) (v := .ref (b + 36)) hx hb hG la_N hown hK.1 hn rfl 2 (by decide) (hG _ fl_N_23) (fun _ h9 => h9) rfl d_N_sweepOver_49 ?_
            refine lv_iload_n hx hb d_N_sweepOver_52 rfl (lv_at hl 3 rfl) ?_
            refine hp_callv (va_Run.run (va_runSN (As := [.ref (b + 36), .int (iI (i : Int))]) (rest := []) ⟨hx, hb, hml, hown, hG⟩ (c_B_swapAt l E (b + 36) 9 i sf1 (by omega) (by omega)) ⟨va_cnB 2 hG (hp_goodC co_B_swapAt) rfl rfl rfl (hK.2 _ ns_N_80) (hG _ in_B) hd_B_swapAt.2 ⟨by rw [hRf]; exact Nat.le_of_ble_eq_true rfl, by rw [hRl]; exact Nat.le_of_ble_eq_true rfl⟩, hG _ st_B_swapAt, trivial⟩ (hp_preS hp_nsn hK hs) rfl rfl hl.1 rfl (lv_room (Nat.le_of_ble_eq_true rfl)) d_N_sweepOver_53 ⟨by rw [hRc]; exact Nat.le_of_ble_eq_true rfl, by rw [hRs]; exact Nat.le_of_ble_eq_true rfl⟩)) hS (fun q h => by rw [h]; first | exact Or.inl rfl | exact Or.inr rfl | rfl | omega) (fun H locs hpost hz1 ho1 hS => ?_)
            have hZ := hz1.trans hZ
            have hn := hn.keep (ho1 (b) (by omega))
            have hw := hw.keep (ho1 (b + 1) (by omega))
            have hh := hh.keep (ho1 (y) (by omega))
            have hs := hpost
            refine hp_iconst (z := 1) hx hb d_N_sweepOver_56 (by rfl) ?_
            refine lv_istore_n (lv' := [(2, .int (iI 1)), (0, .ref b), (1, .ref y), (3, .int (iI (i : Int)))]) hx hb d_N_sweepOver_57 rfl hl (by decide) rfl (fun ls hl => ?_)
            refine hp_iinc (z := ((i : Int) + 1)) (lv' := [(3, .int (iI ((i : Int) + 1))), (2, .int (iI 1)), (0, .ref b), (1, .ref y)]) hx hb d_N_sweepOver_58 hl (k := 3) rfl (by omega) (by decide) rfl (fun ls hl => ?_)
            refine lv_goto (tgt := 4) hx hb d_N_sweepOver_61 (by decide) ?_
            exact ih4  (i + 1) (k + 1) 1 (gs_L i S1) (gs_R i T1) (bw_sw sf1 i) (bw_sw h1 i) (by omega) (by omega) (by first | exact hpr | exact gs_pr_snoc hpr (by omega) (by omega) hcan) (by first | exact hmv | (rw [decide_eq_true (by omega)]; rfl)) (by intro hk j g1 g2 g3; first | (by_cases e9 : j = i; (subst e9; intro hc; subst hk; obtain ⟨e1, e2⟩ := hpr; subst e1; subst e2; first | exact hcan hc | (have := hc.1; have := hc.2; omega)); exact hk0 hk j g1 (by omega) g3) | omega) (by first | exact hs1 | exact bn_h_L hs1 (by omega) (by omega)) (by first | exact hh1 | exact bn_h_R hh1 (by omega) (by omega)) H locs hS hZ hn hw hs hh ls (lv_sub hl [2, 3, 1, 0] rfl)
  exact L4 (w + 2 - 1 + 1) 1 0 0 S T sf h (by omega) (by omega) (by exact ⟨rfl, rfl⟩) (by rfl) (by intro _ j h1 h2; omega) (by exact hsf) (by exact hh0) H locs hS hZ hn hw hs hh ls (lv_sub hl [2, 3, 1, 0] rfl)
