set_option maxHeartbeats 4000000 in
set_option maxRecDepth 100000 in
/-- value(k) -/
theorem c_W_value (l : Launch) (E : hp_E) (a w c : Nat) (f : Nat → Int) (k : Nat) (hk : k < 32) (hbd : bd f) : Met l y_W_value (Cond.code y_W_value b_W_value 2 (some .int) :: G0) ({ frames := 1, cells := 0, slots := 0, locals := 21 }) (hp_P E [.ref a, .int (iI (k : Int))] (fun H => wAt E H a w c f)) (hp_Si ((f k).natAbs : Int)) 0 0 (fun _ => False) := by
  refine Met.ofW (cc := b_W_value) (maxL := 2) (ret := some .int) (by decide) rfl ?_
  intro p e s m args below meth cd s₁ Bd hml hv
  obtain ⟨hargs, hB, hK⟩ := hv
  have hx := Bd.exec
  have hb := Bd.bytes
  have hrt := Bd.returns
  have hts := atoms_spec (ws := Cond.code y_W_value b_W_value 2 (some .int) :: G0) Bd.pre
  have hG : ∀ w ∈ G0, w.before args s = true := fun w h => hts w (List.mem_cons_of_mem _ h)
  have hown : s.vm.findClass R_W = some m.cls := findClass_of_methodNamed Bd.named
  have hlocks := Bd.notSynchronized
  have hl := lv_entry ([.ref a, .int (iI (k : Int))]) (n := 2) (Nat.le_of_ble_eq_true rfl)
  rw [show entryFrame m args 2 = entryFrame m ([.ref a, .int (iI (k : Int))] : List Value).toArray 2 from by rw [hargs]]
  rw [lg_entry_eq]
  generalize (lg_sl ([.ref a, .int (iI (k : Int))]) ++ List.replicate (2 - (lg_sl ([.ref a, .int (iI (k : Int))])).length) Slot.unset).toArray = ls at hl ⊢
  have hl : lv_has ls 2 [(0, .ref a), (1, .int (iI (k : Int)))] := hl
  obtain ⟨R, hR⟩ : ∃ R, R = (headSpec (Cond.code y_W_value b_W_value 2 (some .int) :: G0) { frames := 1, cells := 0, slots := 0, locals := 21 }).room := ⟨_, rfl⟩
  rw [← hR]
  have hRf : R.frames = 1 := by rw [hR]; rfl
  have hRl : R.locals = 21 := by rw [hR]; rfl
  have hRc : R.cells = 0 := by rw [hR]; rfl
  have hRs : R.slots = 0 := by rw [hR]; rfl
  obtain ⟨Q, hQ⟩ : ∃ Q, Q = MQ below (hp_Si ((f k).natAbs : Int)) args s 0 0 (fun _ => False) := ⟨_, rfl⟩
  rw [← hQ]
  obtain ⟨hw, hf1⟩ := hB
  have hk2 := hbd k
  refine lv_aload_n hx hb d_W_value_0 rfl (lv_at hl 0 rfl) ?_
  refine hp_get (C := R_W) (T := F_W) (N := 3) (v := .ref (a + 1)) hx hb hG la_W hown hK.1 hw rfl 0 (by decide) (hG _ fl_W_9) (fun _ h9 => h9) rfl d_W_value_1 ?_
  refine lv_iload_n hx hb d_W_value_4 rfl (lv_at hl 1 rfl) ?_
  refine hp_iald hx hb hK.1 0 hf1 rfl d_W_value_5 (by omega) k (by omega) (by omega) ?_
  refine hp_mabs (rest := []) hx hb (hml.trans hl.1.symm) hown (hG _ ml_W_28) (hG _ st_JM_abs) (hG _ in_JM) (hG _ co_JM_abs) (by omega) (by rw [hRl]; exact Nat.le_of_ble_eq_true rfl) (by omega) (by omega) d_W_value_6 (by unfold iR; omega) ?_
  rw [hQ]
  refine hp_iretS hx hb hrt hlocks d_W_value_9 ?_
  rfl

set_option maxHeartbeats 4000000 in
set_option maxRecDepth 100000 in
theorem c_JI_signum (l : Launch) (E : hp_E) (z : Int) (h1 : -8 < z) (h2 : z < 8) : Met l y_JI_signum (Cond.code y_JI_signum b_JI_signum 1 (some .int) :: G0) ({ frames := 0, cells := 0, slots := 0, locals := 0 }) (hp_P E [.int (iI z)] (fun _ => True)) (hp_Si (bw_sgn z)) 0 0 (fun _ => False) := by
  refine Met.ofW (cc := b_JI_signum) (maxL := 1) (ret := some .int) (by decide) rfl ?_
  intro p e s m args below meth cd s₁ B hml hv
  obtain ⟨rfl, -, -⟩ := hv
  have hx := B.exec
  have hb := B.bytes
  have hr := B.returns
  have hlocks := B.notSynchronized
  have hl := lv_entry ([.int (iI z)]) (n := 1) (Nat.le_of_ble_eq_true rfl)
  rw [lg_entry_eq]
  generalize (lg_sl ([.int (iI z)]) ++ List.replicate (1 - (lg_sl ([.int (iI z)])).length) Slot.unset).toArray = ls at hl ⊢
  have hl : lv_has ls 1 [(0, .int (iI z))] := hl
  refine lv_iload_n hx hb (show decode b_JI_signum 0 = .ok (.iload_n 0, 1) by decide +kernel) rfl (lv_at hl 0 rfl) ?_
  refine lv_bipush (v := 31) hx hb (show decode b_JI_signum 1 = .ok (.bipush 31, 2) by decide +kernel) rfl ?_
  refine lv_ishr hx hb (show decode b_JI_signum 3 = .ok (.ishr, 1) by decide +kernel) ?_
  refine lv_iload_n hx hb (show decode b_JI_signum 4 = .ok (.iload_n 0, 1) by decide +kernel) rfl (lv_at hl 0 rfl) ?_
  refine lv_ineg hx hb (show decode b_JI_signum 5 = .ok (.ineg, 1) by decide +kernel) ?_
  refine lv_bipush (v := 31) hx hb (show decode b_JI_signum 6 = .ok (.bipush 31, 2) by decide +kernel) rfl ?_
  refine lv_iushr hx hb (show decode b_JI_signum 8 = .ok (.iushr, 1) by decide +kernel) rfl ?_
  refine lv_ior hx hb (show decode b_JI_signum 9 = .ok (.ior, 1) by decide +kernel) ?_
  have e1 := bw_signum ⟨(z + 7).toNat, by omega⟩
  rw [show (((⟨(z + 7).toNat, by omega⟩ : Fin 15).val : Nat) : Int) - 7 = z by show (((z + 7).toNat : Nat) : Int) - 7 = z; omega] at e1
  rw [e1]
  exact hp_iretS hx hb hr hlocks (show decode b_JI_signum 10 = .ok (.ireturn, 1) by decide +kernel) rfl

set_option maxHeartbeats 4000000 in
set_option maxRecDepth 100000 in
/-- signSum() -/
theorem c_W_signSum (l : Launch) (E : hp_E) (a w c : Nat) (f : Nat → Int) (hc : c ≤ 32) (hbd : bd f) : Met l y_W_signSum (Cond.code y_W_signSum b_W_signSum 3 (some .int) :: G0) ({ frames := 1, cells := 0, slots := 0, locals := 20 }) (hp_P E [.ref a] (fun H => wAt E H a w c f)) (hp_Si (bw_sum f c)) 0 0 (fun _ => False) := by
  refine Met.ofW (cc := b_W_signSum) (maxL := 3) (ret := some .int) (by decide) rfl ?_
  intro p e s m args below meth cd s₁ Bd hml hv
  obtain ⟨hargs, hB, hK⟩ := hv
  have hx := Bd.exec
  have hb := Bd.bytes
  have hrt := Bd.returns
  have hts := atoms_spec (ws := Cond.code y_W_signSum b_W_signSum 3 (some .int) :: G0) Bd.pre
  have hG : ∀ w ∈ G0, w.before args s = true := fun w h => hts w (List.mem_cons_of_mem _ h)
  have hown : s.vm.findClass R_W = some m.cls := findClass_of_methodNamed Bd.named
  have hlocks := Bd.notSynchronized
  have hl := lv_entry ([.ref a]) (n := 3) (Nat.le_of_ble_eq_true rfl)
  rw [show entryFrame m args 3 = entryFrame m ([.ref a] : List Value).toArray 3 from by rw [hargs]]
  rw [lg_entry_eq]
  generalize (lg_sl ([.ref a]) ++ List.replicate (3 - (lg_sl ([.ref a])).length) Slot.unset).toArray = ls at hl ⊢
  have hl : lv_has ls 3 [(0, .ref a)] := hl
  obtain ⟨R, hR⟩ : ∃ R, R = (headSpec (Cond.code y_W_signSum b_W_signSum 3 (some .int) :: G0) { frames := 1, cells := 0, slots := 0, locals := 20 }).room := ⟨_, rfl⟩
  rw [← hR]
  have hRf : R.frames = 1 := by rw [hR]; rfl
  have hRl : R.locals = 20 := by rw [hR]; rfl
  have hRc : R.cells = 0 := by rw [hR]; rfl
  have hRs : R.slots = 0 := by rw [hR]; rfl
  obtain ⟨Q, hQ⟩ : ∃ Q, Q = MQ below (hp_Si (bw_sum f c)) args s 0 0 (fun _ => False) := ⟨_, rfl⟩
  rw [← hQ]
  obtain ⟨hw, hf1⟩ := hB
  refine hp_iconst (z := 0) hx hb d_W_signSum_0 (by rfl) ?_
  refine lv_istore_n (lv' := [(1, .int (iI 0)), (0, .ref a)]) hx hb d_W_signSum_1 rfl hl (by decide) rfl (fun ls hl => ?_)
  refine hp_iconst (z := 0) hx hb d_W_signSum_2 (by rfl) ?_
  refine lv_istore_n (lv' := [(2, .int (iI 0)), (1, .int (iI 0)), (0, .ref a)]) hx hb d_W_signSum_3 rfl hl (by decide) rfl (fun ls hl => ?_)
  have L4 : ∀ (N : Nat) (k : Nat), c - k < N → (k ≤ c) → ∀ ls : Array Slot, lv_has ls 3 [(0, .ref a), (1, .int (iI (bw_sum f k))), (2, .int (iI (k : Int)))] → W p l e R s m args below meth cd s.heap [] 0 0 Q (F0 m 4 ls []) := by
    intro N
    induction N with
    | zero => intro k hN; exact absurd hN (by omega)
    | succ N ih =>
      intro k hN hk  ls hl
      have ih4 := ih
      refine lv_iload_n hx hb d_W_signSum_4 rfl (lv_at hl 2 rfl) ?_
      refine lv_aload_n hx hb d_W_signSum_5 rfl (lv_at hl 0 rfl) ?_
      refine hp_get (C := R_W) (T := F_W) (N := 3) (v := .int (iI (c : Int))) hx hb hG la_W hown hK.1 hw rfl 2 (by decide) (hG _ fl_W_19) (fun _ h9 => h9) rfl d_W_signSum_6 ?_
      refine hp_icmp_ge (tgt := 30) hx hb d_W_signSum_9 (by decide) (by unfold iR; omega) (by unfold iR; omega) (fun c9 => ?_) (fun c9 => ?_)
      · skip
        refine lv_iload_n hx hb d_W_signSum_30 rfl (lv_at hl 1 rfl) ?_
        rw [hQ]
        refine hp_iretS hx hb hrt hlocks d_W_signSum_31 ?_
        have e : k = c := by omega
        rw [e]
      · skip
        have hk2 := hbd k
        refine lv_iload_n hx hb d_W_signSum_12 rfl (lv_at hl 1 rfl) ?_
        refine lv_aload_n hx hb d_W_signSum_13 rfl (lv_at hl 0 rfl) ?_
        refine hp_get (C := R_W) (T := F_W) (N := 3) (v := .ref (a + 1)) hx hb hG la_W hown hK.1 hw rfl 0 (by decide) (hG _ fl_W_9) (fun _ h9 => h9) rfl d_W_signSum_14 ?_
        refine lv_iload_n hx hb d_W_signSum_17 rfl (lv_at hl 2 rfl) ?_
        refine hp_iald hx hb hK.1 0 hf1 rfl d_W_signSum_18 (by omega) k (by omega) (by omega) ?_
        refine hp_callS (W.runS (As := [.int (iI (f k))]) (rest := [.int (iI (bw_sum f k))]) ⟨hx, hb, hml, hown, hG⟩ (c_JI_signum l E (f k) (by omega) (by omega)) (va_cwS 1 hG (hp_goodT ml_W_34 st_JI_signum in_JI co_JI_signum) rfl rfl rfl hd_JI_signum.2 ⟨by rw [hRf]; exact Nat.le_of_ble_eq_true rfl, by rw [hRl]; exact Nat.le_of_ble_eq_true rfl⟩) (hp_preS hp_nsn hK trivial) rfl rfl hl.1 rfl (lv_room (Nat.le_of_ble_eq_true rfl)) d_W_signSum_19 ⟨by rw [hRc]; exact Nat.le_of_ble_eq_true rfl, by rw [hRs]; exact Nat.le_of_ble_eq_true rfl⟩) ?_
        refine hp_iadd hx hb d_W_signSum_22 ?_
        refine lv_istore_n (lv' := [(1, .int (iI (bw_sum f k + (bw_sgn (f k))))), (0, .ref a), (2, .int (iI (k : Int)))]) hx hb d_W_signSum_23 rfl hl (by decide) rfl (fun ls hl => ?_)
        refine hp_iinc (z := ((k : Int) + 1)) (lv' := [(2, .int (iI ((k : Int) + 1))), (1, .int (iI (bw_sum f k + (bw_sgn (f k))))), (0, .ref a)]) hx hb d_W_signSum_24 hl (k := 2) rfl (by omega) (by decide) rfl (fun ls hl => ?_)
        refine lv_goto (tgt := 4) hx hb d_W_signSum_27 (by decide) ?_
        exact ih4  (k + 1) (by omega) (by omega) ls (lv_sub hl [2, 1, 0] rfl)
  exact L4 (c - 0 + 1) 0 (by omega) (by omega) ls (lv_sub hl [2, 1, 0] rfl)

set_option maxHeartbeats 4000000 in
set_option maxRecDepth 100000 in
/-- endOf(start) -/
theorem c_W_endOf (l : Launch) (E : hp_E) (a w c : Nat) (f : Nat → Int) (st : Int) (hs : -1000 ≤ st ∧ st ≤ 1000) (hc : c ≤ 32) (hbd : bd f) : Met l y_W_endOf (Cond.code y_W_endOf b_W_endOf 4 (some .int) :: G0) ({ frames := 2, cells := 0, slots := 0, locals := 42 }) (hp_P E [.ref a, .int (iI st)] (fun H => wAt E H a w c f)) (hp_Si (bw_end f c st)) 0 0 (fun _ => False) := by
  refine Met.ofW (cc := b_W_endOf) (maxL := 4) (ret := some .int) (by decide) rfl ?_
  intro p e s m args below meth cd s₁ Bd hml hv
  obtain ⟨hargs, hB, hK⟩ := hv
  have hx := Bd.exec
  have hb := Bd.bytes
  have hrt := Bd.returns
  have hts := atoms_spec (ws := Cond.code y_W_endOf b_W_endOf 4 (some .int) :: G0) Bd.pre
  have hG : ∀ w ∈ G0, w.before args s = true := fun w h => hts w (List.mem_cons_of_mem _ h)
  have hown : s.vm.findClass R_W = some m.cls := findClass_of_methodNamed Bd.named
  have hlocks := Bd.notSynchronized
  have hl := lv_entry ([.ref a, .int (iI st)]) (n := 4) (Nat.le_of_ble_eq_true rfl)
  rw [show entryFrame m args 4 = entryFrame m ([.ref a, .int (iI st)] : List Value).toArray 4 from by rw [hargs]]
  rw [lg_entry_eq]
  generalize (lg_sl ([.ref a, .int (iI st)]) ++ List.replicate (4 - (lg_sl ([.ref a, .int (iI st)])).length) Slot.unset).toArray = ls at hl ⊢
  have hl : lv_has ls 4 [(0, .ref a), (1, .int (iI st))] := hl
  obtain ⟨R, hR⟩ : ∃ R, R = (headSpec (Cond.code y_W_endOf b_W_endOf 4 (some .int) :: G0) { frames := 2, cells := 0, slots := 0, locals := 42 }).room := ⟨_, rfl⟩
  rw [← hR]
  have hRf : R.frames = 2 := by rw [hR]; rfl
  have hRl : R.locals = 42 := by rw [hR]; rfl
  have hRc : R.cells = 0 := by rw [hR]; rfl
  have hRs : R.slots = 0 := by rw [hR]; rfl
  obtain ⟨Q, hQ⟩ : ∃ Q, Q = MQ below (hp_Si (bw_end f c st)) args s 0 0 (fun _ => False) := ⟨_, rfl⟩
  rw [← hQ]
  obtain ⟨hw, hf1⟩ := hB
  refine lv_iload_n hx hb d_W_endOf_0 rfl (lv_at hl 1 rfl) ?_
  refine lv_istore_n (lv' := [(2, .int (iI st)), (0, .ref a), (1, .int (iI st))]) hx hb d_W_endOf_1 rfl hl (by decide) rfl (fun ls hl => ?_)
  refine hp_iconst (z := 0) hx hb d_W_endOf_2 (by rfl) ?_
  refine lv_istore_n (lv' := [(3, .int (iI 0)), (2, .int (iI st)), (0, .ref a), (1, .int (iI st))]) hx hb d_W_endOf_3 rfl hl (by decide) rfl (fun ls hl => ?_)
  have L4 : ∀ (N : Nat) (k : Nat) (pl : Int), c - k < N → (k ≤ c) → (pl = bw_end f k st) → ∀ ls : Array Slot, lv_has ls 4 [(0, .ref a), (1, .int (iI st)), (2, .int (iI pl)), (3, .int (iI (k : Int)))] → W p l e R s m args below meth cd s.heap [] 0 0 Q (F0 m 4 ls []) := by
    intro N
    induction N with
    | zero => intro k pl hN; exact absurd hN (by omega)
    | succ N ih =>
      intro k pl hN hk hpl  ls hl
      have ih4 := ih
      refine lv_iload_n hx hb d_W_endOf_4 rfl (lv_at hl 3 rfl) ?_
      refine lv_aload_n hx hb d_W_endOf_5 rfl (lv_at hl 0 rfl) ?_
      refine hp_get (C := R_W) (T := F_W) (N := 3) (v := .int (iI (c : Int))) hx hb hG la_W hown hK.1 hw rfl 2 (by decide) (hG _ fl_W_19) (fun _ h9 => h9) rfl d_W_endOf_6 ?_
      refine hp_icmp_ge (tgt := 47) hx hb d_W_endOf_9 (by decide) (by unfold iR; omega) (by unfold iR; omega) (fun c9 => ?_) (fun c9 => ?_)
      · skip
        refine lv_iload_n hx hb d_W_endOf_47 rfl (lv_at hl 2 rfl) ?_
        rw [hQ]
        refine hp_iretS hx hb hrt hlocks d_W_endOf_48 ?_
        have e : k = c := by omega
        rw [hpl, e]
      · skip
        have hk2 := hbd k
        have hk3 := bw_end_small hbd st k
        rw [← hpl] at hk3
        refine lv_iload_n hx hb d_W_endOf_12 rfl (lv_at hl 2 rfl) ?_
        refine lv_aload_n hx hb d_W_endOf_13 rfl (lv_at hl 0 rfl) ?_
        refine lv_iload_n hx hb d_W_endOf_14 rfl (lv_at hl 3 rfl) ?_
        refine hp_callS (W.runV (As := [.int (iI (k : Int))]) (rest := [.int (iI pl)]) ⟨hx, hb, hml, hown, hG⟩ (c_W_value l E a w c f k (by omega) hbd) (cwV 1 hG (hp_goodV ml_W_43 im_W_value se_W_value in_W co_W_value) rfl rfl rfl hd_W_value ⟨by rw [hRf]; exact Nat.le_of_ble_eq_true rfl, by rw [hRl]; exact Nat.le_of_ble_eq_true rfl⟩) (hp_preV (ci := 0) hp_nsn hK rfl hw ⟨hw, hf1⟩) rfl rfl hl.1 rfl (lv_room (Nat.le_of_ble_eq_true rfl)) d_W_endOf_15 ⟨by rw [hRc]; exact Nat.le_of_ble_eq_true rfl, by rw [hRs]; exact Nat.le_of_ble_eq_true rfl⟩) ?_
        refine hp_icmp_ne (tgt := 27) hx hb d_W_endOf_18 (by decide) (by unfold iR; omega) (by unfold iR; omega) (fun c18 => ?_) (fun c18 => ?_)
        · skip
          refine lv_iload_n hx hb d_W_endOf_27 rfl (lv_at hl 2 rfl) ?_
          refine lv_aload_n hx hb d_W_endOf_28 rfl (lv_at hl 0 rfl) ?_
          refine lv_iload_n hx hb d_W_endOf_29 rfl (lv_at hl 3 rfl) ?_
          refine hp_callS (W.runV (As := [.int (iI (k : Int))]) (rest := [.int (iI pl)]) ⟨hx, hb, hml, hown, hG⟩ (c_W_value l E a w c f k (by omega) hbd) (cwV 1 hG (hp_goodV ml_W_43 im_W_value se_W_value in_W co_W_value) rfl rfl rfl hd_W_value ⟨by rw [hRf]; exact Nat.le_of_ble_eq_true rfl, by rw [hRl]; exact Nat.le_of_ble_eq_true rfl⟩) (hp_preV (ci := 0) hp_nsn hK rfl hw ⟨hw, hf1⟩) rfl rfl hl.1 rfl (lv_room (Nat.le_of_ble_eq_true rfl)) d_W_endOf_30 ⟨by rw [hRc]; exact Nat.le_of_ble_eq_true rfl, by rw [hRs]; exact Nat.le_of_ble_eq_true rfl⟩) ?_
          refine hp_iconst (z := 1) hx hb d_W_endOf_33 (by rfl) ?_
          refine hp_iadd hx hb d_W_endOf_34 ?_
          refine hp_icmp_ne (tgt := 41) hx hb d_W_endOf_35 (by decide) (by unfold iR; omega) (by unfold iR; omega) (fun c35 => ?_) (fun c35 => ?_)
          · skip
            refine hp_iinc (z := ((k : Int) + 1)) (lv' := [(3, .int (iI ((k : Int) + 1))), (0, .ref a), (1, .int (iI st)), (2, .int (iI pl))]) hx hb d_W_endOf_41 hl (k := 3) rfl (by omega) (by decide) rfl (fun ls hl => ?_)
            refine lv_goto (tgt := 4) hx hb d_W_endOf_44 (by decide) ?_
            exact ih4  (k + 1) pl (by omega) (by omega) (by simp only [bw_end, bw_stp, ← hpl]; split <;> (try split) <;> omega) ls (lv_sub hl [1, 2, 3, 0] rfl)
          · skip
            refine hp_iinc (z := (pl - 1)) (lv' := [(2, .int (iI (pl - 1))), (0, .ref a), (1, .int (iI st)), (3, .int (iI (k : Int)))]) hx hb d_W_endOf_38 hl (k := 2) rfl (by omega) (by decide) rfl (fun ls hl => ?_)
            refine hp_iinc (z := ((k : Int) + 1)) (lv' := [(3, .int (iI ((k : Int) + 1))), (2, .int (iI (pl - 1))), (0, .ref a), (1, .int (iI st))]) hx hb d_W_endOf_41 hl (k := 3) rfl (by omega) (by decide) rfl (fun ls hl => ?_)
            refine lv_goto (tgt := 4) hx hb d_W_endOf_44 (by decide) ?_
            exact ih4  (k + 1) (pl - 1) (by omega) (by omega) (by simp only [bw_end, bw_stp, ← hpl]; split <;> (try split) <;> omega) ls (lv_sub hl [2, 3, 1, 0] rfl)
        · skip
          refine hp_iinc (z := (pl + 1)) (lv' := [(2, .int (iI (pl + 1))), (0, .ref a), (1, .int (iI st)), (3, .int (iI (k : Int)))]) hx hb d_W_endOf_21 hl (k := 2) rfl (by omega) (by decide) rfl (fun ls hl => ?_)
          refine lv_goto (tgt := 41) hx hb d_W_endOf_24 (by decide) ?_
          refine hp_iinc (z := ((k : Int) + 1)) (lv' := [(3, .int (iI ((k : Int) + 1))), (2, .int (iI (pl + 1))), (0, .ref a), (1, .int (iI st))]) hx hb d_W_endOf_41 hl (k := 3) rfl (by omega) (by decide) rfl (fun ls hl => ?_)
          refine lv_goto (tgt := 4) hx hb d_W_endOf_44 (by decide) ?_
          exact ih4  (k + 1) (pl + 1) (by omega) (by omega) (by simp only [bw_end, bw_stp, ← hpl]; split <;> (try split) <;> omega) ls (lv_sub hl [2, 3, 1, 0] rfl)
  exact L4 (c - 0 + 1) 0 st (by omega) (by omega) (by rfl) ls (lv_sub hl [2, 3, 1, 0] rfl)

set_option maxHeartbeats 4000000 in
set_option maxRecDepth 100000 in
/-- touches(k, place) -/
theorem c_W_touches (l : Launch) (E : hp_E) (a w c : Nat) (f : Nat → Int) (k : Nat) (p0 : Int) (hk : k < 32) (hp : iR p0) (hbd : bd f) : Met l y_W_touches (Cond.code y_W_touches b_W_touches 3 (some .boolean) :: G0) ({ frames := 2, cells := 0, slots := 0, locals := 42 }) (hp_P E [.ref a, .int (iI (k : Int)), .int (iI p0)] (fun H => wAt E H a w c f)) (hp_Si (bI (bw_t f k p0))) 0 0 (fun _ => False) := by
  refine Met.ofW (cc := b_W_touches) (maxL := 3) (ret := some .boolean) (by decide) rfl ?_
  intro p e s m args below meth cd s₁ Bd hml hv
  obtain ⟨hargs, hB, hK⟩ := hv
  have hx := Bd.exec
  have hb := Bd.bytes
  have hrt := Bd.returns
  have hts := atoms_spec (ws := Cond.code y_W_touches b_W_touches 3 (some .boolean) :: G0) Bd.pre
  have hG : ∀ w ∈ G0, w.before args s = true := fun w h => hts w (List.mem_cons_of_mem _ h)
  have hown : s.vm.findClass R_W = some m.cls := findClass_of_methodNamed Bd.named
  have hlocks := Bd.notSynchronized
  have hl := lv_entry ([.ref a, .int (iI (k : Int)), .int (iI p0)]) (n := 3) (Nat.le_of_ble_eq_true rfl)
  rw [show entryFrame m args 3 = entryFrame m ([.ref a, .int (iI (k : Int)), .int (iI p0)] : List Value).toArray 3 from by rw [hargs]]
  rw [lg_entry_eq]
  generalize (lg_sl ([.ref a, .int (iI (k : Int)), .int (iI p0)]) ++ List.replicate (3 - (lg_sl ([.ref a, .int (iI (k : Int)), .int (iI p0)])).length) Slot.unset).toArray = ls at hl ⊢
  have hl : lv_has ls 3 [(0, .ref a), (1, .int (iI (k : Int))), (2, .int (iI p0))] := hl
  obtain ⟨R, hR⟩ : ∃ R, R = (headSpec (Cond.code y_W_touches b_W_touches 3 (some .boolean) :: G0) { frames := 2, cells := 0, slots := 0, locals := 42 }).room := ⟨_, rfl⟩
  rw [← hR]
  have hRf : R.frames = 2 := by rw [hR]; rfl
  have hRl : R.locals = 42 := by rw [hR]; rfl
  have hRc : R.cells = 0 := by rw [hR]; rfl
  have hRs : R.slots = 0 := by rw [hR]; rfl
  obtain ⟨Q, hQ⟩ : ∃ Q, Q = MQ below (hp_Si (bI (bw_t f k p0))) args s 0 0 (fun _ => False) := ⟨_, rfl⟩
  rw [← hQ]
  obtain ⟨hw, hf1⟩ := hB
  have hk2 := hbd k
  refine lv_iload_n hx hb d_W_touches_0 rfl (lv_at hl 2 rfl) ?_
  refine lv_aload_n hx hb d_W_touches_1 rfl (lv_at hl 0 rfl) ?_
  refine lv_iload_n hx hb d_W_touches_2 rfl (lv_at hl 1 rfl) ?_
  refine hp_callS (W.runV (As := [.int (iI (k : Int))]) (rest := [.int (iI p0)]) ⟨hx, hb, hml, hown, hG⟩ (c_W_value l E a w c f k (by omega) hbd) (cwV 1 hG (hp_goodV ml_W_43 im_W_value se_W_value in_W co_W_value) rfl rfl rfl hd_W_value ⟨by rw [hRf]; exact Nat.le_of_ble_eq_true rfl, by rw [hRl]; exact Nat.le_of_ble_eq_true rfl⟩) (hp_preV (ci := 0) hp_nsn hK rfl hw ⟨hw, hf1⟩) rfl rfl hl.1 rfl (lv_room (Nat.le_of_ble_eq_true rfl)) d_W_touches_3 ⟨by rw [hRc]; exact Nat.le_of_ble_eq_true rfl, by rw [hRs]; exact Nat.le_of_ble_eq_true rfl⟩) ?_
  refine hp_icmp_eq (tgt := 20) hx hb d_W_touches_6 (by decide) (by unfold iR at *; omega) (by unfold iR at *; omega) (fun c6 => ?_) (fun c6 => ?_)
  · skip
    refine hp_iconst (z := 1) hx hb d_W_touches_20 (by rfl) ?_
    refine lv_goto (tgt := 25) hx hb d_W_touches_21 (by decide) ?_
    rw [hQ]
    refine hp_zretS hx hb hrt hlocks d_W_touches_25 ?_
    unfold bw_t
    simp only [bI]
    split <;> simp_all <;> omega
  · skip
    refine lv_iload_n hx hb d_W_touches_9 rfl (lv_at hl 2 rfl) ?_
    refine lv_aload_n hx hb d_W_touches_10 rfl (lv_at hl 0 rfl) ?_
    refine lv_iload_n hx hb d_W_touches_11 rfl (lv_at hl 1 rfl) ?_
    refine hp_callS (W.runV (As := [.int (iI (k : Int))]) (rest := [.int (iI p0)]) ⟨hx, hb, hml, hown, hG⟩ (c_W_value l E a w c f k (by omega) hbd) (cwV 1 hG (hp_goodV ml_W_43 im_W_value se_W_value in_W co_W_value) rfl rfl rfl hd_W_value ⟨by rw [hRf]; exact Nat.le_of_ble_eq_true rfl, by rw [hRl]; exact Nat.le_of_ble_eq_true rfl⟩) (hp_preV (ci := 0) hp_nsn hK rfl hw ⟨hw, hf1⟩) rfl rfl hl.1 rfl (lv_room (Nat.le_of_ble_eq_true rfl)) d_W_touches_12 ⟨by rw [hRc]; exact Nat.le_of_ble_eq_true rfl, by rw [hRs]; exact Nat.le_of_ble_eq_true rfl⟩) ?_
    refine hp_iconst (z := 1) hx hb d_W_touches_15 (by rfl) ?_
    refine hp_iadd hx hb d_W_touches_16 ?_
    refine hp_icmp_ne (tgt := 24) hx hb d_W_touches_17 (by decide) (by unfold iR at *; omega) (by unfold iR at *; omega) (fun c17 => ?_) (fun c17 => ?_)
    · skip
      refine hp_iconst (z := 0) hx hb d_W_touches_24 (by rfl) ?_
      rw [hQ]
      refine hp_zretS hx hb hrt hlocks d_W_touches_25 ?_
      unfold bw_t
      simp only [bI]
      split <;> simp_all <;> omega
    · skip
      refine hp_iconst (z := 1) hx hb d_W_touches_20 (by rfl) ?_
      refine lv_goto (tgt := 25) hx hb d_W_touches_21 (by decide) ?_
      rw [hQ]
      refine hp_zretS hx hb hrt hlocks d_W_touches_25 ?_
      unfold bw_t
      simp only [bI]
      split <;> simp_all <;> omega

set_option maxHeartbeats 4000000 in
set_option maxRecDepth 100000 in
/-- touchedFrom(j, place) -/
theorem c_W_touchedFrom (l : Launch) (E : hp_E) (a w c : Nat) (f : Nat → Int) (j : Nat) (p0 : Int) (hj : j ≤ 40) (hp : iR p0) (hc : c ≤ 32) (hbd : bd f) : Met l y_W_touchedFrom (Cond.code y_W_touchedFrom b_W_touchedFrom 4 (some .boolean) :: G0) ({ frames := 3, cells := 0, slots := 0, locals := 64 }) (hp_P E [.ref a, .int (iI (j : Int)), .int (iI p0)] (fun H => wAt E H a w c f)) (hp_Si (bI (bw_tf f p0 j c))) 0 0 (fun _ => False) := by
  refine Met.ofW (cc := b_W_touchedFrom) (maxL := 4) (ret := some .boolean) (by decide) rfl ?_
  intro p e s m args below meth cd s₁ Bd hml hv
  obtain ⟨hargs, hB, hK⟩ := hv
  have hx := Bd.exec
  have hb := Bd.bytes
  have hrt := Bd.returns
  have hts := atoms_spec (ws := Cond.code y_W_touchedFrom b_W_touchedFrom 4 (some .boolean) :: G0) Bd.pre
  have hG : ∀ w ∈ G0, w.before args s = true := fun w h => hts w (List.mem_cons_of_mem _ h)
  have hown : s.vm.findClass R_W = some m.cls := findClass_of_methodNamed Bd.named
  have hlocks := Bd.notSynchronized
  have hl := lv_entry ([.ref a, .int (iI (j : Int)), .int (iI p0)]) (n := 4) (Nat.le_of_ble_eq_true rfl)
  rw [show entryFrame m args 4 = entryFrame m ([.ref a, .int (iI (j : Int)), .int (iI p0)] : List Value).toArray 4 from by rw [hargs]]
  rw [lg_entry_eq]
  generalize (lg_sl ([.ref a, .int (iI (j : Int)), .int (iI p0)]) ++ List.replicate (4 - (lg_sl ([.ref a, .int (iI (j : Int)), .int (iI p0)])).length) Slot.unset).toArray = ls at hl ⊢
  have hl : lv_has ls 4 [(0, .ref a), (1, .int (iI (j : Int))), (2, .int (iI p0))] := hl
  obtain ⟨R, hR⟩ : ∃ R, R = (headSpec (Cond.code y_W_touchedFrom b_W_touchedFrom 4 (some .boolean) :: G0) { frames := 3, cells := 0, slots := 0, locals := 64 }).room := ⟨_, rfl⟩
  rw [← hR]
  have hRf : R.frames = 3 := by rw [hR]; rfl
  have hRl : R.locals = 64 := by rw [hR]; rfl
  have hRc : R.cells = 0 := by rw [hR]; rfl
  have hRs : R.slots = 0 := by rw [hR]; rfl
  obtain ⟨Q, hQ⟩ : ∃ Q, Q = MQ below (hp_Si (bI (bw_tf f p0 j c))) args s 0 0 (fun _ => False) := ⟨_, rfl⟩
  rw [← hQ]
  obtain ⟨hw, hf1⟩ := hB
  refine lv_iload_n hx hb d_W_touchedFrom_0 rfl (lv_at hl 1 rfl) ?_
  refine lv_istore_n (lv' := [(3, .int (iI (j : Int))), (0, .ref a), (1, .int (iI (j : Int))), (2, .int (iI p0))]) hx hb d_W_touchedFrom_1 rfl hl (by decide) rfl (fun ls hl => ?_)
  have L2 : ∀ (N : Nat) (k : Nat), 42 - k < N → (j ≤ k ∧ k ≤ 41) → (∀ i, j ≤ i → i < k → bw_t f i p0 = false) → ∀ ls : Array Slot, lv_has ls 4 [(0, .ref a), (1, .int (iI (j : Int))), (2, .int (iI p0)), (3, .int (iI (k : Int)))] → W p l e R s m args below meth cd s.heap [] 0 0 Q (F0 m 2 ls []) := by
    intro N
    induction N with
    | zero => intro k hN; exact absurd hN (by omega)
    | succ N ih =>
      intro k hN hk hno  ls hl
      have ih2 := ih
      refine lv_iload_n hx hb d_W_touchedFrom_2 rfl (lv_at hl 3 rfl) ?_
      refine lv_aload_n hx hb d_W_touchedFrom_3 rfl (lv_at hl 0 rfl) ?_
      refine hp_get (C := R_W) (T := F_W) (N := 3) (v := .int (iI (c : Int))) hx hb hG la_W hown hK.1 hw rfl 2 (by decide) (hG _ fl_W_19) (fun _ h9 => h9) rfl d_W_touchedFrom_4 ?_
      refine hp_icmp_ge (tgt := 27) hx hb d_W_touchedFrom_7 (by decide) (by unfold iR; omega) (by unfold iR; omega) (fun c7 => ?_) (fun c7 => ?_)
      · skip
        refine hp_iconst (z := 0) hx hb d_W_touchedFrom_27 (by rfl) ?_
        rw [hQ]
        refine hp_zretS hx hb hrt hlocks d_W_touchedFrom_28 ?_
        rw [show bw_tf f p0 j c = false from by rw [← Bool.not_eq_true, bw_tf_iff]; intro h; obtain ⟨i, h1, h2, h3⟩ := h; rw [hno i h1 (by omega)] at h3; cases h3]
        rfl
      · skip
        refine lv_aload_n hx hb d_W_touchedFrom_10 rfl (lv_at hl 0 rfl) ?_
        refine lv_iload_n hx hb d_W_touchedFrom_11 rfl (lv_at hl 3 rfl) ?_
        refine lv_iload_n hx hb d_W_touchedFrom_12 rfl (lv_at hl 2 rfl) ?_
        refine hp_callS (W.runV (As := [.int (iI (k : Int)), .int (iI p0)]) (rest := []) ⟨hx, hb, hml, hown, hG⟩ (c_W_touches l E a w c f k p0 (by omega) hp hbd) (cwV 2 hG (hp_goodV ml_W_53 im_W_touches se_W_touches in_W co_W_touches) rfl rfl rfl hd_W_touches ⟨by rw [hRf]; exact Nat.le_of_ble_eq_true rfl, by rw [hRl]; exact Nat.le_of_ble_eq_true rfl⟩) (hp_preV (ci := 0) hp_nsn hK rfl hw ⟨hw, hf1⟩) rfl rfl hl.1 rfl (lv_room (Nat.le_of_ble_eq_true rfl)) d_W_touchedFrom_13 ⟨by rw [hRc]; exact Nat.le_of_ble_eq_true rfl, by rw [hRs]; exact Nat.le_of_ble_eq_true rfl⟩) ?_
        refine hp_ifb_eq (tgt := 21) hx hb d_W_touchedFrom_16 (by decide) (fun c16 => ?_) (fun c16 => ?_)
        · skip
          refine hp_iinc (z := ((k : Int) + 1)) (lv' := [(3, .int (iI ((k : Int) + 1))), (0, .ref a), (1, .int (iI (j : Int))), (2, .int (iI p0))]) hx hb d_W_touchedFrom_21 hl (k := 3) rfl (by omega) (by decide) rfl (fun ls hl => ?_)
          refine lv_goto (tgt := 2) hx hb d_W_touchedFrom_24 (by decide) ?_
          exact ih2  (k + 1) (by omega) (by omega) (by intro i h1 h2; by_cases e : i = k; (rw [e]; exact c16); exact hno i h1 (by omega)) ls (lv_sub hl [1, 2, 3, 0] rfl)
        · skip
          refine hp_iconst (z := 1) hx hb d_W_touchedFrom_19 (by rfl) ?_
          rw [hQ]
          refine hp_zretS hx hb hrt hlocks d_W_touchedFrom_20 ?_
          rw [show bw_tf f p0 j c = true from bw_tf_iff.mpr ⟨k, by omega, by omega, c16⟩]
          rfl
  exact L2 (42 - j + 1) j (by omega) (by omega) (by intro i h1 h2; omega) ls (lv_sub hl [1, 2, 3, 0] rfl)

set_option maxHeartbeats 4000000 in
set_option maxRecDepth 100000 in
/-- hasPlace(p) -/
theorem c_W_hasPlace (l : Launch) (E : hp_E) (a w c : Nat) (f : Nat → Int) (p0 : Int) (hp : iR p0) (hw8 : w ≤ 8) : Met l y_W_hasPlace (Cond.code y_W_hasPlace b_W_hasPlace 2 (some .boolean) :: G0) ({ frames := 0, cells := 0, slots := 0, locals := 0 }) (hp_P E [.ref a, .int (iI p0)] (fun H => wAt E H a w c f)) (hp_Si (bI (decide (1 ≤ p0 ∧ p0 ≤ (w : Int))))) 0 0 (fun _ => False) := by
  refine Met.ofW (cc := b_W_hasPlace) (maxL := 2) (ret := some .boolean) (by decide) rfl ?_
  intro p e s m args below meth cd s₁ Bd hml hv
  obtain ⟨hargs, hB, hK⟩ := hv
  have hx := Bd.exec
  have hb := Bd.bytes
  have hrt := Bd.returns
  have hts := atoms_spec (ws := Cond.code y_W_hasPlace b_W_hasPlace 2 (some .boolean) :: G0) Bd.pre
  have hG : ∀ w ∈ G0, w.before args s = true := fun w h => hts w (List.mem_cons_of_mem _ h)
  have hown : s.vm.findClass R_W = some m.cls := findClass_of_methodNamed Bd.named
  have hlocks := Bd.notSynchronized
  have hl := lv_entry ([.ref a, .int (iI p0)]) (n := 2) (Nat.le_of_ble_eq_true rfl)
  rw [show entryFrame m args 2 = entryFrame m ([.ref a, .int (iI p0)] : List Value).toArray 2 from by rw [hargs]]
  rw [lg_entry_eq]
  generalize (lg_sl ([.ref a, .int (iI p0)]) ++ List.replicate (2 - (lg_sl ([.ref a, .int (iI p0)])).length) Slot.unset).toArray = ls at hl ⊢
  have hl : lv_has ls 2 [(0, .ref a), (1, .int (iI p0))] := hl
  obtain ⟨R, hR⟩ : ∃ R, R = (headSpec (Cond.code y_W_hasPlace b_W_hasPlace 2 (some .boolean) :: G0) { frames := 0, cells := 0, slots := 0, locals := 0 }).room := ⟨_, rfl⟩
  rw [← hR]
  have hRf : R.frames = 0 := by rw [hR]; rfl
  have hRl : R.locals = 0 := by rw [hR]; rfl
  have hRc : R.cells = 0 := by rw [hR]; rfl
  have hRs : R.slots = 0 := by rw [hR]; rfl
  obtain ⟨Q, hQ⟩ : ∃ Q, Q = MQ below (hp_Si (bI (decide (1 ≤ p0 ∧ p0 ≤ (w : Int))))) args s 0 0 (fun _ => False) := ⟨_, rfl⟩
  rw [← hQ]
  obtain ⟨hw, hf1⟩ := hB
  refine lv_iload_n hx hb d_W_hasPlace_0 rfl (lv_at hl 1 rfl) ?_
  refine hp_iconst (z := 1) hx hb d_W_hasPlace_1 (by rfl) ?_
  refine hp_icmp_lt (tgt := 17) hx hb d_W_hasPlace_2 (by decide) (by unfold iR at *; omega) (by unfold iR at *; omega) (fun c2 => ?_) (fun c2 => ?_)
  · skip
    refine hp_iconst (z := 0) hx hb d_W_hasPlace_17 (by rfl) ?_
    rw [hQ]
    refine hp_zretS hx hb hrt hlocks d_W_hasPlace_18 ?_
    simp only [bI]
    split <;> simp_all <;> omega
  · skip
    refine lv_iload_n hx hb d_W_hasPlace_5 rfl (lv_at hl 1 rfl) ?_
    refine lv_aload_n hx hb d_W_hasPlace_6 rfl (lv_at hl 0 rfl) ?_
    refine hp_get (C := R_W) (T := F_W) (N := 3) (v := .int (iI (w : Int))) hx hb hG la_W hown hK.1 hw rfl 1 (by decide) (hG _ fl_W_15) (fun _ h9 => h9) rfl d_W_hasPlace_7 ?_
    refine hp_icmp_gt (tgt := 17) hx hb d_W_hasPlace_10 (by decide) (by unfold iR at *; omega) (by unfold iR at *; omega) (fun c10 => ?_) (fun c10 => ?_)
    · skip
      refine hp_iconst (z := 0) hx hb d_W_hasPlace_17 (by rfl) ?_
      rw [hQ]
      refine hp_zretS hx hb hrt hlocks d_W_hasPlace_18 ?_
      simp only [bI]
      split <;> simp_all <;> omega
    · skip
      refine hp_iconst (z := 1) hx hb d_W_hasPlace_13 (by rfl) ?_
      refine lv_goto (tgt := 18) hx hb d_W_hasPlace_14 (by decide) ?_
      rw [hQ]
      refine hp_zretS hx hb hrt hlocks d_W_hasPlace_18 ?_
      simp only [bI]
      split <;> simp_all <;> omega

set_option maxHeartbeats 4000000 in
set_option maxRecDepth 100000 in
/-- hasLetters(k, many) -/
theorem c_W_hasLetters (l : Launch) (E : hp_E) (a w c : Nat) (f : Nat → Int) (k0 j : Int) (hk : iR k0) (hj : 0 ≤ j ∧ j ≤ 100) (hc : c ≤ 32) : Met l y_W_hasLetters (Cond.code y_W_hasLetters b_W_hasLetters 3 (some .boolean) :: G0) ({ frames := 0, cells := 0, slots := 0, locals := 0 }) (hp_P E [.ref a, .int (iI k0), .int (iI j)] (fun H => wAt E H a w c f)) (hp_Si (bI (decide (0 ≤ k0 ∧ k0 ≤ (c : Int) - j)))) 0 0 (fun _ => False) := by
  refine Met.ofW (cc := b_W_hasLetters) (maxL := 3) (ret := some .boolean) (by decide) rfl ?_
  intro p e s m args below meth cd s₁ Bd hml hv
  obtain ⟨hargs, hB, hK⟩ := hv
  have hx := Bd.exec
  have hb := Bd.bytes
  have hrt := Bd.returns
  have hts := atoms_spec (ws := Cond.code y_W_hasLetters b_W_hasLetters 3 (some .boolean) :: G0) Bd.pre
  have hG : ∀ w ∈ G0, w.before args s = true := fun w h => hts w (List.mem_cons_of_mem _ h)
  have hown : s.vm.findClass R_W = some m.cls := findClass_of_methodNamed Bd.named
  have hlocks := Bd.notSynchronized
  have hl := lv_entry ([.ref a, .int (iI k0), .int (iI j)]) (n := 3) (Nat.le_of_ble_eq_true rfl)
  rw [show entryFrame m args 3 = entryFrame m ([.ref a, .int (iI k0), .int (iI j)] : List Value).toArray 3 from by rw [hargs]]
  rw [lg_entry_eq]
  generalize (lg_sl ([.ref a, .int (iI k0), .int (iI j)]) ++ List.replicate (3 - (lg_sl ([.ref a, .int (iI k0), .int (iI j)])).length) Slot.unset).toArray = ls at hl ⊢
  have hl : lv_has ls 3 [(0, .ref a), (1, .int (iI k0)), (2, .int (iI j))] := hl
  obtain ⟨R, hR⟩ : ∃ R, R = (headSpec (Cond.code y_W_hasLetters b_W_hasLetters 3 (some .boolean) :: G0) { frames := 0, cells := 0, slots := 0, locals := 0 }).room := ⟨_, rfl⟩
  rw [← hR]
  have hRf : R.frames = 0 := by rw [hR]; rfl
  have hRl : R.locals = 0 := by rw [hR]; rfl
  have hRc : R.cells = 0 := by rw [hR]; rfl
  have hRs : R.slots = 0 := by rw [hR]; rfl
  obtain ⟨Q, hQ⟩ : ∃ Q, Q = MQ below (hp_Si (bI (decide (0 ≤ k0 ∧ k0 ≤ (c : Int) - j)))) args s 0 0 (fun _ => False) := ⟨_, rfl⟩
  rw [← hQ]
  obtain ⟨hw, hf1⟩ := hB
  refine lv_iload_n hx hb d_W_hasLetters_0 rfl (lv_at hl 1 rfl) ?_
  refine hp_if_lt (tgt := 18) hx hb d_W_hasLetters_1 (by decide) (by unfold iR at *; omega) (fun c1 => ?_) (fun c1 => ?_)
  · skip
    refine hp_iconst (z := 0) hx hb d_W_hasLetters_18 (by rfl) ?_
    rw [hQ]
    refine hp_zretS hx hb hrt hlocks d_W_hasLetters_19 ?_
    simp only [bI]
    split <;> simp_all <;> omega
  · skip
    refine lv_iload_n hx hb d_W_hasLetters_4 rfl (lv_at hl 1 rfl) ?_
    refine lv_aload_n hx hb d_W_hasLetters_5 rfl (lv_at hl 0 rfl) ?_
    refine hp_get (C := R_W) (T := F_W) (N := 3) (v := .int (iI (c : Int))) hx hb hG la_W hown hK.1 hw rfl 2 (by decide) (hG _ fl_W_19) (fun _ h9 => h9) rfl d_W_hasLetters_6 ?_
    refine lv_iload_n hx hb d_W_hasLetters_9 rfl (lv_at hl 2 rfl) ?_
    refine hp_isub hx hb d_W_hasLetters_10 ?_
    refine hp_icmp_gt (tgt := 18) hx hb d_W_hasLetters_11 (by decide) (by unfold iR at *; omega) (by unfold iR at *; omega) (fun c11 => ?_) (fun c11 => ?_)
    · skip
      refine hp_iconst (z := 0) hx hb d_W_hasLetters_18 (by rfl) ?_
      rw [hQ]
      refine hp_zretS hx hb hrt hlocks d_W_hasLetters_19 ?_
      simp only [bI]
      split <;> simp_all <;> omega
    · skip
      refine hp_iconst (z := 1) hx hb d_W_hasLetters_14 (by rfl) ?_
      refine lv_goto (tgt := 19) hx hb d_W_hasLetters_15 (by decide) ?_
      rw [hQ]
      refine hp_zretS hx hb hrt hlocks d_W_hasLetters_19 ?_
      simp only [bI]
      split <;> simp_all <;> omega

set_option maxHeartbeats 4000000 in
set_option maxRecDepth 100000 in
/-- circles() -/
theorem c_W_circles (l : Launch) (E : hp_E) (a w c : Nat) (f : Nat → Int) (hw8 : w ≤ 8) (hc : c ≤ 32) (hbd : bd f) : Met l y_W_circles (Cond.code y_W_circles b_W_circles 3 (some .int) :: G0) ({ frames := 4, cells := 0, slots := 0, locals := 87 }) (hp_P E [.ref a] (fun H => wAt E H a w c f)) (hp_Si (bw_cir f c w)) 0 0 (fun _ => False) := by
  refine Met.ofW (cc := b_W_circles) (maxL := 3) (ret := some .int) (by decide) rfl ?_
  intro p e s m args below meth cd s₁ Bd hml hv
  obtain ⟨hargs, hB, hK⟩ := hv
  have hx := Bd.exec
  have hb := Bd.bytes
  have hrt := Bd.returns
  have hts := atoms_spec (ws := Cond.code y_W_circles b_W_circles 3 (some .int) :: G0) Bd.pre
  have hG : ∀ w ∈ G0, w.before args s = true := fun w h => hts w (List.mem_cons_of_mem _ h)
  have hown : s.vm.findClass R_W = some m.cls := findClass_of_methodNamed Bd.named
  have hlocks := Bd.notSynchronized
  have hl := lv_entry ([.ref a]) (n := 3) (Nat.le_of_ble_eq_true rfl)
  rw [show entryFrame m args 3 = entryFrame m ([.ref a] : List Value).toArray 3 from by rw [hargs]]
  rw [lg_entry_eq]
  generalize (lg_sl ([.ref a]) ++ List.replicate (3 - (lg_sl ([.ref a])).length) Slot.unset).toArray = ls at hl ⊢
  have hl : lv_has ls 3 [(0, .ref a)] := hl
  obtain ⟨R, hR⟩ : ∃ R, R = (headSpec (Cond.code y_W_circles b_W_circles 3 (some .int) :: G0) { frames := 4, cells := 0, slots := 0, locals := 87 }).room := ⟨_, rfl⟩
  rw [← hR]
  have hRf : R.frames = 4 := by rw [hR]; rfl
  have hRl : R.locals = 87 := by rw [hR]; rfl
  have hRc : R.cells = 0 := by rw [hR]; rfl
  have hRs : R.slots = 0 := by rw [hR]; rfl
  obtain ⟨Q, hQ⟩ : ∃ Q, Q = MQ below (hp_Si (bw_cir f c w)) args s 0 0 (fun _ => False) := ⟨_, rfl⟩
  rw [← hQ]
  obtain ⟨hw, hf1⟩ := hB
  refine hp_iconst (z := 0) hx hb d_W_circles_0 (by rfl) ?_
  refine lv_istore_n (lv' := [(1, .int (iI 0)), (0, .ref a)]) hx hb d_W_circles_1 rfl hl (by decide) rfl (fun ls hl => ?_)
  refine hp_iconst (z := 1) hx hb d_W_circles_2 (by rfl) ?_
  refine lv_istore_n (lv' := [(2, .int (iI 1)), (1, .int (iI 0)), (0, .ref a)]) hx hb d_W_circles_3 rfl hl (by decide) rfl (fun ls hl => ?_)
  have L4 : ∀ (N : Nat) (q : Nat) (n : Int), w - q < N → (q ≤ w) → (n = bw_cir f c q) → ∀ ls : Array Slot, lv_has ls 3 [(0, .ref a), (1, .int (iI n)), (2, .int (iI ((q : Int) + 1)))] → W p l e R s m args below meth cd s.heap [] 0 0 Q (F0 m 4 ls []) := by
    intro N
    induction N with
    | zero => intro q n hN; exact absurd hN (by omega)
    | succ N ih =>
      intro q n hN hq hn  ls hl
      have ih4 := ih
      have hrn := bw_cir_rng f c q
      refine lv_iload_n hx hb d_W_circles_4 rfl (lv_at hl 2 rfl) ?_
      refine lv_aload_n hx hb d_W_circles_5 rfl (lv_at hl 0 rfl) ?_
      refine hp_get (C := R_W) (T := F_W) (N := 3) (v := .int (iI (w : Int))) hx hb hG la_W hown hK.1 hw rfl 1 (by decide) (hG _ fl_W_15) (fun _ h9 => h9) rfl d_W_circles_6 ?_
      refine hp_icmp_gt (tgt := 30) hx hb d_W_circles_9 (by decide) (by unfold iR; omega) (by unfold iR; omega) (fun c9 => ?_) (fun c9 => ?_)
      · skip
        refine lv_iload_n hx hb d_W_circles_30 rfl (lv_at hl 1 rfl) ?_
        rw [hQ]
        refine hp_iretS hx hb hrt hlocks d_W_circles_31 ?_
        have e : q = w := by omega
        rw [hn, e]
      · skip
        refine lv_aload_n hx hb d_W_circles_12 rfl (lv_at hl 0 rfl) ?_
        refine hp_iconst (z := 0) hx hb d_W_circles_13 (by rfl) ?_
        refine lv_iload_n hx hb d_W_circles_14 rfl (lv_at hl 2 rfl) ?_
        refine hp_callS (W.runV (As := [.int (iI 0), .int (iI ((q : Int) + 1))]) (rest := []) ⟨hx, hb, hml, hown, hG⟩ (c_W_touchedFrom l E a w c f 0 ((q : Int) + 1) (by omega) (by unfold iR; omega) hc hbd) (cwV 2 hG (hp_goodV ml_W_49 im_W_touchedFrom se_W_touchedFrom in_W co_W_touchedFrom) rfl rfl rfl hd_W_touchedFrom ⟨by rw [hRf]; exact Nat.le_of_ble_eq_true rfl, by rw [hRl]; exact Nat.le_of_ble_eq_true rfl⟩) (hp_preV (ci := 0) hp_nsn hK rfl hw ⟨hw, hf1⟩) rfl rfl hl.1 rfl (lv_room (Nat.le_of_ble_eq_true rfl)) d_W_circles_15 ⟨by rw [hRc]; exact Nat.le_of_ble_eq_true rfl, by rw [hRs]; exact Nat.le_of_ble_eq_true rfl⟩) ?_
        refine hp_ifb_ne (tgt := 24) hx hb d_W_circles_18 (by decide) (fun c18 => ?_) (fun c18 => ?_)
        · skip
          refine hp_iinc (z := (((q : Int) + 1) + 1)) (lv' := [(2, .int (iI (((q : Int) + 1) + 1))), (0, .ref a), (1, .int (iI n))]) hx hb d_W_circles_24 hl (k := 2) rfl (by omega) (by decide) rfl (fun ls hl => ?_)
          refine lv_goto (tgt := 4) hx hb d_W_circles_27 (by decide) ?_
          exact ih4  (q + 1) n (by omega) (by omega) (by simp only [bw_cir]; rw [show (((q + 1 : Nat) : Int)) = (q : Int) + 1 by omega, c18]; simp [hn]) ls (lv_sub hl [1, 2, 0] rfl)
        · skip
          refine hp_iinc (z := (n + 1)) (lv' := [(1, .int (iI (n + 1))), (0, .ref a), (2, .int (iI ((q : Int) + 1)))]) hx hb d_W_circles_21 hl (k := 1) rfl (by omega) (by decide) rfl (fun ls hl => ?_)
          refine hp_iinc (z := (((q : Int) + 1) + 1)) (lv' := [(2, .int (iI (((q : Int) + 1) + 1))), (1, .int (iI (n + 1))), (0, .ref a)]) hx hb d_W_circles_24 hl (k := 2) rfl (by omega) (by decide) rfl (fun ls hl => ?_)
          refine lv_goto (tgt := 4) hx hb d_W_circles_27 (by decide) ?_
          exact ih4  (q + 1) (n + 1) (by omega) (by omega) (by simp only [bw_cir]; rw [show (((q + 1 : Nat) : Int)) = (q : Int) + 1 by omega, c18]; simp [hn]) ls (lv_sub hl [2, 1, 0] rfl)
  exact L4 (w - 0 + 1) 0 0 (by omega) (by omega) (by rfl) ls (lv_sub hl [2, 1, 0] rfl)
