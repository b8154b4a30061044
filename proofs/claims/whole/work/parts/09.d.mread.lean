set_option maxHeartbeats 4000000 in
set_option maxRecDepth 100000 in
/-- endOf(s, p) -/
theorem c_M_endOf (l : Launch) (E : hp_E) (mo : Nat) (th md fe ps : Int) (w c : Nat → Nat) (g : Nat → Int) (kz : Nat → Bool) (t : Nat) (ht : t < 4) (hct : c t ≤ 32 ∧ w t ≤ 8) (hbd : bd g) (p0 : Int) (hp0 : -1000 ≤ p0 ∧ p0 ≤ 1000) : Met l y_M_endOf (Cond.code y_M_endOf b_M_endOf 6 (some .int) :: G0) ({ frames := 1, cells := 0, slots := 0, locals := 22 }) (hp_P E [.ref mo, .int (iI (t : Int)), .int (iI p0)] (fun H => mW E H mo th md fe ps w c g kz)) (hp_Si (bw_end (gw g t) (c t) p0)) 0 0 (fun _ => False) := by
  refine Met.ofW (cc := b_M_endOf) (maxL := 6) (ret := some .int) (by decide) rfl ?_
  intro p e s m args below meth cd s₁ Bd hml hv
  obtain ⟨hargs, hB, hK⟩ := hv
  have hx := Bd.exec
  have hb := Bd.bytes
  have hrt := Bd.returns
  have hts := atoms_spec (ws := Cond.code y_M_endOf b_M_endOf 6 (some .int) :: G0) Bd.pre
  have hG : ∀ w ∈ G0, w.before args s = true := fun w h => hts w (List.mem_cons_of_mem _ h)
  have hown : s.vm.findClass R_M = some m.cls := findClass_of_methodNamed Bd.named
  have hlocks := Bd.notSynchronized
  have hl := lv_entry ([.ref mo, .int (iI (t : Int)), .int (iI p0)]) (n := 6) (Nat.le_of_ble_eq_true rfl)
  rw [show entryFrame m args 6 = entryFrame m ([.ref mo, .int (iI (t : Int)), .int (iI p0)] : List Value).toArray 6 from by rw [hargs]]
  rw [lg_entry_eq]
  generalize (lg_sl ([.ref mo, .int (iI (t : Int)), .int (iI p0)]) ++ List.replicate (6 - (lg_sl ([.ref mo, .int (iI (t : Int)), .int (iI p0)])).length) Slot.unset).toArray = ls at hl ⊢
  have hl : lv_has ls 6 [(0, .ref mo), (1, .int (iI (t : Int))), (2, .int (iI p0))] := hl
  obtain ⟨R, hR⟩ : ∃ R, R = (headSpec (Cond.code y_M_endOf b_M_endOf 6 (some .int) :: G0) { frames := 1, cells := 0, slots := 0, locals := 22 }).room := ⟨_, rfl⟩
  rw [← hR]
  have hRf : R.frames = 1 := by rw [hR]; rfl
  have hRl : R.locals = 22 := by rw [hR]; rfl
  have hRc : R.cells = 0 := by rw [hR]; rfl
  have hRs : R.slots = 0 := by rw [hR]; rfl
  obtain ⟨Q, hQ⟩ : ∃ Q, Q = MQ below (hp_Si (bw_end (gw g t) (c t) p0)) args s 0 0 (fun _ => False) := ⟨_, rfl⟩
  rw [← hQ]
  obtain ⟨hm, hsd, hsz, hwd, hkn⟩ := hB
  have hbt := gw_bd hbd t
  refine lv_iload_n hx hb d_M_endOf_0 rfl (lv_at hl 2 rfl) ?_
  refine lv_istore_n (lv' := [(3, .int (iI p0)), (0, .ref mo), (1, .int (iI (t : Int))), (2, .int (iI p0))]) hx hb d_M_endOf_1 rfl hl (by decide) rfl (fun ls hl => ?_)
  refine hp_iconst (z := 0) hx hb d_M_endOf_2 (by rfl) ?_
  refine lv_istore (lv' := [(4, .int (iI 0)), (3, .int (iI p0)), (0, .ref mo), (1, .int (iI (t : Int))), (2, .int (iI p0))]) hx hb d_M_endOf_3 hl (by decide) rfl (fun ls hl => ?_)
  have L5 : ∀ (N : Nat) (k : Nat) (pl : Int), c t - k < N → (k ≤ c t) → (pl = bw_end (gw g t) k p0) → ∀ ls : Array Slot, lv_has ls 6 [(0, .ref mo), (1, .int (iI (t : Int))), (2, .int (iI p0)), (3, .int (iI pl)), (4, .int (iI (k : Int)))] → W p l e R s m args below meth cd s.heap [] 0 0 Q (F0 m 5 ls []) := by
    intro N
    induction N with
    | zero => intro k pl hN; exact absurd hN (by omega)
    | succ N ih =>
      intro k pl hN hk hpl  ls hl
      have ih5 := ih
      refine lv_iload hx hb d_M_endOf_5 (lv_at hl 4 rfl) ?_
      refine lv_aload_n hx hb d_M_endOf_7 rfl (lv_at hl 0 rfl) ?_
      refine hp_get (C := R_M) (T := F_M) (N := 19) (v := .ref (mo + 2)) hx hb hG la_M hown hK.1 hm rfl 2 (by decide) (hG _ fl_M_13) (fun _ h9 => h9) rfl d_M_endOf_8 ?_
      refine lv_iload_n hx hb d_M_endOf_11 rfl (lv_at hl 1 rfl) ?_
      refine hp_iald hx hb hK.1 0 hsz rfl d_M_endOf_12 (by omega) t (by omega) (by omega) ?_
      refine hp_icmp_ge (tgt := 62) hx hb d_M_endOf_13 (by decide) (by unfold iR; omega) (by unfold iR; omega) (fun c13 => ?_) (fun c13 => ?_)
      · skip
        refine lv_iload_n hx hb d_M_endOf_62 rfl (lv_at hl 3 rfl) ?_
        rw [hQ]
        refine hp_iretS hx hb hrt hlocks d_M_endOf_63 ?_
        have e : k = c t := by omega
        rw [hpl, e]
      · skip
        have hk2 := hbt k
        have hk3 := bw_end_small hbt p0 k
        rw [← hpl] at hk3
        refine lv_aload_n hx hb d_M_endOf_16 rfl (lv_at hl 0 rfl) ?_
        refine lv_iload_n hx hb d_M_endOf_17 rfl (lv_at hl 1 rfl) ?_
        refine lv_iload hx hb d_M_endOf_18 (lv_at hl 4 rfl) ?_
        refine hp_callS (W.runV (As := [.int (iI (t : Int)), .int (iI (k : Int))]) (rest := []) ⟨hx, hb, hml, hown, hG⟩ (c_M_letterAt l E mo th md fe ps w c g kz t k (by omega)) (cwV 2 hG (hp_goodV ml_M_64 im_M_letterAt se_M_letterAt in_M co_M_letterAt) rfl rfl rfl hd_M_letterAt ⟨by rw [hRf]; exact Nat.le_of_ble_eq_true rfl, by rw [hRl]; exact Nat.le_of_ble_eq_true rfl⟩) (hp_preV (ci := 3) hp_nsn hK rfl hm ⟨hm, hsd, hsz, hwd, hkn⟩) rfl rfl hl.1 rfl (lv_room (Nat.le_of_ble_eq_true rfl)) d_M_endOf_20 ⟨by rw [hRc]; exact Nat.le_of_ble_eq_true rfl, by rw [hRs]; exact Nat.le_of_ble_eq_true rfl⟩) ?_
        refine hp_callS (W.runS (As := [.int (iI (gw g t k))]) (rest := []) ⟨hx, hb, hml, hown, hG⟩ (c_M_value l E (gw g t k) (by omega)) (cwS 1 hG (hp_goodS ml_M_68 st_M_value in_M co_M_value) rfl rfl rfl hd_M_value ⟨by rw [hRf]; exact Nat.le_of_ble_eq_true rfl, by rw [hRl]; exact Nat.le_of_ble_eq_true rfl⟩) (hp_preS hp_nsn hK trivial) rfl rfl hl.1 rfl (lv_room (Nat.le_of_ble_eq_true rfl)) d_M_endOf_23 ⟨by rw [hRc]; exact Nat.le_of_ble_eq_true rfl, by rw [hRs]; exact Nat.le_of_ble_eq_true rfl⟩) ?_
        refine lv_istore (lv' := [(5, .int (iI ((gw g t k).natAbs : Int))), (0, .ref mo), (1, .int (iI (t : Int))), (2, .int (iI p0)), (3, .int (iI pl)), (4, .int (iI (k : Int)))]) hx hb d_M_endOf_26 hl (by decide) rfl (fun ls hl => ?_)
        refine lv_iload_n hx hb d_M_endOf_28 rfl (lv_at hl 4 rfl) ?_
        refine lv_iload hx hb d_M_endOf_29 (lv_at hl 0 rfl) ?_
        refine hp_icmp_ne (tgt := 41) hx hb d_M_endOf_31 (by decide) (by unfold iR; omega) (by unfold iR; omega) (fun c31 => ?_) (fun c31 => ?_)
        · skip
          refine lv_iload_n hx hb d_M_endOf_41 rfl (lv_at hl 4 rfl) ?_
          refine lv_iload hx hb d_M_endOf_42 (lv_at hl 0 rfl) ?_
          refine hp_iconst (z := 1) hx hb d_M_endOf_44 (by rfl) ?_
          refine hp_iadd hx hb d_M_endOf_45 ?_
          refine hp_icmp_ne (tgt := 54) hx hb d_M_endOf_46 (by decide) (by unfold iR; omega) (by unfold iR; omega) (fun c46 => ?_) (fun c46 => ?_)
          · skip
            refine lv_iload_n hx hb d_M_endOf_54 rfl (lv_at hl 4 rfl) ?_
            refine lv_istore_n (lv' := [(3, .int (iI pl)), (5, .int (iI ((gw g t k).natAbs : Int))), (0, .ref mo), (1, .int (iI (t : Int))), (2, .int (iI p0)), (4, .int (iI (k : Int)))]) hx hb d_M_endOf_55 rfl hl (by decide) rfl (fun ls hl => ?_)
            refine hp_iinc (z := ((k : Int) + 1)) (lv' := [(4, .int (iI ((k : Int) + 1))), (3, .int (iI pl)), (5, .int (iI ((gw g t k).natAbs : Int))), (0, .ref mo), (1, .int (iI (t : Int))), (2, .int (iI p0))]) hx hb d_M_endOf_56 hl (k := 5) rfl (by omega) (by decide) rfl (fun ls hl => ?_)
            refine lv_goto (tgt := 5) hx hb d_M_endOf_59 (by decide) ?_
            exact ih5  (k + 1) pl (by omega) (by omega) (by simp only [bw_end, bw_stp, ← hpl]; split <;> (try split) <;> omega) ls (lv_sub hl [3, 4, 5, 1, 0] rfl)
          · skip
            refine lv_iload hx hb d_M_endOf_49 (lv_at hl 0 rfl) ?_
            refine lv_goto (tgt := 55) hx hb d_M_endOf_51 (by decide) ?_
            refine lv_istore_n (lv' := [(3, .int (iI ((gw g t k).natAbs : Int))), (5, .int (iI ((gw g t k).natAbs : Int))), (0, .ref mo), (1, .int (iI (t : Int))), (2, .int (iI p0)), (4, .int (iI (k : Int)))]) hx hb d_M_endOf_55 rfl hl (by decide) rfl (fun ls hl => ?_)
            refine hp_iinc (z := ((k : Int) + 1)) (lv' := [(4, .int (iI ((k : Int) + 1))), (3, .int (iI ((gw g t k).natAbs : Int))), (5, .int (iI ((gw g t k).natAbs : Int))), (0, .ref mo), (1, .int (iI (t : Int))), (2, .int (iI p0))]) hx hb d_M_endOf_56 hl (k := 5) rfl (by omega) (by decide) rfl (fun ls hl => ?_)
            refine lv_goto (tgt := 5) hx hb d_M_endOf_59 (by decide) ?_
            exact ih5  (k + 1) ((gw g t k).natAbs : Int) (by omega) (by omega) (by simp only [bw_end, bw_stp, ← hpl]; split <;> (try split) <;> omega) ls (lv_sub hl [3, 4, 5, 1, 0] rfl)
        · skip
          refine lv_iload hx hb d_M_endOf_34 (lv_at hl 0 rfl) ?_
          refine hp_iconst (z := 1) hx hb d_M_endOf_36 (by rfl) ?_
          refine hp_iadd hx hb d_M_endOf_37 ?_
          refine lv_goto (tgt := 55) hx hb d_M_endOf_38 (by decide) ?_
          refine lv_istore_n (lv' := [(3, .int (iI (((gw g t k).natAbs : Int) + 1))), (5, .int (iI ((gw g t k).natAbs : Int))), (0, .ref mo), (1, .int (iI (t : Int))), (2, .int (iI p0)), (4, .int (iI (k : Int)))]) hx hb d_M_endOf_55 rfl hl (by decide) rfl (fun ls hl => ?_)
          refine hp_iinc (z := ((k : Int) + 1)) (lv' := [(4, .int (iI ((k : Int) + 1))), (3, .int (iI (((gw g t k).natAbs : Int) + 1))), (5, .int (iI ((gw g t k).natAbs : Int))), (0, .ref mo), (1, .int (iI (t : Int))), (2, .int (iI p0))]) hx hb d_M_endOf_56 hl (k := 5) rfl (by omega) (by decide) rfl (fun ls hl => ?_)
          refine lv_goto (tgt := 5) hx hb d_M_endOf_59 (by decide) ?_
          exact ih5  (k + 1) (((gw g t k).natAbs : Int) + 1) (by omega) (by omega) (by simp only [bw_end, bw_stp, ← hpl]; split <;> (try split) <;> omega) ls (lv_sub hl [3, 4, 5, 1, 0] rfl)
  exact L5 (c t - 0 + 1) 0 p0 (by omega) (by omega) (by rfl) ls (lv_sub hl [2, 3, 4, 1, 0] rfl)

set_option maxHeartbeats 4000000 in
set_option maxRecDepth 100000 in
/-- end(s, p) -/
theorem c_M_end (l : Launch) (E : hp_E) (mo : Nat) (th md fe ps : Int) (w c : Nat → Nat) (g : Nat → Int) (kz : Nat → Bool) (s0 p0 : Int) (hs0 : iR s0) (hp0 : iR p0) (hbd : bd g) (hvm : ∀ i, i < 4 → 1 ≤ w i ∧ w i ≤ 8 ∧ c i ≤ 32) : Met l y_M_end (Cond.code y_M_end b_M_end 3 (some .int) :: G0) ({ frames := 2, cells := 0, slots := 0, locals := 47 }) (hp_P E [.ref mo, .int (iI s0), .int (iI p0)] (fun H => mW E H mo th md fe ps w c g kz)) (hp_Si (if 0 ≤ s0 ∧ s0 < 4 ∧ 1 ≤ p0 ∧ p0 ≤ (w s0.toNat : Int) then bw_end (gw g s0.toNat) (c s0.toNat) p0 else 0)) 0 0 (fun _ => False) := by
  refine Met.ofW (cc := b_M_end) (maxL := 3) (ret := some .int) (by decide) rfl ?_
  intro p e s m args below meth cd s₁ Bd hml hv
  obtain ⟨hargs, hB, hK⟩ := hv
  have hx := Bd.exec
  have hb := Bd.bytes
  have hrt := Bd.returns
  have hts := atoms_spec (ws := Cond.code y_M_end b_M_end 3 (some .int) :: G0) Bd.pre
  have hG : ∀ w ∈ G0, w.before args s = true := fun w h => hts w (List.mem_cons_of_mem _ h)
  have hown : s.vm.findClass R_M = some m.cls := findClass_of_methodNamed Bd.named
  have hlocks := Bd.notSynchronized
  have hl := lv_entry ([.ref mo, .int (iI s0), .int (iI p0)]) (n := 3) (Nat.le_of_ble_eq_true rfl)
  rw [show entryFrame m args 3 = entryFrame m ([.ref mo, .int (iI s0), .int (iI p0)] : List Value).toArray 3 from by rw [hargs]]
  rw [lg_entry_eq]
  generalize (lg_sl ([.ref mo, .int (iI s0), .int (iI p0)]) ++ List.replicate (3 - (lg_sl ([.ref mo, .int (iI s0), .int (iI p0)])).length) Slot.unset).toArray = ls at hl ⊢
  have hl : lv_has ls 3 [(0, .ref mo), (1, .int (iI s0)), (2, .int (iI p0))] := hl
  obtain ⟨R, hR⟩ : ∃ R, R = (headSpec (Cond.code y_M_end b_M_end 3 (some .int) :: G0) { frames := 2, cells := 0, slots := 0, locals := 47 }).room := ⟨_, rfl⟩
  rw [← hR]
  have hRf : R.frames = 2 := by rw [hR]; rfl
  have hRl : R.locals = 47 := by rw [hR]; rfl
  have hRc : R.cells = 0 := by rw [hR]; rfl
  have hRs : R.slots = 0 := by rw [hR]; rfl
  obtain ⟨Q, hQ⟩ : ∃ Q, Q = MQ below (hp_Si (if 0 ≤ s0 ∧ s0 < 4 ∧ 1 ≤ p0 ∧ p0 ≤ (w s0.toNat : Int) then bw_end (gw g s0.toNat) (c s0.toNat) p0 else 0)) args s 0 0 (fun _ => False) := ⟨_, rfl⟩
  rw [← hQ]
  obtain ⟨hm, hsd, hsz, hwd, hkn⟩ := hB
  refine lv_iload_n hx hb d_M_end_0 rfl (lv_at hl 1 rfl) ?_
  refine hp_callS (W.runS (As := [.int (iI s0)]) (rest := []) ⟨hx, hb, hml, hown, hG⟩ (c_M_isSlot l E s0 (by unfold iR at *; omega)) (cwS 1 hG (hp_goodS ml_M_60 st_M_isSlot in_M co_M_isSlot) rfl rfl rfl hd_M_isSlot ⟨by rw [hRf]; exact Nat.le_of_ble_eq_true rfl, by rw [hRl]; exact Nat.le_of_ble_eq_true rfl⟩) (hp_preS hp_nsn hK trivial) rfl rfl hl.1 rfl (lv_room (Nat.le_of_ble_eq_true rfl)) d_M_end_1 ⟨by rw [hRc]; exact Nat.le_of_ble_eq_true rfl, by rw [hRs]; exact Nat.le_of_ble_eq_true rfl⟩) ?_
  refine hp_ifb_eq (tgt := 22) hx hb d_M_end_4 (by decide) (fun c4 => ?_) (fun c4 => ?_)
  · skip
    have c4 := of_decide_eq_false c4
    refine hp_iconst (z := 0) hx hb d_M_end_22 (by rfl) ?_
    refine lv_goto (tgt := 32) hx hb d_M_end_23 (by decide) ?_
    rw [hQ]
    refine hp_iretS hx hb hrt hlocks d_M_end_32 ?_
    first | (rw [if_neg (by omega)]) | (rw [Int.toNat_natCast, if_neg (by omega)]) | (rw [Int.toNat_natCast, if_pos (by omega)])
  · skip
    have c4 := of_decide_eq_true c4
    obtain ⟨t, rfl⟩ : ∃ q : Nat, s0 = (q : Int) := ⟨s0.toNat, by omega⟩
    have hvt := hvm t (by omega)
    refine lv_iload_n hx hb d_M_end_7 rfl (lv_at hl 2 rfl) ?_
    refine hp_iconst (z := 1) hx hb d_M_end_8 (by rfl) ?_
    refine hp_icmp_lt (tgt := 22) hx hb d_M_end_9 (by decide) (by unfold iR at *; omega) (by unfold iR at *; omega) (fun c9 => ?_) (fun c9 => ?_)
    · skip
      refine hp_iconst (z := 0) hx hb d_M_end_22 (by rfl) ?_
      refine lv_goto (tgt := 32) hx hb d_M_end_23 (by decide) ?_
      rw [hQ]
      refine hp_iretS hx hb hrt hlocks d_M_end_32 ?_
      first | (rw [if_neg (by omega)]) | (rw [Int.toNat_natCast, if_neg (by omega)]) | (rw [Int.toNat_natCast, if_pos (by omega)])
    · skip
      refine lv_iload_n hx hb d_M_end_12 rfl (lv_at hl 2 rfl) ?_
      refine lv_aload_n hx hb d_M_end_13 rfl (lv_at hl 0 rfl) ?_
      refine hp_get (C := R_M) (T := F_M) (N := 19) (v := .ref (mo + 1)) hx hb hG la_M hown hK.1 hm rfl 1 (by decide) (hG _ fl_M_7) (fun _ h9 => h9) rfl d_M_end_14 ?_
      refine lv_iload_n hx hb d_M_end_17 rfl (lv_at hl 1 rfl) ?_
      refine hp_iald hx hb hK.1 0 hsd rfl d_M_end_18 (by omega) t (by omega) (by omega) ?_
      refine hp_icmp_le (tgt := 26) hx hb d_M_end_19 (by decide) (by unfold iR at *; omega) (by unfold iR at *; omega) (fun c19 => ?_) (fun c19 => ?_)
      · skip
        refine lv_aload_n hx hb d_M_end_26 rfl (lv_at hl 0 rfl) ?_
        refine lv_iload_n hx hb d_M_end_27 rfl (lv_at hl 1 rfl) ?_
        refine lv_iload_n hx hb d_M_end_28 rfl (lv_at hl 2 rfl) ?_
        refine hp_callS (W.runV (As := [.int (iI (t : Int)), .int (iI p0)]) (rest := []) ⟨hx, hb, hml, hown, hG⟩ (c_M_endOf l E mo th md fe ps w c g kz t (by omega) (by omega) hbd p0 (by omega)) (cwV 2 hG (hp_goodV ml_M_72 im_M_endOf se_M_endOf in_M co_M_endOf) rfl rfl rfl hd_M_endOf ⟨by rw [hRf]; exact Nat.le_of_ble_eq_true rfl, by rw [hRl]; exact Nat.le_of_ble_eq_true rfl⟩) (hp_preV (ci := 3) hp_nsn hK rfl hm ⟨hm, hsd, hsz, hwd, hkn⟩) rfl rfl hl.1 rfl (lv_room (Nat.le_of_ble_eq_true rfl)) d_M_end_29 ⟨by rw [hRc]; exact Nat.le_of_ble_eq_true rfl, by rw [hRs]; exact Nat.le_of_ble_eq_true rfl⟩) ?_
        rw [hQ]
        refine hp_iretS hx hb hrt hlocks d_M_end_32 ?_
        first | (rw [if_neg (by omega)]) | (rw [Int.toNat_natCast, if_neg (by omega)]) | (rw [Int.toNat_natCast, if_pos (by omega)])
      · skip
        refine hp_iconst (z := 0) hx hb d_M_end_22 (by rfl) ?_
        refine lv_goto (tgt := 32) hx hb d_M_end_23 (by decide) ?_
        rw [hQ]
        refine hp_iretS hx hb hrt hlocks d_M_end_32 ?_
        first | (rw [if_neg (by omega)]) | (rw [Int.toNat_natCast, if_neg (by omega)]) | (rw [Int.toNat_natCast, if_pos (by omega)])

set_option maxHeartbeats 4000000 in
set_option maxRecDepth 100000 in
/-- signs(s) -/
theorem c_M_signs (l : Launch) (E : hp_E) (mo : Nat) (th md fe ps : Int) (w c : Nat → Nat) (g : Nat → Int) (kz : Nat → Bool) (t : Nat) (ht : t < 4) (hct : c t ≤ 32 ∧ w t ≤ 8) (hbd : bd g) (h0 : ∀ j, j < c t → gw g t j ≠ 0) : Met l y_M_signs (Cond.code y_M_signs b_M_signs 4 (some .int) :: G0) ({ frames := 1, cells := 0, slots := 0, locals := 22 }) (hp_P E [.ref mo, .int (iI (t : Int))] (fun H => mW E H mo th md fe ps w c g kz)) (hp_Si (bw_sum (gw g t) (c t))) 0 0 (fun _ => False) := by
  refine Met.ofW (cc := b_M_signs) (maxL := 4) (ret := some .int) (by decide) rfl ?_
  intro p e s m args below meth cd s₁ Bd hml hv
  obtain ⟨hargs, hB, hK⟩ := hv
  have hx := Bd.exec
  have hb := Bd.bytes
  have hrt := Bd.returns
  have hts := atoms_spec (ws := Cond.code y_M_signs b_M_signs 4 (some .int) :: G0) Bd.pre
  have hG : ∀ w ∈ G0, w.before args s = true := fun w h => hts w (List.mem_cons_of_mem _ h)
  have hown : s.vm.findClass R_M = some m.cls := findClass_of_methodNamed Bd.named
  have hlocks := Bd.notSynchronized
  have hl := lv_entry ([.ref mo, .int (iI (t : Int))]) (n := 4) (Nat.le_of_ble_eq_true rfl)
  rw [show entryFrame m args 4 = entryFrame m ([.ref mo, .int (iI (t : Int))] : List Value).toArray 4 from by rw [hargs]]
  rw [lg_entry_eq]
  generalize (lg_sl ([.ref mo, .int (iI (t : Int))]) ++ List.replicate (4 - (lg_sl ([.ref mo, .int (iI (t : Int))])).length) Slot.unset).toArray = ls at hl ⊢
  have hl : lv_has ls 4 [(0, .ref mo), (1, .int (iI (t : Int)))] := hl
  obtain ⟨R, hR⟩ : ∃ R, R = (headSpec (Cond.code y_M_signs b_M_signs 4 (some .int) :: G0) { frames := 1, cells := 0, slots := 0, locals := 22 }).room := ⟨_, rfl⟩
  rw [← hR]
  have hRf : R.frames = 1 := by rw [hR]; rfl
  have hRl : R.locals = 22 := by rw [hR]; rfl
  have hRc : R.cells = 0 := by rw [hR]; rfl
  have hRs : R.slots = 0 := by rw [hR]; rfl
  obtain ⟨Q, hQ⟩ : ∃ Q, Q = MQ below (hp_Si (bw_sum (gw g t) (c t))) args s 0 0 (fun _ => False) := ⟨_, rfl⟩
  rw [← hQ]
  obtain ⟨hm, hsd, hsz, hwd, hkn⟩ := hB
  refine hp_iconst (z := 0) hx hb d_M_signs_0 (by rfl) ?_
  refine lv_istore_n (lv' := [(2, .int (iI 0)), (0, .ref mo), (1, .int (iI (t : Int)))]) hx hb d_M_signs_1 rfl hl (by decide) rfl (fun ls hl => ?_)
  refine hp_iconst (z := 0) hx hb d_M_signs_2 (by rfl) ?_
  refine lv_istore_n (lv' := [(3, .int (iI 0)), (2, .int (iI 0)), (0, .ref mo), (1, .int (iI (t : Int)))]) hx hb d_M_signs_3 rfl hl (by decide) rfl (fun ls hl => ?_)
  have L4 : ∀ (N : Nat) (k : Nat) (n : Int), c t - k < N → (k ≤ c t) → (n = bw_sum (gw g t) k) → ∀ ls : Array Slot, lv_has ls 4 [(0, .ref mo), (1, .int (iI (t : Int))), (2, .int (iI n)), (3, .int (iI (k : Int)))] → W p l e R s m args below meth cd s.heap [] 0 0 Q (F0 m 4 ls []) := by
    intro N
    induction N with
    | zero => intro k n hN; exact absurd hN (by omega)
    | succ N ih =>
      intro k n hN hk hn  ls hl
      have ih4 := ih
      refine lv_iload_n hx hb d_M_signs_4 rfl (lv_at hl 3 rfl) ?_
      refine lv_aload_n hx hb d_M_signs_5 rfl (lv_at hl 0 rfl) ?_
      refine hp_get (C := R_M) (T := F_M) (N := 19) (v := .ref (mo + 2)) hx hb hG la_M hown hK.1 hm rfl 2 (by decide) (hG _ fl_M_13) (fun _ h9 => h9) rfl d_M_signs_6 ?_
      refine lv_iload_n hx hb d_M_signs_9 rfl (lv_at hl 1 rfl) ?_
      refine hp_iald hx hb hK.1 0 hsz rfl d_M_signs_10 (by omega) t (by omega) (by omega) ?_
      refine hp_icmp_ge (tgt := 37) hx hb d_M_signs_11 (by decide) (by unfold iR; omega) (by unfold iR; omega) (fun c11 => ?_) (fun c11 => ?_)
      · skip
        refine lv_iload_n hx hb d_M_signs_37 rfl (lv_at hl 2 rfl) ?_
        rw [hQ]
        refine hp_iretS hx hb hrt hlocks d_M_signs_38 ?_
        have e : k = c t := by omega
        rw [hn, e]
      · skip
        have hk2 := gw_bd hbd t k
        have hk3 := h0 k (by omega)
        refine lv_iload_n hx hb d_M_signs_14 rfl (lv_at hl 2 rfl) ?_
        refine lv_aload_n hx hb d_M_signs_15 rfl (lv_at hl 0 rfl) ?_
        refine lv_iload_n hx hb d_M_signs_16 rfl (lv_at hl 1 rfl) ?_
        refine lv_iload_n hx hb d_M_signs_17 rfl (lv_at hl 3 rfl) ?_
        refine hp_callS (W.runV (As := [.int (iI (t : Int)), .int (iI (k : Int))]) (rest := [.int (iI n)]) ⟨hx, hb, hml, hown, hG⟩ (c_M_letterAt l E mo th md fe ps w c g kz t k (by omega)) (cwV 2 hG (hp_goodV ml_M_64 im_M_letterAt se_M_letterAt in_M co_M_letterAt) rfl rfl rfl hd_M_letterAt ⟨by rw [hRf]; exact Nat.le_of_ble_eq_true rfl, by rw [hRl]; exact Nat.le_of_ble_eq_true rfl⟩) (hp_preV (ci := 3) hp_nsn hK rfl hm ⟨hm, hsd, hsz, hwd, hkn⟩) rfl rfl hl.1 rfl (lv_room (Nat.le_of_ble_eq_true rfl)) d_M_signs_18 ⟨by rw [hRc]; exact Nat.le_of_ble_eq_true rfl, by rw [hRs]; exact Nat.le_of_ble_eq_true rfl⟩) ?_
        refine hp_if_le (tgt := 28) hx hb d_M_signs_21 (by decide) (by unfold iR; omega) (fun c21 => ?_) (fun c21 => ?_)
        · skip
          refine hp_iconst (z := (-1)) hx hb d_M_signs_28 (by rfl) ?_
          refine hp_iadd hx hb d_M_signs_29 ?_
          refine lv_istore_n (lv' := [(2, .int (iI (n + (-1)))), (0, .ref mo), (1, .int (iI (t : Int))), (3, .int (iI (k : Int)))]) hx hb d_M_signs_30 rfl hl (by decide) rfl (fun ls hl => ?_)
          refine hp_iinc (z := ((k : Int) + 1)) (lv' := [(3, .int (iI ((k : Int) + 1))), (2, .int (iI (n + (-1)))), (0, .ref mo), (1, .int (iI (t : Int)))]) hx hb d_M_signs_31 hl (k := 3) rfl (by omega) (by decide) rfl (fun ls hl => ?_)
          refine lv_goto (tgt := 4) hx hb d_M_signs_34 (by decide) ?_
          exact ih4  (k + 1) (n + (-1)) (by omega) (by omega) (by simp only [bw_sum, ← hn]; unfold bw_sgn; split <;> (try split) <;> omega) ls (lv_sub hl [2, 3, 1, 0] rfl)
        · skip
          refine hp_iconst (z := 1) hx hb d_M_signs_24 (by rfl) ?_
          refine lv_goto (tgt := 29) hx hb d_M_signs_25 (by decide) ?_
          refine hp_iadd hx hb d_M_signs_29 ?_
          refine lv_istore_n (lv' := [(2, .int (iI (n + 1))), (0, .ref mo), (1, .int (iI (t : Int))), (3, .int (iI (k : Int)))]) hx hb d_M_signs_30 rfl hl (by decide) rfl (fun ls hl => ?_)
          refine hp_iinc (z := ((k : Int) + 1)) (lv' := [(3, .int (iI ((k : Int) + 1))), (2, .int (iI (n + 1))), (0, .ref mo), (1, .int (iI (t : Int)))]) hx hb d_M_signs_31 hl (k := 3) rfl (by omega) (by decide) rfl (fun ls hl => ?_)
          refine lv_goto (tgt := 4) hx hb d_M_signs_34 (by decide) ?_
          exact ih4  (k + 1) (n + 1) (by omega) (by omega) (by simp only [bw_sum, ← hn]; unfold bw_sgn; split <;> (try split) <;> omega) ls (lv_sub hl [2, 3, 1, 0] rfl)
  exact L4 (c t - 0 + 1) 0 0 (by omega) (by omega) (by rfl) ls (lv_sub hl [2, 3, 1, 0] rfl)

set_option maxHeartbeats 4000000 in
set_option maxRecDepth 100000 in
/-- untouched(s) -/
theorem c_M_untouched (l : Launch) (E : hp_E) (mo : Nat) (th md fe ps : Int) (w c : Nat → Nat) (g : Nat → Int) (kz : Nat → Bool) (t : Nat) (ht : t < 4) (hct : c t ≤ 32 ∧ w t ≤ 8) (hbd : bd g) : Met l y_M_untouched (Cond.code y_M_untouched b_M_untouched 6 (some .int) :: G0) ({ frames := 1, cells := 0, slots := 0, locals := 22 }) (hp_P E [.ref mo, .int (iI (t : Int))] (fun H => mW E H mo th md fe ps w c g kz)) (hp_Si (bw_cir (gw g t) (c t) (w t))) 0 0 (fun _ => False) := by
  refine Met.ofW (cc := b_M_untouched) (maxL := 6) (ret := some .int) (by decide) rfl ?_
  intro p e s m args below meth cd s₁ Bd hml hv
  obtain ⟨hargs, hB, hK⟩ := hv
  have hx := Bd.exec
  have hb := Bd.bytes
  have hrt := Bd.returns
  have hts := atoms_spec (ws := Cond.code y_M_untouched b_M_untouched 6 (some .int) :: G0) Bd.pre
  have hG : ∀ w ∈ G0, w.before args s = true := fun w h => hts w (List.mem_cons_of_mem _ h)
  have hown : s.vm.findClass R_M = some m.cls := findClass_of_methodNamed Bd.named
  have hlocks := Bd.notSynchronized
  have hl := lv_entry ([.ref mo, .int (iI (t : Int))]) (n := 6) (Nat.le_of_ble_eq_true rfl)
  rw [show entryFrame m args 6 = entryFrame m ([.ref mo, .int (iI (t : Int))] : List Value).toArray 6 from by rw [hargs]]
  rw [lg_entry_eq]
  generalize (lg_sl ([.ref mo, .int (iI (t : Int))]) ++ List.replicate (6 - (lg_sl ([.ref mo, .int (iI (t : Int))])).length) Slot.unset).toArray = ls at hl ⊢
  have hl : lv_has ls 6 [(0, .ref mo), (1, .int (iI (t : Int)))] := hl
  obtain ⟨R, hR⟩ : ∃ R, R = (headSpec (Cond.code y_M_untouched b_M_untouched 6 (some .int) :: G0) { frames := 1, cells := 0, slots := 0, locals := 22 }).room := ⟨_, rfl⟩
  rw [← hR]
  have hRf : R.frames = 1 := by rw [hR]; rfl
  have hRl : R.locals = 22 := by rw [hR]; rfl
  have hRc : R.cells = 0 := by rw [hR]; rfl
  have hRs : R.slots = 0 := by rw [hR]; rfl
  obtain ⟨Q, hQ⟩ : ∃ Q, Q = MQ below (hp_Si (bw_cir (gw g t) (c t) (w t))) args s 0 0 (fun _ => False) := ⟨_, rfl⟩
  rw [← hQ]
  obtain ⟨hm, hsd, hsz, hwd, hkn⟩ := hB
  refine hp_iconst (z := 0) hx hb d_M_untouched_0 (by rfl) ?_
  refine lv_istore_n (lv' := [(2, .int (iI 0)), (0, .ref mo), (1, .int (iI (t : Int)))]) hx hb d_M_untouched_1 rfl hl (by decide) rfl (fun ls hl => ?_)
  refine hp_iconst (z := 1) hx hb d_M_untouched_2 (by rfl) ?_
  refine lv_istore_n (lv' := [(3, .int (iI 1)), (2, .int (iI 0)), (0, .ref mo), (1, .int (iI (t : Int)))]) hx hb d_M_untouched_3 rfl hl (by decide) rfl (fun ls hl => ?_)
  have L4 : ∀ (N : Nat) (q : Nat) (n : Int), w t - q < N → (q ≤ w t) → (n = bw_cir (gw g t) (c t) q) → ∀ ls : Array Slot, lv_has ls 6 [(0, .ref mo), (1, .int (iI (t : Int))), (2, .int (iI n)), (3, .int (iI ((q : Int) + 1)))] → W p l e R s m args below meth cd s.heap [] 0 0 Q (F0 m 4 ls []) := by
    intro N
    induction N with
    | zero => intro q n hN; exact absurd hN (by omega)
    | succ N ih =>
      intro q n hN hq hn  ls hl
      have ih4 := ih
      have hrn := bw_cir_rng (gw g t) (c t) q
      refine lv_iload_n hx hb d_M_untouched_4 rfl (lv_at hl 3 rfl) ?_
      refine lv_aload_n hx hb d_M_untouched_5 rfl (lv_at hl 0 rfl) ?_
      refine hp_get (C := R_M) (T := F_M) (N := 19) (v := .ref (mo + 1)) hx hb hG la_M hown hK.1 hm rfl 1 (by decide) (hG _ fl_M_7) (fun _ h9 => h9) rfl d_M_untouched_6 ?_
      refine lv_iload_n hx hb d_M_untouched_9 rfl (lv_at hl 1 rfl) ?_
      refine hp_iald hx hb hK.1 0 hsd rfl d_M_untouched_10 (by omega) t (by omega) (by omega) ?_
      refine hp_icmp_gt (tgt := 98) hx hb d_M_untouched_11 (by decide) (by unfold iR; omega) (by unfold iR; omega) (fun c11 => ?_) (fun c11 => ?_)
      · skip
        refine lv_iload_n hx hb d_M_untouched_98 rfl (lv_at hl 2 rfl) ?_
        rw [hQ]
        refine hp_iretS hx hb hrt hlocks d_M_untouched_99 ?_
        have e : q = w t := by omega
        rw [hn, e]
      · skip
        refine hp_iconst (z := 1) hx hb d_M_untouched_14 (by rfl) ?_
        refine lv_istore (lv' := [(4, .int (iI 1)), (0, .ref mo), (1, .int (iI (t : Int))), (2, .int (iI n)), (3, .int (iI ((q : Int) + 1)))]) hx hb d_M_untouched_15 hl (by decide) rfl (fun ls hl => ?_)
        refine hp_iconst (z := 0) hx hb d_M_untouched_17 (by rfl) ?_
        refine lv_istore (lv' := [(5, .int (iI 0)), (4, .int (iI 1)), (0, .ref mo), (1, .int (iI (t : Int))), (2, .int (iI n)), (3, .int (iI ((q : Int) + 1)))]) hx hb d_M_untouched_18 hl (by decide) rfl (fun ls hl => ?_)
        have L20 : ∀ (N : Nat) (k : Nat) (is : Bool), c t - k < N → (k ≤ c t) → (is = !bw_tf (gw g t) ((q : Int) + 1) 0 k) → ∀ ls : Array Slot, lv_has ls 6 [(0, .ref mo), (1, .int (iI (t : Int))), (2, .int (iI n)), (3, .int (iI ((q : Int) + 1))), (4, .int (iI (bI is))), (5, .int (iI (k : Int)))] → W p l e R s m args below meth cd s.heap [] 0 0 Q (F0 m 20 ls []) := by
          intro N
          induction N with
          | zero => intro k is hN; exact absurd hN (by omega)
          | succ N ih =>
            intro k is hN hk his  ls hl
            have ih20 := ih
            refine lv_iload hx hb d_M_untouched_20 (lv_at hl 5 rfl) ?_
            refine lv_aload_n hx hb d_M_untouched_22 rfl (lv_at hl 0 rfl) ?_
            refine hp_get (C := R_M) (T := F_M) (N := 19) (v := .ref (mo + 2)) hx hb hG la_M hown hK.1 hm rfl 2 (by decide) (hG _ fl_M_13) (fun _ h9 => h9) rfl d_M_untouched_23 ?_
            refine lv_iload_n hx hb d_M_untouched_26 rfl (lv_at hl 1 rfl) ?_
            refine hp_iald hx hb hK.1 0 hsz rfl d_M_untouched_27 (by omega) t (by omega) (by omega) ?_
            refine hp_icmp_ge (tgt := 79) hx hb d_M_untouched_28 (by decide) (by unfold iR; omega) (by unfold iR; omega) (fun c28 => ?_) (fun c28 => ?_)
            · skip
              have ek : k = c t := by omega
              rw [ek] at his
              refine lv_iload_n hx hb d_M_untouched_79 rfl (lv_at hl 2 rfl) ?_
              refine lv_iload hx hb d_M_untouched_80 (lv_at hl 4 rfl) ?_
              refine hp_ifb_eq (tgt := 89) hx hb d_M_untouched_82 (by decide) (fun c82 => ?_) (fun c82 => ?_)
              · skip
                refine hp_iconst (z := 0) hx hb d_M_untouched_89 (by rfl) ?_
                refine hp_iadd hx hb d_M_untouched_90 ?_
                have hfin : bw_tf (gw g t) ((q : Int) + 1) 0 (c t) = true := by rw [c82] at his; first | exact bw_un0 his | exact bw_un1 his
                refine lv_istore_n (lv' := [(2, .int (iI (n + 0))), (0, .ref mo), (1, .int (iI (t : Int))), (3, .int (iI ((q : Int) + 1))), (4, .int (iI (bI is))), (5, .int (iI (k : Int)))]) hx hb d_M_untouched_91 rfl hl (by decide) rfl (fun ls hl => ?_)
                refine hp_iinc (z := (((q : Int) + 1) + 1)) (lv' := [(3, .int (iI (((q : Int) + 1) + 1))), (2, .int (iI (n + 0))), (0, .ref mo), (1, .int (iI (t : Int))), (4, .int (iI (bI is))), (5, .int (iI (k : Int)))]) hx hb d_M_untouched_92 hl (k := 3) rfl (by omega) (by decide) rfl (fun ls hl => ?_)
                refine lv_goto (tgt := 4) hx hb d_M_untouched_95 (by decide) ?_
                exact ih4  (q + 1) (n + 0) (by omega) (by omega) (by simp only [bw_cir]; rw [show (((q + 1 : Nat) : Int)) = (q : Int) + 1 by omega, hfin]; simp [hn]) ls (lv_sub hl [2, 3, 1, 0] rfl)
              · skip
                refine hp_iconst (z := 1) hx hb d_M_untouched_85 (by rfl) ?_
                refine lv_goto (tgt := 90) hx hb d_M_untouched_86 (by decide) ?_
                refine hp_iadd hx hb d_M_untouched_90 ?_
                have hfin : bw_tf (gw g t) ((q : Int) + 1) 0 (c t) = false := by rw [c82] at his; first | exact bw_un0 his | exact bw_un1 his
                refine lv_istore_n (lv' := [(2, .int (iI (n + 1))), (0, .ref mo), (1, .int (iI (t : Int))), (3, .int (iI ((q : Int) + 1))), (4, .int (iI (bI is))), (5, .int (iI (k : Int)))]) hx hb d_M_untouched_91 rfl hl (by decide) rfl (fun ls hl => ?_)
                refine hp_iinc (z := (((q : Int) + 1) + 1)) (lv' := [(3, .int (iI (((q : Int) + 1) + 1))), (2, .int (iI (n + 1))), (0, .ref mo), (1, .int (iI (t : Int))), (4, .int (iI (bI is))), (5, .int (iI (k : Int)))]) hx hb d_M_untouched_92 hl (k := 3) rfl (by omega) (by decide) rfl (fun ls hl => ?_)
                refine lv_goto (tgt := 4) hx hb d_M_untouched_95 (by decide) ?_
                exact ih4  (q + 1) (n + 1) (by omega) (by omega) (by simp only [bw_cir]; rw [show (((q + 1 : Nat) : Int)) = (q : Int) + 1 by omega, hfin]; simp [hn]) ls (lv_sub hl [2, 3, 1, 0] rfl)
            · skip
              refine lv_iload hx hb d_M_untouched_31 (lv_at hl 4 rfl) ?_
              refine hp_ifb_eq (tgt := 70) hx hb d_M_untouched_33 (by decide) (fun c33 => ?_) (fun c33 => ?_)
              · skip
                refine hp_iconst (z := 0) hx hb d_M_untouched_70 (by rfl) ?_
                refine lv_istore (lv' := [(4, .int (iI 0)), (0, .ref mo), (1, .int (iI (t : Int))), (2, .int (iI n)), (3, .int (iI ((q : Int) + 1))), (5, .int (iI (k : Int)))]) hx hb d_M_untouched_71 hl (by decide) rfl (fun ls hl => ?_)
                refine hp_iinc (z := ((k : Int) + 1)) (lv' := [(5, .int (iI ((k : Int) + 1))), (4, .int (iI 0)), (0, .ref mo), (1, .int (iI (t : Int))), (2, .int (iI n)), (3, .int (iI ((q : Int) + 1)))]) hx hb d_M_untouched_73 hl (k := 5) rfl (by omega) (by decide) rfl (fun ls hl => ?_)
                refine lv_goto (tgt := 20) hx hb d_M_untouched_76 (by decide) ?_
                exact ih20  (k + 1) false (by omega) (by omega) (by rw [bw_tf_s]; rw [c33] at his; first | (rw [bw_un0 his]; rfl) | (rw [bw_un1 his, bw_t_t (by omega)]; rfl) | (rw [bw_un1 his, bw_t_f (by omega)]; rfl)) ls (lv_sub hl [2, 3, 4, 5, 1, 0] rfl)
              · skip
                have hk2 := gw_bd hbd t k
                refine lv_aload_n hx hb d_M_untouched_36 rfl (lv_at hl 0 rfl) ?_
                refine lv_iload_n hx hb d_M_untouched_37 rfl (lv_at hl 1 rfl) ?_
                refine lv_iload hx hb d_M_untouched_38 (lv_at hl 5 rfl) ?_
                refine hp_callS (W.runV (As := [.int (iI (t : Int)), .int (iI (k : Int))]) (rest := []) ⟨hx, hb, hml, hown, hG⟩ (c_M_letterAt l E mo th md fe ps w c g kz t k (by omega)) (cwV 2 hG (hp_goodV ml_M_64 im_M_letterAt se_M_letterAt in_M co_M_letterAt) rfl rfl rfl hd_M_letterAt ⟨by rw [hRf]; exact Nat.le_of_ble_eq_true rfl, by rw [hRl]; exact Nat.le_of_ble_eq_true rfl⟩) (hp_preV (ci := 3) hp_nsn hK rfl hm ⟨hm, hsd, hsz, hwd, hkn⟩) rfl rfl hl.1 rfl (lv_room (Nat.le_of_ble_eq_true rfl)) d_M_untouched_40 ⟨by rw [hRc]; exact Nat.le_of_ble_eq_true rfl, by rw [hRs]; exact Nat.le_of_ble_eq_true rfl⟩) ?_
                refine hp_callS (W.runS (As := [.int (iI (gw g t k))]) (rest := []) ⟨hx, hb, hml, hown, hG⟩ (c_M_value l E (gw g t k) (by omega)) (cwS 1 hG (hp_goodS ml_M_68 st_M_value in_M co_M_value) rfl rfl rfl hd_M_value ⟨by rw [hRf]; exact Nat.le_of_ble_eq_true rfl, by rw [hRl]; exact Nat.le_of_ble_eq_true rfl⟩) (hp_preS hp_nsn hK trivial) rfl rfl hl.1 rfl (lv_room (Nat.le_of_ble_eq_true rfl)) d_M_untouched_43 ⟨by rw [hRc]; exact Nat.le_of_ble_eq_true rfl, by rw [hRs]; exact Nat.le_of_ble_eq_true rfl⟩) ?_
                refine lv_iload_n hx hb d_M_untouched_46 rfl (lv_at hl 3 rfl) ?_
                refine hp_icmp_eq (tgt := 70) hx hb d_M_untouched_47 (by decide) (by unfold iR; omega) (by unfold iR; omega) (fun c47 => ?_) (fun c47 => ?_)
                · skip
                  refine hp_iconst (z := 0) hx hb d_M_untouched_70 (by rfl) ?_
                  refine lv_istore (lv' := [(4, .int (iI 0)), (0, .ref mo), (1, .int (iI (t : Int))), (2, .int (iI n)), (3, .int (iI ((q : Int) + 1))), (5, .int (iI (k : Int)))]) hx hb d_M_untouched_71 hl (by decide) rfl (fun ls hl => ?_)
                  refine hp_iinc (z := ((k : Int) + 1)) (lv' := [(5, .int (iI ((k : Int) + 1))), (4, .int (iI 0)), (0, .ref mo), (1, .int (iI (t : Int))), (2, .int (iI n)), (3, .int (iI ((q : Int) + 1)))]) hx hb d_M_untouched_73 hl (k := 5) rfl (by omega) (by decide) rfl (fun ls hl => ?_)
                  refine lv_goto (tgt := 20) hx hb d_M_untouched_76 (by decide) ?_
                  exact ih20  (k + 1) false (by omega) (by omega) (by rw [bw_tf_s]; rw [c33] at his; first | (rw [bw_un0 his]; rfl) | (rw [bw_un1 his, bw_t_t (by omega)]; rfl) | (rw [bw_un1 his, bw_t_f (by omega)]; rfl)) ls (lv_sub hl [2, 3, 4, 5, 1, 0] rfl)
                · skip
                  refine lv_aload_n hx hb d_M_untouched_50 rfl (lv_at hl 0 rfl) ?_
                  refine lv_iload_n hx hb d_M_untouched_51 rfl (lv_at hl 1 rfl) ?_
                  refine lv_iload hx hb d_M_untouched_52 (lv_at hl 5 rfl) ?_
                  refine hp_callS (W.runV (As := [.int (iI (t : Int)), .int (iI (k : Int))]) (rest := []) ⟨hx, hb, hml, hown, hG⟩ (c_M_letterAt l E mo th md fe ps w c g kz t k (by omega)) (cwV 2 hG (hp_goodV ml_M_64 im_M_letterAt se_M_letterAt in_M co_M_letterAt) rfl rfl rfl hd_M_letterAt ⟨by rw [hRf]; exact Nat.le_of_ble_eq_true rfl, by rw [hRl]; exact Nat.le_of_ble_eq_true rfl⟩) (hp_preV (ci := 3) hp_nsn hK rfl hm ⟨hm, hsd, hsz, hwd, hkn⟩) rfl rfl hl.1 rfl (lv_room (Nat.le_of_ble_eq_true rfl)) d_M_untouched_54 ⟨by rw [hRc]; exact Nat.le_of_ble_eq_true rfl, by rw [hRs]; exact Nat.le_of_ble_eq_true rfl⟩) ?_
                  refine hp_callS (W.runS (As := [.int (iI (gw g t k))]) (rest := []) ⟨hx, hb, hml, hown, hG⟩ (c_M_value l E (gw g t k) (by omega)) (cwS 1 hG (hp_goodS ml_M_68 st_M_value in_M co_M_value) rfl rfl rfl hd_M_value ⟨by rw [hRf]; exact Nat.le_of_ble_eq_true rfl, by rw [hRl]; exact Nat.le_of_ble_eq_true rfl⟩) (hp_preS hp_nsn hK trivial) rfl rfl hl.1 rfl (lv_room (Nat.le_of_ble_eq_true rfl)) d_M_untouched_57 ⟨by rw [hRc]; exact Nat.le_of_ble_eq_true rfl, by rw [hRs]; exact Nat.le_of_ble_eq_true rfl⟩) ?_
                  refine hp_iconst (z := 1) hx hb d_M_untouched_60 (by rfl) ?_
                  refine hp_iadd hx hb d_M_untouched_61 ?_
                  refine lv_iload_n hx hb d_M_untouched_62 rfl (lv_at hl 3 rfl) ?_
                  refine hp_icmp_eq (tgt := 70) hx hb d_M_untouched_63 (by decide) (by unfold iR; omega) (by unfold iR; omega) (fun c63 => ?_) (fun c63 => ?_)
                  · skip
                    refine hp_iconst (z := 0) hx hb d_M_untouched_70 (by rfl) ?_
                    refine lv_istore (lv' := [(4, .int (iI 0)), (0, .ref mo), (1, .int (iI (t : Int))), (2, .int (iI n)), (3, .int (iI ((q : Int) + 1))), (5, .int (iI (k : Int)))]) hx hb d_M_untouched_71 hl (by decide) rfl (fun ls hl => ?_)
                    refine hp_iinc (z := ((k : Int) + 1)) (lv' := [(5, .int (iI ((k : Int) + 1))), (4, .int (iI 0)), (0, .ref mo), (1, .int (iI (t : Int))), (2, .int (iI n)), (3, .int (iI ((q : Int) + 1)))]) hx hb d_M_untouched_73 hl (k := 5) rfl (by omega) (by decide) rfl (fun ls hl => ?_)
                    refine lv_goto (tgt := 20) hx hb d_M_untouched_76 (by decide) ?_
                    exact ih20  (k + 1) false (by omega) (by omega) (by rw [bw_tf_s]; rw [c33] at his; first | (rw [bw_un0 his]; rfl) | (rw [bw_un1 his, bw_t_t (by omega)]; rfl) | (rw [bw_un1 his, bw_t_f (by omega)]; rfl)) ls (lv_sub hl [2, 3, 4, 5, 1, 0] rfl)
                  · skip
                    refine hp_iconst (z := 1) hx hb d_M_untouched_66 (by rfl) ?_
                    refine lv_goto (tgt := 71) hx hb d_M_untouched_67 (by decide) ?_
                    refine lv_istore (lv' := [(4, .int (iI 1)), (0, .ref mo), (1, .int (iI (t : Int))), (2, .int (iI n)), (3, .int (iI ((q : Int) + 1))), (5, .int (iI (k : Int)))]) hx hb d_M_untouched_71 hl (by decide) rfl (fun ls hl => ?_)
                    refine hp_iinc (z := ((k : Int) + 1)) (lv' := [(5, .int (iI ((k : Int) + 1))), (4, .int (iI 1)), (0, .ref mo), (1, .int (iI (t : Int))), (2, .int (iI n)), (3, .int (iI ((q : Int) + 1)))]) hx hb d_M_untouched_73 hl (k := 5) rfl (by omega) (by decide) rfl (fun ls hl => ?_)
                    refine lv_goto (tgt := 20) hx hb d_M_untouched_76 (by decide) ?_
                    exact ih20  (k + 1) true (by omega) (by omega) (by rw [bw_tf_s]; rw [c33] at his; first | (rw [bw_un0 his]; rfl) | (rw [bw_un1 his, bw_t_t (by omega)]; rfl) | (rw [bw_un1 his, bw_t_f (by omega)]; rfl)) ls (lv_sub hl [2, 3, 4, 5, 1, 0] rfl)
        exact L20 (c t - 0 + 1) 0 true (by omega) (by omega) (by rfl) ls (lv_sub hl [2, 3, 4, 5, 1, 0] rfl)
  exact L4 (w t - 0 + 1) 0 0 (by omega) (by omega) (by rfl) ls (lv_sub hl [2, 3, 1, 0] rfl)
