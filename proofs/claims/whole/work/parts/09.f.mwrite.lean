set_option maxHeartbeats 4000000 in
set_option maxRecDepth 100000 in
/-- exchange(s, k) -/
theorem c_M_exchange (l : Launch) (E : hp_E) (mo : Nat) (th md fe ps : Int) (w c : Nat → Nat) (g : Nat → Int) (kz : Nat → Bool) (s0 k0 : Int) (hs0 : iR s0) (hk0 : iR k0) (hbd : bd g) (hvm : ∀ i, i < 4 → 1 ≤ w i ∧ w i ≤ 8 ∧ c i ≤ 32) : Met l y_M_exchange (Cond.code y_M_exchange b_M_exchange 6 (some .boolean) :: G0) ({ frames := 1, cells := 0, slots := 0, locals := 22 }) (hp_P E [.ref mo, .int (iI s0), .int (iI k0)] (fun H => mW E H mo th md fe ps w c g kz)) (hp_Qi (fun q => q = mo ∨ q = mo + 1 ∨ q = mo + 2 ∨ q = mo + 3 ∨ q = mo + 10) (fun r H => (r = 1 ∧ (0 ≤ s0 ∧ s0 < 4 ∧ bw_far (gw g s0.toNat) (c s0.toNat) k0) ∧ mW E H mo th md fe ps w c (hp_up (hp_up g (32 * s0.toNat + k0.toNat) (gw g s0.toNat (k0.toNat + 1))) (32 * s0.toNat + k0.toNat + 1) (gw g s0.toNat k0.toNat)) (hp_up kz s0.toNat false)) ∨ (r = 0 ∧ ¬ (0 ≤ s0 ∧ s0 < 4 ∧ bw_far (gw g s0.toNat) (c s0.toNat) k0) ∧ mW E H mo th md fe ps w c g kz))) 0 0 (fun q => q = mo ∨ q = mo + 1 ∨ q = mo + 2 ∨ q = mo + 3 ∨ q = mo + 10) := by
  refine Met.ofW (cc := b_M_exchange) (maxL := 6) (ret := some .boolean) (by decide) rfl ?_
  intro p e s m args below meth cd s₁ Bd hml hv
  obtain ⟨hargs, hB, hK⟩ := hv
  have hx := Bd.exec
  have hb := Bd.bytes
  have hrt := Bd.returns
  have hts := atoms_spec (ws := Cond.code y_M_exchange b_M_exchange 6 (some .boolean) :: G0) Bd.pre
  have hG : ∀ w ∈ G0, w.before args s = true := fun w h => hts w (List.mem_cons_of_mem _ h)
  have hown : s.vm.findClass R_M = some m.cls := findClass_of_methodNamed Bd.named
  have hlocks := Bd.notSynchronized
  have hl := lv_entry ([.ref mo, .int (iI s0), .int (iI k0)]) (n := 6) (Nat.le_of_ble_eq_true rfl)
  rw [show entryFrame m args 6 = entryFrame m ([.ref mo, .int (iI s0), .int (iI k0)] : List Value).toArray 6 from by rw [hargs]]
  rw [lg_entry_eq]
  generalize (lg_sl ([.ref mo, .int (iI s0), .int (iI k0)]) ++ List.replicate (6 - (lg_sl ([.ref mo, .int (iI s0), .int (iI k0)])).length) Slot.unset).toArray = ls at hl ⊢
  have hl : lv_has ls 6 [(0, .ref mo), (1, .int (iI s0)), (2, .int (iI k0))] := hl
  obtain ⟨R, hR⟩ : ∃ R, R = (headSpec (Cond.code y_M_exchange b_M_exchange 6 (some .boolean) :: G0) { frames := 1, cells := 0, slots := 0, locals := 22 }).room := ⟨_, rfl⟩
  rw [← hR]
  have hRf : R.frames = 1 := by rw [hR]; rfl
  have hRl : R.locals = 22 := by rw [hR]; rfl
  have hRc : R.cells = 0 := by rw [hR]; rfl
  have hRs : R.slots = 0 := by rw [hR]; rfl
  obtain ⟨Q, hQ⟩ : ∃ Q, Q = MQ below (hp_Qi (fun q => q = mo ∨ q = mo + 1 ∨ q = mo + 2 ∨ q = mo + 3 ∨ q = mo + 10) (fun r H => (r = 1 ∧ (0 ≤ s0 ∧ s0 < 4 ∧ bw_far (gw g s0.toNat) (c s0.toNat) k0) ∧ mW E H mo th md fe ps w c (hp_up (hp_up g (32 * s0.toNat + k0.toNat) (gw g s0.toNat (k0.toNat + 1))) (32 * s0.toNat + k0.toNat + 1) (gw g s0.toNat k0.toNat)) (hp_up kz s0.toNat false)) ∨ (r = 0 ∧ ¬ (0 ≤ s0 ∧ s0 < 4 ∧ bw_far (gw g s0.toNat) (c s0.toNat) k0) ∧ mW E H mo th md fe ps w c g kz))) args s 0 0 (fun q => q = mo ∨ q = mo + 1 ∨ q = mo + 2 ∨ q = mo + 3 ∨ q = mo + 10) := ⟨_, rfl⟩
  rw [← hQ]
  obtain ⟨H, hH⟩ : ∃ H, H = s.heap := ⟨_, rfl⟩
  obtain ⟨locs, hlocs⟩ : ∃ locs : List Loc, locs = [] := ⟨_, rfl⟩
  have hS : va_S (fun q => q = mo ∨ q = mo + 1 ∨ q = mo + 2 ∨ q = mo + 3 ∨ q = mo + 10) s.heap H locs := by rw [hH, hlocs]; exact va_S.rf
  have hZ : H.size = s.heap.size := by rw [hH]
  rw [← hH] at hB
  rw [show W p l e R s m args below meth cd s.heap [] 0 0 Q (F0 m 0 ls []) = W p l e R s m args below meth cd H locs 0 0 Q (F0 m 0 ls []) from by rw [hH, hlocs]]
  obtain ⟨hm, hsd, hsz, hwd, hkn⟩ := hB
  refine lv_iload_n hx hb d_M_exchange_0 rfl (lv_at hl 1 rfl) ?_
  refine hp_callS (W.runS (As := [.int (iI s0)]) (rest := []) ⟨hx, hb, hml, hown, hG⟩ (c_M_isSlot l E s0 (by unfold iR at *; omega)) (cwS 1 hG (hp_goodS ml_M_60 st_M_isSlot in_M co_M_isSlot) rfl rfl rfl hd_M_isSlot ⟨by rw [hRf]; exact Nat.le_of_ble_eq_true rfl, by rw [hRl]; exact Nat.le_of_ble_eq_true rfl⟩) (hp_preS hp_nsn hK trivial) rfl rfl hl.1 rfl (lv_room (Nat.le_of_ble_eq_true rfl)) d_M_exchange_1 ⟨by rw [hRc]; exact Nat.le_of_ble_eq_true rfl, by rw [hRs]; exact Nat.le_of_ble_eq_true rfl⟩) ?_
  refine hp_ifb_eq (tgt := 23) hx hb d_M_exchange_4 (by decide) (fun c4 => ?_) (fun c4 => ?_)
  · skip
    have c4 := of_decide_eq_false c4
    refine hp_iconst (z := 0) hx hb d_M_exchange_23 (by rfl) ?_
    rw [hQ]
    refine hp_zretQ hx hb hrt hlocks d_M_exchange_24 false (by first | rfl | assumption | simp [bI]) hS hZ ?_
    first | exact Or.inr ⟨rfl, by unfold bw_far; omega, hm, hsd, hsz, hwd, hkn⟩ | (rw [Int.toNat_natCast]; exact Or.inr ⟨rfl, by unfold bw_far; omega, hm, hsd, hsz, hwd, hkn⟩) | (rw [Int.toNat_natCast, Int.toNat_natCast]; exact Or.inr ⟨rfl, by unfold bw_far; omega, hm, hsd, hsz, hwd, hkn⟩)
  · skip
    have c4 := of_decide_eq_true c4
    obtain ⟨t, rfl⟩ : ∃ q : Nat, s0 = (q : Int) := ⟨s0.toNat, by omega⟩
    have hvt := hvm t (by omega)
    refine lv_iload_n hx hb d_M_exchange_7 rfl (lv_at hl 2 rfl) ?_
    refine hp_if_lt (tgt := 23) hx hb d_M_exchange_8 (by decide) (by unfold iR at *; omega) (fun c8 => ?_) (fun c8 => ?_)
    · skip
      refine hp_iconst (z := 0) hx hb d_M_exchange_23 (by rfl) ?_
      rw [hQ]
      refine hp_zretQ hx hb hrt hlocks d_M_exchange_24 false (by first | rfl | assumption | simp [bI]) hS hZ ?_
      first | exact Or.inr ⟨rfl, by unfold bw_far; omega, hm, hsd, hsz, hwd, hkn⟩ | (rw [Int.toNat_natCast]; exact Or.inr ⟨rfl, by unfold bw_far; omega, hm, hsd, hsz, hwd, hkn⟩) | (rw [Int.toNat_natCast, Int.toNat_natCast]; exact Or.inr ⟨rfl, by unfold bw_far; omega, hm, hsd, hsz, hwd, hkn⟩)
    · skip
      refine lv_iload_n hx hb d_M_exchange_11 rfl (lv_at hl 2 rfl) ?_
      refine lv_aload_n hx hb d_M_exchange_12 rfl (lv_at hl 0 rfl) ?_
      refine hp_get (C := R_M) (T := F_M) (N := 19) (v := .ref (mo + 2)) hx hb hG la_M hown hK.1 hm rfl 2 (by decide) (hG _ fl_M_13) (fun _ h9 => h9) rfl d_M_exchange_13 ?_
      refine lv_iload_n hx hb d_M_exchange_16 rfl (lv_at hl 1 rfl) ?_
      refine hp_iald hx hb hK.1 0 hsz rfl d_M_exchange_17 (by omega) t (by omega) (by omega) ?_
      refine hp_iconst (z := 1) hx hb d_M_exchange_18 (by rfl) ?_
      refine hp_isub hx hb d_M_exchange_19 ?_
      refine hp_icmp_lt (tgt := 25) hx hb d_M_exchange_20 (by decide) (by unfold iR at *; omega) (by unfold iR at *; omega) (fun c20 => ?_) (fun c20 => ?_)
      · skip
        obtain ⟨k, rfl⟩ : ∃ q : Nat, k0 = (q : Int) := ⟨k0.toNat, by omega⟩
        have hb1 := gw_bd hbd t k
        have hb2 := gw_bd hbd t (k + 1)
        refine lv_aload_n hx hb d_M_exchange_25 rfl (lv_at hl 0 rfl) ?_
        refine lv_iload_n hx hb d_M_exchange_26 rfl (lv_at hl 1 rfl) ?_
        refine lv_iload_n hx hb d_M_exchange_27 rfl (lv_at hl 2 rfl) ?_
        refine hp_callS (W.runV (As := [.int (iI (t : Int)), .int (iI (k : Int))]) (rest := []) ⟨hx, hb, hml, hown, hG⟩ (c_M_letterAt l E mo th md fe ps w c g kz t k (by omega)) (cwV 2 hG (hp_goodV ml_M_64 im_M_letterAt se_M_letterAt in_M co_M_letterAt) rfl rfl rfl hd_M_letterAt ⟨by rw [hRf]; exact Nat.le_of_ble_eq_true rfl, by rw [hRl]; exact Nat.le_of_ble_eq_true rfl⟩) (hp_preV (ci := 3) hp_nsn hK rfl hm ⟨hm, hsd, hsz, hwd, hkn⟩) rfl rfl hl.1 rfl (lv_room (Nat.le_of_ble_eq_true rfl)) d_M_exchange_28 ⟨by rw [hRc]; exact Nat.le_of_ble_eq_true rfl, by rw [hRs]; exact Nat.le_of_ble_eq_true rfl⟩) ?_
        refine lv_istore_n (lv' := [(3, .int (iI (gw g t k))), (0, .ref mo), (1, .int (iI (t : Int))), (2, .int (iI (k : Int)))]) hx hb d_M_exchange_31 rfl hl (by decide) rfl (fun ls hl => ?_)
        refine lv_aload_n hx hb d_M_exchange_32 rfl (lv_at hl 1 rfl) ?_
        refine lv_iload_n hx hb d_M_exchange_33 rfl (lv_at hl 2 rfl) ?_
        refine lv_iload_n hx hb d_M_exchange_34 rfl (lv_at hl 3 rfl) ?_
        refine hp_iconst (z := 1) hx hb d_M_exchange_35 (by rfl) ?_
        refine hp_iadd hx hb d_M_exchange_36 ?_
        refine hp_callS (W.runV (As := [.int (iI (t : Int)), .int (iI ((k : Int) + 1))]) (rest := []) ⟨hx, hb, hml, hown, hG⟩ (c_M_letterAt l E mo th md fe ps w c g kz t (k + 1) (by omega)) (cwV 2 hG (hp_goodV ml_M_64 im_M_letterAt se_M_letterAt in_M co_M_letterAt) rfl rfl rfl hd_M_letterAt ⟨by rw [hRf]; exact Nat.le_of_ble_eq_true rfl, by rw [hRl]; exact Nat.le_of_ble_eq_true rfl⟩) (hp_preV (ci := 3) hp_nsn hK rfl hm ⟨hm, hsd, hsz, hwd, hkn⟩) rfl rfl hl.1 rfl (lv_room (Nat.le_of_ble_eq_true rfl)) d_M_exchange_37 ⟨by rw [hRc]; exact Nat.le_of_ble_eq_true rfl, by rw [hRs]; exact Nat.le_of_ble_eq_true rfl⟩) ?_
        refine lv_istore (lv' := [(4, .int (iI (gw g t (k + 1)))), (3, .int (iI (gw g t k))), (0, .ref mo), (1, .int (iI (t : Int))), (2, .int (iI (k : Int)))]) hx hb d_M_exchange_40 hl (by decide) rfl (fun ls hl => ?_)
        refine lv_iload_n hx hb d_M_exchange_42 rfl (lv_at hl 1 rfl) ?_
        refine hp_callS (W.runS (As := [.int (iI (gw g t k))]) (rest := []) ⟨hx, hb, hml, hown, hG⟩ (c_M_value l E (gw g t k) (by omega)) (cwS 1 hG (hp_goodS ml_M_68 st_M_value in_M co_M_value) rfl rfl rfl hd_M_value ⟨by rw [hRf]; exact Nat.le_of_ble_eq_true rfl, by rw [hRl]; exact Nat.le_of_ble_eq_true rfl⟩) (hp_preS hp_nsn hK trivial) rfl rfl hl.1 rfl (lv_room (Nat.le_of_ble_eq_true rfl)) d_M_exchange_43 ⟨by rw [hRc]; exact Nat.le_of_ble_eq_true rfl, by rw [hRs]; exact Nat.le_of_ble_eq_true rfl⟩) ?_
        refine lv_iload hx hb d_M_exchange_46 (lv_at hl 0 rfl) ?_
        refine hp_callS (W.runS (As := [.int (iI (gw g t (k + 1)))]) (rest := [.int (iI ((gw g t k).natAbs : Int))]) ⟨hx, hb, hml, hown, hG⟩ (c_M_value l E (gw g t (k + 1)) (by omega)) (cwS 1 hG (hp_goodS ml_M_68 st_M_value in_M co_M_value) rfl rfl rfl hd_M_value ⟨by rw [hRf]; exact Nat.le_of_ble_eq_true rfl, by rw [hRl]; exact Nat.le_of_ble_eq_true rfl⟩) (hp_preS hp_nsn hK trivial) rfl rfl hl.1 rfl (lv_room (Nat.le_of_ble_eq_true rfl)) d_M_exchange_48 ⟨by rw [hRc]; exact Nat.le_of_ble_eq_true rfl, by rw [hRs]; exact Nat.le_of_ble_eq_true rfl⟩) ?_
        refine hp_isub hx hb d_M_exchange_51 ?_
        refine lv_istore (lv' := [(5, .int (iI (((gw g t k).natAbs : Int) - ((gw g t (k + 1)).natAbs : Int)))), (4, .int (iI (gw g t (k + 1)))), (3, .int (iI (gw g t k))), (0, .ref mo), (1, .int (iI (t : Int))), (2, .int (iI (k : Int)))]) hx hb d_M_exchange_52 hl (by decide) rfl (fun ls hl => ?_)
        refine lv_iload hx hb d_M_exchange_54 (lv_at hl 0 rfl) ?_
        refine hp_iconst (z := (-1)) hx hb d_M_exchange_56 (by rfl) ?_
        refine hp_icmp_lt (tgt := 68) hx hb d_M_exchange_57 (by decide) (by unfold iR at *; omega) (by unfold iR at *; omega) (fun c57 => ?_) (fun c57 => ?_)
        · skip
          refine lv_aload_n hx hb d_M_exchange_68 rfl (lv_at hl 3 rfl) ?_
          refine hp_get (C := R_M) (T := F_M) (N := 19) (v := .ref (mo + 3)) hx hb hG la_M hown hK.1 hm rfl 3 (by decide) (hG _ fl_M_16) (fun _ h9 => h9) rfl d_M_exchange_69 ?_
          refine hp_bipush (z := 32) hx hb d_M_exchange_72 (by rfl) ?_
          refine lv_iload_n hx hb d_M_exchange_74 rfl (lv_at hl 4 rfl) ?_
          refine hp_imul hx hb d_M_exchange_75 ?_
          refine lv_iload_n hx hb d_M_exchange_76 rfl (lv_at hl 5 rfl) ?_
          refine hp_iadd hx hb d_M_exchange_77 ?_
          refine lv_iload hx hb d_M_exchange_78 (lv_at hl 1 rfl) ?_
          refine hp_iast hx hb hK.1 0 hwd hS (by show _ ∨ _; omega) rfl d_M_exchange_80 (by omega) ((32 * t) + k) (by omega) (by omega) (fun H locs hwdn hz1 ho1 hS => ?_)
          have hZ := hz1.trans hZ
          have hm := hm.keep (ho1 (mo) (by omega))
          have hsd := hsd.keep (ho1 (mo + 1) (by omega))
          have hsz := hsz.keep (ho1 (mo + 2) (by omega))
          have hkn := hkn.keep (ho1 (mo + 10) (by omega))
          have hwd : ca E H (mo + 3) (ai E 128 (hp_up g ((32 * t) + k) (gw g t (k + 1)))) := hwdn
          refine lv_aload_n hx hb d_M_exchange_81 rfl (lv_at hl 3 rfl) ?_
          refine hp_get (C := R_M) (T := F_M) (N := 19) (v := .ref (mo + 3)) hx hb hG la_M hown hK.1 hm rfl 3 (by decide) (hG _ fl_M_16) (fun _ h9 => h9) rfl d_M_exchange_82 ?_
          refine hp_bipush (z := 32) hx hb d_M_exchange_85 (by rfl) ?_
          refine lv_iload_n hx hb d_M_exchange_87 rfl (lv_at hl 4 rfl) ?_
          refine hp_imul hx hb d_M_exchange_88 ?_
          refine lv_iload_n hx hb d_M_exchange_89 rfl (lv_at hl 5 rfl) ?_
          refine hp_iadd hx hb d_M_exchange_90 ?_
          refine hp_iconst (z := 1) hx hb d_M_exchange_91 (by rfl) ?_
          refine hp_iadd hx hb d_M_exchange_92 ?_
          refine lv_iload_n hx hb d_M_exchange_93 rfl (lv_at hl 2 rfl) ?_
          refine hp_iast hx hb hK.1 0 hwd hS (by show _ ∨ _; omega) rfl d_M_exchange_94 (by omega) (((32 * t) + k) + 1) (by omega) (by omega) (fun H locs hwdn hz1 ho1 hS => ?_)
          have hZ := hz1.trans hZ
          have hm := hm.keep (ho1 (mo) (by omega))
          have hsd := hsd.keep (ho1 (mo + 1) (by omega))
          have hsz := hsz.keep (ho1 (mo + 2) (by omega))
          have hkn := hkn.keep (ho1 (mo + 10) (by omega))
          have hwd : ca E H (mo + 3) (ai E 128 (hp_up (hp_up g ((32 * t) + k) (gw g t (k + 1))) (((32 * t) + k) + 1) (gw g t k))) := hwdn
          refine lv_aload_n hx hb d_M_exchange_95 rfl (lv_at hl 3 rfl) ?_
          refine hp_get (C := R_M) (T := F_M) (N := 19) (v := .ref (mo + 10)) hx hb hG la_M hown hK.1 hm rfl 13 (by decide) (hG _ fl_M_37) (fun _ h9 => h9) rfl d_M_exchange_96 ?_
          refine lv_iload_n hx hb d_M_exchange_99 rfl (lv_at hl 4 rfl) ?_
          refine hp_iconst (z := 0) hx hb d_M_exchange_100 (by rfl) ?_
          refine hp_zast hx hb hK.1 1 hkn hS (by show _ ∨ _; omega) rfl d_M_exchange_101 (by omega) false t (by omega) (by omega) (fun H locs hknn hz1 ho1 hS => ?_)
          have hZ := hz1.trans hZ
          have hm := hm.keep (ho1 (mo) (by omega))
          have hsd := hsd.keep (ho1 (mo + 1) (by omega))
          have hsz := hsz.keep (ho1 (mo + 2) (by omega))
          have hwd := hwd.keep (ho1 (mo + 3) (by omega))
          have hkn : ca E H (mo + 10) (hp_az (E.2 1) 4 (hp_up kz t false)) := hknn
          refine hp_iconst (z := 1) hx hb d_M_exchange_102 (by rfl) ?_
          rw [hQ]
          refine hp_zretQ hx hb hrt hlocks d_M_exchange_103 true (by first | rfl | assumption | simp [bI]) hS hZ ?_
          rw [Int.toNat_natCast, Int.toNat_natCast]
          exact Or.inl ⟨rfl, by unfold bw_far; rw [Int.toNat_natCast]; omega, hm, hsd, hsz, hwd, hkn⟩
        · skip
          refine lv_iload hx hb d_M_exchange_60 (lv_at hl 0 rfl) ?_
          refine hp_iconst (z := 1) hx hb d_M_exchange_62 (by rfl) ?_
          refine hp_icmp_gt (tgt := 68) hx hb d_M_exchange_63 (by decide) (by unfold iR at *; omega) (by unfold iR at *; omega) (fun c63 => ?_) (fun c63 => ?_)
          · skip
            refine lv_aload_n hx hb d_M_exchange_68 rfl (lv_at hl 3 rfl) ?_
            refine hp_get (C := R_M) (T := F_M) (N := 19) (v := .ref (mo + 3)) hx hb hG la_M hown hK.1 hm rfl 3 (by decide) (hG _ fl_M_16) (fun _ h9 => h9) rfl d_M_exchange_69 ?_
            refine hp_bipush (z := 32) hx hb d_M_exchange_72 (by rfl) ?_
            refine lv_iload_n hx hb d_M_exchange_74 rfl (lv_at hl 4 rfl) ?_
            refine hp_imul hx hb d_M_exchange_75 ?_
            refine lv_iload_n hx hb d_M_exchange_76 rfl (lv_at hl 5 rfl) ?_
            refine hp_iadd hx hb d_M_exchange_77 ?_
            refine lv_iload hx hb d_M_exchange_78 (lv_at hl 1 rfl) ?_
            refine hp_iast hx hb hK.1 0 hwd hS (by show _ ∨ _; omega) rfl d_M_exchange_80 (by omega) ((32 * t) + k) (by omega) (by omega) (fun H locs hwdn hz1 ho1 hS => ?_)
            have hZ := hz1.trans hZ
            have hm := hm.keep (ho1 (mo) (by omega))
            have hsd := hsd.keep (ho1 (mo + 1) (by omega))
            have hsz := hsz.keep (ho1 (mo + 2) (by omega))
            have hkn := hkn.keep (ho1 (mo + 10) (by omega))
            have hwd : ca E H (mo + 3) (ai E 128 (hp_up g ((32 * t) + k) (gw g t (k + 1)))) := hwdn
            refine lv_aload_n hx hb d_M_exchange_81 rfl (lv_at hl 3 rfl) ?_
            refine hp_get (C := R_M) (T := F_M) (N := 19) (v := .ref (mo + 3)) hx hb hG la_M hown hK.1 hm rfl 3 (by decide) (hG _ fl_M_16) (fun _ h9 => h9) rfl d_M_exchange_82 ?_
            refine hp_bipush (z := 32) hx hb d_M_exchange_85 (by rfl) ?_
            refine lv_iload_n hx hb d_M_exchange_87 rfl (lv_at hl 4 rfl) ?_
            refine hp_imul hx hb d_M_exchange_88 ?_
            refine lv_iload_n hx hb d_M_exchange_89 rfl (lv_at hl 5 rfl) ?_
            refine hp_iadd hx hb d_M_exchange_90 ?_
            refine hp_iconst (z := 1) hx hb d_M_exchange_91 (by rfl) ?_
            refine hp_iadd hx hb d_M_exchange_92 ?_
            refine lv_iload_n hx hb d_M_exchange_93 rfl (lv_at hl 2 rfl) ?_
            refine hp_iast hx hb hK.1 0 hwd hS (by show _ ∨ _; omega) rfl d_M_exchange_94 (by omega) (((32 * t) + k) + 1) (by omega) (by omega) (fun H locs hwdn hz1 ho1 hS => ?_)
            have hZ := hz1.trans hZ
            have hm := hm.keep (ho1 (mo) (by omega))
            have hsd := hsd.keep (ho1 (mo + 1) (by omega))
            have hsz := hsz.keep (ho1 (mo + 2) (by omega))
            have hkn := hkn.keep (ho1 (mo + 10) (by omega))
            have hwd : ca E H (mo + 3) (ai E 128 (hp_up (hp_up g ((32 * t) + k) (gw g t (k + 1))) (((32 * t) + k) + 1) (gw g t k))) := hwdn
            refine lv_aload_n hx hb d_M_exchange_95 rfl (lv_at hl 3 rfl) ?_
            refine hp_get (C := R_M) (T := F_M) (N := 19) (v := .ref (mo + 10)) hx hb hG la_M hown hK.1 hm rfl 13 (by decide) (hG _ fl_M_37) (fun _ h9 => h9) rfl d_M_exchange_96 ?_
            refine lv_iload_n hx hb d_M_exchange_99 rfl (lv_at hl 4 rfl) ?_
            refine hp_iconst (z := 0) hx hb d_M_exchange_100 (by rfl) ?_
            refine hp_zast hx hb hK.1 1 hkn hS (by show _ ∨ _; omega) rfl d_M_exchange_101 (by omega) false t (by omega) (by omega) (fun H locs hknn hz1 ho1 hS => ?_)
            have hZ := hz1.trans hZ
            have hm := hm.keep (ho1 (mo) (by omega))
            have hsd := hsd.keep (ho1 (mo + 1) (by omega))
            have hsz := hsz.keep (ho1 (mo + 2) (by omega))
            have hwd := hwd.keep (ho1 (mo + 3) (by omega))
            have hkn : ca E H (mo + 10) (hp_az (E.2 1) 4 (hp_up kz t false)) := hknn
            refine hp_iconst (z := 1) hx hb d_M_exchange_102 (by rfl) ?_
            rw [hQ]
            refine hp_zretQ hx hb hrt hlocks d_M_exchange_103 true (by first | rfl | assumption | simp [bI]) hS hZ ?_
            rw [Int.toNat_natCast, Int.toNat_natCast]
            exact Or.inl ⟨rfl, by unfold bw_far; rw [Int.toNat_natCast]; omega, hm, hsd, hsz, hwd, hkn⟩
          · skip
            refine hp_iconst (z := 0) hx hb d_M_exchange_66 (by rfl) ?_
            rw [hQ]
            refine hp_zretQ hx hb hrt hlocks d_M_exchange_67 false (by first | rfl | assumption | simp [bI]) hS hZ ?_
            rw [Int.toNat_natCast]
            exact Or.inr ⟨rfl, by unfold bw_far; rw [Int.toNat_natCast]; omega, hm, hsd, hsz, hwd, hkn⟩
      · skip
        refine hp_iconst (z := 0) hx hb d_M_exchange_23 (by rfl) ?_
        rw [hQ]
        refine hp_zretQ hx hb hrt hlocks d_M_exchange_24 false (by first | rfl | assumption | simp [bI]) hS hZ ?_
        first | exact Or.inr ⟨rfl, by unfold bw_far; omega, hm, hsd, hsz, hwd, hkn⟩ | (rw [Int.toNat_natCast]; exact Or.inr ⟨rfl, by unfold bw_far; omega, hm, hsd, hsz, hwd, hkn⟩) | (rw [Int.toNat_natCast, Int.toNat_natCast]; exact Or.inr ⟨rfl, by unfold bw_far; omega, hm, hsd, hsz, hwd, hkn⟩)

set_option maxHeartbeats 4000000 in
set_option maxRecDepth 100000 in
/-- grow(s, sign) -/
theorem c_M_grow (l : Launch) (E : hp_E) (mo : Nat) (th md fe ps : Int) (w c : Nat → Nat) (g : Nat → Int) (kz : Nat → Bool) (s0 g0 : Int) (hs0 : iR s0) (hg0 : iR g0) (hvm : ∀ i, i < 4 → 1 ≤ w i ∧ w i ≤ 8 ∧ c i ≤ 32) : Met l y_M_grow (Cond.code y_M_grow b_M_grow 3 (some .boolean) :: G0) ({ frames := 1, cells := 0, slots := 0, locals := 20 }) (hp_P E [.ref mo, .int (iI s0), .int (iI g0)] (fun H => mW E H mo th md fe ps w c g kz)) (hp_Qi (fun q => q = mo ∨ q = mo + 1 ∨ q = mo + 2 ∨ q = mo + 3 ∨ q = mo + 10) (fun r H => (r = 1 ∧ (0 ≤ s0 ∧ s0 < 4 ∧ (g0 = 1 ∨ g0 = -1) ∧ w s0.toNat < 8 ∧ c s0.toNat < 32) ∧ mW E H mo th md fe ps (hp_up w s0.toNat (w s0.toNat + 1)) (hp_up c s0.toNat (c s0.toNat + 1)) (hp_up g (32 * s0.toNat + c s0.toNat) (g0 * (w s0.toNat : Int))) (hp_up kz s0.toNat false)) ∨ (r = 0 ∧ ¬ (0 ≤ s0 ∧ s0 < 4 ∧ (g0 = 1 ∨ g0 = -1) ∧ w s0.toNat < 8 ∧ c s0.toNat < 32) ∧ mW E H mo th md fe ps w c g kz))) 0 0 (fun q => q = mo ∨ q = mo + 1 ∨ q = mo + 2 ∨ q = mo + 3 ∨ q = mo + 10) := by
  refine Met.ofW (cc := b_M_grow) (maxL := 3) (ret := some .boolean) (by decide) rfl ?_
  intro p e s m args below meth cd s₁ Bd hml hv
  obtain ⟨hargs, hB, hK⟩ := hv
  have hx := Bd.exec
  have hb := Bd.bytes
  have hrt := Bd.returns
  have hts := atoms_spec (ws := Cond.code y_M_grow b_M_grow 3 (some .boolean) :: G0) Bd.pre
  have hG : ∀ w ∈ G0, w.before args s = true := fun w h => hts w (List.mem_cons_of_mem _ h)
  have hown : s.vm.findClass R_M = some m.cls := findClass_of_methodNamed Bd.named
  have hlocks := Bd.notSynchronized
  have hl := lv_entry ([.ref mo, .int (iI s0), .int (iI g0)]) (n := 3) (Nat.le_of_ble_eq_true rfl)
  rw [show entryFrame m args 3 = entryFrame m ([.ref mo, .int (iI s0), .int (iI g0)] : List Value).toArray 3 from by rw [hargs]]
  rw [lg_entry_eq]
  generalize (lg_sl ([.ref mo, .int (iI s0), .int (iI g0)]) ++ List.replicate (3 - (lg_sl ([.ref mo, .int (iI s0), .int (iI g0)])).length) Slot.unset).toArray = ls at hl ⊢
  have hl : lv_has ls 3 [(0, .ref mo), (1, .int (iI s0)), (2, .int (iI g0))] := hl
  obtain ⟨R, hR⟩ : ∃ R, R = (headSpec (Cond.code y_M_grow b_M_grow 3 (some .boolean) :: G0) { frames := 1, cells := 0, slots := 0, locals := 20 }).room := ⟨_, rfl⟩
  rw [← hR]
  have hRf : R.frames = 1 := by rw [hR]; rfl
  have hRl : R.locals = 20 := by rw [hR]; rfl
  have hRc : R.cells = 0 := by rw [hR]; rfl
  have hRs : R.slots = 0 := by rw [hR]; rfl
  obtain ⟨Q, hQ⟩ : ∃ Q, Q = MQ below (hp_Qi (fun q => q = mo ∨ q = mo + 1 ∨ q = mo + 2 ∨ q = mo + 3 ∨ q = mo + 10) (fun r H => (r = 1 ∧ (0 ≤ s0 ∧ s0 < 4 ∧ (g0 = 1 ∨ g0 = -1) ∧ w s0.toNat < 8 ∧ c s0.toNat < 32) ∧ mW E H mo th md fe ps (hp_up w s0.toNat (w s0.toNat + 1)) (hp_up c s0.toNat (c s0.toNat + 1)) (hp_up g (32 * s0.toNat + c s0.toNat) (g0 * (w s0.toNat : Int))) (hp_up kz s0.toNat false)) ∨ (r = 0 ∧ ¬ (0 ≤ s0 ∧ s0 < 4 ∧ (g0 = 1 ∨ g0 = -1) ∧ w s0.toNat < 8 ∧ c s0.toNat < 32) ∧ mW E H mo th md fe ps w c g kz))) args s 0 0 (fun q => q = mo ∨ q = mo + 1 ∨ q = mo + 2 ∨ q = mo + 3 ∨ q = mo + 10) := ⟨_, rfl⟩
  rw [← hQ]
  obtain ⟨H, hH⟩ : ∃ H, H = s.heap := ⟨_, rfl⟩
  obtain ⟨locs, hlocs⟩ : ∃ locs : List Loc, locs = [] := ⟨_, rfl⟩
  have hS : va_S (fun q => q = mo ∨ q = mo + 1 ∨ q = mo + 2 ∨ q = mo + 3 ∨ q = mo + 10) s.heap H locs := by rw [hH, hlocs]; exact va_S.rf
  have hZ : H.size = s.heap.size := by rw [hH]
  rw [← hH] at hB
  rw [show W p l e R s m args below meth cd s.heap [] 0 0 Q (F0 m 0 ls []) = W p l e R s m args below meth cd H locs 0 0 Q (F0 m 0 ls []) from by rw [hH, hlocs]]
  obtain ⟨hm, hsd, hsz, hwd, hkn⟩ := hB
  refine lv_iload_n hx hb d_M_grow_0 rfl (lv_at hl 1 rfl) ?_
  refine hp_callS (W.runS (As := [.int (iI s0)]) (rest := []) ⟨hx, hb, hml, hown, hG⟩ (c_M_isSlot l E s0 (by unfold iR at *; omega)) (cwS 1 hG (hp_goodS ml_M_60 st_M_isSlot in_M co_M_isSlot) rfl rfl rfl hd_M_isSlot ⟨by rw [hRf]; exact Nat.le_of_ble_eq_true rfl, by rw [hRl]; exact Nat.le_of_ble_eq_true rfl⟩) (hp_preS hp_nsn hK trivial) rfl rfl hl.1 rfl (lv_room (Nat.le_of_ble_eq_true rfl)) d_M_grow_1 ⟨by rw [hRc]; exact Nat.le_of_ble_eq_true rfl, by rw [hRs]; exact Nat.le_of_ble_eq_true rfl⟩) ?_
  refine hp_ifb_eq (tgt := 39) hx hb d_M_grow_4 (by decide) (fun c4 => ?_) (fun c4 => ?_)
  · skip
    have c4 := of_decide_eq_false c4
    refine hp_iconst (z := 0) hx hb d_M_grow_39 (by rfl) ?_
    rw [hQ]
    refine hp_zretQ hx hb hrt hlocks d_M_grow_40 false (by first | rfl | assumption | simp [bI]) hS hZ ?_
    first | exact Or.inr ⟨rfl, by omega, hm, hsd, hsz, hwd, hkn⟩ | (rw [Int.toNat_natCast]; exact Or.inr ⟨rfl, by omega, hm, hsd, hsz, hwd, hkn⟩) | (rw [Int.toNat_natCast, Int.toNat_natCast]; exact Or.inr ⟨rfl, by omega, hm, hsd, hsz, hwd, hkn⟩)
  · skip
    have c4 := of_decide_eq_true c4
    obtain ⟨t, rfl⟩ : ∃ q : Nat, s0 = (q : Int) := ⟨s0.toNat, by omega⟩
    have hvt := hvm t (by omega)
    refine lv_iload_n hx hb d_M_grow_7 rfl (lv_at hl 2 rfl) ?_
    refine hp_iconst (z := 1) hx hb d_M_grow_8 (by rfl) ?_
    refine hp_icmp_eq (tgt := 17) hx hb d_M_grow_9 (by decide) (by unfold iR at *; omega) (by unfold iR at *; omega) (fun c9 => ?_) (fun c9 => ?_)
    · skip
      refine lv_aload_n hx hb d_M_grow_17 rfl (lv_at hl 0 rfl) ?_
      refine hp_get (C := R_M) (T := F_M) (N := 19) (v := .ref (mo + 1)) hx hb hG la_M hown hK.1 hm rfl 1 (by decide) (hG _ fl_M_7) (fun _ h9 => h9) rfl d_M_grow_18 ?_
      refine lv_iload_n hx hb d_M_grow_21 rfl (lv_at hl 1 rfl) ?_
      refine hp_iald hx hb hK.1 0 hsd rfl d_M_grow_22 (by omega) t (by omega) (by omega) ?_
      refine hp_bipush (z := 8) hx hb d_M_grow_23 (by rfl) ?_
      refine hp_icmp_eq (tgt := 39) hx hb d_M_grow_25 (by decide) (by unfold iR at *; omega) (by unfold iR at *; omega) (fun c25 => ?_) (fun c25 => ?_)
      · skip
        refine hp_iconst (z := 0) hx hb d_M_grow_39 (by rfl) ?_
        rw [hQ]
        refine hp_zretQ hx hb hrt hlocks d_M_grow_40 false (by first | rfl | assumption | simp [bI]) hS hZ ?_
        first | exact Or.inr ⟨rfl, by omega, hm, hsd, hsz, hwd, hkn⟩ | (rw [Int.toNat_natCast]; exact Or.inr ⟨rfl, by omega, hm, hsd, hsz, hwd, hkn⟩) | (rw [Int.toNat_natCast, Int.toNat_natCast]; exact Or.inr ⟨rfl, by omega, hm, hsd, hsz, hwd, hkn⟩)
      · skip
        refine lv_aload_n hx hb d_M_grow_28 rfl (lv_at hl 0 rfl) ?_
        refine hp_get (C := R_M) (T := F_M) (N := 19) (v := .ref (mo + 2)) hx hb hG la_M hown hK.1 hm rfl 2 (by decide) (hG _ fl_M_13) (fun _ h9 => h9) rfl d_M_grow_29 ?_
        refine lv_iload_n hx hb d_M_grow_32 rfl (lv_at hl 1 rfl) ?_
        refine hp_iald hx hb hK.1 0 hsz rfl d_M_grow_33 (by omega) t (by omega) (by omega) ?_
        refine hp_bipush (z := 32) hx hb d_M_grow_34 (by rfl) ?_
        refine hp_icmp_ne (tgt := 41) hx hb d_M_grow_36 (by decide) (by unfold iR at *; omega) (by unfold iR at *; omega) (fun c36 => ?_) (fun c36 => ?_)
        · skip
          refine lv_aload_n hx hb d_M_grow_41 rfl (lv_at hl 0 rfl) ?_
          refine hp_get (C := R_M) (T := F_M) (N := 19) (v := .ref (mo + 3)) hx hb hG la_M hown hK.1 hm rfl 3 (by decide) (hG _ fl_M_16) (fun _ h9 => h9) rfl d_M_grow_42 ?_
          refine hp_bipush (z := 32) hx hb d_M_grow_45 (by rfl) ?_
          refine lv_iload_n hx hb d_M_grow_47 rfl (lv_at hl 1 rfl) ?_
          refine hp_imul hx hb d_M_grow_48 ?_
          refine lv_aload_n hx hb d_M_grow_49 rfl (lv_at hl 0 rfl) ?_
          refine hp_get (C := R_M) (T := F_M) (N := 19) (v := .ref (mo + 2)) hx hb hG la_M hown hK.1 hm rfl 2 (by decide) (hG _ fl_M_13) (fun _ h9 => h9) rfl d_M_grow_50 ?_
          refine lv_iload_n hx hb d_M_grow_53 rfl (lv_at hl 1 rfl) ?_
          refine hp_iald hx hb hK.1 0 hsz rfl d_M_grow_54 (by omega) t (by omega) (by omega) ?_
          refine hp_iadd hx hb d_M_grow_55 ?_
          refine lv_iload_n hx hb d_M_grow_56 rfl (lv_at hl 2 rfl) ?_
          refine lv_aload_n hx hb d_M_grow_57 rfl (lv_at hl 0 rfl) ?_
          refine hp_get (C := R_M) (T := F_M) (N := 19) (v := .ref (mo + 1)) hx hb hG la_M hown hK.1 hm rfl 1 (by decide) (hG _ fl_M_7) (fun _ h9 => h9) rfl d_M_grow_58 ?_
          refine lv_iload_n hx hb d_M_grow_61 rfl (lv_at hl 1 rfl) ?_
          refine hp_iald hx hb hK.1 0 hsd rfl d_M_grow_62 (by omega) t (by omega) (by omega) ?_
          refine hp_imul hx hb d_M_grow_63 ?_
          refine hp_iast hx hb hK.1 0 hwd hS (by show _ ∨ _; omega) rfl d_M_grow_64 (by omega) ((32 * t) + (c t)) (by omega) (by omega) (fun H locs hwdn hz1 ho1 hS => ?_)
          have hZ := hz1.trans hZ
          have hm := hm.keep (ho1 (mo) (by omega))
          have hsd := hsd.keep (ho1 (mo + 1) (by omega))
          have hsz := hsz.keep (ho1 (mo + 2) (by omega))
          have hkn := hkn.keep (ho1 (mo + 10) (by omega))
          have hwd : ca E H (mo + 3) (ai E 128 (hp_up g ((32 * t) + (c t)) (g0 * ((w t : Nat) : Int)))) := hwdn
          refine lv_aload_n hx hb d_M_grow_65 rfl (lv_at hl 0 rfl) ?_
          refine hp_get (C := R_M) (T := F_M) (N := 19) (v := .ref (mo + 2)) hx hb hG la_M hown hK.1 hm rfl 2 (by decide) (hG _ fl_M_13) (fun _ h9 => h9) rfl d_M_grow_66 ?_
          refine lv_iload_n hx hb d_M_grow_69 rfl (lv_at hl 1 rfl) ?_
          refine lv_dup2_11 hx hb d_M_grow_70 rfl rfl ?_
          refine hp_iald hx hb hK.1 0 hsz rfl d_M_grow_71 (by omega) t (by omega) (by omega) ?_
          refine hp_iconst (z := 1) hx hb d_M_grow_72 (by rfl) ?_
          refine hp_iadd hx hb d_M_grow_73 ?_
          refine hp_iast hx hb hK.1 0 hsz hS (by show _ ∨ _; omega) rfl d_M_grow_74 (by omega) t (by omega) (by omega) (fun H locs hszn hz1 ho1 hS => ?_)
          rw [show ((((c t : Nat) : Int) + 1) : Int) = ((((c t) + 1) : Nat) : Int) from by omega, nn_up] at hszn
          have hZ := hz1.trans hZ
          have hm := hm.keep (ho1 (mo) (by omega))
          have hsd := hsd.keep (ho1 (mo + 1) (by omega))
          have hwd := hwd.keep (ho1 (mo + 3) (by omega))
          have hkn := hkn.keep (ho1 (mo + 10) (by omega))
          have hsz : ca E H (mo + 2) (ai E 4 (fun k => (((hp_up c t ((c t) + 1)) k : Nat) : Int))) := hszn
          refine lv_aload_n hx hb d_M_grow_75 rfl (lv_at hl 0 rfl) ?_
          refine hp_get (C := R_M) (T := F_M) (N := 19) (v := .ref (mo + 1)) hx hb hG la_M hown hK.1 hm rfl 1 (by decide) (hG _ fl_M_7) (fun _ h9 => h9) rfl d_M_grow_76 ?_
          refine lv_iload_n hx hb d_M_grow_79 rfl (lv_at hl 1 rfl) ?_
          refine lv_dup2_11 hx hb d_M_grow_80 rfl rfl ?_
          refine hp_iald hx hb hK.1 0 hsd rfl d_M_grow_81 (by omega) t (by omega) (by omega) ?_
          refine hp_iconst (z := 1) hx hb d_M_grow_82 (by rfl) ?_
          refine hp_iadd hx hb d_M_grow_83 ?_
          refine hp_iast hx hb hK.1 0 hsd hS (by show _ ∨ _; omega) rfl d_M_grow_84 (by omega) t (by omega) (by omega) (fun H locs hsdn hz1 ho1 hS => ?_)
          rw [show ((((w t : Nat) : Int) + 1) : Int) = ((((w t) + 1) : Nat) : Int) from by omega, nn_up] at hsdn
          have hZ := hz1.trans hZ
          have hm := hm.keep (ho1 (mo) (by omega))
          have hsz := hsz.keep (ho1 (mo + 2) (by omega))
          have hwd := hwd.keep (ho1 (mo + 3) (by omega))
          have hkn := hkn.keep (ho1 (mo + 10) (by omega))
          have hsd : ca E H (mo + 1) (ai E 4 (fun k => (((hp_up w t ((w t) + 1)) k : Nat) : Int))) := hsdn
          refine lv_aload_n hx hb d_M_grow_85 rfl (lv_at hl 0 rfl) ?_
          refine hp_get (C := R_M) (T := F_M) (N := 19) (v := .ref (mo + 10)) hx hb hG la_M hown hK.1 hm rfl 13 (by decide) (hG _ fl_M_37) (fun _ h9 => h9) rfl d_M_grow_86 ?_
          refine lv_iload_n hx hb d_M_grow_89 rfl (lv_at hl 1 rfl) ?_
          refine hp_iconst (z := 0) hx hb d_M_grow_90 (by rfl) ?_
          refine hp_zast hx hb hK.1 1 hkn hS (by show _ ∨ _; omega) rfl d_M_grow_91 (by omega) false t (by omega) (by omega) (fun H locs hknn hz1 ho1 hS => ?_)
          have hZ := hz1.trans hZ
          have hm := hm.keep (ho1 (mo) (by omega))
          have hsd := hsd.keep (ho1 (mo + 1) (by omega))
          have hsz := hsz.keep (ho1 (mo + 2) (by omega))
          have hwd := hwd.keep (ho1 (mo + 3) (by omega))
          have hkn : ca E H (mo + 10) (hp_az (E.2 1) 4 (hp_up kz t false)) := hknn
          refine hp_iconst (z := 1) hx hb d_M_grow_92 (by rfl) ?_
          rw [hQ]
          refine hp_zretQ hx hb hrt hlocks d_M_grow_93 true (by first | rfl | assumption | simp [bI]) hS hZ ?_
          rw [Int.toNat_natCast]
          exact Or.inl ⟨rfl, by omega, hm, hsd, hsz, hwd, hkn⟩
        · skip
          refine hp_iconst (z := 0) hx hb d_M_grow_39 (by rfl) ?_
          rw [hQ]
          refine hp_zretQ hx hb hrt hlocks d_M_grow_40 false (by first | rfl | assumption | simp [bI]) hS hZ ?_
          first | exact Or.inr ⟨rfl, by omega, hm, hsd, hsz, hwd, hkn⟩ | (rw [Int.toNat_natCast]; exact Or.inr ⟨rfl, by omega, hm, hsd, hsz, hwd, hkn⟩) | (rw [Int.toNat_natCast, Int.toNat_natCast]; exact Or.inr ⟨rfl, by omega, hm, hsd, hsz, hwd, hkn⟩)
    · skip
      refine lv_iload_n hx hb d_M_grow_12 rfl (lv_at hl 2 rfl) ?_
      refine hp_iconst (z := (-1)) hx hb d_M_grow_13 (by rfl) ?_
      refine hp_icmp_ne (tgt := 39) hx hb d_M_grow_14 (by decide) (by unfold iR at *; omega) (by unfold iR at *; omega) (fun c14 => ?_) (fun c14 => ?_)
      · skip
        refine hp_iconst (z := 0) hx hb d_M_grow_39 (by rfl) ?_
        rw [hQ]
        refine hp_zretQ hx hb hrt hlocks d_M_grow_40 false (by first | rfl | assumption | simp [bI]) hS hZ ?_
        first | exact Or.inr ⟨rfl, by omega, hm, hsd, hsz, hwd, hkn⟩ | (rw [Int.toNat_natCast]; exact Or.inr ⟨rfl, by omega, hm, hsd, hsz, hwd, hkn⟩) | (rw [Int.toNat_natCast, Int.toNat_natCast]; exact Or.inr ⟨rfl, by omega, hm, hsd, hsz, hwd, hkn⟩)
      · skip
        refine lv_aload_n hx hb d_M_grow_17 rfl (lv_at hl 0 rfl) ?_
        refine hp_get (C := R_M) (T := F_M) (N := 19) (v := .ref (mo + 1)) hx hb hG la_M hown hK.1 hm rfl 1 (by decide) (hG _ fl_M_7) (fun _ h9 => h9) rfl d_M_grow_18 ?_
        refine lv_iload_n hx hb d_M_grow_21 rfl (lv_at hl 1 rfl) ?_
        refine hp_iald hx hb hK.1 0 hsd rfl d_M_grow_22 (by omega) t (by omega) (by omega) ?_
        refine hp_bipush (z := 8) hx hb d_M_grow_23 (by rfl) ?_
        refine hp_icmp_eq (tgt := 39) hx hb d_M_grow_25 (by decide) (by unfold iR at *; omega) (by unfold iR at *; omega) (fun c25 => ?_) (fun c25 => ?_)
        · skip
          refine hp_iconst (z := 0) hx hb d_M_grow_39 (by rfl) ?_
          rw [hQ]
          refine hp_zretQ hx hb hrt hlocks d_M_grow_40 false (by first | rfl | assumption | simp [bI]) hS hZ ?_
          first | exact Or.inr ⟨rfl, by omega, hm, hsd, hsz, hwd, hkn⟩ | (rw [Int.toNat_natCast]; exact Or.inr ⟨rfl, by omega, hm, hsd, hsz, hwd, hkn⟩) | (rw [Int.toNat_natCast, Int.toNat_natCast]; exact Or.inr ⟨rfl, by omega, hm, hsd, hsz, hwd, hkn⟩)
        · skip
          refine lv_aload_n hx hb d_M_grow_28 rfl (lv_at hl 0 rfl) ?_
          refine hp_get (C := R_M) (T := F_M) (N := 19) (v := .ref (mo + 2)) hx hb hG la_M hown hK.1 hm rfl 2 (by decide) (hG _ fl_M_13) (fun _ h9 => h9) rfl d_M_grow_29 ?_
          refine lv_iload_n hx hb d_M_grow_32 rfl (lv_at hl 1 rfl) ?_
          refine hp_iald hx hb hK.1 0 hsz rfl d_M_grow_33 (by omega) t (by omega) (by omega) ?_
          refine hp_bipush (z := 32) hx hb d_M_grow_34 (by rfl) ?_
          refine hp_icmp_ne (tgt := 41) hx hb d_M_grow_36 (by decide) (by unfold iR at *; omega) (by unfold iR at *; omega) (fun c36 => ?_) (fun c36 => ?_)
          · skip
            refine lv_aload_n hx hb d_M_grow_41 rfl (lv_at hl 0 rfl) ?_
            refine hp_get (C := R_M) (T := F_M) (N := 19) (v := .ref (mo + 3)) hx hb hG la_M hown hK.1 hm rfl 3 (by decide) (hG _ fl_M_16) (fun _ h9 => h9) rfl d_M_grow_42 ?_
            refine hp_bipush (z := 32) hx hb d_M_grow_45 (by rfl) ?_
            refine lv_iload_n hx hb d_M_grow_47 rfl (lv_at hl 1 rfl) ?_
            refine hp_imul hx hb d_M_grow_48 ?_
            refine lv_aload_n hx hb d_M_grow_49 rfl (lv_at hl 0 rfl) ?_
            refine hp_get (C := R_M) (T := F_M) (N := 19) (v := .ref (mo + 2)) hx hb hG la_M hown hK.1 hm rfl 2 (by decide) (hG _ fl_M_13) (fun _ h9 => h9) rfl d_M_grow_50 ?_
            refine lv_iload_n hx hb d_M_grow_53 rfl (lv_at hl 1 rfl) ?_
            refine hp_iald hx hb hK.1 0 hsz rfl d_M_grow_54 (by omega) t (by omega) (by omega) ?_
            refine hp_iadd hx hb d_M_grow_55 ?_
            refine lv_iload_n hx hb d_M_grow_56 rfl (lv_at hl 2 rfl) ?_
            refine lv_aload_n hx hb d_M_grow_57 rfl (lv_at hl 0 rfl) ?_
            refine hp_get (C := R_M) (T := F_M) (N := 19) (v := .ref (mo + 1)) hx hb hG la_M hown hK.1 hm rfl 1 (by decide) (hG _ fl_M_7) (fun _ h9 => h9) rfl d_M_grow_58 ?_
            refine lv_iload_n hx hb d_M_grow_61 rfl (lv_at hl 1 rfl) ?_
            refine hp_iald hx hb hK.1 0 hsd rfl d_M_grow_62 (by omega) t (by omega) (by omega) ?_
            refine hp_imul hx hb d_M_grow_63 ?_
            refine hp_iast hx hb hK.1 0 hwd hS (by show _ ∨ _; omega) rfl d_M_grow_64 (by omega) ((32 * t) + (c t)) (by omega) (by omega) (fun H locs hwdn hz1 ho1 hS => ?_)
            have hZ := hz1.trans hZ
            have hm := hm.keep (ho1 (mo) (by omega))
            have hsd := hsd.keep (ho1 (mo + 1) (by omega))
            have hsz := hsz.keep (ho1 (mo + 2) (by omega))
            have hkn := hkn.keep (ho1 (mo + 10) (by omega))
            have hwd : ca E H (mo + 3) (ai E 128 (hp_up g ((32 * t) + (c t)) (g0 * ((w t : Nat) : Int)))) := hwdn
            refine lv_aload_n hx hb d_M_grow_65 rfl (lv_at hl 0 rfl) ?_
            refine hp_get (C := R_M) (T := F_M) (N := 19) (v := .ref (mo + 2)) hx hb hG la_M hown hK.1 hm rfl 2 (by decide) (hG _ fl_M_13) (fun _ h9 => h9) rfl d_M_grow_66 ?_
            refine lv_iload_n hx hb d_M_grow_69 rfl (lv_at hl 1 rfl) ?_
            refine lv_dup2_11 hx hb d_M_grow_70 rfl rfl ?_
            refine hp_iald hx hb hK.1 0 hsz rfl d_M_grow_71 (by omega) t (by omega) (by omega) ?_
            refine hp_iconst (z := 1) hx hb d_M_grow_72 (by rfl) ?_
            refine hp_iadd hx hb d_M_grow_73 ?_
            refine hp_iast hx hb hK.1 0 hsz hS (by show _ ∨ _; omega) rfl d_M_grow_74 (by omega) t (by omega) (by omega) (fun H locs hszn hz1 ho1 hS => ?_)
            rw [show ((((c t : Nat) : Int) + 1) : Int) = ((((c t) + 1) : Nat) : Int) from by omega, nn_up] at hszn
            have hZ := hz1.trans hZ
            have hm := hm.keep (ho1 (mo) (by omega))
            have hsd := hsd.keep (ho1 (mo + 1) (by omega))
            have hwd := hwd.keep (ho1 (mo + 3) (by omega))
            have hkn := hkn.keep (ho1 (mo + 10) (by omega))
            have hsz : ca E H (mo + 2) (ai E 4 (fun k => (((hp_up c t ((c t) + 1)) k : Nat) : Int))) := hszn
            refine lv_aload_n hx hb d_M_grow_75 rfl (lv_at hl 0 rfl) ?_
            refine hp_get (C := R_M) (T := F_M) (N := 19) (v := .ref (mo + 1)) hx hb hG la_M hown hK.1 hm rfl 1 (by decide) (hG _ fl_M_7) (fun _ h9 => h9) rfl d_M_grow_76 ?_
            refine lv_iload_n hx hb d_M_grow_79 rfl (lv_at hl 1 rfl) ?_
            refine lv_dup2_11 hx hb d_M_grow_80 rfl rfl ?_
            refine hp_iald hx hb hK.1 0 hsd rfl d_M_grow_81 (by omega) t (by omega) (by omega) ?_
            refine hp_iconst (z := 1) hx hb d_M_grow_82 (by rfl) ?_
            refine hp_iadd hx hb d_M_grow_83 ?_
            refine hp_iast hx hb hK.1 0 hsd hS (by show _ ∨ _; omega) rfl d_M_grow_84 (by omega) t (by omega) (by omega) (fun H locs hsdn hz1 ho1 hS => ?_)
            rw [show ((((w t : Nat) : Int) + 1) : Int) = ((((w t) + 1) : Nat) : Int) from by omega, nn_up] at hsdn
            have hZ := hz1.trans hZ
            have hm := hm.keep (ho1 (mo) (by omega))
            have hsz := hsz.keep (ho1 (mo + 2) (by omega))
            have hwd := hwd.keep (ho1 (mo + 3) (by omega))
            have hkn := hkn.keep (ho1 (mo + 10) (by omega))
            have hsd : ca E H (mo + 1) (ai E 4 (fun k => (((hp_up w t ((w t) + 1)) k : Nat) : Int))) := hsdn
            refine lv_aload_n hx hb d_M_grow_85 rfl (lv_at hl 0 rfl) ?_
            refine hp_get (C := R_M) (T := F_M) (N := 19) (v := .ref (mo + 10)) hx hb hG la_M hown hK.1 hm rfl 13 (by decide) (hG _ fl_M_37) (fun _ h9 => h9) rfl d_M_grow_86 ?_
            refine lv_iload_n hx hb d_M_grow_89 rfl (lv_at hl 1 rfl) ?_
            refine hp_iconst (z := 0) hx hb d_M_grow_90 (by rfl) ?_
            refine hp_zast hx hb hK.1 1 hkn hS (by show _ ∨ _; omega) rfl d_M_grow_91 (by omega) false t (by omega) (by omega) (fun H locs hknn hz1 ho1 hS => ?_)
            have hZ := hz1.trans hZ
            have hm := hm.keep (ho1 (mo) (by omega))
            have hsd := hsd.keep (ho1 (mo + 1) (by omega))
            have hsz := hsz.keep (ho1 (mo + 2) (by omega))
            have hwd := hwd.keep (ho1 (mo + 3) (by omega))
            have hkn : ca E H (mo + 10) (hp_az (E.2 1) 4 (hp_up kz t false)) := hknn
            refine hp_iconst (z := 1) hx hb d_M_grow_92 (by rfl) ?_
            rw [hQ]
            refine hp_zretQ hx hb hrt hlocks d_M_grow_93 true (by first | rfl | assumption | simp [bI]) hS hZ ?_
            rw [Int.toNat_natCast]
            exact Or.inl ⟨rfl, by omega, hm, hsd, hsz, hwd, hkn⟩
          · skip
            refine hp_iconst (z := 0) hx hb d_M_grow_39 (by rfl) ?_
            rw [hQ]
            refine hp_zretQ hx hb hrt hlocks d_M_grow_40 false (by first | rfl | assumption | simp [bI]) hS hZ ?_
            first | exact Or.inr ⟨rfl, by omega, hm, hsd, hsz, hwd, hkn⟩ | (rw [Int.toNat_natCast]; exact Or.inr ⟨rfl, by omega, hm, hsd, hsz, hwd, hkn⟩) | (rw [Int.toNat_natCast, Int.toNat_natCast]; exact Or.inr ⟨rfl, by omega, hm, hsd, hsz, hwd, hkn⟩)

def bw_mn (f : Nat → Int) (w : Nat) : Nat → Nat
  | 0 => 0
  | k + 1 => bw_mn f w k + (if (f k).natAbs + 1 = w then 1 else 0)
theorem bw_mn_le (f : Nat → Int) (w : Nat) : ∀ k, bw_mn f w k ≤ k
  | 0 => Nat.le_refl 0
  | k + 1 => by
    have := bw_mn_le f w k
    simp only [bw_mn]
    split <;> omega
theorem bw_mn_0 {f : Nat → Int} {w : Nat} : ∀ {k : Nat}, bw_mn f w k = 0 ↔ ∀ i, i < k → (f i).natAbs + 1 ≠ w
  | 0 => ⟨fun _ i h => by omega, fun _ => rfl⟩
  | k + 1 => by
    simp only [bw_mn]
    constructor
    · intro h i hi
      have h1 : bw_mn f w k = 0 := by omega
      by_cases e : i = k
      · subst e
        intro q
        rw [if_pos q] at h
        omega
      · exact (bw_mn_0.mp h1) i (by omega)
    · intro h
      rw [bw_mn_0.mpr (fun i hi => h i (by omega)), if_neg (h k (by omega))]
theorem bw_mn_1 {f : Nat → Int} {w c : Nat} (hc : 0 < c) (h : (f (c - 1)).natAbs + 1 = w) : bw_mn f w c = 1 ↔ ∀ i, i < c - 1 → (f i).natAbs + 1 ≠ w := by
  rw [← bw_mn_0]
  obtain ⟨k, rfl⟩ : ∃ k, c = k + 1 := ⟨c - 1, by omega⟩
  rw [show k + 1 - 1 = k by omega] at h ⊢
  simp only [bw_mn]
  rw [if_pos h]
  omega

set_option maxHeartbeats 4000000 in
set_option maxRecDepth 100000 in
/-- shrink(s) -/
theorem c_M_shrink (l : Launch) (E : hp_E) (mo : Nat) (th md fe ps : Int) (w c : Nat → Nat) (g : Nat → Int) (kz : Nat → Bool) (s0 : Int) (hs0 : iR s0) (hbd : bd g) (hvm : ∀ i, i < 4 → 1 ≤ w i ∧ w i ≤ 8 ∧ c i ≤ 32) (hok : ∀ i, i < 4 → okw (w i) (c i) (gw g i)) : Met l y_M_shrink (Cond.code y_M_shrink b_M_shrink 4 (some .boolean) :: G0) ({ frames := 1, cells := 0, slots := 0, locals := 22 }) (hp_P E [.ref mo, .int (iI s0)] (fun H => mW E H mo th md fe ps w c g kz)) (hp_Qi (fun q => q = mo ∨ q = mo + 1 ∨ q = mo + 2 ∨ q = mo + 3 ∨ q = mo + 10) (fun r H => (r = 1 ∧ (0 ≤ s0 ∧ s0 < 4 ∧ 0 < c s0.toNat ∧ (gw g s0.toNat (c s0.toNat - 1)).natAbs + 1 = w s0.toNat ∧ ∀ i, i < c s0.toNat - 1 → (gw g s0.toNat i).natAbs + 1 ≠ w s0.toNat) ∧ mW E H mo th md fe ps (hp_up w s0.toNat (w s0.toNat - 1)) (hp_up c s0.toNat (c s0.toNat - 1)) g (hp_up kz s0.toNat false)) ∨ (r = 0 ∧ ¬ (0 ≤ s0 ∧ s0 < 4 ∧ 0 < c s0.toNat ∧ (gw g s0.toNat (c s0.toNat - 1)).natAbs + 1 = w s0.toNat ∧ ∀ i, i < c s0.toNat - 1 → (gw g s0.toNat i).natAbs + 1 ≠ w s0.toNat) ∧ mW E H mo th md fe ps w c g kz))) 0 0 (fun q => q = mo ∨ q = mo + 1 ∨ q = mo + 2 ∨ q = mo + 3 ∨ q = mo + 10) := by
  refine Met.ofW (cc := b_M_shrink) (maxL := 4) (ret := some .boolean) (by decide) rfl ?_
  intro p e s m args below meth cd s₁ Bd hml hv
  obtain ⟨hargs, hB, hK⟩ := hv
  have hx := Bd.exec
  have hb := Bd.bytes
  have hrt := Bd.returns
  have hts := atoms_spec (ws := Cond.code y_M_shrink b_M_shrink 4 (some .boolean) :: G0) Bd.pre
  have hG : ∀ w ∈ G0, w.before args s = true := fun w h => hts w (List.mem_cons_of_mem _ h)
  have hown : s.vm.findClass R_M = some m.cls := findClass_of_methodNamed Bd.named
  have hlocks := Bd.notSynchronized
  have hl := lv_entry ([.ref mo, .int (iI s0)]) (n := 4) (Nat.le_of_ble_eq_true rfl)
  rw [show entryFrame m args 4 = entryFrame m ([.ref mo, .int (iI s0)] : List Value).toArray 4 from by rw [hargs]]
  rw [lg_entry_eq]
  generalize (lg_sl ([.ref mo, .int (iI s0)]) ++ List.replicate (4 - (lg_sl ([.ref mo, .int (iI s0)])).length) Slot.unset).toArray = ls at hl ⊢
  have hl : lv_has ls 4 [(0, .ref mo), (1, .int (iI s0))] := hl
  obtain ⟨R, hR⟩ : ∃ R, R = (headSpec (Cond.code y_M_shrink b_M_shrink 4 (some .boolean) :: G0) { frames := 1, cells := 0, slots := 0, locals := 22 }).room := ⟨_, rfl⟩
  rw [← hR]
  have hRf : R.frames = 1 := by rw [hR]; rfl
  have hRl : R.locals = 22 := by rw [hR]; rfl
  have hRc : R.cells = 0 := by rw [hR]; rfl
  have hRs : R.slots = 0 := by rw [hR]; rfl
  obtain ⟨Q, hQ⟩ : ∃ Q, Q = MQ below (hp_Qi (fun q => q = mo ∨ q = mo + 1 ∨ q = mo + 2 ∨ q = mo + 3 ∨ q = mo + 10) (fun r H => (r = 1 ∧ (0 ≤ s0 ∧ s0 < 4 ∧ 0 < c s0.toNat ∧ (gw g s0.toNat (c s0.toNat - 1)).natAbs + 1 = w s0.toNat ∧ ∀ i, i < c s0.toNat - 1 → (gw g s0.toNat i).natAbs + 1 ≠ w s0.toNat) ∧ mW E H mo th md fe ps (hp_up w s0.toNat (w s0.toNat - 1)) (hp_up c s0.toNat (c s0.toNat - 1)) g (hp_up kz s0.toNat false)) ∨ (r = 0 ∧ ¬ (0 ≤ s0 ∧ s0 < 4 ∧ 0 < c s0.toNat ∧ (gw g s0.toNat (c s0.toNat - 1)).natAbs + 1 = w s0.toNat ∧ ∀ i, i < c s0.toNat - 1 → (gw g s0.toNat i).natAbs + 1 ≠ w s0.toNat) ∧ mW E H mo th md fe ps w c g kz))) args s 0 0 (fun q => q = mo ∨ q = mo + 1 ∨ q = mo + 2 ∨ q = mo + 3 ∨ q = mo + 10) := ⟨_, rfl⟩
  rw [← hQ]
  obtain ⟨H, hH⟩ : ∃ H, H = s.heap := ⟨_, rfl⟩
  obtain ⟨locs, hlocs⟩ : ∃ locs : List Loc, locs = [] := ⟨_, rfl⟩
  have hS : va_S (fun q => q = mo ∨ q = mo + 1 ∨ q = mo + 2 ∨ q = mo + 3 ∨ q = mo + 10) s.heap H locs := by rw [hH, hlocs]; exact va_S.rf
  have hZ : H.size = s.heap.size := by rw [hH]
  rw [← hH] at hB
  rw [show W p l e R s m args below meth cd s.heap [] 0 0 Q (F0 m 0 ls []) = W p l e R s m args below meth cd H locs 0 0 Q (F0 m 0 ls []) from by rw [hH, hlocs]]
  obtain ⟨hm, hsd, hsz, hwd, hkn⟩ := hB
  refine lv_iload_n hx hb d_M_shrink_0 rfl (lv_at hl 1 rfl) ?_
  refine hp_callS (W.runS (As := [.int (iI s0)]) (rest := []) ⟨hx, hb, hml, hown, hG⟩ (c_M_isSlot l E s0 (by unfold iR at *; omega)) (cwS 1 hG (hp_goodS ml_M_60 st_M_isSlot in_M co_M_isSlot) rfl rfl rfl hd_M_isSlot ⟨by rw [hRf]; exact Nat.le_of_ble_eq_true rfl, by rw [hRl]; exact Nat.le_of_ble_eq_true rfl⟩) (hp_preS hp_nsn hK trivial) rfl rfl hl.1 rfl (lv_room (Nat.le_of_ble_eq_true rfl)) d_M_shrink_1 ⟨by rw [hRc]; exact Nat.le_of_ble_eq_true rfl, by rw [hRs]; exact Nat.le_of_ble_eq_true rfl⟩) ?_
  refine hp_ifb_eq (tgt := 26) hx hb d_M_shrink_4 (by decide) (fun c4 => ?_) (fun c4 => ?_)
  · skip
    have c4 := of_decide_eq_false c4
    refine hp_iconst (z := 0) hx hb d_M_shrink_26 (by rfl) ?_
    rw [hQ]
    refine hp_zretQ hx hb hrt hlocks d_M_shrink_27 false (by first | rfl | assumption | simp [bI]) hS hZ ?_
    first | exact Or.inr ⟨rfl, by omega, hm, hsd, hsz, hwd, hkn⟩ | (rw [Int.toNat_natCast]; exact Or.inr ⟨rfl, by omega, hm, hsd, hsz, hwd, hkn⟩) | (rw [Int.toNat_natCast, Int.toNat_natCast]; exact Or.inr ⟨rfl, by omega, hm, hsd, hsz, hwd, hkn⟩)
  · skip
    have c4 := of_decide_eq_true c4
    obtain ⟨t, rfl⟩ : ∃ q : Nat, s0 = (q : Int) := ⟨s0.toNat, by omega⟩
    have hvt := hvm t (by omega)
    refine lv_aload_n hx hb d_M_shrink_7 rfl (lv_at hl 0 rfl) ?_
    refine hp_get (C := R_M) (T := F_M) (N := 19) (v := .ref (mo + 1)) hx hb hG la_M hown hK.1 hm rfl 1 (by decide) (hG _ fl_M_7) (fun _ h9 => h9) rfl d_M_shrink_8 ?_
    refine lv_iload_n hx hb d_M_shrink_11 rfl (lv_at hl 1 rfl) ?_
    refine hp_iald hx hb hK.1 0 hsd rfl d_M_shrink_12 (by omega) t (by omega) (by omega) ?_
    refine hp_iconst (z := 2) hx hb d_M_shrink_13 (by rfl) ?_
    refine hp_icmp_lt (tgt := 26) hx hb d_M_shrink_14 (by decide) (by unfold iR at *; omega) (by unfold iR at *; omega) (fun c14 => ?_) (fun c14 => ?_)
    · skip
      refine hp_iconst (z := 0) hx hb d_M_shrink_26 (by rfl) ?_
      rw [hQ]
      refine hp_zretQ hx hb hrt hlocks d_M_shrink_27 false (by first | rfl | assumption | simp [bI]) hS hZ ?_
      rw [Int.toNat_natCast]
      exact Or.inr ⟨rfl, fun h => by have h8 := hok t (by omega) (c t - 1) (by omega); omega, hm, hsd, hsz, hwd, hkn⟩
    · skip
      refine lv_aload_n hx hb d_M_shrink_17 rfl (lv_at hl 0 rfl) ?_
      refine hp_get (C := R_M) (T := F_M) (N := 19) (v := .ref (mo + 2)) hx hb hG la_M hown hK.1 hm rfl 2 (by decide) (hG _ fl_M_13) (fun _ h9 => h9) rfl d_M_shrink_18 ?_
      refine lv_iload_n hx hb d_M_shrink_21 rfl (lv_at hl 1 rfl) ?_
      refine hp_iald hx hb hK.1 0 hsz rfl d_M_shrink_22 (by omega) t (by omega) (by omega) ?_
      refine hp_if_ne (tgt := 28) hx hb d_M_shrink_23 (by decide) (by unfold iR at *; omega) (fun c23 => ?_) (fun c23 => ?_)
      · skip
        refine hp_iconst (z := 0) hx hb d_M_shrink_28 (by rfl) ?_
        refine lv_istore_n (lv' := [(2, .int (iI 0)), (0, .ref mo), (1, .int (iI (t : Int)))]) hx hb d_M_shrink_29 rfl hl (by decide) rfl (fun ls hl => ?_)
        refine hp_iconst (z := 0) hx hb d_M_shrink_30 (by rfl) ?_
        refine lv_istore_n (lv' := [(3, .int (iI 0)), (2, .int (iI 0)), (0, .ref mo), (1, .int (iI (t : Int)))]) hx hb d_M_shrink_31 rfl hl (by decide) rfl (fun ls hl => ?_)
        have L32 : ∀ (N : Nat) (k : Nat) (n : Nat), c t - k < N → (k ≤ c t) → (n = bw_mn (gw g t) (w t) k) → ∀ (H : Heap) (locs : List Loc), va_S (fun q => q = mo ∨ q = mo + 1 ∨ q = mo + 2 ∨ q = mo + 3 ∨ q = mo + 10) s.heap H locs → H.size = s.heap.size → ca E H mo (oM mo th md fe ps) → ca E H (mo + 1) (ai E 4 (fun k => (w k : Int))) → ca E H (mo + 2) (ai E 4 (fun k => (c k : Int))) → ca E H (mo + 3) (ai E 128 g) → ca E H (mo + 10) (hp_az (E.2 1) 4 kz) → ∀ ls : Array Slot, lv_has ls 4 [(0, .ref mo), (1, .int (iI (t : Int))), (2, .int (iI (n : Int))), (3, .int (iI (k : Int)))] → W p l e R s m args below meth cd H locs 0 0 Q (F0 m 32 ls []) := by
          intro N
          induction N with
          | zero => intro k n hN; exact absurd hN (by omega)
          | succ N ih =>
            intro k n hN hk hn H locs hS hZ hm hsd hsz hwd hkn ls hl
            have ih32 := ih
            refine lv_iload_n hx hb d_M_shrink_32 rfl (lv_at hl 3 rfl) ?_
            refine lv_aload_n hx hb d_M_shrink_33 rfl (lv_at hl 0 rfl) ?_
            refine hp_get (C := R_M) (T := F_M) (N := 19) (v := .ref (mo + 2)) hx hb hG la_M hown hK.1 hm rfl 2 (by decide) (hG _ fl_M_13) (fun _ h9 => h9) rfl d_M_shrink_34 ?_
            refine lv_iload_n hx hb d_M_shrink_37 rfl (lv_at hl 1 rfl) ?_
            refine hp_iald hx hb hK.1 0 hsz rfl d_M_shrink_38 (by omega) t (by omega) (by omega) ?_
            refine hp_icmp_ge (tgt := 76) hx hb d_M_shrink_39 (by decide) (by unfold iR at *; omega) (by unfold iR at *; omega) (fun c39 => ?_) (fun c39 => ?_)
            · skip
              have ek : k = c t := by omega
              rw [ek] at hn
              have hnl := bw_mn_le (gw g t) (w t) (c t)
              have hb2 := gw_bd hbd t (c t - 1)
              refine lv_iload_n hx hb d_M_shrink_76 rfl (lv_at hl 2 rfl) ?_
              refine hp_iconst (z := 1) hx hb d_M_shrink_77 (by rfl) ?_
              refine hp_icmp_ne (tgt := 108) hx hb d_M_shrink_78 (by decide) (by unfold iR at *; omega) (by unfold iR at *; omega) (fun c78 => ?_) (fun c78 => ?_)
              · skip
                refine hp_iconst (z := 0) hx hb d_M_shrink_108 (by rfl) ?_
                rw [hQ]
                refine hp_zretQ hx hb hrt hlocks d_M_shrink_109 false (by first | rfl | assumption | simp [bI]) hS hZ ?_
                rw [Int.toNat_natCast]
                exact Or.inr ⟨rfl, fun h => by have h8 := (bw_mn_1 h.2.2.1 h.2.2.2.1).mpr h.2.2.2.2; omega, hm, hsd, hsz, hwd, hkn⟩
              · skip
                refine lv_aload_n hx hb d_M_shrink_81 rfl (lv_at hl 0 rfl) ?_
                refine lv_iload_n hx hb d_M_shrink_82 rfl (lv_at hl 1 rfl) ?_
                refine lv_aload_n hx hb d_M_shrink_83 rfl (lv_at hl 0 rfl) ?_
                refine hp_get (C := R_M) (T := F_M) (N := 19) (v := .ref (mo + 2)) hx hb hG la_M hown hK.1 hm rfl 2 (by decide) (hG _ fl_M_13) (fun _ h9 => h9) rfl d_M_shrink_84 ?_
                refine lv_iload_n hx hb d_M_shrink_87 rfl (lv_at hl 1 rfl) ?_
                refine hp_iald hx hb hK.1 0 hsz rfl d_M_shrink_88 (by omega) t (by omega) (by omega) ?_
                refine hp_iconst (z := 1) hx hb d_M_shrink_89 (by rfl) ?_
                refine hp_isub hx hb d_M_shrink_90 ?_
                rw [show ((((c t : Nat) : Int) - 1) : Int) = ((((c t) - 1) : Nat) : Int) from by omega]
                refine hp_callS (W.runV (As := [.int (iI (t : Int)), .int (iI ((((c t) - 1) : Nat) : Int))]) (rest := []) ⟨hx, hb, hml, hown, hG⟩ (c_M_letterAt l E mo th md fe ps w c g kz t ((c t) - 1) (by omega)) (cwV 2 hG (hp_goodV ml_M_64 im_M_letterAt se_M_letterAt in_M co_M_letterAt) rfl rfl rfl hd_M_letterAt ⟨by rw [hRf]; exact Nat.le_of_ble_eq_true rfl, by rw [hRl]; exact Nat.le_of_ble_eq_true rfl⟩) (hp_preV (ci := 3) hp_nsn hK rfl hm ⟨hm, hsd, hsz, hwd, hkn⟩) rfl rfl hl.1 rfl (lv_room (Nat.le_of_ble_eq_true rfl)) d_M_shrink_91 ⟨by rw [hRc]; exact Nat.le_of_ble_eq_true rfl, by rw [hRs]; exact Nat.le_of_ble_eq_true rfl⟩) ?_
                refine hp_callS (W.runS (As := [.int (iI (gw g t ((c t) - 1)))]) (rest := []) ⟨hx, hb, hml, hown, hG⟩ (c_M_value l E (gw g t ((c t) - 1)) (by omega)) (cwS 1 hG (hp_goodS ml_M_68 st_M_value in_M co_M_value) rfl rfl rfl hd_M_value ⟨by rw [hRf]; exact Nat.le_of_ble_eq_true rfl, by rw [hRl]; exact Nat.le_of_ble_eq_true rfl⟩) (hp_preS hp_nsn hK trivial) rfl rfl hl.1 rfl (lv_room (Nat.le_of_ble_eq_true rfl)) d_M_shrink_94 ⟨by rw [hRc]; exact Nat.le_of_ble_eq_true rfl, by rw [hRs]; exact Nat.le_of_ble_eq_true rfl⟩) ?_
                refine lv_aload_n hx hb d_M_shrink_97 rfl (lv_at hl 0 rfl) ?_
                refine hp_get (C := R_M) (T := F_M) (N := 19) (v := .ref (mo + 1)) hx hb hG la_M hown hK.1 hm rfl 1 (by decide) (hG _ fl_M_7) (fun _ h9 => h9) rfl d_M_shrink_98 ?_
                refine lv_iload_n hx hb d_M_shrink_101 rfl (lv_at hl 1 rfl) ?_
                refine hp_iald hx hb hK.1 0 hsd rfl d_M_shrink_102 (by omega) t (by omega) (by omega) ?_
                refine hp_iconst (z := 1) hx hb d_M_shrink_103 (by rfl) ?_
                refine hp_isub hx hb d_M_shrink_104 ?_
                refine hp_icmp_eq (tgt := 110) hx hb d_M_shrink_105 (by decide) (by unfold iR at *; omega) (by unfold iR at *; omega) (fun c105 => ?_) (fun c105 => ?_)
                · skip
                  refine lv_aload_n hx hb d_M_shrink_110 rfl (lv_at hl 0 rfl) ?_
                  refine hp_get (C := R_M) (T := F_M) (N := 19) (v := .ref (mo + 2)) hx hb hG la_M hown hK.1 hm rfl 2 (by decide) (hG _ fl_M_13) (fun _ h9 => h9) rfl d_M_shrink_111 ?_
                  refine lv_iload_n hx hb d_M_shrink_114 rfl (lv_at hl 1 rfl) ?_
                  refine lv_dup2_11 hx hb d_M_shrink_115 rfl rfl ?_
                  refine hp_iald hx hb hK.1 0 hsz rfl d_M_shrink_116 (by omega) t (by omega) (by omega) ?_
                  refine hp_iconst (z := 1) hx hb d_M_shrink_117 (by rfl) ?_
                  refine hp_isub hx hb d_M_shrink_118 ?_
                  refine hp_iast hx hb hK.1 0 hsz hS (by show _ ∨ _; omega) rfl d_M_shrink_119 (by omega) t (by omega) (by omega) (fun H locs hszn hz1 ho1 hS => ?_)
                  rw [show ((((c t : Nat) : Int) - 1) : Int) = ((((c t) - 1) : Nat) : Int) from by omega, nn_up] at hszn
                  have hZ := hz1.trans hZ
                  have hm := hm.keep (ho1 (mo) (by omega))
                  have hsd := hsd.keep (ho1 (mo + 1) (by omega))
                  have hwd := hwd.keep (ho1 (mo + 3) (by omega))
                  have hkn := hkn.keep (ho1 (mo + 10) (by omega))
                  have hsz : ca E H (mo + 2) (ai E 4 (fun k => (((hp_up c t ((c t) - 1)) k : Nat) : Int))) := hszn
                  refine lv_aload_n hx hb d_M_shrink_120 rfl (lv_at hl 0 rfl) ?_
                  refine hp_get (C := R_M) (T := F_M) (N := 19) (v := .ref (mo + 1)) hx hb hG la_M hown hK.1 hm rfl 1 (by decide) (hG _ fl_M_7) (fun _ h9 => h9) rfl d_M_shrink_121 ?_
                  refine lv_iload_n hx hb d_M_shrink_124 rfl (lv_at hl 1 rfl) ?_
                  refine lv_dup2_11 hx hb d_M_shrink_125 rfl rfl ?_
                  refine hp_iald hx hb hK.1 0 hsd rfl d_M_shrink_126 (by omega) t (by omega) (by omega) ?_
                  refine hp_iconst (z := 1) hx hb d_M_shrink_127 (by rfl) ?_
                  refine hp_isub hx hb d_M_shrink_128 ?_
                  refine hp_iast hx hb hK.1 0 hsd hS (by show _ ∨ _; omega) rfl d_M_shrink_129 (by omega) t (by omega) (by omega) (fun H locs hsdn hz1 ho1 hS => ?_)
                  rw [show ((((w t : Nat) : Int) - 1) : Int) = ((((w t) - 1) : Nat) : Int) from by omega, nn_up] at hsdn
                  have hZ := hz1.trans hZ
                  have hm := hm.keep (ho1 (mo) (by omega))
                  have hsz := hsz.keep (ho1 (mo + 2) (by omega))
                  have hwd := hwd.keep (ho1 (mo + 3) (by omega))
                  have hkn := hkn.keep (ho1 (mo + 10) (by omega))
                  have hsd : ca E H (mo + 1) (ai E 4 (fun k => (((hp_up w t ((w t) - 1)) k : Nat) : Int))) := hsdn
                  refine lv_aload_n hx hb d_M_shrink_130 rfl (lv_at hl 0 rfl) ?_
                  refine hp_get (C := R_M) (T := F_M) (N := 19) (v := .ref (mo + 10)) hx hb hG la_M hown hK.1 hm rfl 13 (by decide) (hG _ fl_M_37) (fun _ h9 => h9) rfl d_M_shrink_131 ?_
                  refine lv_iload_n hx hb d_M_shrink_134 rfl (lv_at hl 1 rfl) ?_
                  refine hp_iconst (z := 0) hx hb d_M_shrink_135 (by rfl) ?_
                  refine hp_zast hx hb hK.1 1 hkn hS (by show _ ∨ _; omega) rfl d_M_shrink_136 (by omega) false t (by omega) (by omega) (fun H locs hknn hz1 ho1 hS => ?_)
                  have hZ := hz1.trans hZ
                  have hm := hm.keep (ho1 (mo) (by omega))
                  have hsd := hsd.keep (ho1 (mo + 1) (by omega))
                  have hsz := hsz.keep (ho1 (mo + 2) (by omega))
                  have hwd := hwd.keep (ho1 (mo + 3) (by omega))
                  have hkn : ca E H (mo + 10) (hp_az (E.2 1) 4 (hp_up kz t false)) := hknn
                  refine hp_iconst (z := 1) hx hb d_M_shrink_137 (by rfl) ?_
                  rw [hQ]
                  refine hp_zretQ hx hb hrt hlocks d_M_shrink_138 true (by first | rfl | assumption | simp [bI]) hS hZ ?_
                  rw [Int.toNat_natCast]
                  have h7 : (gw g t (c t - 1)).natAbs + 1 = w t := by omega
                  exact Or.inl ⟨rfl, ⟨by omega, by omega, by omega, h7, (bw_mn_1 (by omega) h7).mp (by omega)⟩, hm, hsd, hsz, hwd, hkn⟩
                · skip
                  refine hp_iconst (z := 0) hx hb d_M_shrink_108 (by rfl) ?_
                  rw [hQ]
                  refine hp_zretQ hx hb hrt hlocks d_M_shrink_109 false (by first | rfl | assumption | simp [bI]) hS hZ ?_
                  rw [Int.toNat_natCast]
                  exact Or.inr ⟨rfl, fun h => by have h8 := (bw_mn_1 h.2.2.1 h.2.2.2.1).mpr h.2.2.2.2; omega, hm, hsd, hsz, hwd, hkn⟩
            · skip
              have hb1 := gw_bd hbd t k
              refine lv_iload_n hx hb d_M_shrink_42 rfl (lv_at hl 2 rfl) ?_
              refine lv_aload_n hx hb d_M_shrink_43 rfl (lv_at hl 0 rfl) ?_
              refine lv_iload_n hx hb d_M_shrink_44 rfl (lv_at hl 1 rfl) ?_
              refine lv_iload_n hx hb d_M_shrink_45 rfl (lv_at hl 3 rfl) ?_
              refine hp_callS (W.runV (As := [.int (iI (t : Int)), .int (iI (k : Int))]) (rest := [.int (iI (n : Int))]) ⟨hx, hb, hml, hown, hG⟩ (c_M_letterAt l E mo th md fe ps w c g kz t k (by omega)) (cwV 2 hG (hp_goodV ml_M_64 im_M_letterAt se_M_letterAt in_M co_M_letterAt) rfl rfl rfl hd_M_letterAt ⟨by rw [hRf]; exact Nat.le_of_ble_eq_true rfl, by rw [hRl]; exact Nat.le_of_ble_eq_true rfl⟩) (hp_preV (ci := 3) hp_nsn hK rfl hm ⟨hm, hsd, hsz, hwd, hkn⟩) rfl rfl hl.1 rfl (lv_room (Nat.le_of_ble_eq_true rfl)) d_M_shrink_46 ⟨by rw [hRc]; exact Nat.le_of_ble_eq_true rfl, by rw [hRs]; exact Nat.le_of_ble_eq_true rfl⟩) ?_
              refine hp_callS (W.runS (As := [.int (iI (gw g t k))]) (rest := [.int (iI (n : Int))]) ⟨hx, hb, hml, hown, hG⟩ (c_M_value l E (gw g t k) (by omega)) (cwS 1 hG (hp_goodS ml_M_68 st_M_value in_M co_M_value) rfl rfl rfl hd_M_value ⟨by rw [hRf]; exact Nat.le_of_ble_eq_true rfl, by rw [hRl]; exact Nat.le_of_ble_eq_true rfl⟩) (hp_preS hp_nsn hK trivial) rfl rfl hl.1 rfl (lv_room (Nat.le_of_ble_eq_true rfl)) d_M_shrink_49 ⟨by rw [hRc]; exact Nat.le_of_ble_eq_true rfl, by rw [hRs]; exact Nat.le_of_ble_eq_true rfl⟩) ?_
              refine lv_aload_n hx hb d_M_shrink_52 rfl (lv_at hl 0 rfl) ?_
              refine hp_get (C := R_M) (T := F_M) (N := 19) (v := .ref (mo + 1)) hx hb hG la_M hown hK.1 hm rfl 1 (by decide) (hG _ fl_M_7) (fun _ h9 => h9) rfl d_M_shrink_53 ?_
              refine lv_iload_n hx hb d_M_shrink_56 rfl (lv_at hl 1 rfl) ?_
              refine hp_iald hx hb hK.1 0 hsd rfl d_M_shrink_57 (by omega) t (by omega) (by omega) ?_
              refine hp_iconst (z := 1) hx hb d_M_shrink_58 (by rfl) ?_
              refine hp_isub hx hb d_M_shrink_59 ?_
              refine hp_icmp_ne (tgt := 67) hx hb d_M_shrink_60 (by decide) (by unfold iR at *; omega) (by unfold iR at *; omega) (fun c60 => ?_) (fun c60 => ?_)
              · skip
                refine hp_iconst (z := 0) hx hb d_M_shrink_67 (by rfl) ?_
                refine hp_iadd hx hb d_M_shrink_68 ?_
                refine lv_istore_n (lv' := [(2, .int (iI ((n : Int) + 0))), (0, .ref mo), (1, .int (iI (t : Int))), (3, .int (iI (k : Int)))]) hx hb d_M_shrink_69 rfl hl (by decide) rfl (fun ls hl => ?_)
                refine hp_iinc (z := ((k : Int) + 1)) (lv' := [(3, .int (iI ((k : Int) + 1))), (2, .int (iI ((n : Int) + 0))), (0, .ref mo), (1, .int (iI (t : Int)))]) hx hb d_M_shrink_70 hl (k := 3) rfl (by omega) (by decide) rfl (fun ls hl => ?_)
                refine lv_goto (tgt := 32) hx hb d_M_shrink_73 (by decide) ?_
                exact ih32  (k + 1) (n + 0) (by omega) (by omega) (by simp only [bw_mn]; split <;> omega) H locs hS hZ hm hsd hsz hwd hkn ls (lv_sub hl [2, 3, 1, 0] rfl)
              · skip
                refine hp_iconst (z := 1) hx hb d_M_shrink_63 (by rfl) ?_
                refine lv_goto (tgt := 68) hx hb d_M_shrink_64 (by decide) ?_
                refine hp_iadd hx hb d_M_shrink_68 ?_
                refine lv_istore_n (lv' := [(2, .int (iI ((n : Int) + 1))), (0, .ref mo), (1, .int (iI (t : Int))), (3, .int (iI (k : Int)))]) hx hb d_M_shrink_69 rfl hl (by decide) rfl (fun ls hl => ?_)
                refine hp_iinc (z := ((k : Int) + 1)) (lv' := [(3, .int (iI ((k : Int) + 1))), (2, .int (iI ((n : Int) + 1))), (0, .ref mo), (1, .int (iI (t : Int)))]) hx hb d_M_shrink_70 hl (k := 3) rfl (by omega) (by decide) rfl (fun ls hl => ?_)
                refine lv_goto (tgt := 32) hx hb d_M_shrink_73 (by decide) ?_
                exact ih32  (k + 1) (n + 1) (by omega) (by omega) (by simp only [bw_mn]; split <;> omega) H locs hS hZ hm hsd hsz hwd hkn ls (lv_sub hl [2, 3, 1, 0] rfl)
        exact L32 (c t - 0 + 1) 0 0 (by omega) (by omega) (by rfl) H locs hS hZ hm hsd hsz hwd hkn ls (lv_sub hl [2, 3, 1, 0] rfl)
      · skip
        refine hp_iconst (z := 0) hx hb d_M_shrink_26 (by rfl) ?_
        rw [hQ]
        refine hp_zretQ hx hb hrt hlocks d_M_shrink_27 false (by first | rfl | assumption | simp [bI]) hS hZ ?_
        rw [Int.toNat_natCast]
        exact Or.inr ⟨rfl, fun h => by have h8 := hok t (by omega) (c t - 1) (by omega); omega, hm, hsd, hsz, hwd, hkn⟩
