set_option maxHeartbeats 4000000 in
set_option maxRecDepth 100000 in
/-- pass(s, k) -/
theorem c_M_pass (l : Launch) (E : hp_E) (mo : Nat) (th md fe ps : Int) (w c : Nat → Nat) (g : Nat → Int) (kz : Nat → Bool) (s0 k0 : Int) (hs0 : iR s0) (hk0 : iR k0) (hbd : bd g) (hvm : ∀ i, i < 4 → 1 ≤ w i ∧ w i ≤ 8 ∧ c i ≤ 32) (hok : ∀ i, i < 4 → okw (w i) (c i) (gw g i)) : Met l y_M_pass (Cond.code y_M_pass b_M_pass 10 (some .boolean) :: G0) ({ frames := 1, cells := 0, slots := 0, locals := 22 }) (hp_P E [.ref mo, .int (iI s0), .int (iI k0)] (fun H => mW E H mo th md fe ps w c g kz)) (hp_Qi (fun q => q = mo ∨ q = mo + 1 ∨ q = mo + 2 ∨ q = mo + 3 ∨ q = mo + 10) (fun r H => (r = 1 ∧ (0 ≤ s0 ∧ s0 < 4 ∧ 0 ≤ k0 ∧ k0 ≤ (c s0.toNat : Int) - 3 ∧ bw_can (gw g s0.toNat) k0.toNat = true) ∧ ∃ a1 a2 a3 : Int, a1 = bw_sgn (gw g s0.toNat (k0.toNat + 2)) * ((gw g s0.toNat (k0.toNat + 1)).natAbs : Int) ∧ a2 = bw_sgn (gw g s0.toNat (k0.toNat + 1)) * ((gw g s0.toNat k0.toNat).natAbs : Int) ∧ a3 = bw_sgn (gw g s0.toNat k0.toNat) * ((gw g s0.toNat (k0.toNat + 1)).natAbs : Int) ∧ mW E H mo th md fe ps w c (hp_up (hp_up (hp_up g (32 * s0.toNat + k0.toNat) a1) (32 * s0.toNat + k0.toNat + 1) a2) (32 * s0.toNat + k0.toNat + 2) a3) (hp_up kz s0.toNat false)) ∨ (r = 0 ∧ ¬ (0 ≤ s0 ∧ s0 < 4 ∧ 0 ≤ k0 ∧ k0 ≤ (c s0.toNat : Int) - 3 ∧ bw_can (gw g s0.toNat) k0.toNat = true) ∧ mW E H mo th md fe ps w c g kz))) 0 0 (fun q => q = mo ∨ q = mo + 1 ∨ q = mo + 2 ∨ q = mo + 3 ∨ q = mo + 10) := by
  refine Met.ofW (cc := b_M_pass) (maxL := 10) (ret := some .boolean) (by decide) rfl ?_
  intro p e s m args below meth cd s₁ Bd hml hv
  obtain ⟨hargs, hB, hK⟩ := hv
  have hx := Bd.exec
  have hb := Bd.bytes
  have hrt := Bd.returns
  have hts := atoms_spec (ws := Cond.code y_M_pass b_M_pass 10 (some .boolean) :: G0) Bd.pre
  have hG : ∀ w ∈ G0, w.before args s = true := fun w h => hts w (List.mem_cons_of_mem _ h)
  have hown : s.vm.findClass R_M = some m.cls := findClass_of_methodNamed Bd.named
  have hlocks := Bd.notSynchronized
  have hl := lv_entry ([.ref mo, .int (iI s0), .int (iI k0)]) (n := 10) (Nat.le_of_ble_eq_true rfl)
  rw [show entryFrame m args 10 = entryFrame m ([.ref mo, .int (iI s0), .int (iI k0)] : List Value).toArray 10 from by rw [hargs]]
  rw [lg_entry_eq]
  generalize (lg_sl ([.ref mo, .int (iI s0), .int (iI k0)]) ++ List.replicate (10 - (lg_sl ([.ref mo, .int (iI s0), .int (iI k0)])).length) Slot.unset).toArray = ls at hl ⊢
  have hl : lv_has ls 10 [(0, .ref mo), (1, .int (iI s0)), (2, .int (iI k0))] := hl
  obtain ⟨R, hR⟩ : ∃ R, R = (headSpec (Cond.code y_M_pass b_M_pass 10 (some .boolean) :: G0) { frames := 1, cells := 0, slots := 0, locals := 22 }).room := ⟨_, rfl⟩
  rw [← hR]
  have hRf : R.frames = 1 := by rw [hR]; rfl
  have hRl : R.locals = 22 := by rw [hR]; rfl
  have hRc : R.cells = 0 := by rw [hR]; rfl
  have hRs : R.slots = 0 := by rw [hR]; rfl
  obtain ⟨Q, hQ⟩ : ∃ Q, Q = MQ below (hp_Qi (fun q => q = mo ∨ q = mo + 1 ∨ q = mo + 2 ∨ q = mo + 3 ∨ q = mo + 10) (fun r H => (r = 1 ∧ (0 ≤ s0 ∧ s0 < 4 ∧ 0 ≤ k0 ∧ k0 ≤ (c s0.toNat : Int) - 3 ∧ bw_can (gw g s0.toNat) k0.toNat = true) ∧ ∃ a1 a2 a3 : Int, a1 = bw_sgn (gw g s0.toNat (k0.toNat + 2)) * ((gw g s0.toNat (k0.toNat + 1)).natAbs : Int) ∧ a2 = bw_sgn (gw g s0.toNat (k0.toNat + 1)) * ((gw g s0.toNat k0.toNat).natAbs : Int) ∧ a3 = bw_sgn (gw g s0.toNat k0.toNat) * ((gw g s0.toNat (k0.toNat + 1)).natAbs : Int) ∧ mW E H mo th md fe ps w c (hp_up (hp_up (hp_up g (32 * s0.toNat + k0.toNat) a1) (32 * s0.toNat + k0.toNat + 1) a2) (32 * s0.toNat + k0.toNat + 2) a3) (hp_up kz s0.toNat false)) ∨ (r = 0 ∧ ¬ (0 ≤ s0 ∧ s0 < 4 ∧ 0 ≤ k0 ∧ k0 ≤ (c s0.toNat : Int) - 3 ∧ bw_can (gw g s0.toNat) k0.toNat = true) ∧ mW E H mo th md fe ps w c g kz))) args s 0 0 (fun q => q = mo ∨ q = mo + 1 ∨ q = mo + 2 ∨ q = mo + 3 ∨ q = mo + 10) := ⟨_, rfl⟩
  rw [← hQ]
  obtain ⟨H, hH⟩ : ∃ H, H = s.heap := ⟨_, rfl⟩
  obtain ⟨locs, hlocs⟩ : ∃ locs : List Loc, locs = [] := ⟨_, rfl⟩
  have hS : va_S (fun q => q = mo ∨ q = mo + 1 ∨ q = mo + 2 ∨ q = mo + 3 ∨ q = mo + 10) s.heap H locs := by rw [hH, hlocs]; exact va_S.rf
  have hZ : H.size = s.heap.size := by rw [hH]
  rw [← hH] at hB
  rw [show W p l e R s m args below meth cd s.heap [] 0 0 Q (F0 m 0 ls []) = W p l e R s m args below meth cd H locs 0 0 Q (F0 m 0 ls []) from by rw [hH, hlocs]]
  obtain ⟨hm, hsd, hsz, hwd, hkn⟩ := hB
  refine lv_iload_n hx hb d_M_pass_0 rfl (lv_at hl 1 rfl) ?_
  refine hp_callS (W.runS (As := [.int (iI s0)]) (rest := []) ⟨hx, hb, hml, hown, hG⟩ (c_M_isSlot l E s0 (by unfold iR at *; omega)) (cwS 1 hG (hp_goodS ml_M_60 st_M_isSlot in_M co_M_isSlot) rfl rfl rfl hd_M_isSlot ⟨by rw [hRf]; exact Nat.le_of_ble_eq_true rfl, by rw [hRl]; exact Nat.le_of_ble_eq_true rfl⟩) (hp_preS hp_nsn hK trivial) rfl rfl hl.1 rfl (lv_room (Nat.le_of_ble_eq_true rfl)) d_M_pass_1 ⟨by rw [hRc]; exact Nat.le_of_ble_eq_true rfl, by rw [hRs]; exact Nat.le_of_ble_eq_true rfl⟩) ?_
  refine hp_ifb_eq (tgt := 23) hx hb d_M_pass_4 (by decide) (fun c4 => ?_) (fun c4 => ?_)
  · skip
    have c4 := of_decide_eq_false c4
    refine hp_iconst (z := 0) hx hb d_M_pass_23 (by rfl) ?_
    rw [hQ]
    refine hp_zretQ hx hb hrt hlocks d_M_pass_24 false (by first | rfl | assumption | simp [bI]) hS hZ ?_
    first | exact Or.inr ⟨rfl, by omega, hm, hsd, hsz, hwd, hkn⟩ | (rw [Int.toNat_natCast]; exact Or.inr ⟨rfl, by omega, hm, hsd, hsz, hwd, hkn⟩) | (rw [Int.toNat_natCast, Int.toNat_natCast]; exact Or.inr ⟨rfl, by omega, hm, hsd, hsz, hwd, hkn⟩)
  · skip
    have c4 := of_decide_eq_true c4
    obtain ⟨t, rfl⟩ : ∃ q : Nat, s0 = (q : Int) := ⟨s0.toNat, by omega⟩
    have hvt := hvm t (by omega)
    refine lv_iload_n hx hb d_M_pass_7 rfl (lv_at hl 2 rfl) ?_
    refine hp_if_lt (tgt := 23) hx hb d_M_pass_8 (by decide) (by unfold iR at *; omega) (fun c8 => ?_) (fun c8 => ?_)
    · skip
      refine hp_iconst (z := 0) hx hb d_M_pass_23 (by rfl) ?_
      rw [hQ]
      refine hp_zretQ hx hb hrt hlocks d_M_pass_24 false (by first | rfl | assumption | simp [bI]) hS hZ ?_
      first | exact Or.inr ⟨rfl, by omega, hm, hsd, hsz, hwd, hkn⟩ | (rw [Int.toNat_natCast]; exact Or.inr ⟨rfl, by omega, hm, hsd, hsz, hwd, hkn⟩) | (rw [Int.toNat_natCast, Int.toNat_natCast]; exact Or.inr ⟨rfl, by omega, hm, hsd, hsz, hwd, hkn⟩)
    · skip
      refine lv_iload_n hx hb d_M_pass_11 rfl (lv_at hl 2 rfl) ?_
      refine lv_aload_n hx hb d_M_pass_12 rfl (lv_at hl 0 rfl) ?_
      refine hp_get (C := R_M) (T := F_M) (N := 19) (v := .ref (mo + 2)) hx hb hG la_M hown hK.1 hm rfl 2 (by decide) (hG _ fl_M_13) (fun _ h9 => h9) rfl d_M_pass_13 ?_
      refine lv_iload_n hx hb d_M_pass_16 rfl (lv_at hl 1 rfl) ?_
      refine hp_iald hx hb hK.1 0 hsz rfl d_M_pass_17 (by omega) t (by omega) (by omega) ?_
      refine hp_iconst (z := 2) hx hb d_M_pass_18 (by rfl) ?_
      refine hp_isub hx hb d_M_pass_19 ?_
      refine hp_icmp_lt (tgt := 25) hx hb d_M_pass_20 (by decide) (by unfold iR at *; omega) (by unfold iR at *; omega) (fun c20 => ?_) (fun c20 => ?_)
      · skip
        obtain ⟨k, rfl⟩ : ∃ q : Nat, k0 = (q : Int) := ⟨k0.toNat, by omega⟩
        have hb1 := gw_bd hbd t k
        have hb2 := gw_bd hbd t (k + 1)
        have hb3 := gw_bd hbd t (k + 2)
        have ho0 := (hok t (by omega) k (by omega)).1
        have ho2 := (hok t (by omega) (k + 1) (by omega)).1
        have ho3 := (hok t (by omega) (k + 2) (by omega)).1
        have hci := bw_can_i (f := gw g t) (k := k) ho0 ho2 ho3
        refine lv_aload_n hx hb d_M_pass_25 rfl (lv_at hl 0 rfl) ?_
        refine lv_iload_n hx hb d_M_pass_26 rfl (lv_at hl 1 rfl) ?_
        refine lv_iload_n hx hb d_M_pass_27 rfl (lv_at hl 2 rfl) ?_
        refine hp_callS (W.runV (As := [.int (iI (t : Int)), .int (iI (k : Int))]) (rest := []) ⟨hx, hb, hml, hown, hG⟩ (c_M_letterAt l E mo th md fe ps w c g kz t k (by omega)) (cwV 2 hG (hp_goodV ml_M_64 im_M_letterAt se_M_letterAt in_M co_M_letterAt) rfl rfl rfl hd_M_letterAt ⟨by rw [hRf]; exact Nat.le_of_ble_eq_true rfl, by rw [hRl]; exact Nat.le_of_ble_eq_true rfl⟩) (hp_preV (ci := 3) hp_nsn hK rfl hm ⟨hm, hsd, hsz, hwd, hkn⟩) rfl rfl hl.1 rfl (lv_room (Nat.le_of_ble_eq_true rfl)) d_M_pass_28 ⟨by rw [hRc]; exact Nat.le_of_ble_eq_true rfl, by rw [hRs]; exact Nat.le_of_ble_eq_true rfl⟩) ?_
        refine lv_istore_n (lv' := [(3, .int (iI (gw g t k))), (0, .ref mo), (1, .int (iI (t : Int))), (2, .int (iI (k : Int)))]) hx hb d_M_pass_31 rfl hl (by decide) rfl (fun ls hl => ?_)
        refine lv_aload_n hx hb d_M_pass_32 rfl (lv_at hl 1 rfl) ?_
        refine lv_iload_n hx hb d_M_pass_33 rfl (lv_at hl 2 rfl) ?_
        refine lv_iload_n hx hb d_M_pass_34 rfl (lv_at hl 3 rfl) ?_
        refine hp_iconst (z := 1) hx hb d_M_pass_35 (by rfl) ?_
        refine hp_iadd hx hb d_M_pass_36 ?_
        refine hp_callS (W.runV (As := [.int (iI (t : Int)), .int (iI ((k : Int) + 1))]) (rest := []) ⟨hx, hb, hml, hown, hG⟩ (c_M_letterAt l E mo th md fe ps w c g kz t (k + 1) (by omega)) (cwV 2 hG (hp_goodV ml_M_64 im_M_letterAt se_M_letterAt in_M co_M_letterAt) rfl rfl rfl hd_M_letterAt ⟨by rw [hRf]; exact Nat.le_of_ble_eq_true rfl, by rw [hRl]; exact Nat.le_of_ble_eq_true rfl⟩) (hp_preV (ci := 3) hp_nsn hK rfl hm ⟨hm, hsd, hsz, hwd, hkn⟩) rfl rfl hl.1 rfl (lv_room (Nat.le_of_ble_eq_true rfl)) d_M_pass_37 ⟨by rw [hRc]; exact Nat.le_of_ble_eq_true rfl, by rw [hRs]; exact Nat.le_of_ble_eq_true rfl⟩) ?_
        refine lv_istore (lv' := [(4, .int (iI (gw g t (k + 1)))), (3, .int (iI (gw g t k))), (0, .ref mo), (1, .int (iI (t : Int))), (2, .int (iI (k : Int)))]) hx hb d_M_pass_40 hl (by decide) rfl (fun ls hl => ?_)
        refine lv_aload_n hx hb d_M_pass_42 rfl (lv_at hl 2 rfl) ?_
        refine lv_iload_n hx hb d_M_pass_43 rfl (lv_at hl 3 rfl) ?_
        refine lv_iload_n hx hb d_M_pass_44 rfl (lv_at hl 4 rfl) ?_
        refine hp_iconst (z := 2) hx hb d_M_pass_45 (by rfl) ?_
        refine hp_iadd hx hb d_M_pass_46 ?_
        refine hp_callS (W.runV (As := [.int (iI (t : Int)), .int (iI ((k : Int) + 2))]) (rest := []) ⟨hx, hb, hml, hown, hG⟩ (c_M_letterAt l E mo th md fe ps w c g kz t (k + 2) (by omega)) (cwV 2 hG (hp_goodV ml_M_64 im_M_letterAt se_M_letterAt in_M co_M_letterAt) rfl rfl rfl hd_M_letterAt ⟨by rw [hRf]; exact Nat.le_of_ble_eq_true rfl, by rw [hRl]; exact Nat.le_of_ble_eq_true rfl⟩) (hp_preV (ci := 3) hp_nsn hK rfl hm ⟨hm, hsd, hsz, hwd, hkn⟩) rfl rfl hl.1 rfl (lv_room (Nat.le_of_ble_eq_true rfl)) d_M_pass_47 ⟨by rw [hRc]; exact Nat.le_of_ble_eq_true rfl, by rw [hRs]; exact Nat.le_of_ble_eq_true rfl⟩) ?_
        refine lv_istore (lv' := [(5, .int (iI (gw g t (k + 2)))), (4, .int (iI (gw g t (k + 1)))), (3, .int (iI (gw g t k))), (0, .ref mo), (1, .int (iI (t : Int))), (2, .int (iI (k : Int)))]) hx hb d_M_pass_50 hl (by decide) rfl (fun ls hl => ?_)
        refine lv_iload_n hx hb d_M_pass_52 rfl (lv_at hl 2 rfl) ?_
        refine hp_callS (W.runS (As := [.int (iI (gw g t k))]) (rest := []) ⟨hx, hb, hml, hown, hG⟩ (c_M_value l E (gw g t k) (by omega)) (cwS 1 hG (hp_goodS ml_M_68 st_M_value in_M co_M_value) rfl rfl rfl hd_M_value ⟨by rw [hRf]; exact Nat.le_of_ble_eq_true rfl, by rw [hRl]; exact Nat.le_of_ble_eq_true rfl⟩) (hp_preS hp_nsn hK trivial) rfl rfl hl.1 rfl (lv_room (Nat.le_of_ble_eq_true rfl)) d_M_pass_53 ⟨by rw [hRc]; exact Nat.le_of_ble_eq_true rfl, by rw [hRs]; exact Nat.le_of_ble_eq_true rfl⟩) ?_
        refine lv_istore (lv' := [(6, .int (iI ((gw g t k).natAbs : Int))), (5, .int (iI (gw g t (k + 2)))), (4, .int (iI (gw g t (k + 1)))), (3, .int (iI (gw g t k))), (0, .ref mo), (1, .int (iI (t : Int))), (2, .int (iI (k : Int)))]) hx hb d_M_pass_56 hl (by decide) rfl (fun ls hl => ?_)
        refine lv_iload hx hb d_M_pass_58 (lv_at hl 2 rfl) ?_
        refine hp_callS (W.runS (As := [.int (iI (gw g t (k + 1)))]) (rest := []) ⟨hx, hb, hml, hown, hG⟩ (c_M_value l E (gw g t (k + 1)) (by omega)) (cwS 1 hG (hp_goodS ml_M_68 st_M_value in_M co_M_value) rfl rfl rfl hd_M_value ⟨by rw [hRf]; exact Nat.le_of_ble_eq_true rfl, by rw [hRl]; exact Nat.le_of_ble_eq_true rfl⟩) (hp_preS hp_nsn hK trivial) rfl rfl hl.1 rfl (lv_room (Nat.le_of_ble_eq_true rfl)) d_M_pass_60 ⟨by rw [hRc]; exact Nat.le_of_ble_eq_true rfl, by rw [hRs]; exact Nat.le_of_ble_eq_true rfl⟩) ?_
        refine lv_istore (lv' := [(7, .int (iI ((gw g t (k + 1)).natAbs : Int))), (6, .int (iI ((gw g t k).natAbs : Int))), (5, .int (iI (gw g t (k + 2)))), (4, .int (iI (gw g t (k + 1)))), (3, .int (iI (gw g t k))), (0, .ref mo), (1, .int (iI (t : Int))), (2, .int (iI (k : Int)))]) hx hb d_M_pass_63 hl (by decide) rfl (fun ls hl => ?_)
        refine lv_iload hx hb d_M_pass_65 (lv_at hl 1 rfl) ?_
        refine lv_iload hx hb d_M_pass_67 (lv_at hl 2 rfl) ?_
        refine hp_callS (W.runS (As := [.int (iI (gw g t (k + 2)))]) (rest := [.int (iI ((gw g t k).natAbs : Int))]) ⟨hx, hb, hml, hown, hG⟩ (c_M_value l E (gw g t (k + 2)) (by omega)) (cwS 1 hG (hp_goodS ml_M_68 st_M_value in_M co_M_value) rfl rfl rfl hd_M_value ⟨by rw [hRf]; exact Nat.le_of_ble_eq_true rfl, by rw [hRl]; exact Nat.le_of_ble_eq_true rfl⟩) (hp_preS hp_nsn hK trivial) rfl rfl hl.1 rfl (lv_room (Nat.le_of_ble_eq_true rfl)) d_M_pass_69 ⟨by rw [hRc]; exact Nat.le_of_ble_eq_true rfl, by rw [hRs]; exact Nat.le_of_ble_eq_true rfl⟩) ?_
        refine hp_icmp_ne (tgt := 97) hx hb d_M_pass_72 (by decide) (by unfold iR at *; omega) (by unfold iR at *; omega) (fun c72 => ?_) (fun c72 => ?_)
        · skip
          refine hp_iconst (z := 0) hx hb d_M_pass_97 (by rfl) ?_
          refine lv_istore (lv' := [(8, .int (iI 0)), (7, .int (iI ((gw g t (k + 1)).natAbs : Int))), (6, .int (iI ((gw g t k).natAbs : Int))), (5, .int (iI (gw g t (k + 2)))), (4, .int (iI (gw g t (k + 1)))), (3, .int (iI (gw g t k))), (0, .ref mo), (1, .int (iI (t : Int))), (2, .int (iI (k : Int)))]) hx hb d_M_pass_98 hl (by decide) rfl (fun ls hl => ?_)
          refine lv_iload_n hx hb d_M_pass_100 rfl (lv_at hl 5 rfl) ?_
          refine hp_if_le (tgt := 108) hx hb d_M_pass_101 (by decide) (by unfold iR at *; omega) (fun c101 => ?_) (fun c101 => ?_)
          · skip
            refine hp_iconst (z := 0) hx hb d_M_pass_108 (by rfl) ?_
            refine lv_iload hx hb d_M_pass_109 (lv_at hl 3 rfl) ?_
            refine hp_if_le (tgt := 118) hx hb d_M_pass_111 (by decide) (by unfold iR at *; omega) (fun c111 => ?_) (fun c111 => ?_)
            · skip
              refine hp_iconst (z := 0) hx hb d_M_pass_118 (by rfl) ?_
              refine hp_icmp_ne (tgt := 126) hx hb d_M_pass_119 (by decide) (by unfold iR at *; omega) (by unfold iR at *; omega) (fun c119 => ?_) (fun c119 => ?_)
              · skip
                exact absurd c119 (by first | decide | omega)
              · skip
                refine hp_iconst (z := 1) hx hb d_M_pass_122 (by rfl) ?_
                refine lv_goto (tgt := 127) hx hb d_M_pass_123 (by decide) ?_
                refine lv_istore (lv' := [(9, .int (iI 1)), (8, .int (iI 0)), (7, .int (iI ((gw g t (k + 1)).natAbs : Int))), (6, .int (iI ((gw g t k).natAbs : Int))), (5, .int (iI (gw g t (k + 2)))), (4, .int (iI (gw g t (k + 1)))), (3, .int (iI (gw g t k))), (0, .ref mo), (1, .int (iI (t : Int))), (2, .int (iI (k : Int)))]) hx hb d_M_pass_127 hl (by decide) rfl (fun ls hl => ?_)
                refine lv_iload hx hb d_M_pass_129 (lv_at hl 1 rfl) ?_
                refine hp_if_eq (tgt := 161) hx hb d_M_pass_131 (by decide) (by unfold iR at *; omega) (fun c131 => ?_) (fun c131 => ?_)
                · skip
                  refine hp_iconst (z := 0) hx hb d_M_pass_161 (by rfl) ?_
                  rw [hQ]
                  refine hp_zretQ hx hb hrt hlocks d_M_pass_162 false (by first | rfl | assumption | simp [bI]) hS hZ ?_
                  rw [Int.toNat_natCast, Int.toNat_natCast]
                  exact Or.inr ⟨rfl, fun h9 => by have h8 := hci.mp h9.2.2.2.2; omega, hm, hsd, hsz, hwd, hkn⟩
                · skip
                  exact absurd c131 (by first | decide | omega)
            · skip
              refine hp_iconst (z := 1) hx hb d_M_pass_114 (by rfl) ?_
              refine lv_goto (tgt := 119) hx hb d_M_pass_115 (by decide) ?_
              refine hp_icmp_ne (tgt := 126) hx hb d_M_pass_119 (by decide) (by unfold iR at *; omega) (by unfold iR at *; omega) (fun c119 => ?_) (fun c119 => ?_)
              · skip
                refine hp_iconst (z := 0) hx hb d_M_pass_126 (by rfl) ?_
                refine lv_istore (lv' := [(9, .int (iI 0)), (8, .int (iI 0)), (7, .int (iI ((gw g t (k + 1)).natAbs : Int))), (6, .int (iI ((gw g t k).natAbs : Int))), (5, .int (iI (gw g t (k + 2)))), (4, .int (iI (gw g t (k + 1)))), (3, .int (iI (gw g t k))), (0, .ref mo), (1, .int (iI (t : Int))), (2, .int (iI (k : Int)))]) hx hb d_M_pass_127 hl (by decide) rfl (fun ls hl => ?_)
                refine lv_iload hx hb d_M_pass_129 (lv_at hl 1 rfl) ?_
                refine hp_if_eq (tgt := 161) hx hb d_M_pass_131 (by decide) (by unfold iR at *; omega) (fun c131 => ?_) (fun c131 => ?_)
                · skip
                  refine hp_iconst (z := 0) hx hb d_M_pass_161 (by rfl) ?_
                  rw [hQ]
                  refine hp_zretQ hx hb hrt hlocks d_M_pass_162 false (by first | rfl | assumption | simp [bI]) hS hZ ?_
                  rw [Int.toNat_natCast, Int.toNat_natCast]
                  exact Or.inr ⟨rfl, fun h9 => by have h8 := hci.mp h9.2.2.2.2; omega, hm, hsd, hsz, hwd, hkn⟩
                · skip
                  exact absurd c131 (by first | decide | omega)
              · skip
                exact absurd c119 (by first | decide | omega)
          · skip
            refine hp_iconst (z := 1) hx hb d_M_pass_104 (by rfl) ?_
            refine lv_goto (tgt := 109) hx hb d_M_pass_105 (by decide) ?_
            refine lv_iload hx hb d_M_pass_109 (lv_at hl 3 rfl) ?_
            refine hp_if_le (tgt := 118) hx hb d_M_pass_111 (by decide) (by unfold iR at *; omega) (fun c111 => ?_) (fun c111 => ?_)
            · skip
              refine hp_iconst (z := 0) hx hb d_M_pass_118 (by rfl) ?_
              refine hp_icmp_ne (tgt := 126) hx hb d_M_pass_119 (by decide) (by unfold iR at *; omega) (by unfold iR at *; omega) (fun c119 => ?_) (fun c119 => ?_)
              · skip
                refine hp_iconst (z := 0) hx hb d_M_pass_126 (by rfl) ?_
                refine lv_istore (lv' := [(9, .int (iI 0)), (8, .int (iI 0)), (7, .int (iI ((gw g t (k + 1)).natAbs : Int))), (6, .int (iI ((gw g t k).natAbs : Int))), (5, .int (iI (gw g t (k + 2)))), (4, .int (iI (gw g t (k + 1)))), (3, .int (iI (gw g t k))), (0, .ref mo), (1, .int (iI (t : Int))), (2, .int (iI (k : Int)))]) hx hb d_M_pass_127 hl (by decide) rfl (fun ls hl => ?_)
                refine lv_iload hx hb d_M_pass_129 (lv_at hl 1 rfl) ?_
                refine hp_if_eq (tgt := 161) hx hb d_M_pass_131 (by decide) (by unfold iR at *; omega) (fun c131 => ?_) (fun c131 => ?_)
                · skip
                  refine hp_iconst (z := 0) hx hb d_M_pass_161 (by rfl) ?_
                  rw [hQ]
                  refine hp_zretQ hx hb hrt hlocks d_M_pass_162 false (by first | rfl | assumption | simp [bI]) hS hZ ?_
                  rw [Int.toNat_natCast, Int.toNat_natCast]
                  exact Or.inr ⟨rfl, fun h9 => by have h8 := hci.mp h9.2.2.2.2; omega, hm, hsd, hsz, hwd, hkn⟩
                · skip
                  exact absurd c131 (by first | decide | omega)
              · skip
                exact absurd c119 (by first | decide | omega)
            · skip
              refine hp_iconst (z := 1) hx hb d_M_pass_114 (by rfl) ?_
              refine lv_goto (tgt := 119) hx hb d_M_pass_115 (by decide) ?_
              refine hp_icmp_ne (tgt := 126) hx hb d_M_pass_119 (by decide) (by unfold iR at *; omega) (by unfold iR at *; omega) (fun c119 => ?_) (fun c119 => ?_)
              · skip
                exact absurd c119 (by first | decide | omega)
              · skip
                refine hp_iconst (z := 1) hx hb d_M_pass_122 (by rfl) ?_
                refine lv_goto (tgt := 127) hx hb d_M_pass_123 (by decide) ?_
                refine lv_istore (lv' := [(9, .int (iI 1)), (8, .int (iI 0)), (7, .int (iI ((gw g t (k + 1)).natAbs : Int))), (6, .int (iI ((gw g t k).natAbs : Int))), (5, .int (iI (gw g t (k + 2)))), (4, .int (iI (gw g t (k + 1)))), (3, .int (iI (gw g t k))), (0, .ref mo), (1, .int (iI (t : Int))), (2, .int (iI (k : Int)))]) hx hb d_M_pass_127 hl (by decide) rfl (fun ls hl => ?_)
                refine lv_iload hx hb d_M_pass_129 (lv_at hl 1 rfl) ?_
                refine hp_if_eq (tgt := 161) hx hb d_M_pass_131 (by decide) (by unfold iR at *; omega) (fun c131 => ?_) (fun c131 => ?_)
                · skip
                  refine hp_iconst (z := 0) hx hb d_M_pass_161 (by rfl) ?_
                  rw [hQ]
                  refine hp_zretQ hx hb hrt hlocks d_M_pass_162 false (by first | rfl | assumption | simp [bI]) hS hZ ?_
                  rw [Int.toNat_natCast, Int.toNat_natCast]
                  exact Or.inr ⟨rfl, fun h9 => by have h8 := hci.mp h9.2.2.2.2; omega, hm, hsd, hsz, hwd, hkn⟩
                · skip
                  exact absurd c131 (by first | decide | omega)
        · skip
          refine lv_iload hx hb d_M_pass_75 (lv_at hl 1 rfl) ?_
          refine lv_iload hx hb d_M_pass_77 (lv_at hl 0 rfl) ?_
          refine hp_isub hx hb d_M_pass_79 ?_
          refine hp_iconst (z := 1) hx hb d_M_pass_80 (by rfl) ?_
          refine hp_icmp_eq (tgt := 93) hx hb d_M_pass_81 (by decide) (by unfold iR at *; omega) (by unfold iR at *; omega) (fun c81 => ?_) (fun c81 => ?_)
          · skip
            refine hp_iconst (z := 1) hx hb d_M_pass_93 (by rfl) ?_
            refine lv_goto (tgt := 98) hx hb d_M_pass_94 (by decide) ?_
            refine lv_istore (lv' := [(8, .int (iI 1)), (7, .int (iI ((gw g t (k + 1)).natAbs : Int))), (6, .int (iI ((gw g t k).natAbs : Int))), (5, .int (iI (gw g t (k + 2)))), (4, .int (iI (gw g t (k + 1)))), (3, .int (iI (gw g t k))), (0, .ref mo), (1, .int (iI (t : Int))), (2, .int (iI (k : Int)))]) hx hb d_M_pass_98 hl (by decide) rfl (fun ls hl => ?_)
            refine lv_iload_n hx hb d_M_pass_100 rfl (lv_at hl 5 rfl) ?_
            refine hp_if_le (tgt := 108) hx hb d_M_pass_101 (by decide) (by unfold iR at *; omega) (fun c101 => ?_) (fun c101 => ?_)
            · skip
              refine hp_iconst (z := 0) hx hb d_M_pass_108 (by rfl) ?_
              refine lv_iload hx hb d_M_pass_109 (lv_at hl 3 rfl) ?_
              refine hp_if_le (tgt := 118) hx hb d_M_pass_111 (by decide) (by unfold iR at *; omega) (fun c111 => ?_) (fun c111 => ?_)
              · skip
                refine hp_iconst (z := 0) hx hb d_M_pass_118 (by rfl) ?_
                refine hp_icmp_ne (tgt := 126) hx hb d_M_pass_119 (by decide) (by unfold iR at *; omega) (by unfold iR at *; omega) (fun c119 => ?_) (fun c119 => ?_)
                · skip
                  exact absurd c119 (by first | decide | omega)
                · skip
                  refine hp_iconst (z := 1) hx hb d_M_pass_122 (by rfl) ?_
                  refine lv_goto (tgt := 127) hx hb d_M_pass_123 (by decide) ?_
                  refine lv_istore (lv' := [(9, .int (iI 1)), (8, .int (iI 1)), (7, .int (iI ((gw g t (k + 1)).natAbs : Int))), (6, .int (iI ((gw g t k).natAbs : Int))), (5, .int (iI (gw g t (k + 2)))), (4, .int (iI (gw g t (k + 1)))), (3, .int (iI (gw g t k))), (0, .ref mo), (1, .int (iI (t : Int))), (2, .int (iI (k : Int)))]) hx hb d_M_pass_127 hl (by decide) rfl (fun ls hl => ?_)
                  refine lv_iload hx hb d_M_pass_129 (lv_at hl 1 rfl) ?_
                  refine hp_if_eq (tgt := 161) hx hb d_M_pass_131 (by decide) (by unfold iR at *; omega) (fun c131 => ?_) (fun c131 => ?_)
                  · skip
                    exact absurd c131 (by first | decide | omega)
                  · skip
                    refine lv_iload hx hb d_M_pass_134 (lv_at hl 0 rfl) ?_
                    refine hp_if_eq (tgt := 163) hx hb d_M_pass_136 (by decide) (by unfold iR at *; omega) (fun c136 => ?_) (fun c136 => ?_)
                    · skip
                      exact absurd c136 (by first | decide | omega)
                    · skip
                      refine lv_iload hx hb d_M_pass_139 (lv_at hl 5 rfl) ?_
                      refine hp_if_le (tgt := 148) hx hb d_M_pass_141 (by decide) (by unfold iR at *; omega) (fun c141 => ?_) (fun c141 => ?_)
                      · skip
                        refine hp_iconst (z := 0) hx hb d_M_pass_148 (by rfl) ?_
                        refine lv_iload_n hx hb d_M_pass_149 rfl (lv_at hl 6 rfl) ?_
                        refine hp_if_le (tgt := 157) hx hb d_M_pass_150 (by decide) (by unfold iR at *; omega) (fun c150 => ?_) (fun c150 => ?_)
                        · skip
                          refine hp_iconst (z := 0) hx hb d_M_pass_157 (by rfl) ?_
                          refine hp_icmp_eq (tgt := 163) hx hb d_M_pass_158 (by decide) (by unfold iR at *; omega) (by unfold iR at *; omega) (fun c158 => ?_) (fun c158 => ?_)
                          · skip
                            refine lv_aload_n hx hb d_M_pass_163 rfl (lv_at hl 7 rfl) ?_
                            refine hp_get (C := R_M) (T := F_M) (N := 19) (v := .ref (mo + 3)) hx hb hG la_M hown hK.1 hm rfl 3 (by decide) (hG _ fl_M_16) (fun _ h9 => h9) rfl d_M_pass_164 ?_
                            refine hp_bipush (z := 32) hx hb d_M_pass_167 (by rfl) ?_
                            refine lv_iload_n hx hb d_M_pass_169 rfl (lv_at hl 8 rfl) ?_
                            refine hp_imul hx hb d_M_pass_170 ?_
                            refine lv_iload_n hx hb d_M_pass_171 rfl (lv_at hl 9 rfl) ?_
                            refine hp_iadd hx hb d_M_pass_172 ?_
                            refine lv_iload hx hb d_M_pass_173 (lv_at hl 4 rfl) ?_
                            refine hp_if_le (tgt := 183) hx hb d_M_pass_175 (by decide) (by unfold iR at *; omega) (fun c175 => ?_) (fun c175 => ?_)
                            · skip
                              refine lv_iload hx hb d_M_pass_183 (lv_at hl 2 rfl) ?_
                              refine hp_ineg hx hb d_M_pass_185 ?_
                              refine hp_iast hx hb hK.1 0 hwd hS (by show _ ∨ _; omega) rfl d_M_pass_186 (by omega) ((32 * t) + k) (by omega) (by omega) (fun H locs hwdn hz1 ho1 hS => ?_)
                              have hZ := hz1.trans hZ
                              have hm := hm.keep (ho1 (mo) (by omega))
                              have hsd := hsd.keep (ho1 (mo + 1) (by omega))
                              have hsz := hsz.keep (ho1 (mo + 2) (by omega))
                              have hkn := hkn.keep (ho1 (mo + 10) (by omega))
                              have hwd : ca E H (mo + 3) (ai E 128 (hp_up g ((32 * t) + k) (-((gw g t (k + 1)).natAbs : Int)))) := hwdn
                              refine lv_aload_n hx hb d_M_pass_187 rfl (lv_at hl 7 rfl) ?_
                              refine hp_get (C := R_M) (T := F_M) (N := 19) (v := .ref (mo + 3)) hx hb hG la_M hown hK.1 hm rfl 3 (by decide) (hG _ fl_M_16) (fun _ h9 => h9) rfl d_M_pass_188 ?_
                              refine hp_bipush (z := 32) hx hb d_M_pass_191 (by rfl) ?_
                              refine lv_iload_n hx hb d_M_pass_193 rfl (lv_at hl 8 rfl) ?_
                              refine hp_imul hx hb d_M_pass_194 ?_
                              refine lv_iload_n hx hb d_M_pass_195 rfl (lv_at hl 9 rfl) ?_
                              refine hp_iadd hx hb d_M_pass_196 ?_
                              refine hp_iconst (z := 1) hx hb d_M_pass_197 (by rfl) ?_
                              refine hp_iadd hx hb d_M_pass_198 ?_
                              refine lv_iload hx hb d_M_pass_199 (lv_at hl 5 rfl) ?_
                              refine hp_if_le (tgt := 209) hx hb d_M_pass_201 (by decide) (by unfold iR at *; omega) (fun c201 => ?_) (fun c201 => ?_)
                              · skip
                                refine lv_iload hx hb d_M_pass_209 (lv_at hl 3 rfl) ?_
                                refine hp_ineg hx hb d_M_pass_211 ?_
                                refine hp_iast hx hb hK.1 0 hwd hS (by show _ ∨ _; omega) rfl d_M_pass_212 (by omega) (((32 * t) + k) + 1) (by omega) (by omega) (fun H locs hwdn hz1 ho1 hS => ?_)
                                have hZ := hz1.trans hZ
                                have hm := hm.keep (ho1 (mo) (by omega))
                                have hsd := hsd.keep (ho1 (mo + 1) (by omega))
                                have hsz := hsz.keep (ho1 (mo + 2) (by omega))
                                have hkn := hkn.keep (ho1 (mo + 10) (by omega))
                                have hwd : ca E H (mo + 3) (ai E 128 (hp_up (hp_up g ((32 * t) + k) (-((gw g t (k + 1)).natAbs : Int))) (((32 * t) + k) + 1) (-((gw g t k).natAbs : Int)))) := hwdn
                                refine lv_aload_n hx hb d_M_pass_213 rfl (lv_at hl 7 rfl) ?_
                                refine hp_get (C := R_M) (T := F_M) (N := 19) (v := .ref (mo + 3)) hx hb hG la_M hown hK.1 hm rfl 3 (by decide) (hG _ fl_M_16) (fun _ h9 => h9) rfl d_M_pass_214 ?_
                                refine hp_bipush (z := 32) hx hb d_M_pass_217 (by rfl) ?_
                                refine lv_iload_n hx hb d_M_pass_219 rfl (lv_at hl 8 rfl) ?_
                                refine hp_imul hx hb d_M_pass_220 ?_
                                refine lv_iload_n hx hb d_M_pass_221 rfl (lv_at hl 9 rfl) ?_
                                refine hp_iadd hx hb d_M_pass_222 ?_
                                refine hp_iconst (z := 2) hx hb d_M_pass_223 (by rfl) ?_
                                refine hp_iadd hx hb d_M_pass_224 ?_
                                refine lv_iload_n hx hb d_M_pass_225 rfl (lv_at hl 6 rfl) ?_
                                refine hp_if_le (tgt := 234) hx hb d_M_pass_226 (by decide) (by unfold iR at *; omega) (fun c226 => ?_) (fun c226 => ?_)
                                · skip
                                  refine lv_iload hx hb d_M_pass_234 (lv_at hl 2 rfl) ?_
                                  refine hp_ineg hx hb d_M_pass_236 ?_
                                  refine hp_iast hx hb hK.1 0 hwd hS (by show _ ∨ _; omega) rfl d_M_pass_237 (by omega) (((32 * t) + k) + 2) (by omega) (by omega) (fun H locs hwdn hz1 ho1 hS => ?_)
                                  have hZ := hz1.trans hZ
                                  have hm := hm.keep (ho1 (mo) (by omega))
                                  have hsd := hsd.keep (ho1 (mo + 1) (by omega))
                                  have hsz := hsz.keep (ho1 (mo + 2) (by omega))
                                  have hkn := hkn.keep (ho1 (mo + 10) (by omega))
                                  have hwd : ca E H (mo + 3) (ai E 128 (hp_up (hp_up (hp_up g ((32 * t) + k) (-((gw g t (k + 1)).natAbs : Int))) (((32 * t) + k) + 1) (-((gw g t k).natAbs : Int))) (((32 * t) + k) + 2) (-((gw g t (k + 1)).natAbs : Int)))) := hwdn
                                  refine lv_aload_n hx hb d_M_pass_238 rfl (lv_at hl 7 rfl) ?_
                                  refine hp_get (C := R_M) (T := F_M) (N := 19) (v := .ref (mo + 10)) hx hb hG la_M hown hK.1 hm rfl 13 (by decide) (hG _ fl_M_37) (fun _ h9 => h9) rfl d_M_pass_239 ?_
                                  refine lv_iload_n hx hb d_M_pass_242 rfl (lv_at hl 8 rfl) ?_
                                  refine hp_iconst (z := 0) hx hb d_M_pass_243 (by rfl) ?_
                                  refine hp_zast hx hb hK.1 1 hkn hS (by show _ ∨ _; omega) rfl d_M_pass_244 (by omega) false t (by omega) (by omega) (fun H locs hknn hz1 ho1 hS => ?_)
                                  have hZ := hz1.trans hZ
                                  have hm := hm.keep (ho1 (mo) (by omega))
                                  have hsd := hsd.keep (ho1 (mo + 1) (by omega))
                                  have hsz := hsz.keep (ho1 (mo + 2) (by omega))
                                  have hwd := hwd.keep (ho1 (mo + 3) (by omega))
                                  have hkn : ca E H (mo + 10) (hp_az (E.2 1) 4 (hp_up kz t false)) := hknn
                                  refine hp_iconst (z := 1) hx hb d_M_pass_245 (by rfl) ?_
                                  rw [hQ]
                                  refine hp_zretQ hx hb hrt hlocks d_M_pass_246 true (by first | rfl | assumption | simp [bI]) hS hZ ?_
                                  rw [Int.toNat_natCast, Int.toNat_natCast]
                                  exact Or.inl ⟨rfl, ⟨by omega, by omega, by omega, by omega, hci.mpr (by omega)⟩, _, _, _, (by first | exact bw_mulp (by omega) | exact bw_muln (by omega)), (by first | exact bw_mulp (by omega) | exact bw_muln (by omega)), (by first | exact bw_mulp (by omega) | exact bw_muln (by omega)), hm, hsd, hsz, hwd, hkn⟩
                                · skip
                                  exact absurd c226 (by first | decide | omega)
                              · skip
                                exact absurd c201 (by first | decide | omega)
                            · skip
                              exact absurd c175 (by first | decide | omega)
                          · skip
                            exact absurd c158 (by first | decide | omega)
                        · skip
                          exact absurd c150 (by first | decide | omega)
                      · skip
                        refine hp_iconst (z := 1) hx hb d_M_pass_144 (by rfl) ?_
                        refine lv_goto (tgt := 149) hx hb d_M_pass_145 (by decide) ?_
                        refine lv_iload_n hx hb d_M_pass_149 rfl (lv_at hl 6 rfl) ?_
                        refine hp_if_le (tgt := 157) hx hb d_M_pass_150 (by decide) (by unfold iR at *; omega) (fun c150 => ?_) (fun c150 => ?_)
                        · skip
                          refine hp_iconst (z := 0) hx hb d_M_pass_157 (by rfl) ?_
                          refine hp_icmp_eq (tgt := 163) hx hb d_M_pass_158 (by decide) (by unfold iR at *; omega) (by unfold iR at *; omega) (fun c158 => ?_) (fun c158 => ?_)
                          · skip
                            exact absurd c158 (by first | decide | omega)
                          · skip
                            refine hp_iconst (z := 0) hx hb d_M_pass_161 (by rfl) ?_
                            rw [hQ]
                            refine hp_zretQ hx hb hrt hlocks d_M_pass_162 false (by first | rfl | assumption | simp [bI]) hS hZ ?_
                            rw [Int.toNat_natCast, Int.toNat_natCast]
                            exact Or.inr ⟨rfl, fun h9 => by have h8 := hci.mp h9.2.2.2.2; omega, hm, hsd, hsz, hwd, hkn⟩
                        · skip
                          exact absurd c150 (by first | decide | omega)
              · skip
                refine hp_iconst (z := 1) hx hb d_M_pass_114 (by rfl) ?_
                refine lv_goto (tgt := 119) hx hb d_M_pass_115 (by decide) ?_
                refine hp_icmp_ne (tgt := 126) hx hb d_M_pass_119 (by decide) (by unfold iR at *; omega) (by unfold iR at *; omega) (fun c119 => ?_) (fun c119 => ?_)
                · skip
                  refine hp_iconst (z := 0) hx hb d_M_pass_126 (by rfl) ?_
                  refine lv_istore (lv' := [(9, .int (iI 0)), (8, .int (iI 1)), (7, .int (iI ((gw g t (k + 1)).natAbs : Int))), (6, .int (iI ((gw g t k).natAbs : Int))), (5, .int (iI (gw g t (k + 2)))), (4, .int (iI (gw g t (k + 1)))), (3, .int (iI (gw g t k))), (0, .ref mo), (1, .int (iI (t : Int))), (2, .int (iI (k : Int)))]) hx hb d_M_pass_127 hl (by decide) rfl (fun ls hl => ?_)
                  refine lv_iload hx hb d_M_pass_129 (lv_at hl 1 rfl) ?_
                  refine hp_if_eq (tgt := 161) hx hb d_M_pass_131 (by decide) (by unfold iR at *; omega) (fun c131 => ?_) (fun c131 => ?_)
                  · skip
                    exact absurd c131 (by first | decide | omega)
                  · skip
                    refine lv_iload hx hb d_M_pass_134 (lv_at hl 0 rfl) ?_
                    refine hp_if_eq (tgt := 163) hx hb d_M_pass_136 (by decide) (by unfold iR at *; omega) (fun c136 => ?_) (fun c136 => ?_)
                    · skip
                      refine lv_aload_n hx hb d_M_pass_163 rfl (lv_at hl 7 rfl) ?_
                      refine hp_get (C := R_M) (T := F_M) (N := 19) (v := .ref (mo + 3)) hx hb hG la_M hown hK.1 hm rfl 3 (by decide) (hG _ fl_M_16) (fun _ h9 => h9) rfl d_M_pass_164 ?_
                      refine hp_bipush (z := 32) hx hb d_M_pass_167 (by rfl) ?_
                      refine lv_iload_n hx hb d_M_pass_169 rfl (lv_at hl 8 rfl) ?_
                      refine hp_imul hx hb d_M_pass_170 ?_
                      refine lv_iload_n hx hb d_M_pass_171 rfl (lv_at hl 9 rfl) ?_
                      refine hp_iadd hx hb d_M_pass_172 ?_
                      refine lv_iload hx hb d_M_pass_173 (lv_at hl 4 rfl) ?_
                      refine hp_if_le (tgt := 183) hx hb d_M_pass_175 (by decide) (by unfold iR at *; omega) (fun c175 => ?_) (fun c175 => ?_)
                      · skip
                        exact absurd c175 (by first | decide | omega)
                      · skip
                        refine lv_iload hx hb d_M_pass_178 (lv_at hl 2 rfl) ?_
                        refine lv_goto (tgt := 186) hx hb d_M_pass_180 (by decide) ?_
                        refine hp_iast hx hb hK.1 0 hwd hS (by show _ ∨ _; omega) rfl d_M_pass_186 (by omega) ((32 * t) + k) (by omega) (by omega) (fun H locs hwdn hz1 ho1 hS => ?_)
                        have hZ := hz1.trans hZ
                        have hm := hm.keep (ho1 (mo) (by omega))
                        have hsd := hsd.keep (ho1 (mo + 1) (by omega))
                        have hsz := hsz.keep (ho1 (mo + 2) (by omega))
                        have hkn := hkn.keep (ho1 (mo + 10) (by omega))
                        have hwd : ca E H (mo + 3) (ai E 128 (hp_up g ((32 * t) + k) ((gw g t (k + 1)).natAbs : Int))) := hwdn
                        refine lv_aload_n hx hb d_M_pass_187 rfl (lv_at hl 7 rfl) ?_
                        refine hp_get (C := R_M) (T := F_M) (N := 19) (v := .ref (mo + 3)) hx hb hG la_M hown hK.1 hm rfl 3 (by decide) (hG _ fl_M_16) (fun _ h9 => h9) rfl d_M_pass_188 ?_
                        refine hp_bipush (z := 32) hx hb d_M_pass_191 (by rfl) ?_
                        refine lv_iload_n hx hb d_M_pass_193 rfl (lv_at hl 8 rfl) ?_
                        refine hp_imul hx hb d_M_pass_194 ?_
                        refine lv_iload_n hx hb d_M_pass_195 rfl (lv_at hl 9 rfl) ?_
                        refine hp_iadd hx hb d_M_pass_196 ?_
                        refine hp_iconst (z := 1) hx hb d_M_pass_197 (by rfl) ?_
                        refine hp_iadd hx hb d_M_pass_198 ?_
                        refine lv_iload hx hb d_M_pass_199 (lv_at hl 5 rfl) ?_
                        refine hp_if_le (tgt := 209) hx hb d_M_pass_201 (by decide) (by unfold iR at *; omega) (fun c201 => ?_) (fun c201 => ?_)
                        · skip
                          refine lv_iload hx hb d_M_pass_209 (lv_at hl 3 rfl) ?_
                          refine hp_ineg hx hb d_M_pass_211 ?_
                          refine hp_iast hx hb hK.1 0 hwd hS (by show _ ∨ _; omega) rfl d_M_pass_212 (by omega) (((32 * t) + k) + 1) (by omega) (by omega) (fun H locs hwdn hz1 ho1 hS => ?_)
                          have hZ := hz1.trans hZ
                          have hm := hm.keep (ho1 (mo) (by omega))
                          have hsd := hsd.keep (ho1 (mo + 1) (by omega))
                          have hsz := hsz.keep (ho1 (mo + 2) (by omega))
                          have hkn := hkn.keep (ho1 (mo + 10) (by omega))
                          have hwd : ca E H (mo + 3) (ai E 128 (hp_up (hp_up g ((32 * t) + k) ((gw g t (k + 1)).natAbs : Int)) (((32 * t) + k) + 1) (-((gw g t k).natAbs : Int)))) := hwdn
                          refine lv_aload_n hx hb d_M_pass_213 rfl (lv_at hl 7 rfl) ?_
                          refine hp_get (C := R_M) (T := F_M) (N := 19) (v := .ref (mo + 3)) hx hb hG la_M hown hK.1 hm rfl 3 (by decide) (hG _ fl_M_16) (fun _ h9 => h9) rfl d_M_pass_214 ?_
                          refine hp_bipush (z := 32) hx hb d_M_pass_217 (by rfl) ?_
                          refine lv_iload_n hx hb d_M_pass_219 rfl (lv_at hl 8 rfl) ?_
                          refine hp_imul hx hb d_M_pass_220 ?_
                          refine lv_iload_n hx hb d_M_pass_221 rfl (lv_at hl 9 rfl) ?_
                          refine hp_iadd hx hb d_M_pass_222 ?_
                          refine hp_iconst (z := 2) hx hb d_M_pass_223 (by rfl) ?_
                          refine hp_iadd hx hb d_M_pass_224 ?_
                          refine lv_iload_n hx hb d_M_pass_225 rfl (lv_at hl 6 rfl) ?_
                          refine hp_if_le (tgt := 234) hx hb d_M_pass_226 (by decide) (by unfold iR at *; omega) (fun c226 => ?_) (fun c226 => ?_)
                          · skip
                            refine lv_iload hx hb d_M_pass_234 (lv_at hl 2 rfl) ?_
                            refine hp_ineg hx hb d_M_pass_236 ?_
                            refine hp_iast hx hb hK.1 0 hwd hS (by show _ ∨ _; omega) rfl d_M_pass_237 (by omega) (((32 * t) + k) + 2) (by omega) (by omega) (fun H locs hwdn hz1 ho1 hS => ?_)
                            have hZ := hz1.trans hZ
                            have hm := hm.keep (ho1 (mo) (by omega))
                            have hsd := hsd.keep (ho1 (mo + 1) (by omega))
                            have hsz := hsz.keep (ho1 (mo + 2) (by omega))
                            have hkn := hkn.keep (ho1 (mo + 10) (by omega))
                            have hwd : ca E H (mo + 3) (ai E 128 (hp_up (hp_up (hp_up g ((32 * t) + k) ((gw g t (k + 1)).natAbs : Int)) (((32 * t) + k) + 1) (-((gw g t k).natAbs : Int))) (((32 * t) + k) + 2) (-((gw g t (k + 1)).natAbs : Int)))) := hwdn
                            refine lv_aload_n hx hb d_M_pass_238 rfl (lv_at hl 7 rfl) ?_
                            refine hp_get (C := R_M) (T := F_M) (N := 19) (v := .ref (mo + 10)) hx hb hG la_M hown hK.1 hm rfl 13 (by decide) (hG _ fl_M_37) (fun _ h9 => h9) rfl d_M_pass_239 ?_
                            refine lv_iload_n hx hb d_M_pass_242 rfl (lv_at hl 8 rfl) ?_
                            refine hp_iconst (z := 0) hx hb d_M_pass_243 (by rfl) ?_
                            refine hp_zast hx hb hK.1 1 hkn hS (by show _ ∨ _; omega) rfl d_M_pass_244 (by omega) false t (by omega) (by omega) (fun H locs hknn hz1 ho1 hS => ?_)
                            have hZ := hz1.trans hZ
                            have hm := hm.keep (ho1 (mo) (by omega))
                            have hsd := hsd.keep (ho1 (mo + 1) (by omega))
                            have hsz := hsz.keep (ho1 (mo + 2) (by omega))
                            have hwd := hwd.keep (ho1 (mo + 3) (by omega))
                            have hkn : ca E H (mo + 10) (hp_az (E.2 1) 4 (hp_up kz t false)) := hknn
                            refine hp_iconst (z := 1) hx hb d_M_pass_245 (by rfl) ?_
                            rw [hQ]
                            refine hp_zretQ hx hb hrt hlocks d_M_pass_246 true (by first | rfl | assumption | simp [bI]) hS hZ ?_
                            rw [Int.toNat_natCast, Int.toNat_natCast]
                            exact Or.inl ⟨rfl, ⟨by omega, by omega, by omega, by omega, hci.mpr (by omega)⟩, _, _, _, (by first | exact bw_mulp (by omega) | exact bw_muln (by omega)), (by first | exact bw_mulp (by omega) | exact bw_muln (by omega)), (by first | exact bw_mulp (by omega) | exact bw_muln (by omega)), hm, hsd, hsz, hwd, hkn⟩
                          · skip
                            exact absurd c226 (by first | decide | omega)
                        · skip
                          refine lv_iload hx hb d_M_pass_204 (lv_at hl 3 rfl) ?_
                          refine lv_goto (tgt := 212) hx hb d_M_pass_206 (by decide) ?_
                          refine hp_iast hx hb hK.1 0 hwd hS (by show _ ∨ _; omega) rfl d_M_pass_212 (by omega) (((32 * t) + k) + 1) (by omega) (by omega) (fun H locs hwdn hz1 ho1 hS => ?_)
                          have hZ := hz1.trans hZ
                          have hm := hm.keep (ho1 (mo) (by omega))
                          have hsd := hsd.keep (ho1 (mo + 1) (by omega))
                          have hsz := hsz.keep (ho1 (mo + 2) (by omega))
                          have hkn := hkn.keep (ho1 (mo + 10) (by omega))
                          have hwd : ca E H (mo + 3) (ai E 128 (hp_up (hp_up g ((32 * t) + k) ((gw g t (k + 1)).natAbs : Int)) (((32 * t) + k) + 1) ((gw g t k).natAbs : Int))) := hwdn
                          refine lv_aload_n hx hb d_M_pass_213 rfl (lv_at hl 7 rfl) ?_
                          refine hp_get (C := R_M) (T := F_M) (N := 19) (v := .ref (mo + 3)) hx hb hG la_M hown hK.1 hm rfl 3 (by decide) (hG _ fl_M_16) (fun _ h9 => h9) rfl d_M_pass_214 ?_
                          refine hp_bipush (z := 32) hx hb d_M_pass_217 (by rfl) ?_
                          refine lv_iload_n hx hb d_M_pass_219 rfl (lv_at hl 8 rfl) ?_
                          refine hp_imul hx hb d_M_pass_220 ?_
                          refine lv_iload_n hx hb d_M_pass_221 rfl (lv_at hl 9 rfl) ?_
                          refine hp_iadd hx hb d_M_pass_222 ?_
                          refine hp_iconst (z := 2) hx hb d_M_pass_223 (by rfl) ?_
                          refine hp_iadd hx hb d_M_pass_224 ?_
                          refine lv_iload_n hx hb d_M_pass_225 rfl (lv_at hl 6 rfl) ?_
                          refine hp_if_le (tgt := 234) hx hb d_M_pass_226 (by decide) (by unfold iR at *; omega) (fun c226 => ?_) (fun c226 => ?_)
                          · skip
                            refine lv_iload hx hb d_M_pass_234 (lv_at hl 2 rfl) ?_
                            refine hp_ineg hx hb d_M_pass_236 ?_
                            refine hp_iast hx hb hK.1 0 hwd hS (by show _ ∨ _; omega) rfl d_M_pass_237 (by omega) (((32 * t) + k) + 2) (by omega) (by omega) (fun H locs hwdn hz1 ho1 hS => ?_)
                            have hZ := hz1.trans hZ
                            have hm := hm.keep (ho1 (mo) (by omega))
                            have hsd := hsd.keep (ho1 (mo + 1) (by omega))
                            have hsz := hsz.keep (ho1 (mo + 2) (by omega))
                            have hkn := hkn.keep (ho1 (mo + 10) (by omega))
                            have hwd : ca E H (mo + 3) (ai E 128 (hp_up (hp_up (hp_up g ((32 * t) + k) ((gw g t (k + 1)).natAbs : Int)) (((32 * t) + k) + 1) ((gw g t k).natAbs : Int)) (((32 * t) + k) + 2) (-((gw g t (k + 1)).natAbs : Int)))) := hwdn
                            refine lv_aload_n hx hb d_M_pass_238 rfl (lv_at hl 7 rfl) ?_
                            refine hp_get (C := R_M) (T := F_M) (N := 19) (v := .ref (mo + 10)) hx hb hG la_M hown hK.1 hm rfl 13 (by decide) (hG _ fl_M_37) (fun _ h9 => h9) rfl d_M_pass_239 ?_
                            refine lv_iload_n hx hb d_M_pass_242 rfl (lv_at hl 8 rfl) ?_
                            refine hp_iconst (z := 0) hx hb d_M_pass_243 (by rfl) ?_
                            refine hp_zast hx hb hK.1 1 hkn hS (by show _ ∨ _; omega) rfl d_M_pass_244 (by omega) false t (by omega) (by omega) (fun H locs hknn hz1 ho1 hS => ?_)
                            have hZ := hz1.trans hZ
                            have hm := hm.keep (ho1 (mo) (by omega))
                            have hsd := hsd.keep (ho1 (mo + 1) (by omega))
                            have hsz := hsz.keep (ho1 (mo + 2) (by omega))
                            have hwd := hwd.keep (ho1 (mo + 3) (by omega))
                            have hkn : ca E H (mo + 10) (hp_az (E.2 1) 4 (hp_up kz t false)) := hknn
                            refine hp_iconst (z := 1) hx hb d_M_pass_245 (by rfl) ?_
                            rw [hQ]
                            refine hp_zretQ hx hb hrt hlocks d_M_pass_246 true (by first | rfl | assumption | simp [bI]) hS hZ ?_
                            rw [Int.toNat_natCast, Int.toNat_natCast]
                            exact Or.inl ⟨rfl, ⟨by omega, by omega, by omega, by omega, hci.mpr (by omega)⟩, _, _, _, (by first | exact bw_mulp (by omega) | exact bw_muln (by omega)), (by first | exact bw_mulp (by omega) | exact bw_muln (by omega)), (by first | exact bw_mulp (by omega) | exact bw_muln (by omega)), hm, hsd, hsz, hwd, hkn⟩
                          · skip
                            exact absurd c226 (by first | decide | omega)
                    · skip
                      exact absurd c136 (by first | decide | omega)
                · skip
                  exact absurd c119 (by first | decide | omega)
            · skip
              refine hp_iconst (z := 1) hx hb d_M_pass_104 (by rfl) ?_
              refine lv_goto (tgt := 109) hx hb d_M_pass_105 (by decide) ?_
              refine lv_iload hx hb d_M_pass_109 (lv_at hl 3 rfl) ?_
              refine hp_if_le (tgt := 118) hx hb d_M_pass_111 (by decide) (by unfold iR at *; omega) (fun c111 => ?_) (fun c111 => ?_)
              · skip
                refine hp_iconst (z := 0) hx hb d_M_pass_118 (by rfl) ?_
                refine hp_icmp_ne (tgt := 126) hx hb d_M_pass_119 (by decide) (by unfold iR at *; omega) (by unfold iR at *; omega) (fun c119 => ?_) (fun c119 => ?_)
                · skip
                  refine hp_iconst (z := 0) hx hb d_M_pass_126 (by rfl) ?_
                  refine lv_istore (lv' := [(9, .int (iI 0)), (8, .int (iI 1)), (7, .int (iI ((gw g t (k + 1)).natAbs : Int))), (6, .int (iI ((gw g t k).natAbs : Int))), (5, .int (iI (gw g t (k + 2)))), (4, .int (iI (gw g t (k + 1)))), (3, .int (iI (gw g t k))), (0, .ref mo), (1, .int (iI (t : Int))), (2, .int (iI (k : Int)))]) hx hb d_M_pass_127 hl (by decide) rfl (fun ls hl => ?_)
                  refine lv_iload hx hb d_M_pass_129 (lv_at hl 1 rfl) ?_
                  refine hp_if_eq (tgt := 161) hx hb d_M_pass_131 (by decide) (by unfold iR at *; omega) (fun c131 => ?_) (fun c131 => ?_)
                  · skip
                    exact absurd c131 (by first | decide | omega)
                  · skip
                    refine lv_iload hx hb d_M_pass_134 (lv_at hl 0 rfl) ?_
                    refine hp_if_eq (tgt := 163) hx hb d_M_pass_136 (by decide) (by unfold iR at *; omega) (fun c136 => ?_) (fun c136 => ?_)
                    · skip
                      refine lv_aload_n hx hb d_M_pass_163 rfl (lv_at hl 7 rfl) ?_
                      refine hp_get (C := R_M) (T := F_M) (N := 19) (v := .ref (mo + 3)) hx hb hG la_M hown hK.1 hm rfl 3 (by decide) (hG _ fl_M_16) (fun _ h9 => h9) rfl d_M_pass_164 ?_
                      refine hp_bipush (z := 32) hx hb d_M_pass_167 (by rfl) ?_
                      refine lv_iload_n hx hb d_M_pass_169 rfl (lv_at hl 8 rfl) ?_
                      refine hp_imul hx hb d_M_pass_170 ?_
                      refine lv_iload_n hx hb d_M_pass_171 rfl (lv_at hl 9 rfl) ?_
                      refine hp_iadd hx hb d_M_pass_172 ?_
                      refine lv_iload hx hb d_M_pass_173 (lv_at hl 4 rfl) ?_
                      refine hp_if_le (tgt := 183) hx hb d_M_pass_175 (by decide) (by unfold iR at *; omega) (fun c175 => ?_) (fun c175 => ?_)
                      · skip
                        refine lv_iload hx hb d_M_pass_183 (lv_at hl 2 rfl) ?_
                        refine hp_ineg hx hb d_M_pass_185 ?_
                        refine hp_iast hx hb hK.1 0 hwd hS (by show _ ∨ _; omega) rfl d_M_pass_186 (by omega) ((32 * t) + k) (by omega) (by omega) (fun H locs hwdn hz1 ho1 hS => ?_)
                        have hZ := hz1.trans hZ
                        have hm := hm.keep (ho1 (mo) (by omega))
                        have hsd := hsd.keep (ho1 (mo + 1) (by omega))
                        have hsz := hsz.keep (ho1 (mo + 2) (by omega))
                        have hkn := hkn.keep (ho1 (mo + 10) (by omega))
                        have hwd : ca E H (mo + 3) (ai E 128 (hp_up g ((32 * t) + k) (-((gw g t (k + 1)).natAbs : Int)))) := hwdn
                        refine lv_aload_n hx hb d_M_pass_187 rfl (lv_at hl 7 rfl) ?_
                        refine hp_get (C := R_M) (T := F_M) (N := 19) (v := .ref (mo + 3)) hx hb hG la_M hown hK.1 hm rfl 3 (by decide) (hG _ fl_M_16) (fun _ h9 => h9) rfl d_M_pass_188 ?_
                        refine hp_bipush (z := 32) hx hb d_M_pass_191 (by rfl) ?_
                        refine lv_iload_n hx hb d_M_pass_193 rfl (lv_at hl 8 rfl) ?_
                        refine hp_imul hx hb d_M_pass_194 ?_
                        refine lv_iload_n hx hb d_M_pass_195 rfl (lv_at hl 9 rfl) ?_
                        refine hp_iadd hx hb d_M_pass_196 ?_
                        refine hp_iconst (z := 1) hx hb d_M_pass_197 (by rfl) ?_
                        refine hp_iadd hx hb d_M_pass_198 ?_
                        refine lv_iload hx hb d_M_pass_199 (lv_at hl 5 rfl) ?_
                        refine hp_if_le (tgt := 209) hx hb d_M_pass_201 (by decide) (by unfold iR at *; omega) (fun c201 => ?_) (fun c201 => ?_)
                        · skip
                          refine lv_iload hx hb d_M_pass_209 (lv_at hl 3 rfl) ?_
                          refine hp_ineg hx hb d_M_pass_211 ?_
                          refine hp_iast hx hb hK.1 0 hwd hS (by show _ ∨ _; omega) rfl d_M_pass_212 (by omega) (((32 * t) + k) + 1) (by omega) (by omega) (fun H locs hwdn hz1 ho1 hS => ?_)
                          have hZ := hz1.trans hZ
                          have hm := hm.keep (ho1 (mo) (by omega))
                          have hsd := hsd.keep (ho1 (mo + 1) (by omega))
                          have hsz := hsz.keep (ho1 (mo + 2) (by omega))
                          have hkn := hkn.keep (ho1 (mo + 10) (by omega))
                          have hwd : ca E H (mo + 3) (ai E 128 (hp_up (hp_up g ((32 * t) + k) (-((gw g t (k + 1)).natAbs : Int))) (((32 * t) + k) + 1) (-((gw g t k).natAbs : Int)))) := hwdn
                          refine lv_aload_n hx hb d_M_pass_213 rfl (lv_at hl 7 rfl) ?_
                          refine hp_get (C := R_M) (T := F_M) (N := 19) (v := .ref (mo + 3)) hx hb hG la_M hown hK.1 hm rfl 3 (by decide) (hG _ fl_M_16) (fun _ h9 => h9) rfl d_M_pass_214 ?_
                          refine hp_bipush (z := 32) hx hb d_M_pass_217 (by rfl) ?_
                          refine lv_iload_n hx hb d_M_pass_219 rfl (lv_at hl 8 rfl) ?_
                          refine hp_imul hx hb d_M_pass_220 ?_
                          refine lv_iload_n hx hb d_M_pass_221 rfl (lv_at hl 9 rfl) ?_
                          refine hp_iadd hx hb d_M_pass_222 ?_
                          refine hp_iconst (z := 2) hx hb d_M_pass_223 (by rfl) ?_
                          refine hp_iadd hx hb d_M_pass_224 ?_
                          refine lv_iload_n hx hb d_M_pass_225 rfl (lv_at hl 6 rfl) ?_
                          refine hp_if_le (tgt := 234) hx hb d_M_pass_226 (by decide) (by unfold iR at *; omega) (fun c226 => ?_) (fun c226 => ?_)
                          · skip
                            exact absurd c226 (by first | decide | omega)
                          · skip
                            refine lv_iload hx hb d_M_pass_229 (lv_at hl 2 rfl) ?_
                            refine lv_goto (tgt := 237) hx hb d_M_pass_231 (by decide) ?_
                            refine hp_iast hx hb hK.1 0 hwd hS (by show _ ∨ _; omega) rfl d_M_pass_237 (by omega) (((32 * t) + k) + 2) (by omega) (by omega) (fun H locs hwdn hz1 ho1 hS => ?_)
                            have hZ := hz1.trans hZ
                            have hm := hm.keep (ho1 (mo) (by omega))
                            have hsd := hsd.keep (ho1 (mo + 1) (by omega))
                            have hsz := hsz.keep (ho1 (mo + 2) (by omega))
                            have hkn := hkn.keep (ho1 (mo + 10) (by omega))
                            have hwd : ca E H (mo + 3) (ai E 128 (hp_up (hp_up (hp_up g ((32 * t) + k) (-((gw g t (k + 1)).natAbs : Int))) (((32 * t) + k) + 1) (-((gw g t k).natAbs : Int))) (((32 * t) + k) + 2) ((gw g t (k + 1)).natAbs : Int))) := hwdn
                            refine lv_aload_n hx hb d_M_pass_238 rfl (lv_at hl 7 rfl) ?_
                            refine hp_get (C := R_M) (T := F_M) (N := 19) (v := .ref (mo + 10)) hx hb hG la_M hown hK.1 hm rfl 13 (by decide) (hG _ fl_M_37) (fun _ h9 => h9) rfl d_M_pass_239 ?_
                            refine lv_iload_n hx hb d_M_pass_242 rfl (lv_at hl 8 rfl) ?_
                            refine hp_iconst (z := 0) hx hb d_M_pass_243 (by rfl) ?_
                            refine hp_zast hx hb hK.1 1 hkn hS (by show _ ∨ _; omega) rfl d_M_pass_244 (by omega) false t (by omega) (by omega) (fun H locs hknn hz1 ho1 hS => ?_)
                            have hZ := hz1.trans hZ
                            have hm := hm.keep (ho1 (mo) (by omega))
                            have hsd := hsd.keep (ho1 (mo + 1) (by omega))
                            have hsz := hsz.keep (ho1 (mo + 2) (by omega))
                            have hwd := hwd.keep (ho1 (mo + 3) (by omega))
                            have hkn : ca E H (mo + 10) (hp_az (E.2 1) 4 (hp_up kz t false)) := hknn
                            refine hp_iconst (z := 1) hx hb d_M_pass_245 (by rfl) ?_
                            rw [hQ]
                            refine hp_zretQ hx hb hrt hlocks d_M_pass_246 true (by first | rfl | assumption | simp [bI]) hS hZ ?_
                            rw [Int.toNat_natCast, Int.toNat_natCast]
                            exact Or.inl ⟨rfl, ⟨by omega, by omega, by omega, by omega, hci.mpr (by omega)⟩, _, _, _, (by first | exact bw_mulp (by omega) | exact bw_muln (by omega)), (by first | exact bw_mulp (by omega) | exact bw_muln (by omega)), (by first | exact bw_mulp (by omega) | exact bw_muln (by omega)), hm, hsd, hsz, hwd, hkn⟩
                        · skip
                          refine lv_iload hx hb d_M_pass_204 (lv_at hl 3 rfl) ?_
                          refine lv_goto (tgt := 212) hx hb d_M_pass_206 (by decide) ?_
                          refine hp_iast hx hb hK.1 0 hwd hS (by show _ ∨ _; omega) rfl d_M_pass_212 (by omega) (((32 * t) + k) + 1) (by omega) (by omega) (fun H locs hwdn hz1 ho1 hS => ?_)
                          have hZ := hz1.trans hZ
                          have hm := hm.keep (ho1 (mo) (by omega))
                          have hsd := hsd.keep (ho1 (mo + 1) (by omega))
                          have hsz := hsz.keep (ho1 (mo + 2) (by omega))
                          have hkn := hkn.keep (ho1 (mo + 10) (by omega))
                          have hwd : ca E H (mo + 3) (ai E 128 (hp_up (hp_up g ((32 * t) + k) (-((gw g t (k + 1)).natAbs : Int))) (((32 * t) + k) + 1) ((gw g t k).natAbs : Int))) := hwdn
                          refine lv_aload_n hx hb d_M_pass_213 rfl (lv_at hl 7 rfl) ?_
                          refine hp_get (C := R_M) (T := F_M) (N := 19) (v := .ref (mo + 3)) hx hb hG la_M hown hK.1 hm rfl 3 (by decide) (hG _ fl_M_16) (fun _ h9 => h9) rfl d_M_pass_214 ?_
                          refine hp_bipush (z := 32) hx hb d_M_pass_217 (by rfl) ?_
                          refine lv_iload_n hx hb d_M_pass_219 rfl (lv_at hl 8 rfl) ?_
                          refine hp_imul hx hb d_M_pass_220 ?_
                          refine lv_iload_n hx hb d_M_pass_221 rfl (lv_at hl 9 rfl) ?_
                          refine hp_iadd hx hb d_M_pass_222 ?_
                          refine hp_iconst (z := 2) hx hb d_M_pass_223 (by rfl) ?_
                          refine hp_iadd hx hb d_M_pass_224 ?_
                          refine lv_iload_n hx hb d_M_pass_225 rfl (lv_at hl 6 rfl) ?_
                          refine hp_if_le (tgt := 234) hx hb d_M_pass_226 (by decide) (by unfold iR at *; omega) (fun c226 => ?_) (fun c226 => ?_)
                          · skip
                            exact absurd c226 (by first | decide | omega)
                          · skip
                            refine lv_iload hx hb d_M_pass_229 (lv_at hl 2 rfl) ?_
                            refine lv_goto (tgt := 237) hx hb d_M_pass_231 (by decide) ?_
                            refine hp_iast hx hb hK.1 0 hwd hS (by show _ ∨ _; omega) rfl d_M_pass_237 (by omega) (((32 * t) + k) + 2) (by omega) (by omega) (fun H locs hwdn hz1 ho1 hS => ?_)
                            have hZ := hz1.trans hZ
                            have hm := hm.keep (ho1 (mo) (by omega))
                            have hsd := hsd.keep (ho1 (mo + 1) (by omega))
                            have hsz := hsz.keep (ho1 (mo + 2) (by omega))
                            have hkn := hkn.keep (ho1 (mo + 10) (by omega))
                            have hwd : ca E H (mo + 3) (ai E 128 (hp_up (hp_up (hp_up g ((32 * t) + k) (-((gw g t (k + 1)).natAbs : Int))) (((32 * t) + k) + 1) ((gw g t k).natAbs : Int)) (((32 * t) + k) + 2) ((gw g t (k + 1)).natAbs : Int))) := hwdn
                            refine lv_aload_n hx hb d_M_pass_238 rfl (lv_at hl 7 rfl) ?_
                            refine hp_get (C := R_M) (T := F_M) (N := 19) (v := .ref (mo + 10)) hx hb hG la_M hown hK.1 hm rfl 13 (by decide) (hG _ fl_M_37) (fun _ h9 => h9) rfl d_M_pass_239 ?_
                            refine lv_iload_n hx hb d_M_pass_242 rfl (lv_at hl 8 rfl) ?_
                            refine hp_iconst (z := 0) hx hb d_M_pass_243 (by rfl) ?_
                            refine hp_zast hx hb hK.1 1 hkn hS (by show _ ∨ _; omega) rfl d_M_pass_244 (by omega) false t (by omega) (by omega) (fun H locs hknn hz1 ho1 hS => ?_)
                            have hZ := hz1.trans hZ
                            have hm := hm.keep (ho1 (mo) (by omega))
                            have hsd := hsd.keep (ho1 (mo + 1) (by omega))
                            have hsz := hsz.keep (ho1 (mo + 2) (by omega))
                            have hwd := hwd.keep (ho1 (mo + 3) (by omega))
                            have hkn : ca E H (mo + 10) (hp_az (E.2 1) 4 (hp_up kz t false)) := hknn
                            refine hp_iconst (z := 1) hx hb d_M_pass_245 (by rfl) ?_
                            rw [hQ]
                            refine hp_zretQ hx hb hrt hlocks d_M_pass_246 true (by first | rfl | assumption | simp [bI]) hS hZ ?_
                            rw [Int.toNat_natCast, Int.toNat_natCast]
                            exact Or.inl ⟨rfl, ⟨by omega, by omega, by omega, by omega, hci.mpr (by omega)⟩, _, _, _, (by first | exact bw_mulp (by omega) | exact bw_muln (by omega)), (by first | exact bw_mulp (by omega) | exact bw_muln (by omega)), (by first | exact bw_mulp (by omega) | exact bw_muln (by omega)), hm, hsd, hsz, hwd, hkn⟩
                      · skip
                        exact absurd c175 (by first | decide | omega)
                    · skip
                      exact absurd c136 (by first | decide | omega)
                · skip
                  exact absurd c119 (by first | decide | omega)
              · skip
                refine hp_iconst (z := 1) hx hb d_M_pass_114 (by rfl) ?_
                refine lv_goto (tgt := 119) hx hb d_M_pass_115 (by decide) ?_
                refine hp_icmp_ne (tgt := 126) hx hb d_M_pass_119 (by decide) (by unfold iR at *; omega) (by unfold iR at *; omega) (fun c119 => ?_) (fun c119 => ?_)
                · skip
                  exact absurd c119 (by first | decide | omega)
                · skip
                  refine hp_iconst (z := 1) hx hb d_M_pass_122 (by rfl) ?_
                  refine lv_goto (tgt := 127) hx hb d_M_pass_123 (by decide) ?_
                  refine lv_istore (lv' := [(9, .int (iI 1)), (8, .int (iI 1)), (7, .int (iI ((gw g t (k + 1)).natAbs : Int))), (6, .int (iI ((gw g t k).natAbs : Int))), (5, .int (iI (gw g t (k + 2)))), (4, .int (iI (gw g t (k + 1)))), (3, .int (iI (gw g t k))), (0, .ref mo), (1, .int (iI (t : Int))), (2, .int (iI (k : Int)))]) hx hb d_M_pass_127 hl (by decide) rfl (fun ls hl => ?_)
                  refine lv_iload hx hb d_M_pass_129 (lv_at hl 1 rfl) ?_
                  refine hp_if_eq (tgt := 161) hx hb d_M_pass_131 (by decide) (by unfold iR at *; omega) (fun c131 => ?_) (fun c131 => ?_)
                  · skip
                    exact absurd c131 (by first | decide | omega)
                  · skip
                    refine lv_iload hx hb d_M_pass_134 (lv_at hl 0 rfl) ?_
                    refine hp_if_eq (tgt := 163) hx hb d_M_pass_136 (by decide) (by unfold iR at *; omega) (fun c136 => ?_) (fun c136 => ?_)
                    · skip
                      exact absurd c136 (by first | decide | omega)
                    · skip
                      refine lv_iload hx hb d_M_pass_139 (lv_at hl 5 rfl) ?_
                      refine hp_if_le (tgt := 148) hx hb d_M_pass_141 (by decide) (by unfold iR at *; omega) (fun c141 => ?_) (fun c141 => ?_)
                      · skip
                        refine hp_iconst (z := 0) hx hb d_M_pass_148 (by rfl) ?_
                        refine lv_iload_n hx hb d_M_pass_149 rfl (lv_at hl 6 rfl) ?_
                        refine hp_if_le (tgt := 157) hx hb d_M_pass_150 (by decide) (by unfold iR at *; omega) (fun c150 => ?_) (fun c150 => ?_)
                        · skip
                          exact absurd c150 (by first | decide | omega)
                        · skip
                          refine hp_iconst (z := 1) hx hb d_M_pass_153 (by rfl) ?_
                          refine lv_goto (tgt := 158) hx hb d_M_pass_154 (by decide) ?_
                          refine hp_icmp_eq (tgt := 163) hx hb d_M_pass_158 (by decide) (by unfold iR at *; omega) (by unfold iR at *; omega) (fun c158 => ?_) (fun c158 => ?_)
                          · skip
                            exact absurd c158 (by first | decide | omega)
                          · skip
                            refine hp_iconst (z := 0) hx hb d_M_pass_161 (by rfl) ?_
                            rw [hQ]
                            refine hp_zretQ hx hb hrt hlocks d_M_pass_162 false (by first | rfl | assumption | simp [bI]) hS hZ ?_
                            rw [Int.toNat_natCast, Int.toNat_natCast]
                            exact Or.inr ⟨rfl, fun h9 => by have h8 := hci.mp h9.2.2.2.2; omega, hm, hsd, hsz, hwd, hkn⟩
                      · skip
                        refine hp_iconst (z := 1) hx hb d_M_pass_144 (by rfl) ?_
                        refine lv_goto (tgt := 149) hx hb d_M_pass_145 (by decide) ?_
                        refine lv_iload_n hx hb d_M_pass_149 rfl (lv_at hl 6 rfl) ?_
                        refine hp_if_le (tgt := 157) hx hb d_M_pass_150 (by decide) (by unfold iR at *; omega) (fun c150 => ?_) (fun c150 => ?_)
                        · skip
                          exact absurd c150 (by first | decide | omega)
                        · skip
                          refine hp_iconst (z := 1) hx hb d_M_pass_153 (by rfl) ?_
                          refine lv_goto (tgt := 158) hx hb d_M_pass_154 (by decide) ?_
                          refine hp_icmp_eq (tgt := 163) hx hb d_M_pass_158 (by decide) (by unfold iR at *; omega) (by unfold iR at *; omega) (fun c158 => ?_) (fun c158 => ?_)
                          · skip
                            refine lv_aload_n hx hb d_M_pass_163 rfl (lv_at hl 7 rfl) ?_
                            refine hp_get (C := R_M) (T := F_M) (N := 19) (v := .ref (mo + 3)) hx hb hG la_M hown hK.1 hm rfl 3 (by decide) (hG _ fl_M_16) (fun _ h9 => h9) rfl d_M_pass_164 ?_
                            refine hp_bipush (z := 32) hx hb d_M_pass_167 (by rfl) ?_
                            refine lv_iload_n hx hb d_M_pass_169 rfl (lv_at hl 8 rfl) ?_
                            refine hp_imul hx hb d_M_pass_170 ?_
                            refine lv_iload_n hx hb d_M_pass_171 rfl (lv_at hl 9 rfl) ?_
                            refine hp_iadd hx hb d_M_pass_172 ?_
                            refine lv_iload hx hb d_M_pass_173 (lv_at hl 4 rfl) ?_
                            refine hp_if_le (tgt := 183) hx hb d_M_pass_175 (by decide) (by unfold iR at *; omega) (fun c175 => ?_) (fun c175 => ?_)
                            · skip
                              exact absurd c175 (by first | decide | omega)
                            · skip
                              refine lv_iload hx hb d_M_pass_178 (lv_at hl 2 rfl) ?_
                              refine lv_goto (tgt := 186) hx hb d_M_pass_180 (by decide) ?_
                              refine hp_iast hx hb hK.1 0 hwd hS (by show _ ∨ _; omega) rfl d_M_pass_186 (by omega) ((32 * t) + k) (by omega) (by omega) (fun H locs hwdn hz1 ho1 hS => ?_)
                              have hZ := hz1.trans hZ
                              have hm := hm.keep (ho1 (mo) (by omega))
                              have hsd := hsd.keep (ho1 (mo + 1) (by omega))
                              have hsz := hsz.keep (ho1 (mo + 2) (by omega))
                              have hkn := hkn.keep (ho1 (mo + 10) (by omega))
                              have hwd : ca E H (mo + 3) (ai E 128 (hp_up g ((32 * t) + k) ((gw g t (k + 1)).natAbs : Int))) := hwdn
                              refine lv_aload_n hx hb d_M_pass_187 rfl (lv_at hl 7 rfl) ?_
                              refine hp_get (C := R_M) (T := F_M) (N := 19) (v := .ref (mo + 3)) hx hb hG la_M hown hK.1 hm rfl 3 (by decide) (hG _ fl_M_16) (fun _ h9 => h9) rfl d_M_pass_188 ?_
                              refine hp_bipush (z := 32) hx hb d_M_pass_191 (by rfl) ?_
                              refine lv_iload_n hx hb d_M_pass_193 rfl (lv_at hl 8 rfl) ?_
                              refine hp_imul hx hb d_M_pass_194 ?_
                              refine lv_iload_n hx hb d_M_pass_195 rfl (lv_at hl 9 rfl) ?_
                              refine hp_iadd hx hb d_M_pass_196 ?_
                              refine hp_iconst (z := 1) hx hb d_M_pass_197 (by rfl) ?_
                              refine hp_iadd hx hb d_M_pass_198 ?_
                              refine lv_iload hx hb d_M_pass_199 (lv_at hl 5 rfl) ?_
                              refine hp_if_le (tgt := 209) hx hb d_M_pass_201 (by decide) (by unfold iR at *; omega) (fun c201 => ?_) (fun c201 => ?_)
                              · skip
                                exact absurd c201 (by first | decide | omega)
                              · skip
                                refine lv_iload hx hb d_M_pass_204 (lv_at hl 3 rfl) ?_
                                refine lv_goto (tgt := 212) hx hb d_M_pass_206 (by decide) ?_
                                refine hp_iast hx hb hK.1 0 hwd hS (by show _ ∨ _; omega) rfl d_M_pass_212 (by omega) (((32 * t) + k) + 1) (by omega) (by omega) (fun H locs hwdn hz1 ho1 hS => ?_)
                                have hZ := hz1.trans hZ
                                have hm := hm.keep (ho1 (mo) (by omega))
                                have hsd := hsd.keep (ho1 (mo + 1) (by omega))
                                have hsz := hsz.keep (ho1 (mo + 2) (by omega))
                                have hkn := hkn.keep (ho1 (mo + 10) (by omega))
                                have hwd : ca E H (mo + 3) (ai E 128 (hp_up (hp_up g ((32 * t) + k) ((gw g t (k + 1)).natAbs : Int)) (((32 * t) + k) + 1) ((gw g t k).natAbs : Int))) := hwdn
                                refine lv_aload_n hx hb d_M_pass_213 rfl (lv_at hl 7 rfl) ?_
                                refine hp_get (C := R_M) (T := F_M) (N := 19) (v := .ref (mo + 3)) hx hb hG la_M hown hK.1 hm rfl 3 (by decide) (hG _ fl_M_16) (fun _ h9 => h9) rfl d_M_pass_214 ?_
                                refine hp_bipush (z := 32) hx hb d_M_pass_217 (by rfl) ?_
                                refine lv_iload_n hx hb d_M_pass_219 rfl (lv_at hl 8 rfl) ?_
                                refine hp_imul hx hb d_M_pass_220 ?_
                                refine lv_iload_n hx hb d_M_pass_221 rfl (lv_at hl 9 rfl) ?_
                                refine hp_iadd hx hb d_M_pass_222 ?_
                                refine hp_iconst (z := 2) hx hb d_M_pass_223 (by rfl) ?_
                                refine hp_iadd hx hb d_M_pass_224 ?_
                                refine lv_iload_n hx hb d_M_pass_225 rfl (lv_at hl 6 rfl) ?_
                                refine hp_if_le (tgt := 234) hx hb d_M_pass_226 (by decide) (by unfold iR at *; omega) (fun c226 => ?_) (fun c226 => ?_)
                                · skip
                                  exact absurd c226 (by first | decide | omega)
                                · skip
                                  refine lv_iload hx hb d_M_pass_229 (lv_at hl 2 rfl) ?_
                                  refine lv_goto (tgt := 237) hx hb d_M_pass_231 (by decide) ?_
                                  refine hp_iast hx hb hK.1 0 hwd hS (by show _ ∨ _; omega) rfl d_M_pass_237 (by omega) (((32 * t) + k) + 2) (by omega) (by omega) (fun H locs hwdn hz1 ho1 hS => ?_)
                                  have hZ := hz1.trans hZ
                                  have hm := hm.keep (ho1 (mo) (by omega))
                                  have hsd := hsd.keep (ho1 (mo + 1) (by omega))
                                  have hsz := hsz.keep (ho1 (mo + 2) (by omega))
                                  have hkn := hkn.keep (ho1 (mo + 10) (by omega))
                                  have hwd : ca E H (mo + 3) (ai E 128 (hp_up (hp_up (hp_up g ((32 * t) + k) ((gw g t (k + 1)).natAbs : Int)) (((32 * t) + k) + 1) ((gw g t k).natAbs : Int)) (((32 * t) + k) + 2) ((gw g t (k + 1)).natAbs : Int))) := hwdn
                                  refine lv_aload_n hx hb d_M_pass_238 rfl (lv_at hl 7 rfl) ?_
                                  refine hp_get (C := R_M) (T := F_M) (N := 19) (v := .ref (mo + 10)) hx hb hG la_M hown hK.1 hm rfl 13 (by decide) (hG _ fl_M_37) (fun _ h9 => h9) rfl d_M_pass_239 ?_
                                  refine lv_iload_n hx hb d_M_pass_242 rfl (lv_at hl 8 rfl) ?_
                                  refine hp_iconst (z := 0) hx hb d_M_pass_243 (by rfl) ?_
                                  refine hp_zast hx hb hK.1 1 hkn hS (by show _ ∨ _; omega) rfl d_M_pass_244 (by omega) false t (by omega) (by omega) (fun H locs hknn hz1 ho1 hS => ?_)
                                  have hZ := hz1.trans hZ
                                  have hm := hm.keep (ho1 (mo) (by omega))
                                  have hsd := hsd.keep (ho1 (mo + 1) (by omega))
                                  have hsz := hsz.keep (ho1 (mo + 2) (by omega))
                                  have hwd := hwd.keep (ho1 (mo + 3) (by omega))
                                  have hkn : ca E H (mo + 10) (hp_az (E.2 1) 4 (hp_up kz t false)) := hknn
                                  refine hp_iconst (z := 1) hx hb d_M_pass_245 (by rfl) ?_
                                  rw [hQ]
                                  refine hp_zretQ hx hb hrt hlocks d_M_pass_246 true (by first | rfl | assumption | simp [bI]) hS hZ ?_
                                  rw [Int.toNat_natCast, Int.toNat_natCast]
                                  exact Or.inl ⟨rfl, ⟨by omega, by omega, by omega, by omega, hci.mpr (by omega)⟩, _, _, _, (by first | exact bw_mulp (by omega) | exact bw_muln (by omega)), (by first | exact bw_mulp (by omega) | exact bw_muln (by omega)), (by first | exact bw_mulp (by omega) | exact bw_muln (by omega)), hm, hsd, hsz, hwd, hkn⟩
                          · skip
                            exact absurd c158 (by first | decide | omega)
          · skip
            refine lv_iload hx hb d_M_pass_84 (lv_at hl 0 rfl) ?_
            refine lv_iload hx hb d_M_pass_86 (lv_at hl 1 rfl) ?_
            refine hp_isub hx hb d_M_pass_88 ?_
            refine hp_iconst (z := 1) hx hb d_M_pass_89 (by rfl) ?_
            refine hp_icmp_ne (tgt := 97) hx hb d_M_pass_90 (by decide) (by unfold iR at *; omega) (by unfold iR at *; omega) (fun c90 => ?_) (fun c90 => ?_)
            · skip
              refine hp_iconst (z := 0) hx hb d_M_pass_97 (by rfl) ?_
              refine lv_istore (lv' := [(8, .int (iI 0)), (7, .int (iI ((gw g t (k + 1)).natAbs : Int))), (6, .int (iI ((gw g t k).natAbs : Int))), (5, .int (iI (gw g t (k + 2)))), (4, .int (iI (gw g t (k + 1)))), (3, .int (iI (gw g t k))), (0, .ref mo), (1, .int (iI (t : Int))), (2, .int (iI (k : Int)))]) hx hb d_M_pass_98 hl (by decide) rfl (fun ls hl => ?_)
              refine lv_iload_n hx hb d_M_pass_100 rfl (lv_at hl 5 rfl) ?_
              refine hp_if_le (tgt := 108) hx hb d_M_pass_101 (by decide) (by unfold iR at *; omega) (fun c101 => ?_) (fun c101 => ?_)
              · skip
                refine hp_iconst (z := 0) hx hb d_M_pass_108 (by rfl) ?_
                refine lv_iload hx hb d_M_pass_109 (lv_at hl 3 rfl) ?_
                refine hp_if_le (tgt := 118) hx hb d_M_pass_111 (by decide) (by unfold iR at *; omega) (fun c111 => ?_) (fun c111 => ?_)
                · skip
                  refine hp_iconst (z := 0) hx hb d_M_pass_118 (by rfl) ?_
                  refine hp_icmp_ne (tgt := 126) hx hb d_M_pass_119 (by decide) (by unfold iR at *; omega) (by unfold iR at *; omega) (fun c119 => ?_) (fun c119 => ?_)
                  · skip
                    exact absurd c119 (by first | decide | omega)
                  · skip
                    refine hp_iconst (z := 1) hx hb d_M_pass_122 (by rfl) ?_
                    refine lv_goto (tgt := 127) hx hb d_M_pass_123 (by decide) ?_
                    refine lv_istore (lv' := [(9, .int (iI 1)), (8, .int (iI 0)), (7, .int (iI ((gw g t (k + 1)).natAbs : Int))), (6, .int (iI ((gw g t k).natAbs : Int))), (5, .int (iI (gw g t (k + 2)))), (4, .int (iI (gw g t (k + 1)))), (3, .int (iI (gw g t k))), (0, .ref mo), (1, .int (iI (t : Int))), (2, .int (iI (k : Int)))]) hx hb d_M_pass_127 hl (by decide) rfl (fun ls hl => ?_)
                    refine lv_iload hx hb d_M_pass_129 (lv_at hl 1 rfl) ?_
                    refine hp_if_eq (tgt := 161) hx hb d_M_pass_131 (by decide) (by unfold iR at *; omega) (fun c131 => ?_) (fun c131 => ?_)
                    · skip
                      refine hp_iconst (z := 0) hx hb d_M_pass_161 (by rfl) ?_
                      rw [hQ]
                      refine hp_zretQ hx hb hrt hlocks d_M_pass_162 false (by first | rfl | assumption | simp [bI]) hS hZ ?_
                      rw [Int.toNat_natCast, Int.toNat_natCast]
                      exact Or.inr ⟨rfl, fun h9 => by have h8 := hci.mp h9.2.2.2.2; omega, hm, hsd, hsz, hwd, hkn⟩
                    · skip
                      exact absurd c131 (by first | decide | omega)
                · skip
                  refine hp_iconst (z := 1) hx hb d_M_pass_114 (by rfl) ?_
                  refine lv_goto (tgt := 119) hx hb d_M_pass_115 (by decide) ?_
                  refine hp_icmp_ne (tgt := 126) hx hb d_M_pass_119 (by decide) (by unfold iR at *; omega) (by unfold iR at *; omega) (fun c119 => ?_) (fun c119 => ?_)
                  · skip
                    refine hp_iconst (z := 0) hx hb d_M_pass_126 (by rfl) ?_
                    refine lv_istore (lv' := [(9, .int (iI 0)), (8, .int (iI 0)), (7, .int (iI ((gw g t (k + 1)).natAbs : Int))), (6, .int (iI ((gw g t k).natAbs : Int))), (5, .int (iI (gw g t (k + 2)))), (4, .int (iI (gw g t (k + 1)))), (3, .int (iI (gw g t k))), (0, .ref mo), (1, .int (iI (t : Int))), (2, .int (iI (k : Int)))]) hx hb d_M_pass_127 hl (by decide) rfl (fun ls hl => ?_)
                    refine lv_iload hx hb d_M_pass_129 (lv_at hl 1 rfl) ?_
                    refine hp_if_eq (tgt := 161) hx hb d_M_pass_131 (by decide) (by unfold iR at *; omega) (fun c131 => ?_) (fun c131 => ?_)
                    · skip
                      refine hp_iconst (z := 0) hx hb d_M_pass_161 (by rfl) ?_
                      rw [hQ]
                      refine hp_zretQ hx hb hrt hlocks d_M_pass_162 false (by first | rfl | assumption | simp [bI]) hS hZ ?_
                      rw [Int.toNat_natCast, Int.toNat_natCast]
                      exact Or.inr ⟨rfl, fun h9 => by have h8 := hci.mp h9.2.2.2.2; omega, hm, hsd, hsz, hwd, hkn⟩
                    · skip
                      exact absurd c131 (by first | decide | omega)
                  · skip
                    exact absurd c119 (by first | decide | omega)
              · skip
                refine hp_iconst (z := 1) hx hb d_M_pass_104 (by rfl) ?_
                refine lv_goto (tgt := 109) hx hb d_M_pass_105 (by decide) ?_
                refine lv_iload hx hb d_M_pass_109 (lv_at hl 3 rfl) ?_
                refine hp_if_le (tgt := 118) hx hb d_M_pass_111 (by decide) (by unfold iR at *; omega) (fun c111 => ?_) (fun c111 => ?_)
                · skip
                  refine hp_iconst (z := 0) hx hb d_M_pass_118 (by rfl) ?_
                  refine hp_icmp_ne (tgt := 126) hx hb d_M_pass_119 (by decide) (by unfold iR at *; omega) (by unfold iR at *; omega) (fun c119 => ?_) (fun c119 => ?_)
                  · skip
                    refine hp_iconst (z := 0) hx hb d_M_pass_126 (by rfl) ?_
                    refine lv_istore (lv' := [(9, .int (iI 0)), (8, .int (iI 0)), (7, .int (iI ((gw g t (k + 1)).natAbs : Int))), (6, .int (iI ((gw g t k).natAbs : Int))), (5, .int (iI (gw g t (k + 2)))), (4, .int (iI (gw g t (k + 1)))), (3, .int (iI (gw g t k))), (0, .ref mo), (1, .int (iI (t : Int))), (2, .int (iI (k : Int)))]) hx hb d_M_pass_127 hl (by decide) rfl (fun ls hl => ?_)
                    refine lv_iload hx hb d_M_pass_129 (lv_at hl 1 rfl) ?_
                    refine hp_if_eq (tgt := 161) hx hb d_M_pass_131 (by decide) (by unfold iR at *; omega) (fun c131 => ?_) (fun c131 => ?_)
                    · skip
                      refine hp_iconst (z := 0) hx hb d_M_pass_161 (by rfl) ?_
                      rw [hQ]
                      refine hp_zretQ hx hb hrt hlocks d_M_pass_162 false (by first | rfl | assumption | simp [bI]) hS hZ ?_
                      rw [Int.toNat_natCast, Int.toNat_natCast]
                      exact Or.inr ⟨rfl, fun h9 => by have h8 := hci.mp h9.2.2.2.2; omega, hm, hsd, hsz, hwd, hkn⟩
                    · skip
                      exact absurd c131 (by first | decide | omega)
                  · skip
                    exact absurd c119 (by first | decide | omega)
                · skip
                  refine hp_iconst (z := 1) hx hb d_M_pass_114 (by rfl) ?_
                  refine lv_goto (tgt := 119) hx hb d_M_pass_115 (by decide) ?_
                  refine hp_icmp_ne (tgt := 126) hx hb d_M_pass_119 (by decide) (by unfold iR at *; omega) (by unfold iR at *; omega) (fun c119 => ?_) (fun c119 => ?_)
                  · skip
                    exact absurd c119 (by first | decide | omega)
                  · skip
                    refine hp_iconst (z := 1) hx hb d_M_pass_122 (by rfl) ?_
                    refine lv_goto (tgt := 127) hx hb d_M_pass_123 (by decide) ?_
                    refine lv_istore (lv' := [(9, .int (iI 1)), (8, .int (iI 0)), (7, .int (iI ((gw g t (k + 1)).natAbs : Int))), (6, .int (iI ((gw g t k).natAbs : Int))), (5, .int (iI (gw g t (k + 2)))), (4, .int (iI (gw g t (k + 1)))), (3, .int (iI (gw g t k))), (0, .ref mo), (1, .int (iI (t : Int))), (2, .int (iI (k : Int)))]) hx hb d_M_pass_127 hl (by decide) rfl (fun ls hl => ?_)
                    refine lv_iload hx hb d_M_pass_129 (lv_at hl 1 rfl) ?_
                    refine hp_if_eq (tgt := 161) hx hb d_M_pass_131 (by decide) (by unfold iR at *; omega) (fun c131 => ?_) (fun c131 => ?_)
                    · skip
                      refine hp_iconst (z := 0) hx hb d_M_pass_161 (by rfl) ?_
                      rw [hQ]
                      refine hp_zretQ hx hb hrt hlocks d_M_pass_162 false (by first | rfl | assumption | simp [bI]) hS hZ ?_
                      rw [Int.toNat_natCast, Int.toNat_natCast]
                      exact Or.inr ⟨rfl, fun h9 => by have h8 := hci.mp h9.2.2.2.2; omega, hm, hsd, hsz, hwd, hkn⟩
                    · skip
                      exact absurd c131 (by first | decide | omega)
            · skip
              refine hp_iconst (z := 1) hx hb d_M_pass_93 (by rfl) ?_
              refine lv_goto (tgt := 98) hx hb d_M_pass_94 (by decide) ?_
              refine lv_istore (lv' := [(8, .int (iI 1)), (7, .int (iI ((gw g t (k + 1)).natAbs : Int))), (6, .int (iI ((gw g t k).natAbs : Int))), (5, .int (iI (gw g t (k + 2)))), (4, .int (iI (gw g t (k + 1)))), (3, .int (iI (gw g t k))), (0, .ref mo), (1, .int (iI (t : Int))), (2, .int (iI (k : Int)))]) hx hb d_M_pass_98 hl (by decide) rfl (fun ls hl => ?_)
              refine lv_iload_n hx hb d_M_pass_100 rfl (lv_at hl 5 rfl) ?_
              refine hp_if_le (tgt := 108) hx hb d_M_pass_101 (by decide) (by unfold iR at *; omega) (fun c101 => ?_) (fun c101 => ?_)
              · skip
                refine hp_iconst (z := 0) hx hb d_M_pass_108 (by rfl) ?_
                refine lv_iload hx hb d_M_pass_109 (lv_at hl 3 rfl) ?_
                refine hp_if_le (tgt := 118) hx hb d_M_pass_111 (by decide) (by unfold iR at *; omega) (fun c111 => ?_) (fun c111 => ?_)
                · skip
                  refine hp_iconst (z := 0) hx hb d_M_pass_118 (by rfl) ?_
                  refine hp_icmp_ne (tgt := 126) hx hb d_M_pass_119 (by decide) (by unfold iR at *; omega) (by unfold iR at *; omega) (fun c119 => ?_) (fun c119 => ?_)
                  · skip
                    exact absurd c119 (by first | decide | omega)
                  · skip
                    refine hp_iconst (z := 1) hx hb d_M_pass_122 (by rfl) ?_
                    refine lv_goto (tgt := 127) hx hb d_M_pass_123 (by decide) ?_
                    refine lv_istore (lv' := [(9, .int (iI 1)), (8, .int (iI 1)), (7, .int (iI ((gw g t (k + 1)).natAbs : Int))), (6, .int (iI ((gw g t k).natAbs : Int))), (5, .int (iI (gw g t (k + 2)))), (4, .int (iI (gw g t (k + 1)))), (3, .int (iI (gw g t k))), (0, .ref mo), (1, .int (iI (t : Int))), (2, .int (iI (k : Int)))]) hx hb d_M_pass_127 hl (by decide) rfl (fun ls hl => ?_)
                    refine lv_iload hx hb d_M_pass_129 (lv_at hl 1 rfl) ?_
                    refine hp_if_eq (tgt := 161) hx hb d_M_pass_131 (by decide) (by unfold iR at *; omega) (fun c131 => ?_) (fun c131 => ?_)
                    · skip
                      exact absurd c131 (by first | decide | omega)
                    · skip
                      refine lv_iload hx hb d_M_pass_134 (lv_at hl 0 rfl) ?_
                      refine hp_if_eq (tgt := 163) hx hb d_M_pass_136 (by decide) (by unfold iR at *; omega) (fun c136 => ?_) (fun c136 => ?_)
                      · skip
                        exact absurd c136 (by first | decide | omega)
                      · skip
                        refine lv_iload hx hb d_M_pass_139 (lv_at hl 5 rfl) ?_
                        refine hp_if_le (tgt := 148) hx hb d_M_pass_141 (by decide) (by unfold iR at *; omega) (fun c141 => ?_) (fun c141 => ?_)
                        · skip
                          refine hp_iconst (z := 0) hx hb d_M_pass_148 (by rfl) ?_
                          refine lv_iload_n hx hb d_M_pass_149 rfl (lv_at hl 6 rfl) ?_
                          refine hp_if_le (tgt := 157) hx hb d_M_pass_150 (by decide) (by unfold iR at *; omega) (fun c150 => ?_) (fun c150 => ?_)
                          · skip
                            refine hp_iconst (z := 0) hx hb d_M_pass_157 (by rfl) ?_
                            refine hp_icmp_eq (tgt := 163) hx hb d_M_pass_158 (by decide) (by unfold iR at *; omega) (by unfold iR at *; omega) (fun c158 => ?_) (fun c158 => ?_)
                            · skip
                              refine lv_aload_n hx hb d_M_pass_163 rfl (lv_at hl 7 rfl) ?_
                              refine hp_get (C := R_M) (T := F_M) (N := 19) (v := .ref (mo + 3)) hx hb hG la_M hown hK.1 hm rfl 3 (by decide) (hG _ fl_M_16) (fun _ h9 => h9) rfl d_M_pass_164 ?_
                              refine hp_bipush (z := 32) hx hb d_M_pass_167 (by rfl) ?_
                              refine lv_iload_n hx hb d_M_pass_169 rfl (lv_at hl 8 rfl) ?_
                              refine hp_imul hx hb d_M_pass_170 ?_
                              refine lv_iload_n hx hb d_M_pass_171 rfl (lv_at hl 9 rfl) ?_
                              refine hp_iadd hx hb d_M_pass_172 ?_
                              refine lv_iload hx hb d_M_pass_173 (lv_at hl 4 rfl) ?_
                              refine hp_if_le (tgt := 183) hx hb d_M_pass_175 (by decide) (by unfold iR at *; omega) (fun c175 => ?_) (fun c175 => ?_)
                              · skip
                                refine lv_iload hx hb d_M_pass_183 (lv_at hl 2 rfl) ?_
                                refine hp_ineg hx hb d_M_pass_185 ?_
                                refine hp_iast hx hb hK.1 0 hwd hS (by show _ ∨ _; omega) rfl d_M_pass_186 (by omega) ((32 * t) + k) (by omega) (by omega) (fun H locs hwdn hz1 ho1 hS => ?_)
                                have hZ := hz1.trans hZ
                                have hm := hm.keep (ho1 (mo) (by omega))
                                have hsd := hsd.keep (ho1 (mo + 1) (by omega))
                                have hsz := hsz.keep (ho1 (mo + 2) (by omega))
                                have hkn := hkn.keep (ho1 (mo + 10) (by omega))
                                have hwd : ca E H (mo + 3) (ai E 128 (hp_up g ((32 * t) + k) (-((gw g t (k + 1)).natAbs : Int)))) := hwdn
                                refine lv_aload_n hx hb d_M_pass_187 rfl (lv_at hl 7 rfl) ?_
                                refine hp_get (C := R_M) (T := F_M) (N := 19) (v := .ref (mo + 3)) hx hb hG la_M hown hK.1 hm rfl 3 (by decide) (hG _ fl_M_16) (fun _ h9 => h9) rfl d_M_pass_188 ?_
                                refine hp_bipush (z := 32) hx hb d_M_pass_191 (by rfl) ?_
                                refine lv_iload_n hx hb d_M_pass_193 rfl (lv_at hl 8 rfl) ?_
                                refine hp_imul hx hb d_M_pass_194 ?_
                                refine lv_iload_n hx hb d_M_pass_195 rfl (lv_at hl 9 rfl) ?_
                                refine hp_iadd hx hb d_M_pass_196 ?_
                                refine hp_iconst (z := 1) hx hb d_M_pass_197 (by rfl) ?_
                                refine hp_iadd hx hb d_M_pass_198 ?_
                                refine lv_iload hx hb d_M_pass_199 (lv_at hl 5 rfl) ?_
                                refine hp_if_le (tgt := 209) hx hb d_M_pass_201 (by decide) (by unfold iR at *; omega) (fun c201 => ?_) (fun c201 => ?_)
                                · skip
                                  refine lv_iload hx hb d_M_pass_209 (lv_at hl 3 rfl) ?_
                                  refine hp_ineg hx hb d_M_pass_211 ?_
                                  refine hp_iast hx hb hK.1 0 hwd hS (by show _ ∨ _; omega) rfl d_M_pass_212 (by omega) (((32 * t) + k) + 1) (by omega) (by omega) (fun H locs hwdn hz1 ho1 hS => ?_)
                                  have hZ := hz1.trans hZ
                                  have hm := hm.keep (ho1 (mo) (by omega))
                                  have hsd := hsd.keep (ho1 (mo + 1) (by omega))
                                  have hsz := hsz.keep (ho1 (mo + 2) (by omega))
                                  have hkn := hkn.keep (ho1 (mo + 10) (by omega))
                                  have hwd : ca E H (mo + 3) (ai E 128 (hp_up (hp_up g ((32 * t) + k) (-((gw g t (k + 1)).natAbs : Int))) (((32 * t) + k) + 1) (-((gw g t k).natAbs : Int)))) := hwdn
                                  refine lv_aload_n hx hb d_M_pass_213 rfl (lv_at hl 7 rfl) ?_
                                  refine hp_get (C := R_M) (T := F_M) (N := 19) (v := .ref (mo + 3)) hx hb hG la_M hown hK.1 hm rfl 3 (by decide) (hG _ fl_M_16) (fun _ h9 => h9) rfl d_M_pass_214 ?_
                                  refine hp_bipush (z := 32) hx hb d_M_pass_217 (by rfl) ?_
                                  refine lv_iload_n hx hb d_M_pass_219 rfl (lv_at hl 8 rfl) ?_
                                  refine hp_imul hx hb d_M_pass_220 ?_
                                  refine lv_iload_n hx hb d_M_pass_221 rfl (lv_at hl 9 rfl) ?_
                                  refine hp_iadd hx hb d_M_pass_222 ?_
                                  refine hp_iconst (z := 2) hx hb d_M_pass_223 (by rfl) ?_
                                  refine hp_iadd hx hb d_M_pass_224 ?_
                                  refine lv_iload_n hx hb d_M_pass_225 rfl (lv_at hl 6 rfl) ?_
                                  refine hp_if_le (tgt := 234) hx hb d_M_pass_226 (by decide) (by unfold iR at *; omega) (fun c226 => ?_) (fun c226 => ?_)
                                  · skip
                                    refine lv_iload hx hb d_M_pass_234 (lv_at hl 2 rfl) ?_
                                    refine hp_ineg hx hb d_M_pass_236 ?_
                                    refine hp_iast hx hb hK.1 0 hwd hS (by show _ ∨ _; omega) rfl d_M_pass_237 (by omega) (((32 * t) + k) + 2) (by omega) (by omega) (fun H locs hwdn hz1 ho1 hS => ?_)
                                    have hZ := hz1.trans hZ
                                    have hm := hm.keep (ho1 (mo) (by omega))
                                    have hsd := hsd.keep (ho1 (mo + 1) (by omega))
                                    have hsz := hsz.keep (ho1 (mo + 2) (by omega))
                                    have hkn := hkn.keep (ho1 (mo + 10) (by omega))
                                    have hwd : ca E H (mo + 3) (ai E 128 (hp_up (hp_up (hp_up g ((32 * t) + k) (-((gw g t (k + 1)).natAbs : Int))) (((32 * t) + k) + 1) (-((gw g t k).natAbs : Int))) (((32 * t) + k) + 2) (-((gw g t (k + 1)).natAbs : Int)))) := hwdn
                                    refine lv_aload_n hx hb d_M_pass_238 rfl (lv_at hl 7 rfl) ?_
                                    refine hp_get (C := R_M) (T := F_M) (N := 19) (v := .ref (mo + 10)) hx hb hG la_M hown hK.1 hm rfl 13 (by decide) (hG _ fl_M_37) (fun _ h9 => h9) rfl d_M_pass_239 ?_
                                    refine lv_iload_n hx hb d_M_pass_242 rfl (lv_at hl 8 rfl) ?_
                                    refine hp_iconst (z := 0) hx hb d_M_pass_243 (by rfl) ?_
                                    refine hp_zast hx hb hK.1 1 hkn hS (by show _ ∨ _; omega) rfl d_M_pass_244 (by omega) false t (by omega) (by omega) (fun H locs hknn hz1 ho1 hS => ?_)
                                    have hZ := hz1.trans hZ
                                    have hm := hm.keep (ho1 (mo) (by omega))
                                    have hsd := hsd.keep (ho1 (mo + 1) (by omega))
                                    have hsz := hsz.keep (ho1 (mo + 2) (by omega))
                                    have hwd := hwd.keep (ho1 (mo + 3) (by omega))
                                    have hkn : ca E H (mo + 10) (hp_az (E.2 1) 4 (hp_up kz t false)) := hknn
                                    refine hp_iconst (z := 1) hx hb d_M_pass_245 (by rfl) ?_
                                    rw [hQ]
                                    refine hp_zretQ hx hb hrt hlocks d_M_pass_246 true (by first | rfl | assumption | simp [bI]) hS hZ ?_
                                    rw [Int.toNat_natCast, Int.toNat_natCast]
                                    exact Or.inl ⟨rfl, ⟨by omega, by omega, by omega, by omega, hci.mpr (by omega)⟩, _, _, _, (by first | exact bw_mulp (by omega) | exact bw_muln (by omega)), (by first | exact bw_mulp (by omega) | exact bw_muln (by omega)), (by first | exact bw_mulp (by omega) | exact bw_muln (by omega)), hm, hsd, hsz, hwd, hkn⟩
                                  · skip
                                    exact absurd c226 (by first | decide | omega)
                                · skip
                                  exact absurd c201 (by first | decide | omega)
                              · skip
                                exact absurd c175 (by first | decide | omega)
                            · skip
                              exact absurd c158 (by first | decide | omega)
                          · skip
                            exact absurd c150 (by first | decide | omega)
                        · skip
                          refine hp_iconst (z := 1) hx hb d_M_pass_144 (by rfl) ?_
                          refine lv_goto (tgt := 149) hx hb d_M_pass_145 (by decide) ?_
                          refine lv_iload_n hx hb d_M_pass_149 rfl (lv_at hl 6 rfl) ?_
                          refine hp_if_le (tgt := 157) hx hb d_M_pass_150 (by decide) (by unfold iR at *; omega) (fun c150 => ?_) (fun c150 => ?_)
                          · skip
                            refine hp_iconst (z := 0) hx hb d_M_pass_157 (by rfl) ?_
                            refine hp_icmp_eq (tgt := 163) hx hb d_M_pass_158 (by decide) (by unfold iR at *; omega) (by unfold iR at *; omega) (fun c158 => ?_) (fun c158 => ?_)
                            · skip
                              exact absurd c158 (by first | decide | omega)
                            · skip
                              refine hp_iconst (z := 0) hx hb d_M_pass_161 (by rfl) ?_
                              rw [hQ]
                              refine hp_zretQ hx hb hrt hlocks d_M_pass_162 false (by first | rfl | assumption | simp [bI]) hS hZ ?_
                              rw [Int.toNat_natCast, Int.toNat_natCast]
                              exact Or.inr ⟨rfl, fun h9 => by have h8 := hci.mp h9.2.2.2.2; omega, hm, hsd, hsz, hwd, hkn⟩
                          · skip
                            exact absurd c150 (by first | decide | omega)
                · skip
                  refine hp_iconst (z := 1) hx hb d_M_pass_114 (by rfl) ?_
                  refine lv_goto (tgt := 119) hx hb d_M_pass_115 (by decide) ?_
                  refine hp_icmp_ne (tgt := 126) hx hb d_M_pass_119 (by decide) (by unfold iR at *; omega) (by unfold iR at *; omega) (fun c119 => ?_) (fun c119 => ?_)
                  · skip
                    refine hp_iconst (z := 0) hx hb d_M_pass_126 (by rfl) ?_
                    refine lv_istore (lv' := [(9, .int (iI 0)), (8, .int (iI 1)), (7, .int (iI ((gw g t (k + 1)).natAbs : Int))), (6, .int (iI ((gw g t k).natAbs : Int))), (5, .int (iI (gw g t (k + 2)))), (4, .int (iI (gw g t (k + 1)))), (3, .int (iI (gw g t k))), (0, .ref mo), (1, .int (iI (t : Int))), (2, .int (iI (k : Int)))]) hx hb d_M_pass_127 hl (by decide) rfl (fun ls hl => ?_)
                    refine lv_iload hx hb d_M_pass_129 (lv_at hl 1 rfl) ?_
                    refine hp_if_eq (tgt := 161) hx hb d_M_pass_131 (by decide) (by unfold iR at *; omega) (fun c131 => ?_) (fun c131 => ?_)
                    · skip
                      exact absurd c131 (by first | decide | omega)
                    · skip
                      refine lv_iload hx hb d_M_pass_134 (lv_at hl 0 rfl) ?_
                      refine hp_if_eq (tgt := 163) hx hb d_M_pass_136 (by decide) (by unfold iR at *; omega) (fun c136 => ?_) (fun c136 => ?_)
                      · skip
                        refine lv_aload_n hx hb d_M_pass_163 rfl (lv_at hl 7 rfl) ?_
                        refine hp_get (C := R_M) (T := F_M) (N := 19) (v := .ref (mo + 3)) hx hb hG la_M hown hK.1 hm rfl 3 (by decide) (hG _ fl_M_16) (fun _ h9 => h9) rfl d_M_pass_164 ?_
                        refine hp_bipush (z := 32) hx hb d_M_pass_167 (by rfl) ?_
                        refine lv_iload_n hx hb d_M_pass_169 rfl (lv_at hl 8 rfl) ?_
                        refine hp_imul hx hb d_M_pass_170 ?_
                        refine lv_iload_n hx hb d_M_pass_171 rfl (lv_at hl 9 rfl) ?_
                        refine hp_iadd hx hb d_M_pass_172 ?_
                        refine lv_iload hx hb d_M_pass_173 (lv_at hl 4 rfl) ?_
                        refine hp_if_le (tgt := 183) hx hb d_M_pass_175 (by decide) (by unfold iR at *; omega) (fun c175 => ?_) (fun c175 => ?_)
                        · skip
                          exact absurd c175 (by first | decide | omega)
                        · skip
                          refine lv_iload hx hb d_M_pass_178 (lv_at hl 2 rfl) ?_
                          refine lv_goto (tgt := 186) hx hb d_M_pass_180 (by decide) ?_
                          refine hp_iast hx hb hK.1 0 hwd hS (by show _ ∨ _; omega) rfl d_M_pass_186 (by omega) ((32 * t) + k) (by omega) (by omega) (fun H locs hwdn hz1 ho1 hS => ?_)
                          have hZ := hz1.trans hZ
                          have hm := hm.keep (ho1 (mo) (by omega))
                          have hsd := hsd.keep (ho1 (mo + 1) (by omega))
                          have hsz := hsz.keep (ho1 (mo + 2) (by omega))
                          have hkn := hkn.keep (ho1 (mo + 10) (by omega))
                          have hwd : ca E H (mo + 3) (ai E 128 (hp_up g ((32 * t) + k) ((gw g t (k + 1)).natAbs : Int))) := hwdn
                          refine lv_aload_n hx hb d_M_pass_187 rfl (lv_at hl 7 rfl) ?_
                          refine hp_get (C := R_M) (T := F_M) (N := 19) (v := .ref (mo + 3)) hx hb hG la_M hown hK.1 hm rfl 3 (by decide) (hG _ fl_M_16) (fun _ h9 => h9) rfl d_M_pass_188 ?_
                          refine hp_bipush (z := 32) hx hb d_M_pass_191 (by rfl) ?_
                          refine lv_iload_n hx hb d_M_pass_193 rfl (lv_at hl 8 rfl) ?_
                          refine hp_imul hx hb d_M_pass_194 ?_
                          refine lv_iload_n hx hb d_M_pass_195 rfl (lv_at hl 9 rfl) ?_
                          refine hp_iadd hx hb d_M_pass_196 ?_
                          refine hp_iconst (z := 1) hx hb d_M_pass_197 (by rfl) ?_
                          refine hp_iadd hx hb d_M_pass_198 ?_
                          refine lv_iload hx hb d_M_pass_199 (lv_at hl 5 rfl) ?_
                          refine hp_if_le (tgt := 209) hx hb d_M_pass_201 (by decide) (by unfold iR at *; omega) (fun c201 => ?_) (fun c201 => ?_)
                          · skip
                            refine lv_iload hx hb d_M_pass_209 (lv_at hl 3 rfl) ?_
                            refine hp_ineg hx hb d_M_pass_211 ?_
                            refine hp_iast hx hb hK.1 0 hwd hS (by show _ ∨ _; omega) rfl d_M_pass_212 (by omega) (((32 * t) + k) + 1) (by omega) (by omega) (fun H locs hwdn hz1 ho1 hS => ?_)
                            have hZ := hz1.trans hZ
                            have hm := hm.keep (ho1 (mo) (by omega))
                            have hsd := hsd.keep (ho1 (mo + 1) (by omega))
                            have hsz := hsz.keep (ho1 (mo + 2) (by omega))
                            have hkn := hkn.keep (ho1 (mo + 10) (by omega))
                            have hwd : ca E H (mo + 3) (ai E 128 (hp_up (hp_up g ((32 * t) + k) ((gw g t (k + 1)).natAbs : Int)) (((32 * t) + k) + 1) (-((gw g t k).natAbs : Int)))) := hwdn
                            refine lv_aload_n hx hb d_M_pass_213 rfl (lv_at hl 7 rfl) ?_
                            refine hp_get (C := R_M) (T := F_M) (N := 19) (v := .ref (mo + 3)) hx hb hG la_M hown hK.1 hm rfl 3 (by decide) (hG _ fl_M_16) (fun _ h9 => h9) rfl d_M_pass_214 ?_
                            refine hp_bipush (z := 32) hx hb d_M_pass_217 (by rfl) ?_
                            refine lv_iload_n hx hb d_M_pass_219 rfl (lv_at hl 8 rfl) ?_
                            refine hp_imul hx hb d_M_pass_220 ?_
                            refine lv_iload_n hx hb d_M_pass_221 rfl (lv_at hl 9 rfl) ?_
                            refine hp_iadd hx hb d_M_pass_222 ?_
                            refine hp_iconst (z := 2) hx hb d_M_pass_223 (by rfl) ?_
                            refine hp_iadd hx hb d_M_pass_224 ?_
                            refine lv_iload_n hx hb d_M_pass_225 rfl (lv_at hl 6 rfl) ?_
                            refine hp_if_le (tgt := 234) hx hb d_M_pass_226 (by decide) (by unfold iR at *; omega) (fun c226 => ?_) (fun c226 => ?_)
                            · skip
                              refine lv_iload hx hb d_M_pass_234 (lv_at hl 2 rfl) ?_
                              refine hp_ineg hx hb d_M_pass_236 ?_
                              refine hp_iast hx hb hK.1 0 hwd hS (by show _ ∨ _; omega) rfl d_M_pass_237 (by omega) (((32 * t) + k) + 2) (by omega) (by omega) (fun H locs hwdn hz1 ho1 hS => ?_)
                              have hZ := hz1.trans hZ
                              have hm := hm.keep (ho1 (mo) (by omega))
                              have hsd := hsd.keep (ho1 (mo + 1) (by omega))
                              have hsz := hsz.keep (ho1 (mo + 2) (by omega))
                              have hkn := hkn.keep (ho1 (mo + 10) (by omega))
                              have hwd : ca E H (mo + 3) (ai E 128 (hp_up (hp_up (hp_up g ((32 * t) + k) ((gw g t (k + 1)).natAbs : Int)) (((32 * t) + k) + 1) (-((gw g t k).natAbs : Int))) (((32 * t) + k) + 2) (-((gw g t (k + 1)).natAbs : Int)))) := hwdn
                              refine lv_aload_n hx hb d_M_pass_238 rfl (lv_at hl 7 rfl) ?_
                              refine hp_get (C := R_M) (T := F_M) (N := 19) (v := .ref (mo + 10)) hx hb hG la_M hown hK.1 hm rfl 13 (by decide) (hG _ fl_M_37) (fun _ h9 => h9) rfl d_M_pass_239 ?_
                              refine lv_iload_n hx hb d_M_pass_242 rfl (lv_at hl 8 rfl) ?_
                              refine hp_iconst (z := 0) hx hb d_M_pass_243 (by rfl) ?_
                              refine hp_zast hx hb hK.1 1 hkn hS (by show _ ∨ _; omega) rfl d_M_pass_244 (by omega) false t (by omega) (by omega) (fun H locs hknn hz1 ho1 hS => ?_)
                              have hZ := hz1.trans hZ
                              have hm := hm.keep (ho1 (mo) (by omega))
                              have hsd := hsd.keep (ho1 (mo + 1) (by omega))
                              have hsz := hsz.keep (ho1 (mo + 2) (by omega))
                              have hwd := hwd.keep (ho1 (mo + 3) (by omega))
                              have hkn : ca E H (mo + 10) (hp_az (E.2 1) 4 (hp_up kz t false)) := hknn
                              refine hp_iconst (z := 1) hx hb d_M_pass_245 (by rfl) ?_
                              rw [hQ]
                              refine hp_zretQ hx hb hrt hlocks d_M_pass_246 true (by first | rfl | assumption | simp [bI]) hS hZ ?_
                              rw [Int.toNat_natCast, Int.toNat_natCast]
                              exact Or.inl ⟨rfl, ⟨by omega, by omega, by omega, by omega, hci.mpr (by omega)⟩, _, _, _, (by first | exact bw_mulp (by omega) | exact bw_muln (by omega)), (by first | exact bw_mulp (by omega) | exact bw_muln (by omega)), (by first | exact bw_mulp (by omega) | exact bw_muln (by omega)), hm, hsd, hsz, hwd, hkn⟩
                            · skip
                              exact absurd c226 (by first | decide | omega)
                          · skip
                            refine lv_iload hx hb d_M_pass_204 (lv_at hl 3 rfl) ?_
                            refine lv_goto (tgt := 212) hx hb d_M_pass_206 (by decide) ?_
                            refine hp_iast hx hb hK.1 0 hwd hS (by show _ ∨ _; omega) rfl d_M_pass_212 (by omega) (((32 * t) + k) + 1) (by omega) (by omega) (fun H locs hwdn hz1 ho1 hS => ?_)
                            have hZ := hz1.trans hZ
                            have hm := hm.keep (ho1 (mo) (by omega))
                            have hsd := hsd.keep (ho1 (mo + 1) (by omega))
                            have hsz := hsz.keep (ho1 (mo + 2) (by omega))
                            have hkn := hkn.keep (ho1 (mo + 10) (by omega))
                            have hwd : ca E H (mo + 3) (ai E 128 (hp_up (hp_up g ((32 * t) + k) ((gw g t (k + 1)).natAbs : Int)) (((32 * t) + k) + 1) ((gw g t k).natAbs : Int))) := hwdn
                            refine lv_aload_n hx hb d_M_pass_213 rfl (lv_at hl 7 rfl) ?_
                            refine hp_get (C := R_M) (T := F_M) (N := 19) (v := .ref (mo + 3)) hx hb hG la_M hown hK.1 hm rfl 3 (by decide) (hG _ fl_M_16) (fun _ h9 => h9) rfl d_M_pass_214 ?_
                            refine hp_bipush (z := 32) hx hb d_M_pass_217 (by rfl) ?_
                            refine lv_iload_n hx hb d_M_pass_219 rfl (lv_at hl 8 rfl) ?_
                            refine hp_imul hx hb d_M_pass_220 ?_
                            refine lv_iload_n hx hb d_M_pass_221 rfl (lv_at hl 9 rfl) ?_
                            refine hp_iadd hx hb d_M_pass_222 ?_
                            refine hp_iconst (z := 2) hx hb d_M_pass_223 (by rfl) ?_
                            refine hp_iadd hx hb d_M_pass_224 ?_
                            refine lv_iload_n hx hb d_M_pass_225 rfl (lv_at hl 6 rfl) ?_
                            refine hp_if_le (tgt := 234) hx hb d_M_pass_226 (by decide) (by unfold iR at *; omega) (fun c226 => ?_) (fun c226 => ?_)
                            · skip
                              refine lv_iload hx hb d_M_pass_234 (lv_at hl 2 rfl) ?_
                              refine hp_ineg hx hb d_M_pass_236 ?_
                              refine hp_iast hx hb hK.1 0 hwd hS (by show _ ∨ _; omega) rfl d_M_pass_237 (by omega) (((32 * t) + k) + 2) (by omega) (by omega) (fun H locs hwdn hz1 ho1 hS => ?_)
                              have hZ := hz1.trans hZ
                              have hm := hm.keep (ho1 (mo) (by omega))
                              have hsd := hsd.keep (ho1 (mo + 1) (by omega))
                              have hsz := hsz.keep (ho1 (mo + 2) (by omega))
                              have hkn := hkn.keep (ho1 (mo + 10) (by omega))
                              have hwd : ca E H (mo + 3) (ai E 128 (hp_up (hp_up (hp_up g ((32 * t) + k) ((gw g t (k + 1)).natAbs : Int)) (((32 * t) + k) + 1) ((gw g t k).natAbs : Int)) (((32 * t) + k) + 2) (-((gw g t (k + 1)).natAbs : Int)))) := hwdn
                              refine lv_aload_n hx hb d_M_pass_238 rfl (lv_at hl 7 rfl) ?_
                              refine hp_get (C := R_M) (T := F_M) (N := 19) (v := .ref (mo + 10)) hx hb hG la_M hown hK.1 hm rfl 13 (by decide) (hG _ fl_M_37) (fun _ h9 => h9) rfl d_M_pass_239 ?_
                              refine lv_iload_n hx hb d_M_pass_242 rfl (lv_at hl 8 rfl) ?_
                              refine hp_iconst (z := 0) hx hb d_M_pass_243 (by rfl) ?_
                              refine hp_zast hx hb hK.1 1 hkn hS (by show _ ∨ _; omega) rfl d_M_pass_244 (by omega) false t (by omega) (by omega) (fun H locs hknn hz1 ho1 hS => ?_)
                              have hZ := hz1.trans hZ
                              have hm := hm.keep (ho1 (mo) (by omega))
                              have hsd := hsd.keep (ho1 (mo + 1) (by omega))
                              have hsz := hsz.keep (ho1 (mo + 2) (by omega))
                              have hwd := hwd.keep (ho1 (mo + 3) (by omega))
                              have hkn : ca E H (mo + 10) (hp_az (E.2 1) 4 (hp_up kz t false)) := hknn
                              refine hp_iconst (z := 1) hx hb d_M_pass_245 (by rfl) ?_
                              rw [hQ]
                              refine hp_zretQ hx hb hrt hlocks d_M_pass_246 true (by first | rfl | assumption | simp [bI]) hS hZ ?_
                              rw [Int.toNat_natCast, Int.toNat_natCast]
                              exact Or.inl ⟨rfl, ⟨by omega, by omega, by omega, by omega, hci.mpr (by omega)⟩, _, _, _, (by first | exact bw_mulp (by omega) | exact bw_muln (by omega)), (by first | exact bw_mulp (by omega) | exact bw_muln (by omega)), (by first | exact bw_mulp (by omega) | exact bw_muln (by omega)), hm, hsd, hsz, hwd, hkn⟩
                            · skip
                              exact absurd c226 (by first | decide | omega)
                      · skip
                        exact absurd c136 (by first | decide | omega)
                  · skip
                    exact absurd c119 (by first | decide | omega)
              · skip
                refine hp_iconst (z := 1) hx hb d_M_pass_104 (by rfl) ?_
                refine lv_goto (tgt := 109) hx hb d_M_pass_105 (by decide) ?_
                refine lv_iload hx hb d_M_pass_109 (lv_at hl 3 rfl) ?_
                refine hp_if_le (tgt := 118) hx hb d_M_pass_111 (by decide) (by unfold iR at *; omega) (fun c111 => ?_) (fun c111 => ?_)
                · skip
                  refine hp_iconst (z := 0) hx hb d_M_pass_118 (by rfl) ?_
                  refine hp_icmp_ne (tgt := 126) hx hb d_M_pass_119 (by decide) (by unfold iR at *; omega) (by unfold iR at *; omega) (fun c119 => ?_) (fun c119 => ?_)
                  · skip
                    refine hp_iconst (z := 0) hx hb d_M_pass_126 (by rfl) ?_
                    refine lv_istore (lv' := [(9, .int (iI 0)), (8, .int (iI 1)), (7, .int (iI ((gw g t (k + 1)).natAbs : Int))), (6, .int (iI ((gw g t k).natAbs : Int))), (5, .int (iI (gw g t (k + 2)))), (4, .int (iI (gw g t (k + 1)))), (3, .int (iI (gw g t k))), (0, .ref mo), (1, .int (iI (t : Int))), (2, .int (iI (k : Int)))]) hx hb d_M_pass_127 hl (by decide) rfl (fun ls hl => ?_)
                    refine lv_iload hx hb d_M_pass_129 (lv_at hl 1 rfl) ?_
                    refine hp_if_eq (tgt := 161) hx hb d_M_pass_131 (by decide) (by unfold iR at *; omega) (fun c131 => ?_) (fun c131 => ?_)
                    · skip
                      exact absurd c131 (by first | decide | omega)
                    · skip
                      refine lv_iload hx hb d_M_pass_134 (lv_at hl 0 rfl) ?_
                      refine hp_if_eq (tgt := 163) hx hb d_M_pass_136 (by decide) (by unfold iR at *; omega) (fun c136 => ?_) (fun c136 => ?_)
                      · skip
                        refine lv_aload_n hx hb d_M_pass_163 rfl (lv_at hl 7 rfl) ?_
                        refine hp_get (C := R_M) (T := F_M) (N := 19) (v := .ref (mo + 3)) hx hb hG la_M hown hK.1 hm rfl 3 (by decide) (hG _ fl_M_16) (fun _ h9 => h9) rfl d_M_pass_164 ?_
                        refine hp_bipush (z := 32) hx hb d_M_pass_167 (by rfl) ?_
                        refine lv_iload_n hx hb d_M_pass_169 rfl (lv_at hl 8 rfl) ?_
                        refine hp_imul hx hb d_M_pass_170 ?_
                        refine lv_iload_n hx hb d_M_pass_171 rfl (lv_at hl 9 rfl) ?_
                        refine hp_iadd hx hb d_M_pass_172 ?_
                        refine lv_iload hx hb d_M_pass_173 (lv_at hl 4 rfl) ?_
                        refine hp_if_le (tgt := 183) hx hb d_M_pass_175 (by decide) (by unfold iR at *; omega) (fun c175 => ?_) (fun c175 => ?_)
                        · skip
                          refine lv_iload hx hb d_M_pass_183 (lv_at hl 2 rfl) ?_
                          refine hp_ineg hx hb d_M_pass_185 ?_
                          refine hp_iast hx hb hK.1 0 hwd hS (by show _ ∨ _; omega) rfl d_M_pass_186 (by omega) ((32 * t) + k) (by omega) (by omega) (fun H locs hwdn hz1 ho1 hS => ?_)
                          have hZ := hz1.trans hZ
                          have hm := hm.keep (ho1 (mo) (by omega))
                          have hsd := hsd.keep (ho1 (mo + 1) (by omega))
                          have hsz := hsz.keep (ho1 (mo + 2) (by omega))
                          have hkn := hkn.keep (ho1 (mo + 10) (by omega))
                          have hwd : ca E H (mo + 3) (ai E 128 (hp_up g ((32 * t) + k) (-((gw g t (k + 1)).natAbs : Int)))) := hwdn
                          refine lv_aload_n hx hb d_M_pass_187 rfl (lv_at hl 7 rfl) ?_
                          refine hp_get (C := R_M) (T := F_M) (N := 19) (v := .ref (mo + 3)) hx hb hG la_M hown hK.1 hm rfl 3 (by decide) (hG _ fl_M_16) (fun _ h9 => h9) rfl d_M_pass_188 ?_
                          refine hp_bipush (z := 32) hx hb d_M_pass_191 (by rfl) ?_
                          refine lv_iload_n hx hb d_M_pass_193 rfl (lv_at hl 8 rfl) ?_
                          refine hp_imul hx hb d_M_pass_194 ?_
                          refine lv_iload_n hx hb d_M_pass_195 rfl (lv_at hl 9 rfl) ?_
                          refine hp_iadd hx hb d_M_pass_196 ?_
                          refine hp_iconst (z := 1) hx hb d_M_pass_197 (by rfl) ?_
                          refine hp_iadd hx hb d_M_pass_198 ?_
                          refine lv_iload hx hb d_M_pass_199 (lv_at hl 5 rfl) ?_
                          refine hp_if_le (tgt := 209) hx hb d_M_pass_201 (by decide) (by unfold iR at *; omega) (fun c201 => ?_) (fun c201 => ?_)
                          · skip
                            refine lv_iload hx hb d_M_pass_209 (lv_at hl 3 rfl) ?_
                            refine hp_ineg hx hb d_M_pass_211 ?_
                            refine hp_iast hx hb hK.1 0 hwd hS (by show _ ∨ _; omega) rfl d_M_pass_212 (by omega) (((32 * t) + k) + 1) (by omega) (by omega) (fun H locs hwdn hz1 ho1 hS => ?_)
                            have hZ := hz1.trans hZ
                            have hm := hm.keep (ho1 (mo) (by omega))
                            have hsd := hsd.keep (ho1 (mo + 1) (by omega))
                            have hsz := hsz.keep (ho1 (mo + 2) (by omega))
                            have hkn := hkn.keep (ho1 (mo + 10) (by omega))
                            have hwd : ca E H (mo + 3) (ai E 128 (hp_up (hp_up g ((32 * t) + k) (-((gw g t (k + 1)).natAbs : Int))) (((32 * t) + k) + 1) (-((gw g t k).natAbs : Int)))) := hwdn
                            refine lv_aload_n hx hb d_M_pass_213 rfl (lv_at hl 7 rfl) ?_
                            refine hp_get (C := R_M) (T := F_M) (N := 19) (v := .ref (mo + 3)) hx hb hG la_M hown hK.1 hm rfl 3 (by decide) (hG _ fl_M_16) (fun _ h9 => h9) rfl d_M_pass_214 ?_
                            refine hp_bipush (z := 32) hx hb d_M_pass_217 (by rfl) ?_
                            refine lv_iload_n hx hb d_M_pass_219 rfl (lv_at hl 8 rfl) ?_
                            refine hp_imul hx hb d_M_pass_220 ?_
                            refine lv_iload_n hx hb d_M_pass_221 rfl (lv_at hl 9 rfl) ?_
                            refine hp_iadd hx hb d_M_pass_222 ?_
                            refine hp_iconst (z := 2) hx hb d_M_pass_223 (by rfl) ?_
                            refine hp_iadd hx hb d_M_pass_224 ?_
                            refine lv_iload_n hx hb d_M_pass_225 rfl (lv_at hl 6 rfl) ?_
                            refine hp_if_le (tgt := 234) hx hb d_M_pass_226 (by decide) (by unfold iR at *; omega) (fun c226 => ?_) (fun c226 => ?_)
                            · skip
                              exact absurd c226 (by first | decide | omega)
                            · skip
                              refine lv_iload hx hb d_M_pass_229 (lv_at hl 2 rfl) ?_
                              refine lv_goto (tgt := 237) hx hb d_M_pass_231 (by decide) ?_
                              refine hp_iast hx hb hK.1 0 hwd hS (by show _ ∨ _; omega) rfl d_M_pass_237 (by omega) (((32 * t) + k) + 2) (by omega) (by omega) (fun H locs hwdn hz1 ho1 hS => ?_)
                              have hZ := hz1.trans hZ
                              have hm := hm.keep (ho1 (mo) (by omega))
                              have hsd := hsd.keep (ho1 (mo + 1) (by omega))
                              have hsz := hsz.keep (ho1 (mo + 2) (by omega))
                              have hkn := hkn.keep (ho1 (mo + 10) (by omega))
                              have hwd : ca E H (mo + 3) (ai E 128 (hp_up (hp_up (hp_up g ((32 * t) + k) (-((gw g t (k + 1)).natAbs : Int))) (((32 * t) + k) + 1) (-((gw g t k).natAbs : Int))) (((32 * t) + k) + 2) ((gw g t (k + 1)).natAbs : Int))) := hwdn
                              refine lv_aload_n hx hb d_M_pass_238 rfl (lv_at hl 7 rfl) ?_
                              refine hp_get (C := R_M) (T := F_M) (N := 19) (v := .ref (mo + 10)) hx hb hG la_M hown hK.1 hm rfl 13 (by decide) (hG _ fl_M_37) (fun _ h9 => h9) rfl d_M_pass_239 ?_
                              refine lv_iload_n hx hb d_M_pass_242 rfl (lv_at hl 8 rfl) ?_
                              refine hp_iconst (z := 0) hx hb d_M_pass_243 (by rfl) ?_
                              refine hp_zast hx hb hK.1 1 hkn hS (by show _ ∨ _; omega) rfl d_M_pass_244 (by omega) false t (by omega) (by omega) (fun H locs hknn hz1 ho1 hS => ?_)
                              have hZ := hz1.trans hZ
                              have hm := hm.keep (ho1 (mo) (by omega))
                              have hsd := hsd.keep (ho1 (mo + 1) (by omega))
                              have hsz := hsz.keep (ho1 (mo + 2) (by omega))
                              have hwd := hwd.keep (ho1 (mo + 3) (by omega))
                              have hkn : ca E H (mo + 10) (hp_az (E.2 1) 4 (hp_up kz t false)) := hknn
                              refine hp_iconst (z := 1) hx hb d_M_pass_245 (by rfl) ?_
                              rw [hQ]
                              refine hp_zretQ hx hb hrt hlocks d_M_pass_246 true (by first | rfl | assumption | simp [bI]) hS hZ ?_
                              rw [Int.toNat_natCast, Int.toNat_natCast]
                              exact Or.inl ⟨rfl, ⟨by omega, by omega, by omega, by omega, hci.mpr (by omega)⟩, _, _, _, (by first | exact bw_mulp (by omega) | exact bw_muln (by omega)), (by first | exact bw_mulp (by omega) | exact bw_muln (by omega)), (by first | exact bw_mulp (by omega) | exact bw_muln (by omega)), hm, hsd, hsz, hwd, hkn⟩
                          · skip
                            refine lv_iload hx hb d_M_pass_204 (lv_at hl 3 rfl) ?_
                            refine lv_goto (tgt := 212) hx hb d_M_pass_206 (by decide) ?_
                            refine hp_iast hx hb hK.1 0 hwd hS (by show _ ∨ _; omega) rfl d_M_pass_212 (by omega) (((32 * t) + k) + 1) (by omega) (by omega) (fun H locs hwdn hz1 ho1 hS => ?_)
                            have hZ := hz1.trans hZ
                            have hm := hm.keep (ho1 (mo) (by omega))
                            have hsd := hsd.keep (ho1 (mo + 1) (by omega))
                            have hsz := hsz.keep (ho1 (mo + 2) (by omega))
                            have hkn := hkn.keep (ho1 (mo + 10) (by omega))
                            have hwd : ca E H (mo + 3) (ai E 128 (hp_up (hp_up g ((32 * t) + k) (-((gw g t (k + 1)).natAbs : Int))) (((32 * t) + k) + 1) ((gw g t k).natAbs : Int))) := hwdn
                            refine lv_aload_n hx hb d_M_pass_213 rfl (lv_at hl 7 rfl) ?_
                            refine hp_get (C := R_M) (T := F_M) (N := 19) (v := .ref (mo + 3)) hx hb hG la_M hown hK.1 hm rfl 3 (by decide) (hG _ fl_M_16) (fun _ h9 => h9) rfl d_M_pass_214 ?_
                            refine hp_bipush (z := 32) hx hb d_M_pass_217 (by rfl) ?_
                            refine lv_iload_n hx hb d_M_pass_219 rfl (lv_at hl 8 rfl) ?_
                            refine hp_imul hx hb d_M_pass_220 ?_
                            refine lv_iload_n hx hb d_M_pass_221 rfl (lv_at hl 9 rfl) ?_
                            refine hp_iadd hx hb d_M_pass_222 ?_
                            refine hp_iconst (z := 2) hx hb d_M_pass_223 (by rfl) ?_
                            refine hp_iadd hx hb d_M_pass_224 ?_
                            refine lv_iload_n hx hb d_M_pass_225 rfl (lv_at hl 6 rfl) ?_
                            refine hp_if_le (tgt := 234) hx hb d_M_pass_226 (by decide) (by unfold iR at *; omega) (fun c226 => ?_) (fun c226 => ?_)
                            · skip
                              exact absurd c226 (by first | decide | omega)
                            · skip
                              refine lv_iload hx hb d_M_pass_229 (lv_at hl 2 rfl) ?_
                              refine lv_goto (tgt := 237) hx hb d_M_pass_231 (by decide) ?_
                              refine hp_iast hx hb hK.1 0 hwd hS (by show _ ∨ _; omega) rfl d_M_pass_237 (by omega) (((32 * t) + k) + 2) (by omega) (by omega) (fun H locs hwdn hz1 ho1 hS => ?_)
                              have hZ := hz1.trans hZ
                              have hm := hm.keep (ho1 (mo) (by omega))
                              have hsd := hsd.keep (ho1 (mo + 1) (by omega))
                              have hsz := hsz.keep (ho1 (mo + 2) (by omega))
                              have hkn := hkn.keep (ho1 (mo + 10) (by omega))
                              have hwd : ca E H (mo + 3) (ai E 128 (hp_up (hp_up (hp_up g ((32 * t) + k) (-((gw g t (k + 1)).natAbs : Int))) (((32 * t) + k) + 1) ((gw g t k).natAbs : Int)) (((32 * t) + k) + 2) ((gw g t (k + 1)).natAbs : Int))) := hwdn
                              refine lv_aload_n hx hb d_M_pass_238 rfl (lv_at hl 7 rfl) ?_
                              refine hp_get (C := R_M) (T := F_M) (N := 19) (v := .ref (mo + 10)) hx hb hG la_M hown hK.1 hm rfl 13 (by decide) (hG _ fl_M_37) (fun _ h9 => h9) rfl d_M_pass_239 ?_
                              refine lv_iload_n hx hb d_M_pass_242 rfl (lv_at hl 8 rfl) ?_
                              refine hp_iconst (z := 0) hx hb d_M_pass_243 (by rfl) ?_
                              refine hp_zast hx hb hK.1 1 hkn hS (by show _ ∨ _; omega) rfl d_M_pass_244 (by omega) false t (by omega) (by omega) (fun H locs hknn hz1 ho1 hS => ?_)
                              have hZ := hz1.trans hZ
                              have hm := hm.keep (ho1 (mo) (by omega))
                              have hsd := hsd.keep (ho1 (mo + 1) (by omega))
                              have hsz := hsz.keep (ho1 (mo + 2) (by omega))
                              have hwd := hwd.keep (ho1 (mo + 3) (by omega))
                              have hkn : ca E H (mo + 10) (hp_az (E.2 1) 4 (hp_up kz t false)) := hknn
                              refine hp_iconst (z := 1) hx hb d_M_pass_245 (by rfl) ?_
                              rw [hQ]
                              refine hp_zretQ hx hb hrt hlocks d_M_pass_246 true (by first | rfl | assumption | simp [bI]) hS hZ ?_
                              rw [Int.toNat_natCast, Int.toNat_natCast]
                              exact Or.inl ⟨rfl, ⟨by omega, by omega, by omega, by omega, hci.mpr (by omega)⟩, _, _, _, (by first | exact bw_mulp (by omega) | exact bw_muln (by omega)), (by first | exact bw_mulp (by omega) | exact bw_muln (by omega)), (by first | exact bw_mulp (by omega) | exact bw_muln (by omega)), hm, hsd, hsz, hwd, hkn⟩
                        · skip
                          exact absurd c175 (by first | decide | omega)
                      · skip
                        exact absurd c136 (by first | decide | omega)
                  · skip
                    exact absurd c119 (by first | decide | omega)
                · skip
                  refine hp_iconst (z := 1) hx hb d_M_pass_114 (by rfl) ?_
                  refine lv_goto (tgt := 119) hx hb d_M_pass_115 (by decide) ?_
                  refine hp_icmp_ne (tgt := 126) hx hb d_M_pass_119 (by decide) (by unfold iR at *; omega) (by unfold iR at *; omega) (fun c119 => ?_) (fun c119 => ?_)
                  · skip
                    exact absurd c119 (by first | decide | omega)
                  · skip
                    refine hp_iconst (z := 1) hx hb d_M_pass_122 (by rfl) ?_
                    refine lv_goto (tgt := 127) hx hb d_M_pass_123 (by decide) ?_
                    refine lv_istore (lv' := [(9, .int (iI 1)), (8, .int (iI 1)), (7, .int (iI ((gw g t (k + 1)).natAbs : Int))), (6, .int (iI ((gw g t k).natAbs : Int))), (5, .int (iI (gw g t (k + 2)))), (4, .int (iI (gw g t (k + 1)))), (3, .int (iI (gw g t k))), (0, .ref mo), (1, .int (iI (t : Int))), (2, .int (iI (k : Int)))]) hx hb d_M_pass_127 hl (by decide) rfl (fun ls hl => ?_)
                    refine lv_iload hx hb d_M_pass_129 (lv_at hl 1 rfl) ?_
                    refine hp_if_eq (tgt := 161) hx hb d_M_pass_131 (by decide) (by unfold iR at *; omega) (fun c131 => ?_) (fun c131 => ?_)
                    · skip
                      exact absurd c131 (by first | decide | omega)
                    · skip
                      refine lv_iload hx hb d_M_pass_134 (lv_at hl 0 rfl) ?_
                      refine hp_if_eq (tgt := 163) hx hb d_M_pass_136 (by decide) (by unfold iR at *; omega) (fun c136 => ?_) (fun c136 => ?_)
                      · skip
                        exact absurd c136 (by first | decide | omega)
                      · skip
                        refine lv_iload hx hb d_M_pass_139 (lv_at hl 5 rfl) ?_
                        refine hp_if_le (tgt := 148) hx hb d_M_pass_141 (by decide) (by unfold iR at *; omega) (fun c141 => ?_) (fun c141 => ?_)
                        · skip
                          refine hp_iconst (z := 0) hx hb d_M_pass_148 (by rfl) ?_
                          refine lv_iload_n hx hb d_M_pass_149 rfl (lv_at hl 6 rfl) ?_
                          refine hp_if_le (tgt := 157) hx hb d_M_pass_150 (by decide) (by unfold iR at *; omega) (fun c150 => ?_) (fun c150 => ?_)
                          · skip
                            exact absurd c150 (by first | decide | omega)
                          · skip
                            refine hp_iconst (z := 1) hx hb d_M_pass_153 (by rfl) ?_
                            refine lv_goto (tgt := 158) hx hb d_M_pass_154 (by decide) ?_
                            refine hp_icmp_eq (tgt := 163) hx hb d_M_pass_158 (by decide) (by unfold iR at *; omega) (by unfold iR at *; omega) (fun c158 => ?_) (fun c158 => ?_)
                            · skip
                              exact absurd c158 (by first | decide | omega)
                            · skip
                              refine hp_iconst (z := 0) hx hb d_M_pass_161 (by rfl) ?_
                              rw [hQ]
                              refine hp_zretQ hx hb hrt hlocks d_M_pass_162 false (by first | rfl | assumption | simp [bI]) hS hZ ?_
                              rw [Int.toNat_natCast, Int.toNat_natCast]
                              exact Or.inr ⟨rfl, fun h9 => by have h8 := hci.mp h9.2.2.2.2; omega, hm, hsd, hsz, hwd, hkn⟩
                        · skip
                          refine hp_iconst (z := 1) hx hb d_M_pass_144 (by rfl) ?_
                          refine lv_goto (tgt := 149) hx hb d_M_pass_145 (by decide) ?_
                          refine lv_iload_n hx hb d_M_pass_149 rfl (lv_at hl 6 rfl) ?_
                          refine hp_if_le (tgt := 157) hx hb d_M_pass_150 (by decide) (by unfold iR at *; omega) (fun c150 => ?_) (fun c150 => ?_)
                          · skip
                            exact absurd c150 (by first | decide | omega)
                          · skip
                            refine hp_iconst (z := 1) hx hb d_M_pass_153 (by rfl) ?_
                            refine lv_goto (tgt := 158) hx hb d_M_pass_154 (by decide) ?_
                            refine hp_icmp_eq (tgt := 163) hx hb d_M_pass_158 (by decide) (by unfold iR at *; omega) (by unfold iR at *; omega) (fun c158 => ?_) (fun c158 => ?_)
                            · skip
                              refine lv_aload_n hx hb d_M_pass_163 rfl (lv_at hl 7 rfl) ?_
                              refine hp_get (C := R_M) (T := F_M) (N := 19) (v := .ref (mo + 3)) hx hb hG la_M hown hK.1 hm rfl 3 (by decide) (hG _ fl_M_16) (fun _ h9 => h9) rfl d_M_pass_164 ?_
                              refine hp_bipush (z := 32) hx hb d_M_pass_167 (by rfl) ?_
                              refine lv_iload_n hx hb d_M_pass_169 rfl (lv_at hl 8 rfl) ?_
                              refine hp_imul hx hb d_M_pass_170 ?_
                              refine lv_iload_n hx hb d_M_pass_171 rfl (lv_at hl 9 rfl) ?_
                              refine hp_iadd hx hb d_M_pass_172 ?_
                              refine lv_iload hx hb d_M_pass_173 (lv_at hl 4 rfl) ?_
                              refine hp_if_le (tgt := 183) hx hb d_M_pass_175 (by decide) (by unfold iR at *; omega) (fun c175 => ?_) (fun c175 => ?_)
                              · skip
                                exact absurd c175 (by first | decide | omega)
                              · skip
                                refine lv_iload hx hb d_M_pass_178 (lv_at hl 2 rfl) ?_
                                refine lv_goto (tgt := 186) hx hb d_M_pass_180 (by decide) ?_
                                refine hp_iast hx hb hK.1 0 hwd hS (by show _ ∨ _; omega) rfl d_M_pass_186 (by omega) ((32 * t) + k) (by omega) (by omega) (fun H locs hwdn hz1 ho1 hS => ?_)
                                have hZ := hz1.trans hZ
                                have hm := hm.keep (ho1 (mo) (by omega))
                                have hsd := hsd.keep (ho1 (mo + 1) (by omega))
                                have hsz := hsz.keep (ho1 (mo + 2) (by omega))
                                have hkn := hkn.keep (ho1 (mo + 10) (by omega))
                                have hwd : ca E H (mo + 3) (ai E 128 (hp_up g ((32 * t) + k) ((gw g t (k + 1)).natAbs : Int))) := hwdn
                                refine lv_aload_n hx hb d_M_pass_187 rfl (lv_at hl 7 rfl) ?_
                                refine hp_get (C := R_M) (T := F_M) (N := 19) (v := .ref (mo + 3)) hx hb hG la_M hown hK.1 hm rfl 3 (by decide) (hG _ fl_M_16) (fun _ h9 => h9) rfl d_M_pass_188 ?_
                                refine hp_bipush (z := 32) hx hb d_M_pass_191 (by rfl) ?_
                                refine lv_iload_n hx hb d_M_pass_193 rfl (lv_at hl 8 rfl) ?_
                                refine hp_imul hx hb d_M_pass_194 ?_
                                refine lv_iload_n hx hb d_M_pass_195 rfl (lv_at hl 9 rfl) ?_
                                refine hp_iadd hx hb d_M_pass_196 ?_
                                refine hp_iconst (z := 1) hx hb d_M_pass_197 (by rfl) ?_
                                refine hp_iadd hx hb d_M_pass_198 ?_
                                refine lv_iload hx hb d_M_pass_199 (lv_at hl 5 rfl) ?_
                                refine hp_if_le (tgt := 209) hx hb d_M_pass_201 (by decide) (by unfold iR at *; omega) (fun c201 => ?_) (fun c201 => ?_)
                                · skip
                                  exact absurd c201 (by first | decide | omega)
                                · skip
                                  refine lv_iload hx hb d_M_pass_204 (lv_at hl 3 rfl) ?_
                                  refine lv_goto (tgt := 212) hx hb d_M_pass_206 (by decide) ?_
                                  refine hp_iast hx hb hK.1 0 hwd hS (by show _ ∨ _; omega) rfl d_M_pass_212 (by omega) (((32 * t) + k) + 1) (by omega) (by omega) (fun H locs hwdn hz1 ho1 hS => ?_)
                                  have hZ := hz1.trans hZ
                                  have hm := hm.keep (ho1 (mo) (by omega))
                                  have hsd := hsd.keep (ho1 (mo + 1) (by omega))
                                  have hsz := hsz.keep (ho1 (mo + 2) (by omega))
                                  have hkn := hkn.keep (ho1 (mo + 10) (by omega))
                                  have hwd : ca E H (mo + 3) (ai E 128 (hp_up (hp_up g ((32 * t) + k) ((gw g t (k + 1)).natAbs : Int)) (((32 * t) + k) + 1) ((gw g t k).natAbs : Int))) := hwdn
                                  refine lv_aload_n hx hb d_M_pass_213 rfl (lv_at hl 7 rfl) ?_
                                  refine hp_get (C := R_M) (T := F_M) (N := 19) (v := .ref (mo + 3)) hx hb hG la_M hown hK.1 hm rfl 3 (by decide) (hG _ fl_M_16) (fun _ h9 => h9) rfl d_M_pass_214 ?_
                                  refine hp_bipush (z := 32) hx hb d_M_pass_217 (by rfl) ?_
                                  refine lv_iload_n hx hb d_M_pass_219 rfl (lv_at hl 8 rfl) ?_
                                  refine hp_imul hx hb d_M_pass_220 ?_
                                  refine lv_iload_n hx hb d_M_pass_221 rfl (lv_at hl 9 rfl) ?_
                                  refine hp_iadd hx hb d_M_pass_222 ?_
                                  refine hp_iconst (z := 2) hx hb d_M_pass_223 (by rfl) ?_
                                  refine hp_iadd hx hb d_M_pass_224 ?_
                                  refine lv_iload_n hx hb d_M_pass_225 rfl (lv_at hl 6 rfl) ?_
                                  refine hp_if_le (tgt := 234) hx hb d_M_pass_226 (by decide) (by unfold iR at *; omega) (fun c226 => ?_) (fun c226 => ?_)
                                  · skip
                                    exact absurd c226 (by first | decide | omega)
                                  · skip
                                    refine lv_iload hx hb d_M_pass_229 (lv_at hl 2 rfl) ?_
                                    refine lv_goto (tgt := 237) hx hb d_M_pass_231 (by decide) ?_
                                    refine hp_iast hx hb hK.1 0 hwd hS (by show _ ∨ _; omega) rfl d_M_pass_237 (by omega) (((32 * t) + k) + 2) (by omega) (by omega) (fun H locs hwdn hz1 ho1 hS => ?_)
                                    have hZ := hz1.trans hZ
                                    have hm := hm.keep (ho1 (mo) (by omega))
                                    have hsd := hsd.keep (ho1 (mo + 1) (by omega))
                                    have hsz := hsz.keep (ho1 (mo + 2) (by omega))
                                    have hkn := hkn.keep (ho1 (mo + 10) (by omega))
                                    have hwd : ca E H (mo + 3) (ai E 128 (hp_up (hp_up (hp_up g ((32 * t) + k) ((gw g t (k + 1)).natAbs : Int)) (((32 * t) + k) + 1) ((gw g t k).natAbs : Int)) (((32 * t) + k) + 2) ((gw g t (k + 1)).natAbs : Int))) := hwdn
                                    refine lv_aload_n hx hb d_M_pass_238 rfl (lv_at hl 7 rfl) ?_
                                    refine hp_get (C := R_M) (T := F_M) (N := 19) (v := .ref (mo + 10)) hx hb hG la_M hown hK.1 hm rfl 13 (by decide) (hG _ fl_M_37) (fun _ h9 => h9) rfl d_M_pass_239 ?_
                                    refine lv_iload_n hx hb d_M_pass_242 rfl (lv_at hl 8 rfl) ?_
                                    refine hp_iconst (z := 0) hx hb d_M_pass_243 (by rfl) ?_
                                    refine hp_zast hx hb hK.1 1 hkn hS (by show _ ∨ _; omega) rfl d_M_pass_244 (by omega) false t (by omega) (by omega) (fun H locs hknn hz1 ho1 hS => ?_)
                                    have hZ := hz1.trans hZ
                                    have hm := hm.keep (ho1 (mo) (by omega))
                                    have hsd := hsd.keep (ho1 (mo + 1) (by omega))
                                    have hsz := hsz.keep (ho1 (mo + 2) (by omega))
                                    have hwd := hwd.keep (ho1 (mo + 3) (by omega))
                                    have hkn : ca E H (mo + 10) (hp_az (E.2 1) 4 (hp_up kz t false)) := hknn
                                    refine hp_iconst (z := 1) hx hb d_M_pass_245 (by rfl) ?_
                                    rw [hQ]
                                    refine hp_zretQ hx hb hrt hlocks d_M_pass_246 true (by first | rfl | assumption | simp [bI]) hS hZ ?_
                                    rw [Int.toNat_natCast, Int.toNat_natCast]
                                    exact Or.inl ⟨rfl, ⟨by omega, by omega, by omega, by omega, hci.mpr (by omega)⟩, _, _, _, (by first | exact bw_mulp (by omega) | exact bw_muln (by omega)), (by first | exact bw_mulp (by omega) | exact bw_muln (by omega)), (by first | exact bw_mulp (by omega) | exact bw_muln (by omega)), hm, hsd, hsz, hwd, hkn⟩
                            · skip
                              exact absurd c158 (by first | decide | omega)
      · skip
        refine hp_iconst (z := 0) hx hb d_M_pass_23 (by rfl) ?_
        rw [hQ]
        refine hp_zretQ hx hb hrt hlocks d_M_pass_24 false (by first | rfl | assumption | simp [bI]) hS hZ ?_
        first | exact Or.inr ⟨rfl, by omega, hm, hsd, hsz, hwd, hkn⟩ | (rw [Int.toNat_natCast]; exact Or.inr ⟨rfl, by omega, hm, hsd, hsz, hwd, hkn⟩) | (rw [Int.toNat_natCast, Int.toNat_natCast]; exact Or.inr ⟨rfl, by omega, hm, hsd, hsz, hwd, hkn⟩)

set_option maxHeartbeats 4000000 in
set_option maxRecDepth 100000 in
/-- copy(r, s, back) -/
theorem c_M_copy (l : Launch) (E : hp_E) (mo : Nat) (th md fe ps : Int) (w c : Nat → Nat) (g : Nat → Int) (kz : Nat → Bool) (po : Nat → Int) (r0 s0 : Int) (bk : Bool) (hr0 : iR r0) (hs0 : iR s0) (hbd : bd g) (hvm : ∀ i, i < 4 → 1 ≤ w i ∧ w i ≤ 8 ∧ c i ≤ 32) : Met l y_M_copy (Cond.code y_M_copy b_M_copy 6 (some .boolean) :: G0) ({ frames := 1, cells := 0, slots := 0, locals := 22 }) (hp_P E [.ref mo, .int (iI r0), .int (iI s0), .int (iI (bI bk))] (fun H => mW E H mo th md fe ps w c g kz ∧ ca E H (mo + 7) (ai E 4096 po))) (hp_Qi (fun q => q = mo ∨ q = mo + 1 ∨ q = mo + 2 ∨ q = mo + 3 ∨ q = mo + 7 ∨ q = mo + 10) (fun r H => (∃ po1 : Nat → Int, ca E H (mo + 7) (ai E 4096 po1)) ∧ ((r = 1 ∧ (0 ≤ r0 ∧ r0 < 4 ∧ 0 ≤ s0 ∧ s0 < 4) ∧ ∃ g1 : Nat → Int, bd g1 ∧ bw_out r0.toNat g g1 ∧ (∀ k, k < c s0.toNat → gw g1 r0.toNat k = (if bk then -gw g s0.toNat (c s0.toNat - 1 - k) else gw g s0.toNat k)) ∧ mW E H mo th md fe ps (hp_up w r0.toNat (w s0.toNat)) (hp_up c r0.toNat (c s0.toNat)) g1 (hp_up kz r0.toNat false)) ∨ (r = 0 ∧ ¬ (0 ≤ r0 ∧ r0 < 4 ∧ 0 ≤ s0 ∧ s0 < 4) ∧ mW E H mo th md fe ps w c g kz)))) 0 0 (fun q => q = mo ∨ q = mo + 1 ∨ q = mo + 2 ∨ q = mo + 3 ∨ q = mo + 7 ∨ q = mo + 10) := by
  refine Met.ofW (cc := b_M_copy) (maxL := 6) (ret := some .boolean) (by decide) rfl ?_
  intro p e s m args below meth cd s₁ Bd hml hv
  obtain ⟨hargs, hB, hK⟩ := hv
  have hx := Bd.exec
  have hb := Bd.bytes
  have hrt := Bd.returns
  have hts := atoms_spec (ws := Cond.code y_M_copy b_M_copy 6 (some .boolean) :: G0) Bd.pre
  have hG : ∀ w ∈ G0, w.before args s = true := fun w h => hts w (List.mem_cons_of_mem _ h)
  have hown : s.vm.findClass R_M = some m.cls := findClass_of_methodNamed Bd.named
  have hlocks := Bd.notSynchronized
  have hl := lv_entry ([.ref mo, .int (iI r0), .int (iI s0), .int (iI (bI bk))]) (n := 6) (Nat.le_of_ble_eq_true rfl)
  rw [show entryFrame m args 6 = entryFrame m ([.ref mo, .int (iI r0), .int (iI s0), .int (iI (bI bk))] : List Value).toArray 6 from by rw [hargs]]
  rw [lg_entry_eq]
  generalize (lg_sl ([.ref mo, .int (iI r0), .int (iI s0), .int (iI (bI bk))]) ++ List.replicate (6 - (lg_sl ([.ref mo, .int (iI r0), .int (iI s0), .int (iI (bI bk))])).length) Slot.unset).toArray = ls at hl ⊢
  have hl : lv_has ls 6 [(0, .ref mo), (1, .int (iI r0)), (2, .int (iI s0)), (3, .int (iI (bI bk)))] := hl
  obtain ⟨R, hR⟩ : ∃ R, R = (headSpec (Cond.code y_M_copy b_M_copy 6 (some .boolean) :: G0) { frames := 1, cells := 0, slots := 0, locals := 22 }).room := ⟨_, rfl⟩
  rw [← hR]
  have hRf : R.frames = 1 := by rw [hR]; rfl
  have hRl : R.locals = 22 := by rw [hR]; rfl
  have hRc : R.cells = 0 := by rw [hR]; rfl
  have hRs : R.slots = 0 := by rw [hR]; rfl
  obtain ⟨Q, hQ⟩ : ∃ Q, Q = MQ below (hp_Qi (fun q => q = mo ∨ q = mo + 1 ∨ q = mo + 2 ∨ q = mo + 3 ∨ q = mo + 7 ∨ q = mo + 10) (fun r H => (∃ po1 : Nat → Int, ca E H (mo + 7) (ai E 4096 po1)) ∧ ((r = 1 ∧ (0 ≤ r0 ∧ r0 < 4 ∧ 0 ≤ s0 ∧ s0 < 4) ∧ ∃ g1 : Nat → Int, bd g1 ∧ bw_out r0.toNat g g1 ∧ (∀ k, k < c s0.toNat → gw g1 r0.toNat k = (if bk then -gw g s0.toNat (c s0.toNat - 1 - k) else gw g s0.toNat k)) ∧ mW E H mo th md fe ps (hp_up w r0.toNat (w s0.toNat)) (hp_up c r0.toNat (c s0.toNat)) g1 (hp_up kz r0.toNat false)) ∨ (r = 0 ∧ ¬ (0 ≤ r0 ∧ r0 < 4 ∧ 0 ≤ s0 ∧ s0 < 4) ∧ mW E H mo th md fe ps w c g kz)))) args s 0 0 (fun q => q = mo ∨ q = mo + 1 ∨ q = mo + 2 ∨ q = mo + 3 ∨ q = mo + 7 ∨ q = mo + 10) := ⟨_, rfl⟩
  rw [← hQ]
  obtain ⟨H, hH⟩ : ∃ H, H = s.heap := ⟨_, rfl⟩
  obtain ⟨locs, hlocs⟩ : ∃ locs : List Loc, locs = [] := ⟨_, rfl⟩
  have hS : va_S (fun q => q = mo ∨ q = mo + 1 ∨ q = mo + 2 ∨ q = mo + 3 ∨ q = mo + 7 ∨ q = mo + 10) s.heap H locs := by rw [hH, hlocs]; exact va_S.rf
  have hZ : H.size = s.heap.size := by rw [hH]
  rw [← hH] at hB
  rw [show W p l e R s m args below meth cd s.heap [] 0 0 Q (F0 m 0 ls []) = W p l e R s m args below meth cd H locs 0 0 Q (F0 m 0 ls []) from by rw [hH, hlocs]]
  obtain ⟨⟨hm, hsd, hsz, hwd, hkn⟩, hpo⟩ := hB
  refine lv_iload_n hx hb d_M_copy_0 rfl (lv_at hl 1 rfl) ?_
  refine hp_callS (W.runS (As := [.int (iI r0)]) (rest := []) ⟨hx, hb, hml, hown, hG⟩ (c_M_isSlot l E r0 (by unfold iR at *; omega)) (cwS 1 hG (hp_goodS ml_M_60 st_M_isSlot in_M co_M_isSlot) rfl rfl rfl hd_M_isSlot ⟨by rw [hRf]; exact Nat.le_of_ble_eq_true rfl, by rw [hRl]; exact Nat.le_of_ble_eq_true rfl⟩) (hp_preS hp_nsn hK trivial) rfl rfl hl.1 rfl (lv_room (Nat.le_of_ble_eq_true rfl)) d_M_copy_1 ⟨by rw [hRc]; exact Nat.le_of_ble_eq_true rfl, by rw [hRs]; exact Nat.le_of_ble_eq_true rfl⟩) ?_
  refine hp_ifb_eq (tgt := 14) hx hb d_M_copy_4 (by decide) (fun c4 => ?_) (fun c4 => ?_)
  · skip
    have c4 := of_decide_eq_false c4
    refine hp_iconst (z := 0) hx hb d_M_copy_14 (by rfl) ?_
    rw [hQ]
    refine hp_zretQ hx hb hrt hlocks d_M_copy_15 false (by first | rfl | assumption | simp [bI]) hS hZ ?_
    exact ⟨⟨_, hpo⟩, Or.inr ⟨rfl, by omega, hm, hsd, hsz, hwd, hkn⟩⟩
  · skip
    have c4 := of_decide_eq_true c4
    refine lv_iload_n hx hb d_M_copy_7 rfl (lv_at hl 2 rfl) ?_
    refine hp_callS (W.runS (As := [.int (iI s0)]) (rest := []) ⟨hx, hb, hml, hown, hG⟩ (c_M_isSlot l E s0 (by unfold iR at *; omega)) (cwS 1 hG (hp_goodS ml_M_60 st_M_isSlot in_M co_M_isSlot) rfl rfl rfl hd_M_isSlot ⟨by rw [hRf]; exact Nat.le_of_ble_eq_true rfl, by rw [hRl]; exact Nat.le_of_ble_eq_true rfl⟩) (hp_preS hp_nsn hK trivial) rfl rfl hl.1 rfl (lv_room (Nat.le_of_ble_eq_true rfl)) d_M_copy_8 ⟨by rw [hRc]; exact Nat.le_of_ble_eq_true rfl, by rw [hRs]; exact Nat.le_of_ble_eq_true rfl⟩) ?_
    refine hp_ifb_ne (tgt := 16) hx hb d_M_copy_11 (by decide) (fun c11 => ?_) (fun c11 => ?_)
    · skip
      have c11 := of_decide_eq_true c11
      obtain ⟨u, rfl⟩ : ∃ q : Nat, r0 = (q : Int) := ⟨r0.toNat, by omega⟩
      obtain ⟨t, rfl⟩ : ∃ q : Nat, s0 = (q : Int) := ⟨s0.toNat, by omega⟩
      have hvt := hvm t (by omega)
      refine lv_aload_n hx hb d_M_copy_16 rfl (lv_at hl 0 rfl) ?_
      refine hp_get (C := R_M) (T := F_M) (N := 19) (v := .ref (mo + 2)) hx hb hG la_M hown hK.1 hm rfl 2 (by decide) (hG _ fl_M_13) (fun _ h9 => h9) rfl d_M_copy_17 ?_
      refine lv_iload_n hx hb d_M_copy_20 rfl (lv_at hl 2 rfl) ?_
      refine hp_iald hx hb hK.1 0 hsz rfl d_M_copy_21 (by omega) t (by omega) (by omega) ?_
      refine lv_istore (lv' := [(4, .int (iI ((c t : Nat) : Int))), (0, .ref mo), (1, .int (iI (u : Int))), (2, .int (iI (t : Int))), (3, .int (iI (bI bk)))]) hx hb d_M_copy_22 hl (by decide) rfl (fun ls hl => ?_)
      refine hp_iconst (z := 0) hx hb d_M_copy_24 (by rfl) ?_
      refine lv_istore (lv' := [(5, .int (iI 0)), (4, .int (iI ((c t : Nat) : Int))), (0, .ref mo), (1, .int (iI (u : Int))), (2, .int (iI (t : Int))), (3, .int (iI (bI bk)))]) hx hb d_M_copy_25 hl (by decide) rfl (fun ls hl => ?_)
      have L27 : ∀ (N : Nat) (k : Nat) (po1 : Nat → Int), c t - k < N → (k ≤ c t) → (∀ i, i < k → po1 i = (if bk then -gw g t (c t - 1 - i) else gw g t i)) → ∀ (H : Heap) (locs : List Loc), va_S (fun q => q = mo ∨ q = mo + 1 ∨ q = mo + 2 ∨ q = mo + 3 ∨ q = mo + 7 ∨ q = mo + 10) s.heap H locs → H.size = s.heap.size → ca E H mo (oM mo th md fe ps) → ca E H (mo + 1) (ai E 4 (fun k => (w k : Int))) → ca E H (mo + 2) (ai E 4 (fun k => (c k : Int))) → ca E H (mo + 3) (ai E 128 g) → ca E H (mo + 10) (hp_az (E.2 1) 4 kz) → ca E H (mo + 7) (ai E 4096 po1) → ∀ ls : Array Slot, lv_has ls 6 [(0, .ref mo), (1, .int (iI (u : Int))), (2, .int (iI (t : Int))), (3, .int (iI (bI bk))), (4, .int (iI (c t : Int))), (5, .int (iI (k : Int)))] → W p l e R s m args below meth cd H locs 0 0 Q (F0 m 27 ls []) := by
        intro N
        induction N with
        | zero => intro k po1 hN; exact absurd hN (by omega)
        | succ N ih =>
          intro k po1 hN hk hp1 H locs hS hZ hm hsd hsz hwd hkn hpo ls hl
          have ih27 := ih
          refine lv_iload hx hb d_M_copy_27 (lv_at hl 5 rfl) ?_
          refine lv_iload hx hb d_M_copy_29 (lv_at hl 4 rfl) ?_
          refine hp_icmp_ge (tgt := 74) hx hb d_M_copy_31 (by decide) (by unfold iR at *; omega) (by unfold iR at *; omega) (fun c31 => ?_) (fun c31 => ?_)
          · skip
            have ek : k = c t := by omega
            rw [ek] at hp1
            refine hp_iconst (z := 0) hx hb d_M_copy_74 (by rfl) ?_
            refine lv_istore (lv' := [(5, .int (iI 0)), (0, .ref mo), (1, .int (iI (u : Int))), (2, .int (iI (t : Int))), (3, .int (iI (bI bk))), (4, .int (iI (c t : Int)))]) hx hb d_M_copy_75 hl (by decide) rfl (fun ls hl => ?_)
            have L77 : ∀ (N : Nat) (k : Nat) (g1 : Nat → Int), c t - k < N → (k ≤ c t) → (∀ i, i < k → gw g1 u i = (if bk then -gw g t (c t - 1 - i) else gw g t i)) → (bw_out u g g1) → (bd g1) → ∀ (H : Heap) (locs : List Loc), va_S (fun q => q = mo ∨ q = mo + 1 ∨ q = mo + 2 ∨ q = mo + 3 ∨ q = mo + 7 ∨ q = mo + 10) s.heap H locs → H.size = s.heap.size → ca E H mo (oM mo th md fe ps) → ca E H (mo + 1) (ai E 4 (fun k => (w k : Int))) → ca E H (mo + 2) (ai E 4 (fun k => (c k : Int))) → ca E H (mo + 3) (ai E 128 g1) → ca E H (mo + 10) (hp_az (E.2 1) 4 kz) → ca E H (mo + 7) (ai E 4096 po1) → ∀ ls : Array Slot, lv_has ls 6 [(0, .ref mo), (1, .int (iI (u : Int))), (2, .int (iI (t : Int))), (3, .int (iI (bI bk))), (4, .int (iI (c t : Int))), (5, .int (iI (k : Int)))] → W p l e R s m args below meth cd H locs 0 0 Q (F0 m 77 ls []) := by
              intro N
              induction N with
              | zero => intro k g1 hN; exact absurd hN (by omega)
              | succ N ih =>
                intro k g1 hN hk hg1 hout hbg1 H locs hS hZ hm hsd hsz hwd hkn hpo ls hl
                have ih77 := ih
                refine lv_iload hx hb d_M_copy_77 (lv_at hl 5 rfl) ?_
                refine lv_iload hx hb d_M_copy_79 (lv_at hl 4 rfl) ?_
                refine hp_icmp_ge (tgt := 109) hx hb d_M_copy_81 (by decide) (by unfold iR at *; omega) (by unfold iR at *; omega) (fun c81 => ?_) (fun c81 => ?_)
                · skip
                  have ek2 : k = c t := by omega
                  rw [ek2] at hg1
                  refine lv_aload_n hx hb d_M_copy_109 rfl (lv_at hl 0 rfl) ?_
                  refine hp_get (C := R_M) (T := F_M) (N := 19) (v := .ref (mo + 1)) hx hb hG la_M hown hK.1 hm rfl 1 (by decide) (hG _ fl_M_7) (fun _ h9 => h9) rfl d_M_copy_110 ?_
                  refine lv_iload_n hx hb d_M_copy_113 rfl (lv_at hl 1 rfl) ?_
                  refine lv_aload_n hx hb d_M_copy_114 rfl (lv_at hl 0 rfl) ?_
                  refine hp_get (C := R_M) (T := F_M) (N := 19) (v := .ref (mo + 1)) hx hb hG la_M hown hK.1 hm rfl 1 (by decide) (hG _ fl_M_7) (fun _ h9 => h9) rfl d_M_copy_115 ?_
                  refine lv_iload_n hx hb d_M_copy_118 rfl (lv_at hl 2 rfl) ?_
                  refine hp_iald hx hb hK.1 0 hsd rfl d_M_copy_119 (by omega) t (by omega) (by omega) ?_
                  refine hp_iast hx hb hK.1 0 hsd hS (by show _ ∨ _; omega) rfl d_M_copy_120 (by omega) u (by omega) (by omega) (fun H locs hsdn hz1 ho1 hS => ?_)
                  rw [show (((w t : Nat) : Int) : Int) = (((w t) : Nat) : Int) from by omega, nn_up] at hsdn
                  have hZ := hz1.trans hZ
                  have hm := hm.keep (ho1 (mo) (by omega))
                  have hsz := hsz.keep (ho1 (mo + 2) (by omega))
                  have hwd := hwd.keep (ho1 (mo + 3) (by omega))
                  have hkn := hkn.keep (ho1 (mo + 10) (by omega))
                  have hpo := hpo.keep (ho1 (mo + 7) (by omega))
                  have hsd : ca E H (mo + 1) (ai E 4 (fun k => (((hp_up w u (w t)) k : Nat) : Int))) := hsdn
                  refine lv_aload_n hx hb d_M_copy_121 rfl (lv_at hl 0 rfl) ?_
                  refine hp_get (C := R_M) (T := F_M) (N := 19) (v := .ref (mo + 2)) hx hb hG la_M hown hK.1 hm rfl 2 (by decide) (hG _ fl_M_13) (fun _ h9 => h9) rfl d_M_copy_122 ?_
                  refine lv_iload_n hx hb d_M_copy_125 rfl (lv_at hl 1 rfl) ?_
                  refine lv_iload hx hb d_M_copy_126 (lv_at hl 4 rfl) ?_
                  refine hp_iast hx hb hK.1 0 hsz hS (by show _ ∨ _; omega) rfl d_M_copy_128 (by omega) u (by omega) (by omega) (fun H locs hszn hz1 ho1 hS => ?_)
                  rw [show ((c t : Int) : Int) = (((c t) : Nat) : Int) from by omega, nn_up] at hszn
                  have hZ := hz1.trans hZ
                  have hm := hm.keep (ho1 (mo) (by omega))
                  have hsd := hsd.keep (ho1 (mo + 1) (by omega))
                  have hwd := hwd.keep (ho1 (mo + 3) (by omega))
                  have hkn := hkn.keep (ho1 (mo + 10) (by omega))
                  have hpo := hpo.keep (ho1 (mo + 7) (by omega))
                  have hsz : ca E H (mo + 2) (ai E 4 (fun k => (((hp_up c u (c t)) k : Nat) : Int))) := hszn
                  refine lv_aload_n hx hb d_M_copy_129 rfl (lv_at hl 0 rfl) ?_
                  refine hp_get (C := R_M) (T := F_M) (N := 19) (v := .ref (mo + 10)) hx hb hG la_M hown hK.1 hm rfl 13 (by decide) (hG _ fl_M_37) (fun _ h9 => h9) rfl d_M_copy_130 ?_
                  refine lv_iload_n hx hb d_M_copy_133 rfl (lv_at hl 1 rfl) ?_
                  refine hp_iconst (z := 0) hx hb d_M_copy_134 (by rfl) ?_
                  refine hp_zast hx hb hK.1 1 hkn hS (by show _ ∨ _; omega) rfl d_M_copy_135 (by omega) false u (by omega) (by omega) (fun H locs hknn hz1 ho1 hS => ?_)
                  have hZ := hz1.trans hZ
                  have hm := hm.keep (ho1 (mo) (by omega))
                  have hsd := hsd.keep (ho1 (mo + 1) (by omega))
                  have hsz := hsz.keep (ho1 (mo + 2) (by omega))
                  have hwd := hwd.keep (ho1 (mo + 3) (by omega))
                  have hpo := hpo.keep (ho1 (mo + 7) (by omega))
                  have hkn : ca E H (mo + 10) (hp_az (E.2 1) 4 (hp_up kz u false)) := hknn
                  refine hp_iconst (z := 1) hx hb d_M_copy_136 (by rfl) ?_
                  rw [hQ]
                  refine hp_zretQ hx hb hrt hlocks d_M_copy_137 true (by first | rfl | assumption | simp [bI]) hS hZ ?_
                  rw [Int.toNat_natCast, Int.toNat_natCast]
                  exact ⟨⟨_, hpo⟩, Or.inl ⟨rfl, by omega, g1, hbg1, hout, hg1, hm, hsd, hsz, hwd, hkn⟩⟩
                · skip
                  refine lv_aload_n hx hb d_M_copy_84 rfl (lv_at hl 0 rfl) ?_
                  refine hp_get (C := R_M) (T := F_M) (N := 19) (v := .ref (mo + 3)) hx hb hG la_M hown hK.1 hm rfl 3 (by decide) (hG _ fl_M_16) (fun _ h9 => h9) rfl d_M_copy_85 ?_
                  refine hp_bipush (z := 32) hx hb d_M_copy_88 (by rfl) ?_
                  refine lv_iload_n hx hb d_M_copy_90 rfl (lv_at hl 1 rfl) ?_
                  refine hp_imul hx hb d_M_copy_91 ?_
                  refine lv_iload hx hb d_M_copy_92 (lv_at hl 5 rfl) ?_
                  refine hp_iadd hx hb d_M_copy_94 ?_
                  refine lv_aload_n hx hb d_M_copy_95 rfl (lv_at hl 0 rfl) ?_
                  refine hp_get (C := R_M) (T := F_M) (N := 19) (v := .ref (mo + 7)) hx hb hG la_M hown hK.1 hm rfl 10 (by decide) (hG _ fl_M_28) (fun _ h9 => h9) rfl d_M_copy_96 ?_
                  refine lv_iload hx hb d_M_copy_99 (lv_at hl 5 rfl) ?_
                  refine hp_iald hx hb hK.1 0 hpo rfl d_M_copy_101 (by omega) k (by omega) (by omega) ?_
                  refine hp_iast hx hb hK.1 0 hwd hS (by show _ ∨ _; omega) rfl d_M_copy_102 (by omega) ((32 * u) + k) (by omega) (by omega) (fun H locs hwdn hz1 ho1 hS => ?_)
                  have hZ := hz1.trans hZ
                  have hm := hm.keep (ho1 (mo) (by omega))
                  have hsd := hsd.keep (ho1 (mo + 1) (by omega))
                  have hsz := hsz.keep (ho1 (mo + 2) (by omega))
                  have hkn := hkn.keep (ho1 (mo + 10) (by omega))
                  have hpo := hpo.keep (ho1 (mo + 7) (by omega))
                  have hwd : ca E H (mo + 3) (ai E 128 (hp_up g1 ((32 * u) + k) (po1 k))) := hwdn
                  refine hp_iinc (z := ((k : Int) + 1)) (lv' := [(5, .int (iI ((k : Int) + 1))), (0, .ref mo), (1, .int (iI (u : Int))), (2, .int (iI (t : Int))), (3, .int (iI (bI bk))), (4, .int (iI (c t : Int)))]) hx hb d_M_copy_103 hl (k := 5) rfl (by omega) (by decide) rfl (fun ls hl => ?_)
                  refine lv_goto (tgt := 77) hx hb d_M_copy_106 (by decide) ?_
                  exact ih77  (k + 1) (hp_up g1 ((32 * u) + k) (po1 k)) (by omega) (by omega) (by intro i h9; unfold gw; by_cases e9 : i = k; (rw [e9, hp_up_s]; exact hp1 k (by omega)); (rw [hp_up_n _ _ (by omega)]; exact hg1 i (by omega))) (by exact bw_out_tr hout (bw_out_up (by omega) (by omega))) (by refine bd_up hbg1 ?_ ?_; (rw [hp1 k (by omega)]; have h7 := gw_bd hbd t k; have h8 := gw_bd hbd t (c t - 1 - k); split <;> omega); (rw [hp1 k (by omega)]; have h7 := gw_bd hbd t k; have h8 := gw_bd hbd t (c t - 1 - k); split <;> omega)) H locs hS hZ hm hsd hsz hwd hkn hpo ls (lv_sub hl [1, 2, 3, 4, 5, 0] rfl)
            exact L77 (c t - 0 + 1) 0 g (by omega) (by omega) (by intro i h; omega) (by exact bw_out_rf _ _) (by exact hbd) H locs hS hZ hm hsd hsz hwd hkn hpo ls (lv_sub hl [1, 2, 3, 4, 5, 0] rfl)
          · skip
            refine lv_aload_n hx hb d_M_copy_34 rfl (lv_at hl 0 rfl) ?_
            refine hp_get (C := R_M) (T := F_M) (N := 19) (v := .ref (mo + 7)) hx hb hG la_M hown hK.1 hm rfl 10 (by decide) (hG _ fl_M_28) (fun _ h9 => h9) rfl d_M_copy_35 ?_
            refine lv_iload hx hb d_M_copy_38 (lv_at hl 5 rfl) ?_
            refine lv_iload_n hx hb d_M_copy_40 rfl (lv_at hl 3 rfl) ?_
            refine hp_ifb_eq (tgt := 60) hx hb d_M_copy_41 (by decide) (fun c41 => ?_) (fun c41 => ?_)
            · skip
              refine lv_aload_n hx hb d_M_copy_60 rfl (lv_at hl 0 rfl) ?_
              refine lv_iload_n hx hb d_M_copy_61 rfl (lv_at hl 2 rfl) ?_
              refine lv_iload hx hb d_M_copy_62 (lv_at hl 5 rfl) ?_
              refine hp_callS (W.runV (As := [.int (iI (t : Int)), .int (iI (k : Int))]) (rest := [.int (iI (k : Int)), .ref (mo + 7)]) ⟨hx, hb, hml, hown, hG⟩ (c_M_letterAt l E mo th md fe ps w c g kz t k (by omega)) (cwV 2 hG (hp_goodV ml_M_64 im_M_letterAt se_M_letterAt in_M co_M_letterAt) rfl rfl rfl hd_M_letterAt ⟨by rw [hRf]; exact Nat.le_of_ble_eq_true rfl, by rw [hRl]; exact Nat.le_of_ble_eq_true rfl⟩) (hp_preV (ci := 3) hp_nsn hK rfl hm ⟨hm, hsd, hsz, hwd, hkn⟩) rfl rfl hl.1 rfl (lv_room (Nat.le_of_ble_eq_true rfl)) d_M_copy_64 ⟨by rw [hRc]; exact Nat.le_of_ble_eq_true rfl, by rw [hRs]; exact Nat.le_of_ble_eq_true rfl⟩) ?_
              refine hp_iast hx hb hK.1 0 hpo hS (by show _ ∨ _; omega) rfl d_M_copy_67 (by omega) k (by omega) (by omega) (fun H locs hpon hz1 ho1 hS => ?_)
              have hZ := hz1.trans hZ
              have hm := hm.keep (ho1 (mo) (by omega))
              have hsd := hsd.keep (ho1 (mo + 1) (by omega))
              have hsz := hsz.keep (ho1 (mo + 2) (by omega))
              have hwd := hwd.keep (ho1 (mo + 3) (by omega))
              have hkn := hkn.keep (ho1 (mo + 10) (by omega))
              have hpo : ca E H (mo + 7) (ai E 4096 (hp_up po1 k (gw g t k))) := hpon
              refine hp_iinc (z := ((k : Int) + 1)) (lv' := [(5, .int (iI ((k : Int) + 1))), (0, .ref mo), (1, .int (iI (u : Int))), (2, .int (iI (t : Int))), (3, .int (iI (bI bk))), (4, .int (iI (c t : Int)))]) hx hb d_M_copy_68 hl (k := 5) rfl (by omega) (by decide) rfl (fun ls hl => ?_)
              refine lv_goto (tgt := 27) hx hb d_M_copy_71 (by decide) ?_
              exact ih27  (k + 1) (hp_up po1 k (gw g t k)) (by omega) (by omega) (by intro i h9; by_cases e9 : i = k; (rw [e9, hp_up_s, c41]; rfl); (rw [hp_up_n _ _ e9]; exact hp1 i (by omega))) H locs hS hZ hm hsd hsz hwd hkn hpo ls (lv_sub hl [1, 2, 3, 4, 5, 0] rfl)
            · skip
              refine lv_aload_n hx hb d_M_copy_44 rfl (lv_at hl 0 rfl) ?_
              refine lv_iload_n hx hb d_M_copy_45 rfl (lv_at hl 2 rfl) ?_
              refine lv_iload hx hb d_M_copy_46 (lv_at hl 4 rfl) ?_
              refine hp_iconst (z := 1) hx hb d_M_copy_48 (by rfl) ?_
              refine hp_isub hx hb d_M_copy_49 ?_
              refine lv_iload hx hb d_M_copy_50 (lv_at hl 5 rfl) ?_
              refine hp_isub hx hb d_M_copy_52 ?_
              rw [show ((((c t : Int) - 1) - (k : Int)) : Int) = (((((c t) - 1) - k) : Nat) : Int) from by omega]
              refine hp_callS (W.runV (As := [.int (iI (t : Int)), .int (iI (((((c t) - 1) - k) : Nat) : Int))]) (rest := [.int (iI (k : Int)), .ref (mo + 7)]) ⟨hx, hb, hml, hown, hG⟩ (c_M_letterAt l E mo th md fe ps w c g kz t (((c t) - 1) - k) (by omega)) (cwV 2 hG (hp_goodV ml_M_64 im_M_letterAt se_M_letterAt in_M co_M_letterAt) rfl rfl rfl hd_M_letterAt ⟨by rw [hRf]; exact Nat.le_of_ble_eq_true rfl, by rw [hRl]; exact Nat.le_of_ble_eq_true rfl⟩) (hp_preV (ci := 3) hp_nsn hK rfl hm ⟨hm, hsd, hsz, hwd, hkn⟩) rfl rfl hl.1 rfl (lv_room (Nat.le_of_ble_eq_true rfl)) d_M_copy_53 ⟨by rw [hRc]; exact Nat.le_of_ble_eq_true rfl, by rw [hRs]; exact Nat.le_of_ble_eq_true rfl⟩) ?_
              refine hp_ineg hx hb d_M_copy_56 ?_
              refine lv_goto (tgt := 67) hx hb d_M_copy_57 (by decide) ?_
              refine hp_iast hx hb hK.1 0 hpo hS (by show _ ∨ _; omega) rfl d_M_copy_67 (by omega) k (by omega) (by omega) (fun H locs hpon hz1 ho1 hS => ?_)
              have hZ := hz1.trans hZ
              have hm := hm.keep (ho1 (mo) (by omega))
              have hsd := hsd.keep (ho1 (mo + 1) (by omega))
              have hsz := hsz.keep (ho1 (mo + 2) (by omega))
              have hwd := hwd.keep (ho1 (mo + 3) (by omega))
              have hkn := hkn.keep (ho1 (mo + 10) (by omega))
              have hpo : ca E H (mo + 7) (ai E 4096 (hp_up po1 k (-(gw g t (((c t) - 1) - k))))) := hpon
              refine hp_iinc (z := ((k : Int) + 1)) (lv' := [(5, .int (iI ((k : Int) + 1))), (0, .ref mo), (1, .int (iI (u : Int))), (2, .int (iI (t : Int))), (3, .int (iI (bI bk))), (4, .int (iI (c t : Int)))]) hx hb d_M_copy_68 hl (k := 5) rfl (by omega) (by decide) rfl (fun ls hl => ?_)
              refine lv_goto (tgt := 27) hx hb d_M_copy_71 (by decide) ?_
              exact ih27  (k + 1) (hp_up po1 k (-(gw g t (((c t) - 1) - k)))) (by omega) (by omega) (by intro i h9; by_cases e9 : i = k; (rw [e9, hp_up_s, c41]; rfl); (rw [hp_up_n _ _ e9]; exact hp1 i (by omega))) H locs hS hZ hm hsd hsz hwd hkn hpo ls (lv_sub hl [1, 2, 3, 4, 5, 0] rfl)
      exact L27 (c t - 0 + 1) 0 po (by omega) (by omega) (by intro i h; omega) H locs hS hZ hm hsd hsz hwd hkn hpo ls (lv_sub hl [2, 3, 4, 5, 1, 0] rfl)
    · skip
      have c11 := of_decide_eq_false c11
      refine hp_iconst (z := 0) hx hb d_M_copy_14 (by rfl) ?_
      rw [hQ]
      refine hp_zretQ hx hb hrt hlocks d_M_copy_15 false (by first | rfl | assumption | simp [bI]) hS hZ ?_
      exact ⟨⟨_, hpo⟩, Or.inr ⟨rfl, by omega, hm, hsd, hsz, hwd, hkn⟩⟩

set_option maxHeartbeats 4000000 in
set_option maxRecDepth 100000 in
/-- remove(s, k) -/
theorem c_M_remove (l : Launch) (E : hp_E) (mo : Nat) (th md fe ps : Int) (w c : Nat → Nat) (g : Nat → Int) (kz : Nat → Bool) (t k : Nat) (ht : t < 4) (hk0 : k < c t) (hc0 : c t ≤ 32) : Met l y_M_remove (Cond.code y_M_remove b_M_remove 4 (none) :: G0) ({ frames := 0, cells := 0, slots := 0, locals := 0 }) (hp_P E [.ref mo, .int (iI (t : Int)), .int (iI (k : Int))] (fun H => mW E H mo th md fe ps w c g kz)) (hp_Qv (fun q => q = mo ∨ q = mo + 1 ∨ q = mo + 2 ∨ q = mo + 3 ∨ q = mo + 10) (fun H => mW E H mo th md fe ps w (hp_up c t (c t - 1)) (bw_rmv g (32 * t + k) (32 * t + c t - 1)) (hp_up kz t false))) 0 0 (fun q => q = mo ∨ q = mo + 1 ∨ q = mo + 2 ∨ q = mo + 3 ∨ q = mo + 10) := by
  refine Met.ofW (cc := b_M_remove) (maxL := 4) (ret := none) (by decide) rfl ?_
  intro p e s m args below meth cd s₁ Bd hml hv
  obtain ⟨hargs, hB, hK⟩ := hv
  have hx := Bd.exec
  have hb := Bd.bytes
  have hrt := Bd.returns
  have hts := atoms_spec (ws := Cond.code y_M_remove b_M_remove 4 (none) :: G0) Bd.pre
  have hG : ∀ w ∈ G0, w.before args s = true := fun w h => hts w (List.mem_cons_of_mem _ h)
  have hown : s.vm.findClass R_M = some m.cls := findClass_of_methodNamed Bd.named
  have hlocks := Bd.notSynchronized
  have hl := lv_entry ([.ref mo, .int (iI (t : Int)), .int (iI (k : Int))]) (n := 4) (Nat.le_of_ble_eq_true rfl)
  rw [show entryFrame m args 4 = entryFrame m ([.ref mo, .int (iI (t : Int)), .int (iI (k : Int))] : List Value).toArray 4 from by rw [hargs]]
  rw [lg_entry_eq]
  generalize (lg_sl ([.ref mo, .int (iI (t : Int)), .int (iI (k : Int))]) ++ List.replicate (4 - (lg_sl ([.ref mo, .int (iI (t : Int)), .int (iI (k : Int))])).length) Slot.unset).toArray = ls at hl ⊢
  have hl : lv_has ls 4 [(0, .ref mo), (1, .int (iI (t : Int))), (2, .int (iI (k : Int)))] := hl
  obtain ⟨R, hR⟩ : ∃ R, R = (headSpec (Cond.code y_M_remove b_M_remove 4 (none) :: G0) { frames := 0, cells := 0, slots := 0, locals := 0 }).room := ⟨_, rfl⟩
  rw [← hR]
  have hRf : R.frames = 0 := by rw [hR]; rfl
  have hRl : R.locals = 0 := by rw [hR]; rfl
  have hRc : R.cells = 0 := by rw [hR]; rfl
  have hRs : R.slots = 0 := by rw [hR]; rfl
  obtain ⟨Q, hQ⟩ : ∃ Q, Q = MQ below (hp_Qv (fun q => q = mo ∨ q = mo + 1 ∨ q = mo + 2 ∨ q = mo + 3 ∨ q = mo + 10) (fun H => mW E H mo th md fe ps w (hp_up c t (c t - 1)) (bw_rmv g (32 * t + k) (32 * t + c t - 1)) (hp_up kz t false))) args s 0 0 (fun q => q = mo ∨ q = mo + 1 ∨ q = mo + 2 ∨ q = mo + 3 ∨ q = mo + 10) := ⟨_, rfl⟩
  rw [← hQ]
  obtain ⟨H, hH⟩ : ∃ H, H = s.heap := ⟨_, rfl⟩
  obtain ⟨locs, hlocs⟩ : ∃ locs : List Loc, locs = [] := ⟨_, rfl⟩
  have hS : va_S (fun q => q = mo ∨ q = mo + 1 ∨ q = mo + 2 ∨ q = mo + 3 ∨ q = mo + 10) s.heap H locs := by rw [hH, hlocs]; exact va_S.rf
  have hZ : H.size = s.heap.size := by rw [hH]
  rw [← hH] at hB
  rw [show W p l e R s m args below meth cd s.heap [] 0 0 Q (F0 m 0 ls []) = W p l e R s m args below meth cd H locs 0 0 Q (F0 m 0 ls []) from by rw [hH, hlocs]]
  obtain ⟨hm, hsd, hsz, hwd, hkn⟩ := hB
  refine lv_aload_n hx hb d_M_remove_0 rfl (lv_at hl 0 rfl) ?_
  refine hp_get (C := R_M) (T := F_M) (N := 19) (v := .ref (mo + 2)) hx hb hG la_M hown hK.1 hm rfl 2 (by decide) (hG _ fl_M_13) (fun _ h9 => h9) rfl d_M_remove_1 ?_
  refine lv_iload_n hx hb d_M_remove_4 rfl (lv_at hl 1 rfl) ?_
  refine lv_dup2_11 hx hb d_M_remove_5 rfl rfl ?_
  refine hp_iald hx hb hK.1 0 hsz rfl d_M_remove_6 (by omega) t (by omega) (by omega) ?_
  refine hp_iconst (z := 1) hx hb d_M_remove_7 (by rfl) ?_
  refine hp_isub hx hb d_M_remove_8 ?_
  refine hp_iast hx hb hK.1 0 hsz hS (by show _ ∨ _; omega) rfl d_M_remove_9 (by omega) t (by omega) (by omega) (fun H locs hszn hz1 ho1 hS => ?_)
  rw [show ((((c t : Nat) : Int) - 1) : Int) = ((((c t) - 1) : Nat) : Int) from by omega, nn_up] at hszn
  have hZ := hz1.trans hZ
  have hm := hm.keep (ho1 (mo) (by omega))
  have hsd := hsd.keep (ho1 (mo + 1) (by omega))
  have hwd := hwd.keep (ho1 (mo + 3) (by omega))
  have hkn := hkn.keep (ho1 (mo + 10) (by omega))
  have hsz : ca E H (mo + 2) (ai E 4 (fun k => (((hp_up c t ((c t) - 1)) k : Nat) : Int))) := hszn
  refine lv_iload_n hx hb d_M_remove_10 rfl (lv_at hl 2 rfl) ?_
  refine lv_istore_n (lv' := [(3, .int (iI (k : Int))), (0, .ref mo), (1, .int (iI (t : Int))), (2, .int (iI (k : Int)))]) hx hb d_M_remove_11 rfl hl (by decide) rfl (fun ls hl => ?_)
  have L12 : ∀ (N : Nat) (i : Nat) (g1 : Nat → Int), c t - i < N → (k ≤ i ∧ i ≤ c t - 1) → (g1 = bw_rmv g (32 * t + k) (32 * t + i)) → ∀ (H : Heap) (locs : List Loc), va_S (fun q => q = mo ∨ q = mo + 1 ∨ q = mo + 2 ∨ q = mo + 3 ∨ q = mo + 10) s.heap H locs → H.size = s.heap.size → ca E H mo (oM mo th md fe ps) → ca E H (mo + 1) (ai E 4 (fun k => (w k : Int))) → ca E H (mo + 2) (ai E 4 (fun k => ((hp_up c t (c t - 1)) k : Int))) → ca E H (mo + 3) (ai E 128 g1) → ca E H (mo + 10) (hp_az (E.2 1) 4 kz) → ∀ ls : Array Slot, lv_has ls 4 [(0, .ref mo), (1, .int (iI (t : Int))), (2, .int (iI (k : Int))), (3, .int (iI (i : Int)))] → W p l e R s m args below meth cd H locs 0 0 Q (F0 m 12 ls []) := by
    intro N
    induction N with
    | zero => intro i g1 hN; exact absurd hN (by omega)
    | succ N ih =>
      intro i g1 hN hi hg1 H locs hS hZ hm hsd hsz hwd hkn ls hl
      have ih12 := ih
      refine lv_iload_n hx hb d_M_remove_12 rfl (lv_at hl 3 rfl) ?_
      refine lv_aload_n hx hb d_M_remove_13 rfl (lv_at hl 0 rfl) ?_
      refine hp_get (C := R_M) (T := F_M) (N := 19) (v := .ref (mo + 2)) hx hb hG la_M hown hK.1 hm rfl 2 (by decide) (hG _ fl_M_13) (fun _ h9 => h9) rfl d_M_remove_14 ?_
      refine lv_iload_n hx hb d_M_remove_17 rfl (lv_at hl 1 rfl) ?_
      refine hp_iald hx hb hK.1 0 hsz rfl d_M_remove_18 (by omega) t (by omega) (by omega) ?_
      rw [hp_up_s]
      refine hp_icmp_ge (tgt := 52) hx hb d_M_remove_19 (by decide) (by unfold iR; omega) (by unfold iR; omega) (fun c19 => ?_) (fun c19 => ?_)
      · skip
        refine lv_aload_n hx hb d_M_remove_52 rfl (lv_at hl 0 rfl) ?_
        refine hp_get (C := R_M) (T := F_M) (N := 19) (v := .ref (mo + 10)) hx hb hG la_M hown hK.1 hm rfl 13 (by decide) (hG _ fl_M_37) (fun _ h9 => h9) rfl d_M_remove_53 ?_
        refine lv_iload_n hx hb d_M_remove_56 rfl (lv_at hl 1 rfl) ?_
        refine hp_iconst (z := 0) hx hb d_M_remove_57 (by rfl) ?_
        refine hp_zast hx hb hK.1 1 hkn hS (by show _ ∨ _; omega) rfl d_M_remove_58 (by omega) false t (by omega) (by omega) (fun H locs hknn hz1 ho1 hS => ?_)
        have hZ := hz1.trans hZ
        have hm := hm.keep (ho1 (mo) (by omega))
        have hsd := hsd.keep (ho1 (mo + 1) (by omega))
        have hsz := hsz.keep (ho1 (mo + 2) (by omega))
        have hwd := hwd.keep (ho1 (mo + 3) (by omega))
        have hkn : ca E H (mo + 10) (hp_az (E.2 1) 4 (hp_up kz t false)) := hknn
        rw [hQ]
        refine hp_vretQ hx hb hrt hlocks d_M_remove_59 hS hZ ?_
        have ei : i = c t - 1 := by omega
        rw [ei, show 32 * t + (c t - 1) = 32 * t + c t - 1 by omega] at hg1
        rw [← hg1]
        exact ⟨hm, hsd, hsz, hwd, hkn⟩
      · skip
        refine lv_aload_n hx hb d_M_remove_22 rfl (lv_at hl 0 rfl) ?_
        refine hp_get (C := R_M) (T := F_M) (N := 19) (v := .ref (mo + 3)) hx hb hG la_M hown hK.1 hm rfl 3 (by decide) (hG _ fl_M_16) (fun _ h9 => h9) rfl d_M_remove_23 ?_
        refine hp_bipush (z := 32) hx hb d_M_remove_26 (by rfl) ?_
        refine lv_iload_n hx hb d_M_remove_28 rfl (lv_at hl 1 rfl) ?_
        refine hp_imul hx hb d_M_remove_29 ?_
        refine lv_iload_n hx hb d_M_remove_30 rfl (lv_at hl 3 rfl) ?_
        refine hp_iadd hx hb d_M_remove_31 ?_
        refine lv_aload_n hx hb d_M_remove_32 rfl (lv_at hl 0 rfl) ?_
        refine hp_get (C := R_M) (T := F_M) (N := 19) (v := .ref (mo + 3)) hx hb hG la_M hown hK.1 hm rfl 3 (by decide) (hG _ fl_M_16) (fun _ h9 => h9) rfl d_M_remove_33 ?_
        refine hp_bipush (z := 32) hx hb d_M_remove_36 (by rfl) ?_
        refine lv_iload_n hx hb d_M_remove_38 rfl (lv_at hl 1 rfl) ?_
        refine hp_imul hx hb d_M_remove_39 ?_
        refine lv_iload_n hx hb d_M_remove_40 rfl (lv_at hl 3 rfl) ?_
        refine hp_iadd hx hb d_M_remove_41 ?_
        refine hp_iconst (z := 1) hx hb d_M_remove_42 (by rfl) ?_
        refine hp_iadd hx hb d_M_remove_43 ?_
        refine hp_iald hx hb hK.1 0 hwd rfl d_M_remove_44 (by omega) (((32 * t) + i) + 1) (by omega) (by omega) ?_
        refine hp_iast hx hb hK.1 0 hwd hS (by show _ ∨ _; omega) rfl d_M_remove_45 (by omega) ((32 * t) + i) (by omega) (by omega) (fun H locs hwdn hz1 ho1 hS => ?_)
        have hZ := hz1.trans hZ
        have hm := hm.keep (ho1 (mo) (by omega))
        have hsd := hsd.keep (ho1 (mo + 1) (by omega))
        have hsz := hsz.keep (ho1 (mo + 2) (by omega))
        have hkn := hkn.keep (ho1 (mo + 10) (by omega))
        have hwd : ca E H (mo + 3) (ai E 128 (hp_up g1 ((32 * t) + i) (g1 (((32 * t) + i) + 1)))) := hwdn
        refine hp_iinc (z := ((i : Int) + 1)) (lv' := [(3, .int (iI ((i : Int) + 1))), (0, .ref mo), (1, .int (iI (t : Int))), (2, .int (iI (k : Int)))]) hx hb d_M_remove_46 hl (k := 3) rfl (by omega) (by decide) rfl (fun ls hl => ?_)
        refine lv_goto (tgt := 12) hx hb d_M_remove_49 (by decide) ?_
        exact ih12  (i + 1) (hp_up g1 ((32 * t) + i) (g1 (((32 * t) + i) + 1))) (by omega) (by omega) (by rw [hg1]; exact bw_rmv_s g (by omega)) H locs hS hZ hm hsd hsz hwd hkn ls (lv_sub hl [1, 2, 3, 0] rfl)
  exact L12 (c t - k + 1) k g (by omega) (by omega) (by exact (bw_rmv_0 g _).symm) H locs hS hZ hm hsd hsz hwd hkn ls (lv_sub hl [1, 2, 3, 0] rfl)
