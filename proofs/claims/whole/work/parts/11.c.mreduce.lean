theorem bw_kz1 {kz kz1 : Nat → Bool} {t : Nat} (h : ∀ i, i ≠ t → kz1 i = kz i) : ∀ i, i ≠ t → hp_up kz1 t false i = kz i := fun i hi => by rw [hp_up_n _ _ hi]; exact h i hi
theorem bw_kz2 {kz1 : Nat → Bool} {t : Nat} {P : Prop} (h : hp_up kz1 t false t = true) : P := by rw [hp_up_s] at h; cases h

set_option maxHeartbeats 4000000 in
set_option maxRecDepth 100000 in
/-- reduce(s, ends) -/
theorem c_M_reduce (l : Launch) (E : hp_E) (mo : Nat) (th md fe ps : Int) (w c : Nat → Nat) (g : Nat → Int) (kz : Nat → Bool) (s0 : Int) (en : Bool) (hs0 : iR s0) (hbd : bd g) (hvm : ∀ i, i < 4 → 1 ≤ w i ∧ w i ≤ 8 ∧ c i ≤ 32) : Met l y_M_reduce (Cond.code y_M_reduce b_M_reduce 5 (some .int) :: G0) ({ frames := 1, cells := 0, slots := 0, locals := 23 }) (hp_P E [.ref mo, .int (iI s0), .int (iI (bI en))] (fun H => mW E H mo th md fe ps w c g kz)) (hp_Qi (fun q => q = mo ∨ q = mo + 1 ∨ q = mo + 2 ∨ q = mo + 3 ∨ q = mo + 10) (fun r H => (¬ (0 ≤ s0 ∧ s0 < 4) ∧ r = 0 ∧ mW E H mo th md fe ps w c g kz) ∨ ((0 ≤ s0 ∧ s0 < 4) ∧ ∃ (g1 g2 : Nat → Int) (kz2 : Nat → Bool) (n n2 x : Nat), bw_st (gw g1 s0.toNat) n (bw_rs (gw g s0.toNat) (c s0.toNat)) ∧ (en = false → x = 0) ∧ (en = true → bw_gone (gw g1 s0.toNat) n x) ∧ n2 + 2 * x = n ∧ (∀ j, j < n2 → gw g2 s0.toNat j = gw g1 s0.toNat (x + j)) ∧ bd g2 ∧ bw_out s0.toNat g g2 ∧ (∀ i, i ≠ s0.toNat → kz2 i = kz i) ∧ (kz2 s0.toNat = true → kz s0.toNat = true ∧ n2 = c s0.toNat ∧ g2 = g) ∧ n ≤ c s0.toNat ∧ r = (c s0.toNat : Int) - (n2 : Int) ∧ mW E H mo th md fe ps w (hp_up c s0.toNat n2) g2 kz2))) 0 0 (fun q => q = mo ∨ q = mo + 1 ∨ q = mo + 2 ∨ q = mo + 3 ∨ q = mo + 10) := by
  refine Met.ofW (cc := b_M_reduce) (maxL := 5) (ret := some .int) (by decide) rfl ?_
  intro p e s m args below meth cd s₁ Bd hml hv
  obtain ⟨hargs, hB, hK⟩ := hv
  have hx := Bd.exec
  have hb := Bd.bytes
  have hrt := Bd.returns
  have hts := atoms_spec (ws := Cond.code y_M_reduce b_M_reduce 5 (some .int) :: G0) Bd.pre
  have hG : ∀ w ∈ G0, w.before args s = true := fun w h => hts w (List.mem_cons_of_mem _ h)
  have hown : s.vm.findClass R_M = some m.cls := findClass_of_methodNamed Bd.named
  have hlocks := Bd.notSynchronized
  have hl := lv_entry ([.ref mo, .int (iI s0), .int (iI (bI en))]) (n := 5) (Nat.le_of_ble_eq_true rfl)
  rw [show entryFrame m args 5 = entryFrame m ([.ref mo, .int (iI s0), .int (iI (bI en))] : List Value).toArray 5 from by rw [hargs]]
  rw [lg_entry_eq]
  generalize (lg_sl ([.ref mo, .int (iI s0), .int (iI (bI en))]) ++ List.replicate (5 - (lg_sl ([.ref mo, .int (iI s0), .int (iI (bI en))])).length) Slot.unset).toArray = ls at hl ⊢
  have hl : lv_has ls 5 [(0, .ref mo), (1, .int (iI s0)), (2, .int (iI (bI en)))] := hl
  obtain ⟨R, hR⟩ : ∃ R, R = (headSpec (Cond.code y_M_reduce b_M_reduce 5 (some .int) :: G0) { frames := 1, cells := 0, slots := 0, locals := 23 }).room := ⟨_, rfl⟩
  rw [← hR]
  have hRf : R.frames = 1 := by rw [hR]; rfl
  have hRl : R.locals = 23 := by rw [hR]; rfl
  have hRc : R.cells = 0 := by rw [hR]; rfl
  have hRs : R.slots = 0 := by rw [hR]; rfl
  obtain ⟨Q, hQ⟩ : ∃ Q, Q = MQ below (hp_Qi (fun q => q = mo ∨ q = mo + 1 ∨ q = mo + 2 ∨ q = mo + 3 ∨ q = mo + 10) (fun r H => (¬ (0 ≤ s0 ∧ s0 < 4) ∧ r = 0 ∧ mW E H mo th md fe ps w c g kz) ∨ ((0 ≤ s0 ∧ s0 < 4) ∧ ∃ (g1 g2 : Nat → Int) (kz2 : Nat → Bool) (n n2 x : Nat), bw_st (gw g1 s0.toNat) n (bw_rs (gw g s0.toNat) (c s0.toNat)) ∧ (en = false → x = 0) ∧ (en = true → bw_gone (gw g1 s0.toNat) n x) ∧ n2 + 2 * x = n ∧ (∀ j, j < n2 → gw g2 s0.toNat j = gw g1 s0.toNat (x + j)) ∧ bd g2 ∧ bw_out s0.toNat g g2 ∧ (∀ i, i ≠ s0.toNat → kz2 i = kz i) ∧ (kz2 s0.toNat = true → kz s0.toNat = true ∧ n2 = c s0.toNat ∧ g2 = g) ∧ n ≤ c s0.toNat ∧ r = (c s0.toNat : Int) - (n2 : Int) ∧ mW E H mo th md fe ps w (hp_up c s0.toNat n2) g2 kz2))) args s 0 0 (fun q => q = mo ∨ q = mo + 1 ∨ q = mo + 2 ∨ q = mo + 3 ∨ q = mo + 10) := ⟨_, rfl⟩
  rw [← hQ]
  obtain ⟨H, hH⟩ : ∃ H, H = s.heap := ⟨_, rfl⟩
  obtain ⟨locs, hlocs⟩ : ∃ locs : List Loc, locs = [] := ⟨_, rfl⟩
  have hS : va_S (fun q => q = mo ∨ q = mo + 1 ∨ q = mo + 2 ∨ q = mo + 3 ∨ q = mo + 10) s.heap H locs := by rw [hH, hlocs]; exact va_S.rf
  have hZ : H.size = s.heap.size := by rw [hH]
  rw [← hH] at hB
  rw [show W p l e R s m args below meth cd s.heap [] 0 0 Q (F0 m 0 ls []) = W p l e R s m args below meth cd H locs 0 0 Q (F0 m 0 ls []) from by rw [hH, hlocs]]
  obtain ⟨hm, hsd, hsz, hwd, hkn⟩ := hB
  refine lv_iload_n hx hb d_M_reduce_0 rfl (lv_at hl 1 rfl) ?_
  refine hp_callS (W.runS (As := [.int (iI s0)]) (rest := []) ⟨hx, hb, hml, hown, hG⟩ (c_M_isSlot l E s0 (by unfold iR at *; omega)) (cwS 1 hG (hp_goodS ml_M_60 st_M_isSlot in_M co_M_isSlot) rfl rfl rfl hd_M_isSlot ⟨by rw [hRf]; exact Nat.le_of_ble_eq_true rfl, by rw [hRl]; exact Nat.le_of_ble_eq_true rfl⟩) (hp_preS hp_nsn hK trivial) rfl rfl hl.1 rfl (lv_room (Nat.le_of_ble_eq_true rfl)) d_M_reduce_1 ⟨by rw [hRc]; exact Nat.le_of_ble_eq_true rfl, by rw [hRs]; exact Nat.le_of_ble_eq_true rfl⟩) ?_
  refine hp_ifb_ne (tgt := 9) hx hb d_M_reduce_4 (by decide) (fun c4 => ?_) (fun c4 => ?_)
  · skip
    have c4 := of_decide_eq_true c4
    obtain ⟨t, rfl⟩ : ∃ q : Nat, s0 = (q : Int) := ⟨s0.toNat, by omega⟩
    have hvt := hvm t (by omega)
    refine lv_aload_n hx hb d_M_reduce_9 rfl (lv_at hl 0 rfl) ?_
    refine hp_get (C := R_M) (T := F_M) (N := 19) (v := .ref (mo + 2)) hx hb hG la_M hown hK.1 hm rfl 2 (by decide) (hG _ fl_M_13) (fun _ h9 => h9) rfl d_M_reduce_10 ?_
    refine lv_iload_n hx hb d_M_reduce_13 rfl (lv_at hl 1 rfl) ?_
    refine hp_iald hx hb hK.1 0 hsz rfl d_M_reduce_14 (by omega) t (by omega) (by omega) ?_
    refine lv_istore_n (lv' := [(3, .int (iI ((c t : Nat) : Int))), (0, .ref mo), (1, .int (iI (t : Int))), (2, .int (iI (bI en)))]) hx hb d_M_reduce_15 rfl hl (by decide) rfl (fun ls hl => ?_)
    refine hp_iconst (z := 0) hx hb d_M_reduce_16 (by rfl) ?_
    refine lv_istore (lv' := [(4, .int (iI 0)), (3, .int (iI ((c t : Nat) : Int))), (0, .ref mo), (1, .int (iI (t : Int))), (2, .int (iI (bI en)))]) hx hb d_M_reduce_17 hl (by decide) rfl (fun ls hl => ?_)
    rw [← hp_up_self c t] at hsz
    have L19 : ∀ (N : Nat) (k n : Nat) (g1 : Nat → Int) (kz1 : Nat → Bool), 40 * n + (n - k) < N → (k ≤ n ∧ n ≤ c t) → (bw_rs (gw g1 t) n = bw_rs (gw g t) (c t)) → (∀ i, i < k → i + 1 < n → gw g1 t i ≠ -gw g1 t (i + 1)) → (bw_out t g g1) → (bd g1) → (∀ i, i ≠ t → kz1 i = kz i) → (kz1 t = true → kz t = true ∧ n = c t ∧ g1 = g) → ∀ (H : Heap) (locs : List Loc), va_S (fun q => q = mo ∨ q = mo + 1 ∨ q = mo + 2 ∨ q = mo + 3 ∨ q = mo + 10) s.heap H locs → H.size = s.heap.size → ca E H mo (oM mo th md fe ps) → ca E H (mo + 1) (ai E 4 (fun k => (w k : Int))) → ca E H (mo + 2) (ai E 4 (fun k => ((hp_up c t n) k : Int))) → ca E H (mo + 3) (ai E 128 g1) → ca E H (mo + 10) (hp_az (E.2 1) 4 kz1) → ∀ ls : Array Slot, lv_has ls 5 [(0, .ref mo), (1, .int (iI (t : Int))), (2, .int (iI (bI en))), (3, .int (iI (c t : Int))), (4, .int (iI (k : Int)))] → W p l e R s m args below meth cd H locs 0 0 Q (F0 m 19 ls []) := by
      intro N
      induction N with
      | zero => intro k n g1 kz1 hN; exact absurd hN (by omega)
      | succ N ih =>
        intro k n g1 kz1 hN hk hrs hnr hout hbg hkz hku H locs hS hZ hm hsd hsz hwd hkn ls hl
        have ih19 := ih
        refine lv_iload hx hb d_M_reduce_19 (lv_at hl 4 rfl) ?_
        refine hp_iconst (z := 1) hx hb d_M_reduce_21 (by rfl) ?_
        refine hp_iadd hx hb d_M_reduce_22 ?_
        refine lv_aload_n hx hb d_M_reduce_23 rfl (lv_at hl 0 rfl) ?_
        refine hp_get (C := R_M) (T := F_M) (N := 19) (v := .ref (mo + 2)) hx hb hG la_M hown hK.1 hm rfl 2 (by decide) (hG _ fl_M_13) (fun _ h9 => h9) rfl d_M_reduce_24 ?_
        refine lv_iload_n hx hb d_M_reduce_27 rfl (lv_at hl 1 rfl) ?_
        refine hp_iald hx hb hK.1 0 hsz rfl d_M_reduce_28 (by omega) t (by omega) (by omega) ?_
        rw [hp_up_s]
        refine hp_icmp_ge (tgt := 80) hx hb d_M_reduce_29 (by decide) (by unfold iR at *; omega) (by unfold iR at *; omega) (fun c29 => ?_) (fun c29 => ?_)
        · skip
          have hst := bw_rs_st (f := gw g1 t) (c := n) (fun i h9 => hnr i (by omega) h9)
          rw [hrs] at hst
          have L80 : ∀ (N : Nat) (x n2 : Nat) (g2 : Nat → Int) (kz2 : Nat → Bool), n2 < N → (n2 + 2 * x = n) → (en = false → x = 0) → (∀ i, i < x → i + i + 1 < n ∧ gw g1 t i = -gw g1 t (n - 1 - i)) → (∀ j, j < n2 → gw g2 t j = gw g1 t (x + j)) → (bw_out t g g2) → (bd g2) → (∀ i, i ≠ t → kz2 i = kz i) → (kz2 t = true → kz t = true ∧ n2 = c t ∧ g2 = g) → ∀ (H : Heap) (locs : List Loc), va_S (fun q => q = mo ∨ q = mo + 1 ∨ q = mo + 2 ∨ q = mo + 3 ∨ q = mo + 10) s.heap H locs → H.size = s.heap.size → ca E H mo (oM mo th md fe ps) → ca E H (mo + 1) (ai E 4 (fun k => (w k : Int))) → ca E H (mo + 2) (ai E 4 (fun k => ((hp_up c t n2) k : Int))) → ca E H (mo + 3) (ai E 128 g2) → ca E H (mo + 10) (hp_az (E.2 1) 4 kz2) → ∀ ls : Array Slot, lv_has ls 5 [(0, .ref mo), (1, .int (iI (t : Int))), (2, .int (iI (bI en))), (3, .int (iI (c t : Int)))] → W p l e R s m args below meth cd H locs 0 0 Q (F0 m 80 ls []) := by
            intro N
            induction N with
            | zero => intro x n2 g2 kz2 hN; exact absurd hN (by omega)
            | succ N ih =>
              intro x n2 g2 kz2 hN hxn hen hgn hg2 hout2 hbg2 hkz2 hku2 H locs hS hZ hm hsd hsz hwd hkn ls hl
              have ih80 := ih
              refine lv_iload_n hx hb d_M_reduce_80 rfl (lv_at hl 2 rfl) ?_
              refine hp_ifb_eq (tgt := 139) hx hb d_M_reduce_81 (by decide) (fun c81 => ?_) (fun c81 => ?_)
              · skip
                refine lv_iload_n hx hb d_M_reduce_139 rfl (lv_at hl 3 rfl) ?_
                refine lv_aload_n hx hb d_M_reduce_140 rfl (lv_at hl 0 rfl) ?_
                refine hp_get (C := R_M) (T := F_M) (N := 19) (v := .ref (mo + 2)) hx hb hG la_M hown hK.1 hm rfl 2 (by decide) (hG _ fl_M_13) (fun _ h9 => h9) rfl d_M_reduce_141 ?_
                refine lv_iload_n hx hb d_M_reduce_144 rfl (lv_at hl 1 rfl) ?_
                refine hp_iald hx hb hK.1 0 hsz rfl d_M_reduce_145 (by omega) t (by omega) (by omega) ?_
                rw [hp_up_s]
                refine hp_isub hx hb d_M_reduce_146 ?_
                rw [hQ]
                refine hp_iretQ hx hb hrt hlocks d_M_reduce_147 hS hZ ?_
                rw [Int.toNat_natCast]
                have hgo : en = true → bw_gone (gw g1 t) n x := fun h9 => ⟨hgn, fun h8 => by first | exact absurd (c81.symm.trans h9) (by decide) | omega | (have h6 := hg2 0 (by omega); have h7 := hg2 (n2 - 1) (by omega); rw [show x + (n2 - 1) = n - 1 - x by omega] at h7; rw [Nat.add_zero] at h6; rw [← h6, ← h7] at h8; exact c114 h8.2)⟩
                exact Or.inr ⟨by omega, g1, g2, kz2, n, n2, x, hst, hen, hgo, hxn, hg2, hbg2, hout2, hkz2, hku2, by omega, rfl, hm, hsd, hsz, hwd, hkn⟩
              · skip
                refine lv_aload_n hx hb d_M_reduce_84 rfl (lv_at hl 0 rfl) ?_
                refine hp_get (C := R_M) (T := F_M) (N := 19) (v := .ref (mo + 2)) hx hb hG la_M hown hK.1 hm rfl 2 (by decide) (hG _ fl_M_13) (fun _ h9 => h9) rfl d_M_reduce_85 ?_
                refine lv_iload_n hx hb d_M_reduce_88 rfl (lv_at hl 1 rfl) ?_
                refine hp_iald hx hb hK.1 0 hsz rfl d_M_reduce_89 (by omega) t (by omega) (by omega) ?_
                rw [hp_up_s]
                refine hp_iconst (z := 1) hx hb d_M_reduce_90 (by rfl) ?_
                refine hp_icmp_le (tgt := 139) hx hb d_M_reduce_91 (by decide) (by unfold iR at *; omega) (by unfold iR at *; omega) (fun c91 => ?_) (fun c91 => ?_)
                · skip
                  refine lv_iload_n hx hb d_M_reduce_139 rfl (lv_at hl 3 rfl) ?_
                  refine lv_aload_n hx hb d_M_reduce_140 rfl (lv_at hl 0 rfl) ?_
                  refine hp_get (C := R_M) (T := F_M) (N := 19) (v := .ref (mo + 2)) hx hb hG la_M hown hK.1 hm rfl 2 (by decide) (hG _ fl_M_13) (fun _ h9 => h9) rfl d_M_reduce_141 ?_
                  refine lv_iload_n hx hb d_M_reduce_144 rfl (lv_at hl 1 rfl) ?_
                  refine hp_iald hx hb hK.1 0 hsz rfl d_M_reduce_145 (by omega) t (by omega) (by omega) ?_
                  rw [hp_up_s]
                  refine hp_isub hx hb d_M_reduce_146 ?_
                  rw [hQ]
                  refine hp_iretQ hx hb hrt hlocks d_M_reduce_147 hS hZ ?_
                  rw [Int.toNat_natCast]
                  have hgo : en = true → bw_gone (gw g1 t) n x := fun h9 => ⟨hgn, fun h8 => by first | exact absurd (c81.symm.trans h9) (by decide) | omega | (have h6 := hg2 0 (by omega); have h7 := hg2 (n2 - 1) (by omega); rw [show x + (n2 - 1) = n - 1 - x by omega] at h7; rw [Nat.add_zero] at h6; rw [← h6, ← h7] at h8; exact c114 h8.2)⟩
                  exact Or.inr ⟨by omega, g1, g2, kz2, n, n2, x, hst, hen, hgo, hxn, hg2, hbg2, hout2, hkz2, hku2, by omega, rfl, hm, hsd, hsz, hwd, hkn⟩
                · skip
                  have hb3 := gw_bd hbg2 t 0
                  have hb4 := gw_bd hbg2 t (n2 - 1)
                  refine lv_aload_n hx hb d_M_reduce_94 rfl (lv_at hl 0 rfl) ?_
                  refine lv_iload_n hx hb d_M_reduce_95 rfl (lv_at hl 1 rfl) ?_
                  refine hp_iconst (z := 0) hx hb d_M_reduce_96 (by rfl) ?_
                  refine hp_callS (W.runV (As := [.int (iI (t : Int)), .int (iI 0)]) (rest := []) ⟨hx, hb, hml, hown, hG⟩ (c_M_letterAt l E mo th md fe ps w (hp_up c t n2) g2 kz2 t 0 (by omega)) (cwV 2 hG (hp_goodV ml_M_64 im_M_letterAt se_M_letterAt in_M co_M_letterAt) rfl rfl rfl hd_M_letterAt ⟨by rw [hRf]; exact Nat.le_of_ble_eq_true rfl, by rw [hRl]; exact Nat.le_of_ble_eq_true rfl⟩) (hp_preV (ci := 3) hp_nsn hK rfl hm ⟨hm, hsd, hsz, hwd, hkn⟩) rfl rfl hl.1 rfl (lv_room (Nat.le_of_ble_eq_true rfl)) d_M_reduce_97 ⟨by rw [hRc]; exact Nat.le_of_ble_eq_true rfl, by rw [hRs]; exact Nat.le_of_ble_eq_true rfl⟩) ?_
                  refine lv_aload_n hx hb d_M_reduce_100 rfl (lv_at hl 0 rfl) ?_
                  refine lv_iload_n hx hb d_M_reduce_101 rfl (lv_at hl 1 rfl) ?_
                  refine lv_aload_n hx hb d_M_reduce_102 rfl (lv_at hl 0 rfl) ?_
                  refine hp_get (C := R_M) (T := F_M) (N := 19) (v := .ref (mo + 2)) hx hb hG la_M hown hK.1 hm rfl 2 (by decide) (hG _ fl_M_13) (fun _ h9 => h9) rfl d_M_reduce_103 ?_
                  refine lv_iload_n hx hb d_M_reduce_106 rfl (lv_at hl 1 rfl) ?_
                  refine hp_iald hx hb hK.1 0 hsz rfl d_M_reduce_107 (by omega) t (by omega) (by omega) ?_
                  rw [hp_up_s]
                  refine hp_iconst (z := 1) hx hb d_M_reduce_108 (by rfl) ?_
                  refine hp_isub hx hb d_M_reduce_109 ?_
                  rw [show (((n2 : Int) - 1) : Int) = (((n2 - 1) : Nat) : Int) from by omega]
                  refine hp_callS (W.runV (As := [.int (iI (t : Int)), .int (iI (((n2 - 1) : Nat) : Int))]) (rest := [.int (iI (gw g2 t 0))]) ⟨hx, hb, hml, hown, hG⟩ (c_M_letterAt l E mo th md fe ps w (hp_up c t n2) g2 kz2 t (n2 - 1) (by omega)) (cwV 2 hG (hp_goodV ml_M_64 im_M_letterAt se_M_letterAt in_M co_M_letterAt) rfl rfl rfl hd_M_letterAt ⟨by rw [hRf]; exact Nat.le_of_ble_eq_true rfl, by rw [hRl]; exact Nat.le_of_ble_eq_true rfl⟩) (hp_preV (ci := 3) hp_nsn hK rfl hm ⟨hm, hsd, hsz, hwd, hkn⟩) rfl rfl hl.1 rfl (lv_room (Nat.le_of_ble_eq_true rfl)) d_M_reduce_110 ⟨by rw [hRc]; exact Nat.le_of_ble_eq_true rfl, by rw [hRs]; exact Nat.le_of_ble_eq_true rfl⟩) ?_
                  refine hp_ineg hx hb d_M_reduce_113 ?_
                  refine hp_icmp_ne (tgt := 139) hx hb d_M_reduce_114 (by decide) (by unfold iR at *; omega) (by unfold iR at *; omega) (fun c114 => ?_) (fun c114 => ?_)
                  · skip
                    refine lv_iload_n hx hb d_M_reduce_139 rfl (lv_at hl 3 rfl) ?_
                    refine lv_aload_n hx hb d_M_reduce_140 rfl (lv_at hl 0 rfl) ?_
                    refine hp_get (C := R_M) (T := F_M) (N := 19) (v := .ref (mo + 2)) hx hb hG la_M hown hK.1 hm rfl 2 (by decide) (hG _ fl_M_13) (fun _ h9 => h9) rfl d_M_reduce_141 ?_
                    refine lv_iload_n hx hb d_M_reduce_144 rfl (lv_at hl 1 rfl) ?_
                    refine hp_iald hx hb hK.1 0 hsz rfl d_M_reduce_145 (by omega) t (by omega) (by omega) ?_
                    rw [hp_up_s]
                    refine hp_isub hx hb d_M_reduce_146 ?_
                    rw [hQ]
                    refine hp_iretQ hx hb hrt hlocks d_M_reduce_147 hS hZ ?_
                    rw [Int.toNat_natCast]
                    have hgo : en = true → bw_gone (gw g1 t) n x := fun h9 => ⟨hgn, fun h8 => by first | exact absurd (c81.symm.trans h9) (by decide) | omega | (have h6 := hg2 0 (by omega); have h7 := hg2 (n2 - 1) (by omega); rw [show x + (n2 - 1) = n - 1 - x by omega] at h7; rw [Nat.add_zero] at h6; rw [← h6, ← h7] at h8; exact c114 h8.2)⟩
                    exact Or.inr ⟨by omega, g1, g2, kz2, n, n2, x, hst, hen, hgo, hxn, hg2, hbg2, hout2, hkz2, hku2, by omega, rfl, hm, hsd, hsz, hwd, hkn⟩
                  · skip
                    refine lv_aload_n hx hb d_M_reduce_117 rfl (lv_at hl 0 rfl) ?_
                    refine lv_iload_n hx hb d_M_reduce_118 rfl (lv_at hl 1 rfl) ?_
                    refine lv_aload_n hx hb d_M_reduce_119 rfl (lv_at hl 0 rfl) ?_
                    refine hp_get (C := R_M) (T := F_M) (N := 19) (v := .ref (mo + 2)) hx hb hG la_M hown hK.1 hm rfl 2 (by decide) (hG _ fl_M_13) (fun _ h9 => h9) rfl d_M_reduce_120 ?_
                    refine lv_iload_n hx hb d_M_reduce_123 rfl (lv_at hl 1 rfl) ?_
                    refine hp_iald hx hb hK.1 0 hsz rfl d_M_reduce_124 (by omega) t (by omega) (by omega) ?_
                    rw [hp_up_s]
                    refine hp_iconst (z := 1) hx hb d_M_reduce_125 (by rfl) ?_
                    refine hp_isub hx hb d_M_reduce_126 ?_
                    rw [show (((n2 : Int) - 1) : Int) = (((n2 - 1) : Nat) : Int) from by omega]
                    refine hp_callv (W.runV (As := [.int (iI (t : Int)), .int (iI (((n2 - 1) : Nat) : Int))]) (rest := []) ⟨hx, hb, hml, hown, hG⟩ (c_M_remove l E mo th md fe ps w (hp_up c t n2) g2 kz2 t (n2 - 1) (by omega) (by rw [hp_up_s]; omega) (by rw [hp_up_s]; omega)) (cwV 2 hG (hp_goodV ml_M_84 im_M_remove se_M_remove in_M co_M_remove) rfl rfl rfl hd_M_remove ⟨by rw [hRf]; exact Nat.le_of_ble_eq_true rfl, by rw [hRl]; exact Nat.le_of_ble_eq_true rfl⟩) (hp_preV (ci := 3) hp_nsn hK rfl hm ⟨hm, hsd, hsz, hwd, hkn⟩) rfl rfl hl.1 rfl (lv_room (Nat.le_of_ble_eq_true rfl)) d_M_reduce_127 ⟨by rw [hRc]; exact Nat.le_of_ble_eq_true rfl, by rw [hRs]; exact Nat.le_of_ble_eq_true rfl⟩) hS (fun q h => h) (fun H locs hpost hz1 ho1 hS => ?_)
                    have hZ := hz1.trans hZ
                    simp only [hp_up_s, hp_up_up] at hpost
                    obtain ⟨hm, hsd, hsz, hwd, hkn⟩ : mW E H mo th md fe ps w (hp_up c t (n2 - 1)) (bw_rmv g2 (32 * t + (n2 - 1)) (32 * t + n2 - 1)) (hp_up kz2 t false) := hpost
                    refine lv_aload_n hx hb d_M_reduce_130 rfl (lv_at hl 0 rfl) ?_
                    refine lv_iload_n hx hb d_M_reduce_131 rfl (lv_at hl 1 rfl) ?_
                    refine hp_iconst (z := 0) hx hb d_M_reduce_132 (by rfl) ?_
                    refine hp_callv (W.runV (As := [.int (iI (t : Int)), .int (iI 0)]) (rest := []) ⟨hx, hb, hml, hown, hG⟩ (c_M_remove l E mo th md fe ps w (hp_up c t (n2 - 1)) (bw_rmv g2 (32 * t + (n2 - 1)) (32 * t + n2 - 1)) (hp_up kz2 t false) t 0 (by omega) (by rw [hp_up_s]; omega) (by rw [hp_up_s]; omega)) (cwV 2 hG (hp_goodV ml_M_84 im_M_remove se_M_remove in_M co_M_remove) rfl rfl rfl hd_M_remove ⟨by rw [hRf]; exact Nat.le_of_ble_eq_true rfl, by rw [hRl]; exact Nat.le_of_ble_eq_true rfl⟩) (hp_preV (ci := 3) hp_nsn hK rfl hm ⟨hm, hsd, hsz, hwd, hkn⟩) rfl rfl hl.1 rfl (lv_room (Nat.le_of_ble_eq_true rfl)) d_M_reduce_133 ⟨by rw [hRc]; exact Nat.le_of_ble_eq_true rfl, by rw [hRs]; exact Nat.le_of_ble_eq_true rfl⟩) hS (fun q h => h) (fun H locs hpost hz1 ho1 hS => ?_)
                    have hZ := hz1.trans hZ
                    simp only [hp_up_s, hp_up_up] at hpost
                    obtain ⟨hm, hsd, hsz, hwd, hkn⟩ : mW E H mo th md fe ps w (hp_up c t ((n2 - 1) - 1)) (bw_rmv (bw_rmv g2 (32 * t + (n2 - 1)) (32 * t + n2 - 1)) (32 * t + 0) (32 * t + (n2 - 1) - 1)) (hp_up kz2 t false) := hpost
                    refine lv_goto (tgt := 80) hx hb d_M_reduce_136 (by decide) ?_
                    exact ih80  (x + 1) (n2 - 1 - 1) (bw_rmv (bw_rmv g2 (32 * t + (n2 - 1)) (32 * t + n2 - 1)) (32 * t + 0) (32 * t + (n2 - 1) - 1)) (hp_up kz2 t false) (by omega) (by omega) (by intro h9; rw [c81] at h9; cases h9) (by intro i h9; by_cases e9 : i = x; (rw [e9]; refine ⟨by omega, ?_⟩; have h7 := hg2 0 (by omega); have h8 := hg2 (n2 - 1) (by omega); rw [show x + (n2 - 1) = n - 1 - x by omega] at h8; rw [Nat.add_zero] at h7; rw [← h7, ← h8]; exact c114); exact hgn i (by omega)) (by intro j hj; have h7 := hg2 (j + 1) (by omega); rw [show x + 1 + j = x + (j + 1) by omega, ← h7]; unfold gw bw_rmv; rw [if_pos (by omega), if_neg (by omega)]; rfl) (by exact bw_out_tr hout2 (bw_out_tr (bw_out_rmv (by omega) (by omega)) (bw_out_rmv (by omega) (by omega)))) (by exact bd_rmv (bd_rmv hbg2)) (by exact bw_kz1 hkz2) (by intro h9; exact bw_kz2 h9) H locs hS hZ hm hsd hsz hwd hkn ls (lv_sub hl [0, 1, 2, 3] rfl)
          exact L80 (n + 1) 0 n g1 kz1 (by omega) (by omega) (by intro _; rfl) (by intro i h; omega) (by intro j _; rw [Nat.zero_add]) (by exact hout) (by exact hbg) (by exact hkz) (by exact hku) H locs hS hZ hm hsd hsz hwd hkn ls (lv_sub hl [0, 1, 2, 3] rfl)
        · skip
          have hb1 := gw_bd hbg t k
          have hb2 := gw_bd hbg t (k + 1)
          refine lv_aload_n hx hb d_M_reduce_32 rfl (lv_at hl 0 rfl) ?_
          refine lv_iload_n hx hb d_M_reduce_33 rfl (lv_at hl 1 rfl) ?_
          refine lv_iload hx hb d_M_reduce_34 (lv_at hl 4 rfl) ?_
          refine hp_callS (W.runV (As := [.int (iI (t : Int)), .int (iI (k : Int))]) (rest := []) ⟨hx, hb, hml, hown, hG⟩ (c_M_letterAt l E mo th md fe ps w (hp_up c t n) g1 kz1 t k (by omega)) (cwV 2 hG (hp_goodV ml_M_64 im_M_letterAt se_M_letterAt in_M co_M_letterAt) rfl rfl rfl hd_M_letterAt ⟨by rw [hRf]; exact Nat.le_of_ble_eq_true rfl, by rw [hRl]; exact Nat.le_of_ble_eq_true rfl⟩) (hp_preV (ci := 3) hp_nsn hK rfl hm ⟨hm, hsd, hsz, hwd, hkn⟩) rfl rfl hl.1 rfl (lv_room (Nat.le_of_ble_eq_true rfl)) d_M_reduce_36 ⟨by rw [hRc]; exact Nat.le_of_ble_eq_true rfl, by rw [hRs]; exact Nat.le_of_ble_eq_true rfl⟩) ?_
          refine lv_aload_n hx hb d_M_reduce_39 rfl (lv_at hl 0 rfl) ?_
          refine lv_iload_n hx hb d_M_reduce_40 rfl (lv_at hl 1 rfl) ?_
          refine lv_iload hx hb d_M_reduce_41 (lv_at hl 4 rfl) ?_
          refine hp_iconst (z := 1) hx hb d_M_reduce_43 (by rfl) ?_
          refine hp_iadd hx hb d_M_reduce_44 ?_
          refine hp_callS (W.runV (As := [.int (iI (t : Int)), .int (iI ((k : Int) + 1))]) (rest := [.int (iI (gw g1 t k))]) ⟨hx, hb, hml, hown, hG⟩ (c_M_letterAt l E mo th md fe ps w (hp_up c t n) g1 kz1 t (k + 1) (by omega)) (cwV 2 hG (hp_goodV ml_M_64 im_M_letterAt se_M_letterAt in_M co_M_letterAt) rfl rfl rfl hd_M_letterAt ⟨by rw [hRf]; exact Nat.le_of_ble_eq_true rfl, by rw [hRl]; exact Nat.le_of_ble_eq_true rfl⟩) (hp_preV (ci := 3) hp_nsn hK rfl hm ⟨hm, hsd, hsz, hwd, hkn⟩) rfl rfl hl.1 rfl (lv_room (Nat.le_of_ble_eq_true rfl)) d_M_reduce_45 ⟨by rw [hRc]; exact Nat.le_of_ble_eq_true rfl, by rw [hRs]; exact Nat.le_of_ble_eq_true rfl⟩) ?_
          refine hp_ineg hx hb d_M_reduce_48 ?_
          refine hp_icmp_ne (tgt := 74) hx hb d_M_reduce_49 (by decide) (by unfold iR at *; omega) (by unfold iR at *; omega) (fun c49 => ?_) (fun c49 => ?_)
          · skip
            refine hp_iinc (z := ((k : Int) + 1)) (lv' := [(4, .int (iI ((k : Int) + 1))), (0, .ref mo), (1, .int (iI (t : Int))), (2, .int (iI (bI en))), (3, .int (iI (c t : Int)))]) hx hb d_M_reduce_74 hl (k := 4) rfl (by omega) (by decide) rfl (fun ls hl => ?_)
            refine lv_goto (tgt := 19) hx hb d_M_reduce_77 (by decide) ?_
            exact ih19  (k + 1) n g1 kz1 (by omega) (by omega) (by first | exact hrs | (rw [← hrs, show n - 1 - 1 = n - 2 by omega]; exact bw_rs_rm2 (by omega) (fun j hj => by rw [gw_rm2 (by omega), if_pos hj]) (fun j h7 h8 => by rw [gw_rm2 (by omega), if_neg (by omega), if_pos h8]) c49)) (by intro i h8 h9; first | (by_cases e9 : i = k; (rw [e9]; exact c49); exact hnr i (by omega) h9) | omega) (by first | exact hout | exact bw_out_tr hout (bw_out_tr (bw_out_rmv (by omega) (by omega)) (bw_out_rmv (by omega) (by omega)))) (by first | exact hbg | exact bd_rmv (bd_rmv hbg)) (by first | exact hkz | exact bw_kz1 hkz) (by first | exact hku | (intro h9; exact bw_kz2 h9)) H locs hS hZ hm hsd hsz hwd hkn ls (lv_sub hl [1, 2, 3, 4, 0] rfl)
          · skip
            refine lv_aload_n hx hb d_M_reduce_52 rfl (lv_at hl 0 rfl) ?_
            refine lv_iload_n hx hb d_M_reduce_53 rfl (lv_at hl 1 rfl) ?_
            refine lv_iload hx hb d_M_reduce_54 (lv_at hl 4 rfl) ?_
            refine hp_iconst (z := 1) hx hb d_M_reduce_56 (by rfl) ?_
            refine hp_iadd hx hb d_M_reduce_57 ?_
            refine hp_callv (W.runV (As := [.int (iI (t : Int)), .int (iI ((k : Int) + 1))]) (rest := []) ⟨hx, hb, hml, hown, hG⟩ (c_M_remove l E mo th md fe ps w (hp_up c t n) g1 kz1 t (k + 1) (by omega) (by rw [hp_up_s]; omega) (by rw [hp_up_s]; omega)) (cwV 2 hG (hp_goodV ml_M_84 im_M_remove se_M_remove in_M co_M_remove) rfl rfl rfl hd_M_remove ⟨by rw [hRf]; exact Nat.le_of_ble_eq_true rfl, by rw [hRl]; exact Nat.le_of_ble_eq_true rfl⟩) (hp_preV (ci := 3) hp_nsn hK rfl hm ⟨hm, hsd, hsz, hwd, hkn⟩) rfl rfl hl.1 rfl (lv_room (Nat.le_of_ble_eq_true rfl)) d_M_reduce_58 ⟨by rw [hRc]; exact Nat.le_of_ble_eq_true rfl, by rw [hRs]; exact Nat.le_of_ble_eq_true rfl⟩) hS (fun q h => h) (fun H locs hpost hz1 ho1 hS => ?_)
            have hZ := hz1.trans hZ
            simp only [hp_up_s, hp_up_up] at hpost
            obtain ⟨hm, hsd, hsz, hwd, hkn⟩ : mW E H mo th md fe ps w (hp_up c t (n - 1)) (bw_rmv g1 (32 * t + (k + 1)) (32 * t + n - 1)) (hp_up kz1 t false) := hpost
            refine lv_aload_n hx hb d_M_reduce_61 rfl (lv_at hl 0 rfl) ?_
            refine lv_iload_n hx hb d_M_reduce_62 rfl (lv_at hl 1 rfl) ?_
            refine lv_iload hx hb d_M_reduce_63 (lv_at hl 4 rfl) ?_
            refine hp_callv (W.runV (As := [.int (iI (t : Int)), .int (iI (k : Int))]) (rest := []) ⟨hx, hb, hml, hown, hG⟩ (c_M_remove l E mo th md fe ps w (hp_up c t (n - 1)) (bw_rmv g1 (32 * t + (k + 1)) (32 * t + n - 1)) (hp_up kz1 t false) t k (by omega) (by rw [hp_up_s]; omega) (by rw [hp_up_s]; omega)) (cwV 2 hG (hp_goodV ml_M_84 im_M_remove se_M_remove in_M co_M_remove) rfl rfl rfl hd_M_remove ⟨by rw [hRf]; exact Nat.le_of_ble_eq_true rfl, by rw [hRl]; exact Nat.le_of_ble_eq_true rfl⟩) (hp_preV (ci := 3) hp_nsn hK rfl hm ⟨hm, hsd, hsz, hwd, hkn⟩) rfl rfl hl.1 rfl (lv_room (Nat.le_of_ble_eq_true rfl)) d_M_reduce_65 ⟨by rw [hRc]; exact Nat.le_of_ble_eq_true rfl, by rw [hRs]; exact Nat.le_of_ble_eq_true rfl⟩) hS (fun q h => h) (fun H locs hpost hz1 ho1 hS => ?_)
            have hZ := hz1.trans hZ
            simp only [hp_up_s, hp_up_up] at hpost
            obtain ⟨hm, hsd, hsz, hwd, hkn⟩ : mW E H mo th md fe ps w (hp_up c t ((n - 1) - 1)) (bw_rmv (bw_rmv g1 (32 * t + (k + 1)) (32 * t + n - 1)) (32 * t + k) (32 * t + (n - 1) - 1)) (hp_up kz1 t false) := hpost
            refine hp_iconst (z := 0) hx hb d_M_reduce_68 (by rfl) ?_
            refine lv_istore (lv' := [(4, .int (iI 0)), (0, .ref mo), (1, .int (iI (t : Int))), (2, .int (iI (bI en))), (3, .int (iI (c t : Int)))]) hx hb d_M_reduce_69 hl (by decide) rfl (fun ls hl => ?_)
            refine lv_goto (tgt := 19) hx hb d_M_reduce_71 (by decide) ?_
            exact ih19  0 (n - 1 - 1) (bw_rmv (bw_rmv g1 (32 * t + (k + 1)) (32 * t + n - 1)) (32 * t + k) (32 * t + (n - 1) - 1)) (hp_up kz1 t false) (by omega) (by omega) (by first | exact hrs | (rw [← hrs, show n - 1 - 1 = n - 2 by omega]; exact bw_rs_rm2 (by omega) (fun j hj => by rw [gw_rm2 (by omega), if_pos hj]) (fun j h7 h8 => by rw [gw_rm2 (by omega), if_neg (by omega), if_pos h8]) c49)) (by intro i h8 h9; first | (by_cases e9 : i = k; (rw [e9]; exact c49); exact hnr i (by omega) h9) | omega) (by first | exact hout | exact bw_out_tr hout (bw_out_tr (bw_out_rmv (by omega) (by omega)) (bw_out_rmv (by omega) (by omega)))) (by first | exact hbg | exact bd_rmv (bd_rmv hbg)) (by first | exact hkz | exact bw_kz1 hkz) (by first | exact hku | (intro h9; exact bw_kz2 h9)) H locs hS hZ hm hsd hsz hwd hkn ls (lv_sub hl [1, 2, 3, 4, 0] rfl)
    exact L19 (40 * (c t) + ((c t) - 0) + 1) 0 (c t) g kz (by omega) (by omega) (by rfl) (by intro i h; omega) (by exact bw_out_rf _ _) (by exact hbd) (by intro i _; rfl) (by intro h9; exact ⟨h9, rfl, rfl⟩) H locs hS hZ hm hsd hsz hwd hkn ls (lv_sub hl [2, 3, 4, 1, 0] rfl)
  · skip
    have c4 := of_decide_eq_false c4
    refine hp_iconst (z := 0) hx hb d_M_reduce_7 (by rfl) ?_
    rw [hQ]
    refine hp_iretQ hx hb hrt hlocks d_M_reduce_8 hS hZ ?_
    exact Or.inl ⟨by omega, rfl, hm, hsd, hsz, hwd, hkn⟩

set_option maxHeartbeats 4000000 in
set_option maxRecDepth 100000 in
/-- round(s, back) -/
theorem c_M_round (l : Launch) (E : hp_E) (mo : Nat) (th md fe ps : Int) (w c : Nat → Nat) (g : Nat → Int) (kz : Nat → Bool) (s0 : Int) (bk : Bool) (hs0 : iR s0) (hbd : bd g) (hvm : ∀ i, i < 4 → 1 ≤ w i ∧ w i ≤ 8 ∧ c i ≤ 32) : Met l y_M_round (Cond.code y_M_round b_M_round 6 (some .boolean) :: G0) ({ frames := 1, cells := 0, slots := 0, locals := 22 }) (hp_P E [.ref mo, .int (iI s0), .int (iI (bI bk))] (fun H => mW E H mo th md fe ps w c g kz)) (hp_Qi (fun q => q = mo ∨ q = mo + 1 ∨ q = mo + 2 ∨ q = mo + 3 ∨ q = mo + 10) (fun r H => (r = 1 ∧ (0 ≤ s0 ∧ s0 < 4 ∧ 0 < c s0.toNat) ∧ ∃ g1 : Nat → Int, bd g1 ∧ bw_out s0.toNat g g1 ∧ (∀ k, k < c s0.toNat → gw g1 s0.toNat k = (if bk then (if k = 0 then gw g s0.toNat (c s0.toNat - 1) else gw g s0.toNat (k - 1)) else (if k + 1 = c s0.toNat then gw g s0.toNat 0 else gw g s0.toNat (k + 1)))) ∧ mW E H mo th md fe ps w c g1 (hp_up kz s0.toNat false)) ∨ (r = 0 ∧ ¬ (0 ≤ s0 ∧ s0 < 4 ∧ 0 < c s0.toNat) ∧ mW E H mo th md fe ps w c g kz))) 0 0 (fun q => q = mo ∨ q = mo + 1 ∨ q = mo + 2 ∨ q = mo + 3 ∨ q = mo + 10) := by
  refine Met.ofW (cc := b_M_round) (maxL := 6) (ret := some .boolean) (by decide) rfl ?_
  intro p e s m args below meth cd s₁ Bd hml hv
  obtain ⟨hargs, hB, hK⟩ := hv
  have hx := Bd.exec
  have hb := Bd.bytes
  have hrt := Bd.returns
  have hts := atoms_spec (ws := Cond.code y_M_round b_M_round 6 (some .boolean) :: G0) Bd.pre
  have hG : ∀ w ∈ G0, w.before args s = true := fun w h => hts w (List.mem_cons_of_mem _ h)
  have hown : s.vm.findClass R_M = some m.cls := findClass_of_methodNamed Bd.named
  have hlocks := Bd.notSynchronized
  have hl := lv_entry ([.ref mo, .int (iI s0), .int (iI (bI bk))]) (n := 6) (Nat.le_of_ble_eq_true rfl)
  rw [show entryFrame m args 6 = entryFrame m ([.ref mo, .int (iI s0), .int (iI (bI bk))] : List Value).toArray 6 from by rw [hargs]]
  rw [lg_entry_eq]
  generalize (lg_sl ([.ref mo, .int (iI s0), .int (iI (bI bk))]) ++ List.replicate (6 - (lg_sl ([.ref mo, .int (iI s0), .int (iI (bI bk))])).length) Slot.unset).toArray = ls at hl ⊢
  have hl : lv_has ls 6 [(0, .ref mo), (1, .int (iI s0)), (2, .int (iI (bI bk)))] := hl
  obtain ⟨R, hR⟩ : ∃ R, R = (headSpec (Cond.code y_M_round b_M_round 6 (some .boolean) :: G0) { frames := 1, cells := 0, slots := 0, locals := 22 }).room := ⟨_, rfl⟩
  rw [← hR]
  have hRf : R.frames = 1 := by rw [hR]; rfl
  have hRl : R.locals = 22 := by rw [hR]; rfl
  have hRc : R.cells = 0 := by rw [hR]; rfl
  have hRs : R.slots = 0 := by rw [hR]; rfl
  obtain ⟨Q, hQ⟩ : ∃ Q, Q = MQ below (hp_Qi (fun q => q = mo ∨ q = mo + 1 ∨ q = mo + 2 ∨ q = mo + 3 ∨ q = mo + 10) (fun r H => (r = 1 ∧ (0 ≤ s0 ∧ s0 < 4 ∧ 0 < c s0.toNat) ∧ ∃ g1 : Nat → Int, bd g1 ∧ bw_out s0.toNat g g1 ∧ (∀ k, k < c s0.toNat → gw g1 s0.toNat k = (if bk then (if k = 0 then gw g s0.toNat (c s0.toNat - 1) else gw g s0.toNat (k - 1)) else (if k + 1 = c s0.toNat then gw g s0.toNat 0 else gw g s0.toNat (k + 1)))) ∧ mW E H mo th md fe ps w c g1 (hp_up kz s0.toNat false)) ∨ (r = 0 ∧ ¬ (0 ≤ s0 ∧ s0 < 4 ∧ 0 < c s0.toNat) ∧ mW E H mo th md fe ps w c g kz))) args s 0 0 (fun q => q = mo ∨ q = mo + 1 ∨ q = mo + 2 ∨ q = mo + 3 ∨ q = mo + 10) := ⟨_, rfl⟩
  rw [← hQ]
  obtain ⟨H, hH⟩ : ∃ H, H = s.heap := ⟨_, rfl⟩
  obtain ⟨locs, hlocs⟩ : ∃ locs : List Loc, locs = [] := ⟨_, rfl⟩
  have hS : va_S (fun q => q = mo ∨ q = mo + 1 ∨ q = mo + 2 ∨ q = mo + 3 ∨ q = mo + 10) s.heap H locs := by rw [hH, hlocs]; exact va_S.rf
  have hZ : H.size = s.heap.size := by rw [hH]
  rw [← hH] at hB
  rw [show W p l e R s m args below meth cd s.heap [] 0 0 Q (F0 m 0 ls []) = W p l e R s m args below meth cd H locs 0 0 Q (F0 m 0 ls []) from by rw [hH, hlocs]]
  obtain ⟨hm, hsd, hsz, hwd, hkn⟩ := hB
  refine lv_iload_n hx hb d_M_round_0 rfl (lv_at hl 1 rfl) ?_
  refine hp_callS (W.runS (As := [.int (iI s0)]) (rest := []) ⟨hx, hb, hml, hown, hG⟩ (c_M_isSlot l E s0 (by unfold iR at *; omega)) (cwS 1 hG (hp_goodS ml_M_60 st_M_isSlot in_M co_M_isSlot) rfl rfl rfl hd_M_isSlot ⟨by rw [hRf]; exact Nat.le_of_ble_eq_true rfl, by rw [hRl]; exact Nat.le_of_ble_eq_true rfl⟩) (hp_preS hp_nsn hK trivial) rfl rfl hl.1 rfl (lv_room (Nat.le_of_ble_eq_true rfl)) d_M_round_1 ⟨by rw [hRc]; exact Nat.le_of_ble_eq_true rfl, by rw [hRs]; exact Nat.le_of_ble_eq_true rfl⟩) ?_
  refine hp_ifb_eq (tgt := 16) hx hb d_M_round_4 (by decide) (fun c4 => ?_) (fun c4 => ?_)
  · skip
    have c4 := of_decide_eq_false c4
    refine hp_iconst (z := 0) hx hb d_M_round_16 (by rfl) ?_
    rw [hQ]
    refine hp_zretQ hx hb hrt hlocks d_M_round_17 false (by first | rfl | assumption | simp [bI]) hS hZ ?_
    first | exact Or.inr ⟨rfl, by omega, hm, hsd, hsz, hwd, hkn⟩ | (rw [Int.toNat_natCast]; exact Or.inr ⟨rfl, by omega, hm, hsd, hsz, hwd, hkn⟩) | (rw [Int.toNat_natCast, Int.toNat_natCast]; exact Or.inr ⟨rfl, by omega, hm, hsd, hsz, hwd, hkn⟩)
  · skip
    have c4 := of_decide_eq_true c4
    obtain ⟨t, rfl⟩ : ∃ q : Nat, s0 = (q : Int) := ⟨s0.toNat, by omega⟩
    have hvt := hvm t (by omega)
    refine lv_aload_n hx hb d_M_round_7 rfl (lv_at hl 0 rfl) ?_
    refine hp_get (C := R_M) (T := F_M) (N := 19) (v := .ref (mo + 2)) hx hb hG la_M hown hK.1 hm rfl 2 (by decide) (hG _ fl_M_13) (fun _ h9 => h9) rfl d_M_round_8 ?_
    refine lv_iload_n hx hb d_M_round_11 rfl (lv_at hl 1 rfl) ?_
    refine hp_iald hx hb hK.1 0 hsz rfl d_M_round_12 (by omega) t (by omega) (by omega) ?_
    refine hp_if_ne (tgt := 18) hx hb d_M_round_13 (by decide) (by unfold iR at *; omega) (fun c13 => ?_) (fun c13 => ?_)
    · skip
      refine lv_aload_n hx hb d_M_round_18 rfl (lv_at hl 0 rfl) ?_
      refine hp_get (C := R_M) (T := F_M) (N := 19) (v := .ref (mo + 2)) hx hb hG la_M hown hK.1 hm rfl 2 (by decide) (hG _ fl_M_13) (fun _ h9 => h9) rfl d_M_round_19 ?_
      refine lv_iload_n hx hb d_M_round_22 rfl (lv_at hl 1 rfl) ?_
      refine hp_iald hx hb hK.1 0 hsz rfl d_M_round_23 (by omega) t (by omega) (by omega) ?_
      refine lv_istore_n (lv' := [(3, .int (iI ((c t : Nat) : Int))), (0, .ref mo), (1, .int (iI (t : Int))), (2, .int (iI (bI bk)))]) hx hb d_M_round_24 rfl hl (by decide) rfl (fun ls hl => ?_)
      refine lv_aload_n hx hb d_M_round_25 rfl (lv_at hl 1 rfl) ?_
      refine lv_iload_n hx hb d_M_round_26 rfl (lv_at hl 2 rfl) ?_
      refine lv_iload_n hx hb d_M_round_27 rfl (lv_at hl 3 rfl) ?_
      refine hp_ifb_eq (tgt := 37) hx hb d_M_round_28 (by decide) (fun c28 => ?_) (fun c28 => ?_)
      · skip
        refine hp_iconst (z := 0) hx hb d_M_round_37 (by rfl) ?_
        have hb1 := gw_bd hbd t (c t - 1)
        have hb2 := gw_bd hbd t 0
        refine hp_callS (W.runV (As := [.int (iI (t : Int)), .int (iI 0)]) (rest := []) ⟨hx, hb, hml, hown, hG⟩ (c_M_letterAt l E mo th md fe ps w c g kz t 0 (by omega)) (cwV 2 hG (hp_goodV ml_M_64 im_M_letterAt se_M_letterAt in_M co_M_letterAt) rfl rfl rfl hd_M_letterAt ⟨by rw [hRf]; exact Nat.le_of_ble_eq_true rfl, by rw [hRl]; exact Nat.le_of_ble_eq_true rfl⟩) (hp_preV (ci := 3) hp_nsn hK rfl hm ⟨hm, hsd, hsz, hwd, hkn⟩) rfl rfl hl.1 rfl (lv_room (Nat.le_of_ble_eq_true rfl)) d_M_round_38 ⟨by rw [hRc]; exact Nat.le_of_ble_eq_true rfl, by rw [hRs]; exact Nat.le_of_ble_eq_true rfl⟩) ?_
        refine lv_istore (lv' := [(4, .int (iI (gw g t 0))), (3, .int (iI ((c t : Nat) : Int))), (0, .ref mo), (1, .int (iI (t : Int))), (2, .int (iI (bI bk)))]) hx hb d_M_round_41 hl (by decide) rfl (fun ls hl => ?_)
        refine lv_iload_n hx hb d_M_round_43 rfl (lv_at hl 4 rfl) ?_
        refine hp_ifb_eq (tgt := 87) hx hb d_M_round_44 (by decide) (fun c44 => ?_) (fun c44 => ?_)
        · skip
          refine hp_iconst (z := 0) hx hb d_M_round_87 (by rfl) ?_
          refine lv_istore (lv' := [(5, .int (iI 0)), (4, .int (iI (gw g t 0))), (3, .int (iI ((c t : Nat) : Int))), (0, .ref mo), (1, .int (iI (t : Int))), (2, .int (iI (bI bk)))]) hx hb d_M_round_88 hl (by decide) rfl (fun ls hl => ?_)
          have L90 : ∀ (N : Nat) (k : Nat) (g1 : Nat → Int), c t - k < N → (k < c t) → (g1 = bw_rmv g (32 * t) (32 * t + k)) → ∀ (H : Heap) (locs : List Loc), va_S (fun q => q = mo ∨ q = mo + 1 ∨ q = mo + 2 ∨ q = mo + 3 ∨ q = mo + 10) s.heap H locs → H.size = s.heap.size → ca E H mo (oM mo th md fe ps) → ca E H (mo + 1) (ai E 4 (fun k => (w k : Int))) → ca E H (mo + 2) (ai E 4 (fun k => (c k : Int))) → ca E H (mo + 3) (ai E 128 g1) → ca E H (mo + 10) (hp_az (E.2 1) 4 kz) → ∀ ls : Array Slot, lv_has ls 6 [(0, .ref mo), (1, .int (iI (t : Int))), (2, .int (iI (bI bk))), (3, .int (iI (c t : Int))), (4, .int (iI (gw g t 0))), (5, .int (iI (k : Int)))] → W p l e R s m args below meth cd H locs 0 0 Q (F0 m 90 ls []) := by
            intro N
            induction N with
            | zero => intro k g1 hN; exact absurd hN (by omega)
            | succ N ih =>
              intro k g1 hN hk hg1 H locs hS hZ hm hsd hsz hwd hkn ls hl
              have ih90 := ih
              refine lv_iload hx hb d_M_round_90 (lv_at hl 5 rfl) ?_
              refine hp_iconst (z := 1) hx hb d_M_round_92 (by rfl) ?_
              refine hp_iadd hx hb d_M_round_93 ?_
              refine lv_iload_n hx hb d_M_round_94 rfl (lv_at hl 3 rfl) ?_
              refine hp_icmp_ge (tgt := 125) hx hb d_M_round_95 (by decide) (by unfold iR at *; omega) (by unfold iR at *; omega) (fun c95 => ?_) (fun c95 => ?_)
              · skip
                refine lv_aload_n hx hb d_M_round_125 rfl (lv_at hl 0 rfl) ?_
                refine hp_get (C := R_M) (T := F_M) (N := 19) (v := .ref (mo + 3)) hx hb hG la_M hown hK.1 hm rfl 3 (by decide) (hG _ fl_M_16) (fun _ h9 => h9) rfl d_M_round_126 ?_
                refine hp_bipush (z := 32) hx hb d_M_round_129 (by rfl) ?_
                refine lv_iload_n hx hb d_M_round_131 rfl (lv_at hl 1 rfl) ?_
                refine hp_imul hx hb d_M_round_132 ?_
                refine lv_iload_n hx hb d_M_round_133 rfl (lv_at hl 2 rfl) ?_
                refine hp_ifb_eq (tgt := 141) hx hb d_M_round_134 (by decide) (fun c134 => ?_) (fun c134 => ?_)
                · skip
                  refine lv_iload_n hx hb d_M_round_141 rfl (lv_at hl 3 rfl) ?_
                  refine hp_iconst (z := 1) hx hb d_M_round_142 (by rfl) ?_
                  refine hp_isub hx hb d_M_round_143 ?_
                  refine hp_iadd hx hb d_M_round_144 ?_
                  refine lv_iload hx hb d_M_round_145 (lv_at hl 4 rfl) ?_
                  refine hp_iast hx hb hK.1 0 hwd hS (by show _ ∨ _; omega) rfl d_M_round_147 (by omega) ((32 * t) + ((c t) - 1)) (by omega) (by omega) (fun H locs hwdn hz1 ho1 hS => ?_)
                  have hZ := hz1.trans hZ
                  have hm := hm.keep (ho1 (mo) (by omega))
                  have hsd := hsd.keep (ho1 (mo + 1) (by omega))
                  have hsz := hsz.keep (ho1 (mo + 2) (by omega))
                  have hkn := hkn.keep (ho1 (mo + 10) (by omega))
                  have hwd : ca E H (mo + 3) (ai E 128 (hp_up g1 ((32 * t) + ((c t) - 1)) (gw g t 0))) := hwdn
                  refine lv_aload_n hx hb d_M_round_148 rfl (lv_at hl 0 rfl) ?_
                  refine hp_get (C := R_M) (T := F_M) (N := 19) (v := .ref (mo + 10)) hx hb hG la_M hown hK.1 hm rfl 13 (by decide) (hG _ fl_M_37) (fun _ h9 => h9) rfl d_M_round_149 ?_
                  refine lv_iload_n hx hb d_M_round_152 rfl (lv_at hl 1 rfl) ?_
                  refine hp_iconst (z := 0) hx hb d_M_round_153 (by rfl) ?_
                  refine hp_zast hx hb hK.1 1 hkn hS (by show _ ∨ _; omega) rfl d_M_round_154 (by omega) false t (by omega) (by omega) (fun H locs hknn hz1 ho1 hS => ?_)
                  have hZ := hz1.trans hZ
                  have hm := hm.keep (ho1 (mo) (by omega))
                  have hsd := hsd.keep (ho1 (mo + 1) (by omega))
                  have hsz := hsz.keep (ho1 (mo + 2) (by omega))
                  have hwd := hwd.keep (ho1 (mo + 3) (by omega))
                  have hkn : ca E H (mo + 10) (hp_az (E.2 1) 4 (hp_up kz t false)) := hknn
                  refine hp_iconst (z := 1) hx hb d_M_round_155 (by rfl) ?_
                  rw [hQ]
                  refine hp_zretQ hx hb hrt hlocks d_M_round_156 true (by first | rfl | assumption | simp [bI]) hS hZ ?_
                  rw [Int.toNat_natCast]
                  have hb1 := gw_bd hbd t (c t - 1)
                  have hb2 := gw_bd hbd t 0
                  have ek : k = c t - 1 := by omega
                  subst ek
                  refine Or.inl ⟨rfl, by omega, _, bd_up (by rw [hg1]; exact bd_rmv hbd) hb2.1 hb2.2, bw_out_tr (by rw [hg1]; exact bw_out_rmv (by omega) (by omega)) (bw_out_up (by omega) (by omega)), fun j hj => ?_, hm, hsd, hsz, hwd, hkn⟩
                  rw [c28]
                  show hp_up _ _ _ (32 * t + j) = _
                  by_cases e9 : j + 1 = c t
                  · rw [show j = c t - 1 by omega, hp_up_s, if_neg (by decide), if_pos (by omega)]
                  · rw [hp_up_n _ _ (by omega), hg1]; unfold bw_rmv gw; rw [if_pos (by omega), if_neg (by decide), if_neg e9]; rfl
                · skip
                  exact absurd (c28.symm.trans c134) (by decide)
              · skip
                refine lv_aload_n hx hb d_M_round_98 rfl (lv_at hl 0 rfl) ?_
                refine hp_get (C := R_M) (T := F_M) (N := 19) (v := .ref (mo + 3)) hx hb hG la_M hown hK.1 hm rfl 3 (by decide) (hG _ fl_M_16) (fun _ h9 => h9) rfl d_M_round_99 ?_
                refine hp_bipush (z := 32) hx hb d_M_round_102 (by rfl) ?_
                refine lv_iload_n hx hb d_M_round_104 rfl (lv_at hl 1 rfl) ?_
                refine hp_imul hx hb d_M_round_105 ?_
                refine lv_iload hx hb d_M_round_106 (lv_at hl 5 rfl) ?_
                refine hp_iadd hx hb d_M_round_108 ?_
                refine lv_aload_n hx hb d_M_round_109 rfl (lv_at hl 0 rfl) ?_
                refine lv_iload_n hx hb d_M_round_110 rfl (lv_at hl 1 rfl) ?_
                refine lv_iload hx hb d_M_round_111 (lv_at hl 5 rfl) ?_
                refine hp_iconst (z := 1) hx hb d_M_round_113 (by rfl) ?_
                refine hp_iadd hx hb d_M_round_114 ?_
                refine hp_callS (W.runV (As := [.int (iI (t : Int)), .int (iI ((k : Int) + 1))]) (rest := [.int (iI ((32 * (t : Int)) + (k : Int))), .ref (mo + 3)]) ⟨hx, hb, hml, hown, hG⟩ (c_M_letterAt l E mo th md fe ps w c g1 kz t (k + 1) (by omega)) (cwV 2 hG (hp_goodV ml_M_64 im_M_letterAt se_M_letterAt in_M co_M_letterAt) rfl rfl rfl hd_M_letterAt ⟨by rw [hRf]; exact Nat.le_of_ble_eq_true rfl, by rw [hRl]; exact Nat.le_of_ble_eq_true rfl⟩) (hp_preV (ci := 3) hp_nsn hK rfl hm ⟨hm, hsd, hsz, hwd, hkn⟩) rfl rfl hl.1 rfl (lv_room (Nat.le_of_ble_eq_true rfl)) d_M_round_115 ⟨by rw [hRc]; exact Nat.le_of_ble_eq_true rfl, by rw [hRs]; exact Nat.le_of_ble_eq_true rfl⟩) ?_
                refine hp_iast hx hb hK.1 0 hwd hS (by show _ ∨ _; omega) rfl d_M_round_118 (by omega) ((32 * t) + k) (by omega) (by omega) (fun H locs hwdn hz1 ho1 hS => ?_)
                have hZ := hz1.trans hZ
                have hm := hm.keep (ho1 (mo) (by omega))
                have hsd := hsd.keep (ho1 (mo + 1) (by omega))
                have hsz := hsz.keep (ho1 (mo + 2) (by omega))
                have hkn := hkn.keep (ho1 (mo + 10) (by omega))
                have hwd : ca E H (mo + 3) (ai E 128 (hp_up g1 ((32 * t) + k) (gw g1 t (k + 1)))) := hwdn
                refine hp_iinc (z := ((k : Int) + 1)) (lv' := [(5, .int (iI ((k : Int) + 1))), (0, .ref mo), (1, .int (iI (t : Int))), (2, .int (iI (bI bk))), (3, .int (iI (c t : Int))), (4, .int (iI (gw g t 0)))]) hx hb d_M_round_119 hl (k := 5) rfl (by omega) (by decide) rfl (fun ls hl => ?_)
                refine lv_goto (tgt := 90) hx hb d_M_round_122 (by decide) ?_
                exact ih90  (k + 1) (hp_up g1 ((32 * t) + k) (gw g1 t (k + 1))) (by omega) (by omega) (by rw [hg1]; exact bw_rmv_s g (by omega)) H locs hS hZ hm hsd hsz hwd hkn ls (lv_sub hl [1, 2, 3, 4, 5, 0] rfl)
          exact L90 (c t - 0 + 1) 0 g (by omega) (by omega) (by exact (bw_rmv_0 g _).symm) H locs hS hZ hm hsd hsz hwd hkn ls (lv_sub hl [3, 4, 5, 2, 1, 0] rfl)
        · skip
          exact absurd (c28.symm.trans c44) (by decide)
      · skip
        refine lv_iload_n hx hb d_M_round_31 rfl (lv_at hl 0 rfl) ?_
        refine hp_iconst (z := 1) hx hb d_M_round_32 (by rfl) ?_
        refine hp_isub hx hb d_M_round_33 ?_
        refine lv_goto (tgt := 38) hx hb d_M_round_34 (by decide) ?_
        have hb1 := gw_bd hbd t (c t - 1)
        have hb2 := gw_bd hbd t 0
        rw [show ((((c t : Nat) : Int) - 1) : Int) = ((((c t) - 1) : Nat) : Int) from by omega]
        refine hp_callS (W.runV (As := [.int (iI (t : Int)), .int (iI ((((c t) - 1) : Nat) : Int))]) (rest := []) ⟨hx, hb, hml, hown, hG⟩ (c_M_letterAt l E mo th md fe ps w c g kz t ((c t) - 1) (by omega)) (cwV 2 hG (hp_goodV ml_M_64 im_M_letterAt se_M_letterAt in_M co_M_letterAt) rfl rfl rfl hd_M_letterAt ⟨by rw [hRf]; exact Nat.le_of_ble_eq_true rfl, by rw [hRl]; exact Nat.le_of_ble_eq_true rfl⟩) (hp_preV (ci := 3) hp_nsn hK rfl hm ⟨hm, hsd, hsz, hwd, hkn⟩) rfl rfl hl.1 rfl (lv_room (Nat.le_of_ble_eq_true rfl)) d_M_round_38 ⟨by rw [hRc]; exact Nat.le_of_ble_eq_true rfl, by rw [hRs]; exact Nat.le_of_ble_eq_true rfl⟩) ?_
        refine lv_istore (lv' := [(4, .int (iI (gw g t ((c t) - 1)))), (3, .int (iI ((c t : Nat) : Int))), (0, .ref mo), (1, .int (iI (t : Int))), (2, .int (iI (bI bk)))]) hx hb d_M_round_41 hl (by decide) rfl (fun ls hl => ?_)
        refine lv_iload_n hx hb d_M_round_43 rfl (lv_at hl 4 rfl) ?_
        refine hp_ifb_eq (tgt := 87) hx hb d_M_round_44 (by decide) (fun c44 => ?_) (fun c44 => ?_)
        · skip
          exact absurd (c28.symm.trans c44) (by decide)
        · skip
          refine lv_iload_n hx hb d_M_round_47 rfl (lv_at hl 1 rfl) ?_
          refine hp_iconst (z := 1) hx hb d_M_round_48 (by rfl) ?_
          refine hp_isub hx hb d_M_round_49 ?_
          refine lv_istore (lv' := [(5, .int (iI (((c t : Nat) : Int) - 1))), (4, .int (iI (gw g t ((c t) - 1)))), (3, .int (iI ((c t : Nat) : Int))), (0, .ref mo), (1, .int (iI (t : Int))), (2, .int (iI (bI bk)))]) hx hb d_M_round_50 hl (by decide) rfl (fun ls hl => ?_)
          have L52 : ∀ (N : Nat) (k : Nat) (g1 : Nat → Int), k < N → (k < c t) → (g1 = bw_shr g (32 * t + k) (32 * t + c t)) → ∀ (H : Heap) (locs : List Loc), va_S (fun q => q = mo ∨ q = mo + 1 ∨ q = mo + 2 ∨ q = mo + 3 ∨ q = mo + 10) s.heap H locs → H.size = s.heap.size → ca E H mo (oM mo th md fe ps) → ca E H (mo + 1) (ai E 4 (fun k => (w k : Int))) → ca E H (mo + 2) (ai E 4 (fun k => (c k : Int))) → ca E H (mo + 3) (ai E 128 g1) → ca E H (mo + 10) (hp_az (E.2 1) 4 kz) → ∀ ls : Array Slot, lv_has ls 6 [(0, .ref mo), (1, .int (iI (t : Int))), (2, .int (iI (bI bk))), (3, .int (iI (c t : Int))), (4, .int (iI (gw g t (c t - 1)))), (5, .int (iI (k : Int)))] → W p l e R s m args below meth cd H locs 0 0 Q (F0 m 52 ls []) := by
            intro N
            induction N with
            | zero => intro k g1 hN; exact absurd hN (by omega)
            | succ N ih =>
              intro k g1 hN hk hg1 H locs hS hZ hm hsd hsz hwd hkn ls hl
              have ih52 := ih
              refine lv_iload hx hb d_M_round_52 (lv_at hl 5 rfl) ?_
              refine hp_if_le (tgt := 84) hx hb d_M_round_54 (by decide) (by unfold iR at *; omega) (fun c54 => ?_) (fun c54 => ?_)
              · skip
                refine lv_goto (tgt := 125) hx hb d_M_round_84 (by decide) ?_
                refine lv_aload_n hx hb d_M_round_125 rfl (lv_at hl 0 rfl) ?_
                refine hp_get (C := R_M) (T := F_M) (N := 19) (v := .ref (mo + 3)) hx hb hG la_M hown hK.1 hm rfl 3 (by decide) (hG _ fl_M_16) (fun _ h9 => h9) rfl d_M_round_126 ?_
                refine hp_bipush (z := 32) hx hb d_M_round_129 (by rfl) ?_
                refine lv_iload_n hx hb d_M_round_131 rfl (lv_at hl 1 rfl) ?_
                refine hp_imul hx hb d_M_round_132 ?_
                refine lv_iload_n hx hb d_M_round_133 rfl (lv_at hl 2 rfl) ?_
                refine hp_ifb_eq (tgt := 141) hx hb d_M_round_134 (by decide) (fun c134 => ?_) (fun c134 => ?_)
                · skip
                  exact absurd (c28.symm.trans c134) (by decide)
                · skip
                  refine hp_iconst (z := 0) hx hb d_M_round_137 (by rfl) ?_
                  refine lv_goto (tgt := 144) hx hb d_M_round_138 (by decide) ?_
                  refine hp_iadd hx hb d_M_round_144 ?_
                  refine lv_iload hx hb d_M_round_145 (lv_at hl 4 rfl) ?_
                  refine hp_iast hx hb hK.1 0 hwd hS (by show _ ∨ _; omega) rfl d_M_round_147 (by omega) ((32 * t) + 0) (by omega) (by omega) (fun H locs hwdn hz1 ho1 hS => ?_)
                  have hZ := hz1.trans hZ
                  have hm := hm.keep (ho1 (mo) (by omega))
                  have hsd := hsd.keep (ho1 (mo + 1) (by omega))
                  have hsz := hsz.keep (ho1 (mo + 2) (by omega))
                  have hkn := hkn.keep (ho1 (mo + 10) (by omega))
                  have hwd : ca E H (mo + 3) (ai E 128 (hp_up g1 ((32 * t) + 0) (gw g t (c t - 1)))) := hwdn
                  refine lv_aload_n hx hb d_M_round_148 rfl (lv_at hl 0 rfl) ?_
                  refine hp_get (C := R_M) (T := F_M) (N := 19) (v := .ref (mo + 10)) hx hb hG la_M hown hK.1 hm rfl 13 (by decide) (hG _ fl_M_37) (fun _ h9 => h9) rfl d_M_round_149 ?_
                  refine lv_iload_n hx hb d_M_round_152 rfl (lv_at hl 1 rfl) ?_
                  refine hp_iconst (z := 0) hx hb d_M_round_153 (by rfl) ?_
                  refine hp_zast hx hb hK.1 1 hkn hS (by show _ ∨ _; omega) rfl d_M_round_154 (by omega) false t (by omega) (by omega) (fun H locs hknn hz1 ho1 hS => ?_)
                  have hZ := hz1.trans hZ
                  have hm := hm.keep (ho1 (mo) (by omega))
                  have hsd := hsd.keep (ho1 (mo + 1) (by omega))
                  have hsz := hsz.keep (ho1 (mo + 2) (by omega))
                  have hwd := hwd.keep (ho1 (mo + 3) (by omega))
                  have hkn : ca E H (mo + 10) (hp_az (E.2 1) 4 (hp_up kz t false)) := hknn
                  refine hp_iconst (z := 1) hx hb d_M_round_155 (by rfl) ?_
                  rw [hQ]
                  refine hp_zretQ hx hb hrt hlocks d_M_round_156 true (by first | rfl | assumption | simp [bI]) hS hZ ?_
                  rw [Int.toNat_natCast]
                  have hb1 := gw_bd hbd t (c t - 1)
                  have hb2 := gw_bd hbd t 0
                  have ek : k = 0 := by omega
                  subst ek
                  refine Or.inl ⟨rfl, by omega, _, bd_up (by rw [hg1]; exact bd_shr hbd) hb1.1 hb1.2, bw_out_tr (by rw [hg1]; exact bw_out_shr (by omega) (by omega)) (bw_out_up (by omega) (by omega)), fun j hj => ?_, hm, hsd, hsz, hwd, hkn⟩
                  rw [c28]
                  show hp_up _ _ _ (32 * t + j) = _
                  by_cases e9 : j = 0
                  · rw [e9, hp_up_s]; rfl
                  · rw [hp_up_n _ _ (by omega), hg1]; unfold bw_shr gw; rw [if_pos (by omega), if_pos rfl, if_neg e9, show 32 * t + j - 1 = 32 * t + (j - 1) by omega]
              · skip
                refine lv_aload_n hx hb d_M_round_57 rfl (lv_at hl 0 rfl) ?_
                refine hp_get (C := R_M) (T := F_M) (N := 19) (v := .ref (mo + 3)) hx hb hG la_M hown hK.1 hm rfl 3 (by decide) (hG _ fl_M_16) (fun _ h9 => h9) rfl d_M_round_58 ?_
                refine hp_bipush (z := 32) hx hb d_M_round_61 (by rfl) ?_
                refine lv_iload_n hx hb d_M_round_63 rfl (lv_at hl 1 rfl) ?_
                refine hp_imul hx hb d_M_round_64 ?_
                refine lv_iload hx hb d_M_round_65 (lv_at hl 5 rfl) ?_
                refine hp_iadd hx hb d_M_round_67 ?_
                refine lv_aload_n hx hb d_M_round_68 rfl (lv_at hl 0 rfl) ?_
                refine lv_iload_n hx hb d_M_round_69 rfl (lv_at hl 1 rfl) ?_
                refine lv_iload hx hb d_M_round_70 (lv_at hl 5 rfl) ?_
                refine hp_iconst (z := 1) hx hb d_M_round_72 (by rfl) ?_
                refine hp_isub hx hb d_M_round_73 ?_
                rw [show (((k : Int) - 1) : Int) = (((k - 1) : Nat) : Int) from by omega]
                refine hp_callS (W.runV (As := [.int (iI (t : Int)), .int (iI (((k - 1) : Nat) : Int))]) (rest := [.int (iI ((32 * (t : Int)) + (k : Int))), .ref (mo + 3)]) ⟨hx, hb, hml, hown, hG⟩ (c_M_letterAt l E mo th md fe ps w c g1 kz t (k - 1) (by omega)) (cwV 2 hG (hp_goodV ml_M_64 im_M_letterAt se_M_letterAt in_M co_M_letterAt) rfl rfl rfl hd_M_letterAt ⟨by rw [hRf]; exact Nat.le_of_ble_eq_true rfl, by rw [hRl]; exact Nat.le_of_ble_eq_true rfl⟩) (hp_preV (ci := 3) hp_nsn hK rfl hm ⟨hm, hsd, hsz, hwd, hkn⟩) rfl rfl hl.1 rfl (lv_room (Nat.le_of_ble_eq_true rfl)) d_M_round_74 ⟨by rw [hRc]; exact Nat.le_of_ble_eq_true rfl, by rw [hRs]; exact Nat.le_of_ble_eq_true rfl⟩) ?_
                refine hp_iast hx hb hK.1 0 hwd hS (by show _ ∨ _; omega) rfl d_M_round_77 (by omega) ((32 * t) + k) (by omega) (by omega) (fun H locs hwdn hz1 ho1 hS => ?_)
                have hZ := hz1.trans hZ
                have hm := hm.keep (ho1 (mo) (by omega))
                have hsd := hsd.keep (ho1 (mo + 1) (by omega))
                have hsz := hsz.keep (ho1 (mo + 2) (by omega))
                have hkn := hkn.keep (ho1 (mo + 10) (by omega))
                have hwd : ca E H (mo + 3) (ai E 128 (hp_up g1 ((32 * t) + k) (gw g1 t (k - 1)))) := hwdn
                refine hp_iinc (z := ((k : Int) - 1)) (lv' := [(5, .int (iI ((k : Int) - 1))), (0, .ref mo), (1, .int (iI (t : Int))), (2, .int (iI (bI bk))), (3, .int (iI (c t : Int))), (4, .int (iI (gw g t (c t - 1))))]) hx hb d_M_round_78 hl (k := 5) rfl (by omega) (by decide) rfl (fun ls hl => ?_)
                refine lv_goto (tgt := 52) hx hb d_M_round_81 (by decide) ?_
                rw [show (((k : Int) - 1) : Int) = (((k - 1) : Nat) : Int) from by omega] at hl
                exact ih52  (k - 1) (hp_up g1 ((32 * t) + k) (gw g1 t (k - 1))) (by omega) (by omega) (by rw [hg1, ← show 32 * t + k - 1 = 32 * t + (k - 1) by omega, ← bw_shr_s g (by omega) (by omega)]; unfold gw; rw [show 32 * t + k - 1 = 32 * t + (k - 1) by omega]) H locs hS hZ hm hsd hsz hwd hkn ls (lv_sub hl [1, 2, 3, 4, 5, 0] rfl)
          rw [show ((gw g t ((c t) - 1)) : Int) = (gw g t (c t - 1)) from by omega] at hl
          rw [show ((((c t : Nat) : Int) - 1) : Int) = ((((c t) - 1) : Nat) : Int) from by omega] at hl
          exact L52 (((c t) - 1) + 1) ((c t) - 1) g (by omega) (by omega) (by exact (bw_shr_0 g (by omega)).symm) H locs hS hZ hm hsd hsz hwd hkn ls (lv_sub hl [3, 4, 5, 2, 1, 0] rfl)
    · skip
      refine hp_iconst (z := 0) hx hb d_M_round_16 (by rfl) ?_
      rw [hQ]
      refine hp_zretQ hx hb hrt hlocks d_M_round_17 false (by first | rfl | assumption | simp [bI]) hS hZ ?_
      first | exact Or.inr ⟨rfl, by omega, hm, hsd, hsz, hwd, hkn⟩ | (rw [Int.toNat_natCast]; exact Or.inr ⟨rfl, by omega, hm, hsd, hsz, hwd, hkn⟩) | (rw [Int.toNat_natCast, Int.toNat_natCast]; exact Or.inr ⟨rfl, by omega, hm, hsd, hsz, hwd, hkn⟩)
