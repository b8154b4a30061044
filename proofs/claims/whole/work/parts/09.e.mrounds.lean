set_option maxHeartbeats 4000000 in
set_option maxRecDepth 100000 in
/-- rounds(s) -/
theorem c_M_rounds (l : Launch) (E : hp_E) (mo : Nat) (th md fe ps : Int) (w c : Nat → Nat) (g : Nat → Int) (kz : Nat → Bool) (t : Nat) (ht : t < 4) (hct : c t ≤ 32 ∧ w t ≤ 8) (hbd : bd g) (hok : okw (w t) (c t) (gw g t)) : Met l y_M_rounds (Cond.code y_M_rounds b_M_rounds 6 (some .int) :: G0) ({ frames := 2, cells := 0, slots := 0, locals := 47 }) (hp_P E [.ref mo, .int (iI (t : Int))] (fun H => mW E H mo th md fe ps w c g kz)) (hp_Si (bw_cmp (gw g t) (c t) (w t))) 0 0 (fun _ => False) := by
  refine Met.ofW (cc := b_M_rounds) (maxL := 6) (ret := some .int) (by decide) rfl ?_
  intro p e s m args below meth cd s₁ Bd hml hv
  obtain ⟨hargs, hB, hK⟩ := hv
  have hx := Bd.exec
  have hb := Bd.bytes
  have hrt := Bd.returns
  have hts := atoms_spec (ws := Cond.code y_M_rounds b_M_rounds 6 (some .int) :: G0) Bd.pre
  have hG : ∀ w ∈ G0, w.before args s = true := fun w h => hts w (List.mem_cons_of_mem _ h)
  have hown : s.vm.findClass R_M = some m.cls := findClass_of_methodNamed Bd.named
  have hlocks := Bd.notSynchronized
  have hl := lv_entry ([.ref mo, .int (iI (t : Int))]) (n := 6) (Nat.le_of_ble_eq_true rfl)
  rw [show entryFrame m args 6 = entryFrame m ([.ref mo, .int (iI (t : Int))] : List Value).toArray 6 from by rw [hargs]]
  rw [lg_entry_eq]
  generalize (lg_sl ([.ref mo, .int (iI (t : Int))]) ++ List.replicate (6 - (lg_sl ([.ref mo, .int (iI (t : Int))])).length) Slot.unset).toArray = ls at hl ⊢
  have hl : lv_has ls 6 [(0, .ref mo), (1, .int (iI (t : Int)))] := hl
  obtain ⟨R, hR⟩ : ∃ R, R = (headSpec (Cond.code y_M_rounds b_M_rounds 6 (some .int) :: G0) { frames := 2, cells := 0, slots := 0, locals := 47 }).room := ⟨_, rfl⟩
  rw [← hR]
  have hRf : R.frames = 2 := by rw [hR]; rfl
  have hRl : R.locals = 47 := by rw [hR]; rfl
  have hRc : R.cells = 0 := by rw [hR]; rfl
  have hRs : R.slots = 0 := by rw [hR]; rfl
  obtain ⟨Q, hQ⟩ : ∃ Q, Q = MQ below (hp_Si (bw_cmp (gw g t) (c t) (w t))) args s 0 0 (fun _ => False) := ⟨_, rfl⟩
  rw [← hQ]
  obtain ⟨hm, hsd, hsz, hwd, hkn⟩ := hB
  refine hp_iconst (z := 0) hx hb d_M_rounds_0 (by rfl) ?_
  refine lv_istore_n (lv' := [(2, .int (iI 0)), (0, .ref mo), (1, .int (iI (t : Int)))]) hx hb d_M_rounds_1 rfl hl (by decide) rfl (fun ls hl => ?_)
  refine hp_iconst (z := 1) hx hb d_M_rounds_2 (by rfl) ?_
  refine lv_istore_n (lv' := [(3, .int (iI 1)), (2, .int (iI 0)), (0, .ref mo), (1, .int (iI (t : Int)))]) hx hb d_M_rounds_3 rfl hl (by decide) rfl (fun ls hl => ?_)
  have L4 : ∀ (N : Nat) (q : Nat) (n : Int), w t + 2 - q < N → (1 ≤ q ∧ q ≤ w t + 1) → (n = bw_cmp (gw g t) (c t) (q - 1)) → ∀ ls : Array Slot, lv_has ls 6 [(0, .ref mo), (1, .int (iI (t : Int))), (2, .int (iI n)), (3, .int (iI (q : Int)))] → W p l e R s m args below meth cd s.heap [] 0 0 Q (F0 m 4 ls []) := by
    intro N
    induction N with
    | zero => intro q n hN; exact absurd hN (by omega)
    | succ N ih =>
      intro q n hN hq hn  ls hl
      have ih4 := ih
      refine lv_iload_n hx hb d_M_rounds_4 rfl (lv_at hl 3 rfl) ?_
      refine lv_aload_n hx hb d_M_rounds_5 rfl (lv_at hl 0 rfl) ?_
      refine hp_get (C := R_M) (T := F_M) (N := 19) (v := .ref (mo + 1)) hx hb hG la_M hown hK.1 hm rfl 1 (by decide) (hG _ fl_M_7) (fun _ h9 => h9) rfl d_M_rounds_6 ?_
      refine lv_iload_n hx hb d_M_rounds_9 rfl (lv_at hl 1 rfl) ?_
      refine hp_iald hx hb hK.1 0 hsd rfl d_M_rounds_10 (by omega) t (by omega) (by omega) ?_
      refine hp_icmp_gt (tgt := 80) hx hb d_M_rounds_11 (by decide) (by first | (unfold iR; omega) | (rw [hv]; unfold iR; omega)) (by first | (unfold iR; omega) | (rw [hv]; unfold iR; omega)) (fun c11 => ?_) (fun c11 => ?_)
      · skip
        refine lv_iload_n hx hb d_M_rounds_80 rfl (lv_at hl 2 rfl) ?_
        rw [hQ]
        refine hp_iretS hx hb hrt hlocks d_M_rounds_81 ?_
        rw [hn, show q - 1 = w t by omega]
      · skip
        have hrn := bw_cmp_rng (gw g t) (c t) (q - 1)
        refine hp_iconst (z := 1) hx hb d_M_rounds_14 (by rfl) ?_
        refine lv_istore (lv' := [(4, .int (iI 1)), (0, .ref mo), (1, .int (iI (t : Int))), (2, .int (iI n)), (3, .int (iI (q : Int)))]) hx hb d_M_rounds_15 hl (by decide) rfl (fun ls hl => ?_)
        obtain ⟨NB, hN0, hN1, hNb⟩ := bw_back hok (p := (q : Int)) (by omega) (by omega)
        refine lv_aload_n hx hb d_M_rounds_17 rfl (lv_at hl 1 rfl) ?_
        refine lv_iload_n hx hb d_M_rounds_18 rfl (lv_at hl 2 rfl) ?_
        refine lv_iload_n hx hb d_M_rounds_19 rfl (lv_at hl 4 rfl) ?_
        refine hp_callS (W.runV (As := [.int (iI (t : Int)), .int (iI (q : Int))]) (rest := []) ⟨hx, hb, hml, hown, hG⟩ (c_M_endOf l E mo th md fe ps w c g kz t ht hct hbd (q : Int) (by omega)) (cwV 2 hG (hp_goodV ml_M_72 im_M_endOf se_M_endOf in_M co_M_endOf) rfl rfl rfl hd_M_endOf ⟨by rw [hRf]; exact Nat.le_of_ble_eq_true rfl, by rw [hRl]; exact Nat.le_of_ble_eq_true rfl⟩) (hp_preV (ci := 3) hp_nsn hK rfl hm ⟨hm, hsd, hsz, hwd, hkn⟩) rfl rfl hl.1 rfl (lv_room (Nat.le_of_ble_eq_true rfl)) d_M_rounds_20 ⟨by rw [hRc]; exact Nat.le_of_ble_eq_true rfl, by rw [hRs]; exact Nat.le_of_ble_eq_true rfl⟩) ?_
        refine lv_istore (lv' := [(5, .int (iI (bw_end (gw g t) (c t) (q : Int)))), (4, .int (iI 1)), (0, .ref mo), (1, .int (iI (t : Int))), (2, .int (iI n)), (3, .int (iI (q : Int)))]) hx hb d_M_rounds_23 hl (by decide) rfl (fun ls hl => ?_)
        have L25 : ∀ (N : Nat) (j : Nat) (v : Int) (ls0 : Bool), NB - j < N → (1 ≤ j ∧ j ≤ NB) → (v = bw_it (gw g t) (c t) j (q : Int)) → (∀ i, 1 ≤ i → i < j → bw_it (gw g t) (c t) i (q : Int) ≠ (q : Int)) → (ls0 = true ↔ bw_ab (gw g t) (c t) (q : Int) j) → ∀ ls : Array Slot, lv_has ls 6 [(0, .ref mo), (1, .int (iI (t : Int))), (2, .int (iI n)), (3, .int (iI (q : Int))), (4, .int (iI (bI ls0))), (5, .int (iI v))] → W p l e R s m args below meth cd s.heap [] 0 0 Q (F0 m 25 ls []) := by
          intro N
          induction N with
          | zero => intro j v ls0 hN; exact absurd hN (by omega)
          | succ N ih =>
            intro j v ls0 hN hj hv hne hls  ls hl
            have ih25 := ih
            have hvr := bw_it_in hok (p := (q : Int)) (by omega) (by omega) j
            refine lv_iload hx hb d_M_rounds_25 (lv_at hl 5 rfl) ?_
            refine lv_iload_n hx hb d_M_rounds_27 rfl (lv_at hl 3 rfl) ?_
            refine hp_icmp_eq (tgt := 61) hx hb d_M_rounds_28 (by decide) (by first | (unfold iR; omega) | (rw [hv]; unfold iR; omega)) (by first | (unfold iR; omega) | (rw [hv]; unfold iR; omega)) (fun c28 => ?_) (fun c28 => ?_)
            · skip
              have hab := bw_ab_lst (by omega) (hv.symm.trans c28) hne
              refine lv_iload_n hx hb d_M_rounds_61 rfl (lv_at hl 2 rfl) ?_
              refine lv_iload hx hb d_M_rounds_62 (lv_at hl 4 rfl) ?_
              refine hp_ifb_eq (tgt := 71) hx hb d_M_rounds_64 (by decide) (fun c64 => ?_) (fun c64 => ?_)
              · skip
                refine hp_iconst (z := 0) hx hb d_M_rounds_71 (by rfl) ?_
                refine hp_iadd hx hb d_M_rounds_72 ?_
                have hL : ¬ bw_lst (gw g t) (c t) (q : Int) := by exact fun z => by rw [hls.mpr (hab.mpr z)] at c64; cases c64
                refine lv_istore_n (lv' := [(2, .int (iI (n + 0))), (0, .ref mo), (1, .int (iI (t : Int))), (3, .int (iI (q : Int))), (4, .int (iI (bI ls0))), (5, .int (iI v))]) hx hb d_M_rounds_73 rfl hl (by decide) rfl (fun ls hl => ?_)
                refine hp_iinc (z := ((q : Int) + 1)) (lv' := [(3, .int (iI ((q : Int) + 1))), (2, .int (iI (n + 0))), (0, .ref mo), (1, .int (iI (t : Int))), (4, .int (iI (bI ls0))), (5, .int (iI v))]) hx hb d_M_rounds_74 hl (k := 3) rfl (by omega) (by decide) rfl (fun ls hl => ?_)
                refine lv_goto (tgt := 4) hx hb d_M_rounds_77 (by decide) ?_
                exact ih4  (q + 1) (n + 0) (by omega) (by omega) (by rw [show q + 1 - 1 = (q - 1) + 1 by omega]; have e9 : ((q - 1 + 1 : Nat) : Int) = (q : Int) := (by omega); first | (rw [bw_cmp_t (by rw [e9]; exact hL)]; omega) | (rw [bw_cmp_f (by rw [e9]; exact hL)]; omega)) ls (lv_sub hl [2, 3, 1, 0] rfl)
              · skip
                refine hp_iconst (z := 1) hx hb d_M_rounds_67 (by rfl) ?_
                refine lv_goto (tgt := 72) hx hb d_M_rounds_68 (by decide) ?_
                refine hp_iadd hx hb d_M_rounds_72 ?_
                have hL : bw_lst (gw g t) (c t) (q : Int) := by exact hab.mp (hls.mp c64)
                refine lv_istore_n (lv' := [(2, .int (iI (n + 1))), (0, .ref mo), (1, .int (iI (t : Int))), (3, .int (iI (q : Int))), (4, .int (iI (bI ls0))), (5, .int (iI v))]) hx hb d_M_rounds_73 rfl hl (by decide) rfl (fun ls hl => ?_)
                refine hp_iinc (z := ((q : Int) + 1)) (lv' := [(3, .int (iI ((q : Int) + 1))), (2, .int (iI (n + 1))), (0, .ref mo), (1, .int (iI (t : Int))), (4, .int (iI (bI ls0))), (5, .int (iI v))]) hx hb d_M_rounds_74 hl (k := 3) rfl (by omega) (by decide) rfl (fun ls hl => ?_)
                refine lv_goto (tgt := 4) hx hb d_M_rounds_77 (by decide) ?_
                exact ih4  (q + 1) (n + 1) (by omega) (by omega) (by rw [show q + 1 - 1 = (q - 1) + 1 by omega]; have e9 : ((q - 1 + 1 : Nat) : Int) = (q : Int) := (by omega); first | (rw [bw_cmp_t (by rw [e9]; exact hL)]; omega) | (rw [bw_cmp_f (by rw [e9]; exact hL)]; omega)) ls (lv_sub hl [2, 3, 1, 0] rfl)
            · skip
              refine lv_iload hx hb d_M_rounds_31 (lv_at hl 4 rfl) ?_
              refine hp_ifb_eq (tgt := 46) hx hb d_M_rounds_33 (by decide) (fun c33 => ?_) (fun c33 => ?_)
              · skip
                refine hp_iconst (z := 0) hx hb d_M_rounds_46 (by rfl) ?_
                refine lv_istore (lv' := [(4, .int (iI 0)), (0, .ref mo), (1, .int (iI (t : Int))), (2, .int (iI n)), (3, .int (iI (q : Int))), (5, .int (iI v))]) hx hb d_M_rounds_47 hl (by decide) rfl (fun ls hl => ?_)
                rw [← hv] at hvr
                refine lv_aload_n hx hb d_M_rounds_49 rfl (lv_at hl 1 rfl) ?_
                refine lv_iload_n hx hb d_M_rounds_50 rfl (lv_at hl 2 rfl) ?_
                refine lv_iload hx hb d_M_rounds_51 (lv_at hl 5 rfl) ?_
                refine hp_callS (W.runV (As := [.int (iI (t : Int)), .int (iI v)]) (rest := []) ⟨hx, hb, hml, hown, hG⟩ (c_M_endOf l E mo th md fe ps w c g kz t ht hct hbd v (by omega)) (cwV 2 hG (hp_goodV ml_M_72 im_M_endOf se_M_endOf in_M co_M_endOf) rfl rfl rfl hd_M_endOf ⟨by rw [hRf]; exact Nat.le_of_ble_eq_true rfl, by rw [hRl]; exact Nat.le_of_ble_eq_true rfl⟩) (hp_preV (ci := 3) hp_nsn hK rfl hm ⟨hm, hsd, hsz, hwd, hkn⟩) rfl rfl hl.1 rfl (lv_room (Nat.le_of_ble_eq_true rfl)) d_M_rounds_53 ⟨by rw [hRc]; exact Nat.le_of_ble_eq_true rfl, by rw [hRs]; exact Nat.le_of_ble_eq_true rfl⟩) ?_
                refine lv_istore (lv' := [(5, .int (iI (bw_end (gw g t) (c t) v))), (4, .int (iI 0)), (0, .ref mo), (1, .int (iI (t : Int))), (2, .int (iI n)), (3, .int (iI (q : Int)))]) hx hb d_M_rounds_56 hl (by decide) rfl (fun ls hl => ?_)
                refine lv_goto (tgt := 25) hx hb d_M_rounds_58 (by decide) ?_
                exact ih25  (j + 1) (bw_end (gw g t) (c t) v) false (by (have h9 : j ≠ NB := fun z => c28 (by rw [hv, z]; exact hNb)); omega) (by (have h9 : j ≠ NB := fun z => c28 (by rw [hv, z]; exact hNb)); omega) (by rw [hv]; rfl) (by intro i h1 h2; by_cases e9 : i = j; (rw [e9, ← hv]; exact c28); exact hne i h1 (by omega)) (by constructor; (intro z i h1 h2; first | exact absurd z (by decide) | (by_cases e9 : i = j; (rw [e9, ← hv]; exact c39); exact (hls.mp c33) i h1 (by omega))); (intro z; first | rfl | (exfalso; first | (have h8 := z j (by omega) (by omega); rw [← hv] at h8; omega) | (have h8 := hls.mpr (fun i h1 h2 => z i h1 (by omega)); rw [c33] at h8; cases h8)))) ls (lv_sub hl [2, 3, 4, 5, 1, 0] rfl)
              · skip
                refine lv_iload hx hb d_M_rounds_36 (lv_at hl 5 rfl) ?_
                refine lv_iload_n hx hb d_M_rounds_38 rfl (lv_at hl 3 rfl) ?_
                refine hp_icmp_le (tgt := 46) hx hb d_M_rounds_39 (by decide) (by first | (unfold iR; omega) | (rw [hv]; unfold iR; omega)) (by first | (unfold iR; omega) | (rw [hv]; unfold iR; omega)) (fun c39 => ?_) (fun c39 => ?_)
                · skip
                  refine hp_iconst (z := 0) hx hb d_M_rounds_46 (by rfl) ?_
                  refine lv_istore (lv' := [(4, .int (iI 0)), (0, .ref mo), (1, .int (iI (t : Int))), (2, .int (iI n)), (3, .int (iI (q : Int))), (5, .int (iI v))]) hx hb d_M_rounds_47 hl (by decide) rfl (fun ls hl => ?_)
                  rw [← hv] at hvr
                  refine lv_aload_n hx hb d_M_rounds_49 rfl (lv_at hl 1 rfl) ?_
                  refine lv_iload_n hx hb d_M_rounds_50 rfl (lv_at hl 2 rfl) ?_
                  refine lv_iload hx hb d_M_rounds_51 (lv_at hl 5 rfl) ?_
                  refine hp_callS (W.runV (As := [.int (iI (t : Int)), .int (iI v)]) (rest := []) ⟨hx, hb, hml, hown, hG⟩ (c_M_endOf l E mo th md fe ps w c g kz t ht hct hbd v (by omega)) (cwV 2 hG (hp_goodV ml_M_72 im_M_endOf se_M_endOf in_M co_M_endOf) rfl rfl rfl hd_M_endOf ⟨by rw [hRf]; exact Nat.le_of_ble_eq_true rfl, by rw [hRl]; exact Nat.le_of_ble_eq_true rfl⟩) (hp_preV (ci := 3) hp_nsn hK rfl hm ⟨hm, hsd, hsz, hwd, hkn⟩) rfl rfl hl.1 rfl (lv_room (Nat.le_of_ble_eq_true rfl)) d_M_rounds_53 ⟨by rw [hRc]; exact Nat.le_of_ble_eq_true rfl, by rw [hRs]; exact Nat.le_of_ble_eq_true rfl⟩) ?_
                  refine lv_istore (lv' := [(5, .int (iI (bw_end (gw g t) (c t) v))), (4, .int (iI 0)), (0, .ref mo), (1, .int (iI (t : Int))), (2, .int (iI n)), (3, .int (iI (q : Int)))]) hx hb d_M_rounds_56 hl (by decide) rfl (fun ls hl => ?_)
                  refine lv_goto (tgt := 25) hx hb d_M_rounds_58 (by decide) ?_
                  exact ih25  (j + 1) (bw_end (gw g t) (c t) v) false (by (have h9 : j ≠ NB := fun z => c28 (by rw [hv, z]; exact hNb)); omega) (by (have h9 : j ≠ NB := fun z => c28 (by rw [hv, z]; exact hNb)); omega) (by rw [hv]; rfl) (by intro i h1 h2; by_cases e9 : i = j; (rw [e9, ← hv]; exact c28); exact hne i h1 (by omega)) (by constructor; (intro z i h1 h2; first | exact absurd z (by decide) | (by_cases e9 : i = j; (rw [e9, ← hv]; exact c39); exact (hls.mp c33) i h1 (by omega))); (intro z; first | rfl | (exfalso; first | (have h8 := z j (by omega) (by omega); rw [← hv] at h8; omega) | (have h8 := hls.mpr (fun i h1 h2 => z i h1 (by omega)); rw [c33] at h8; cases h8)))) ls (lv_sub hl [2, 3, 4, 5, 1, 0] rfl)
                · skip
                  refine hp_iconst (z := 1) hx hb d_M_rounds_42 (by rfl) ?_
                  refine lv_goto (tgt := 47) hx hb d_M_rounds_43 (by decide) ?_
                  refine lv_istore (lv' := [(4, .int (iI 1)), (0, .ref mo), (1, .int (iI (t : Int))), (2, .int (iI n)), (3, .int (iI (q : Int))), (5, .int (iI v))]) hx hb d_M_rounds_47 hl (by decide) rfl (fun ls hl => ?_)
                  rw [← hv] at hvr
                  refine lv_aload_n hx hb d_M_rounds_49 rfl (lv_at hl 1 rfl) ?_
                  refine lv_iload_n hx hb d_M_rounds_50 rfl (lv_at hl 2 rfl) ?_
                  refine lv_iload hx hb d_M_rounds_51 (lv_at hl 5 rfl) ?_
                  refine hp_callS (W.runV (As := [.int (iI (t : Int)), .int (iI v)]) (rest := []) ⟨hx, hb, hml, hown, hG⟩ (c_M_endOf l E mo th md fe ps w c g kz t ht hct hbd v (by omega)) (cwV 2 hG (hp_goodV ml_M_72 im_M_endOf se_M_endOf in_M co_M_endOf) rfl rfl rfl hd_M_endOf ⟨by rw [hRf]; exact Nat.le_of_ble_eq_true rfl, by rw [hRl]; exact Nat.le_of_ble_eq_true rfl⟩) (hp_preV (ci := 3) hp_nsn hK rfl hm ⟨hm, hsd, hsz, hwd, hkn⟩) rfl rfl hl.1 rfl (lv_room (Nat.le_of_ble_eq_true rfl)) d_M_rounds_53 ⟨by rw [hRc]; exact Nat.le_of_ble_eq_true rfl, by rw [hRs]; exact Nat.le_of_ble_eq_true rfl⟩) ?_
                  refine lv_istore (lv' := [(5, .int (iI (bw_end (gw g t) (c t) v))), (4, .int (iI 1)), (0, .ref mo), (1, .int (iI (t : Int))), (2, .int (iI n)), (3, .int (iI (q : Int)))]) hx hb d_M_rounds_56 hl (by decide) rfl (fun ls hl => ?_)
                  refine lv_goto (tgt := 25) hx hb d_M_rounds_58 (by decide) ?_
                  exact ih25  (j + 1) (bw_end (gw g t) (c t) v) true (by (have h9 : j ≠ NB := fun z => c28 (by rw [hv, z]; exact hNb)); omega) (by (have h9 : j ≠ NB := fun z => c28 (by rw [hv, z]; exact hNb)); omega) (by rw [hv]; rfl) (by intro i h1 h2; by_cases e9 : i = j; (rw [e9, ← hv]; exact c28); exact hne i h1 (by omega)) (by constructor; (intro z i h1 h2; first | exact absurd z (by decide) | (by_cases e9 : i = j; (rw [e9, ← hv]; exact c39); exact (hls.mp c33) i h1 (by omega))); (intro z; first | rfl | (exfalso; first | (have h8 := z j (by omega) (by omega); rw [← hv] at h8; omega) | (have h8 := hls.mpr (fun i h1 h2 => z i h1 (by omega)); rw [c33] at h8; cases h8)))) ls (lv_sub hl [2, 3, 4, 5, 1, 0] rfl)
        exact L25 (NB - 1 + 1) 1 (bw_end (gw g t) (c t) (q : Int)) true (by omega) (by omega) (by rfl) (by intro i h1 h2; omega) (by constructor; (intro _ i h1 h2; omega); (intro _; rfl)) ls (lv_sub hl [2, 3, 4, 5, 1, 0] rfl)
  exact L4 (w t + 2 - 1 + 1) 1 0 (by omega) (by omega) (by rfl) ls (lv_sub hl [2, 3, 1, 0] rfl)

set_option maxHeartbeats 4000000 in
set_option maxRecDepth 100000 in
/-- many(s, what) -/
theorem c_M_many (l : Launch) (E : hp_E) (mo : Nat) (th md fe ps : Int) (w c : Nat → Nat) (g : Nat → Int) (kz : Nat → Bool) (s0 x0 : Int) (hs0 : iR s0) (hx0 : iR x0) (hbd : bd g) (hvm : ∀ i, i < 4 → 1 ≤ w i ∧ w i ≤ 8 ∧ c i ≤ 32) (hok : ∀ i, i < 4 → okw (w i) (c i) (gw g i)) : Met l y_M_many (Cond.code y_M_many b_M_many 3 (some .int) :: G0) ({ frames := 3, cells := 0, slots := 0, locals := 72 }) (hp_P E [.ref mo, .int (iI s0), .int (iI x0)] (fun H => mW E H mo th md fe ps w c g kz)) (hp_Si (if 0 ≤ s0 ∧ s0 < 4 then (if x0 = 0 then (w s0.toNat : Int) else if x0 = 1 then (c s0.toNat : Int) else if x0 = 2 then bw_sum (gw g s0.toNat) (c s0.toNat) else if x0 = 3 then bw_cmp (gw g s0.toNat) (c s0.toNat) (w s0.toNat) else if x0 = 4 then bw_cir (gw g s0.toNat) (c s0.toNat) (w s0.toNat) else -1000) else -1000)) 0 0 (fun _ => False) := by
  refine Met.ofW (cc := b_M_many) (maxL := 3) (ret := some .int) (by decide) rfl ?_
  intro p e s m args below meth cd s₁ Bd hml hv
  obtain ⟨hargs, hB, hK⟩ := hv
  have hx := Bd.exec
  have hb := Bd.bytes
  have hrt := Bd.returns
  have hts := atoms_spec (ws := Cond.code y_M_many b_M_many 3 (some .int) :: G0) Bd.pre
  have hG : ∀ w ∈ G0, w.before args s = true := fun w h => hts w (List.mem_cons_of_mem _ h)
  have hown : s.vm.findClass R_M = some m.cls := findClass_of_methodNamed Bd.named
  have hlocks := Bd.notSynchronized
  have hl := lv_entry ([.ref mo, .int (iI s0), .int (iI x0)]) (n := 3) (Nat.le_of_ble_eq_true rfl)
  rw [show entryFrame m args 3 = entryFrame m ([.ref mo, .int (iI s0), .int (iI x0)] : List Value).toArray 3 from by rw [hargs]]
  rw [lg_entry_eq]
  generalize (lg_sl ([.ref mo, .int (iI s0), .int (iI x0)]) ++ List.replicate (3 - (lg_sl ([.ref mo, .int (iI s0), .int (iI x0)])).length) Slot.unset).toArray = ls at hl ⊢
  have hl : lv_has ls 3 [(0, .ref mo), (1, .int (iI s0)), (2, .int (iI x0))] := hl
  obtain ⟨R, hR⟩ : ∃ R, R = (headSpec (Cond.code y_M_many b_M_many 3 (some .int) :: G0) { frames := 3, cells := 0, slots := 0, locals := 72 }).room := ⟨_, rfl⟩
  rw [← hR]
  have hRf : R.frames = 3 := by rw [hR]; rfl
  have hRl : R.locals = 72 := by rw [hR]; rfl
  have hRc : R.cells = 0 := by rw [hR]; rfl
  have hRs : R.slots = 0 := by rw [hR]; rfl
  obtain ⟨Q, hQ⟩ : ∃ Q, Q = MQ below (hp_Si (if 0 ≤ s0 ∧ s0 < 4 then (if x0 = 0 then (w s0.toNat : Int) else if x0 = 1 then (c s0.toNat : Int) else if x0 = 2 then bw_sum (gw g s0.toNat) (c s0.toNat) else if x0 = 3 then bw_cmp (gw g s0.toNat) (c s0.toNat) (w s0.toNat) else if x0 = 4 then bw_cir (gw g s0.toNat) (c s0.toNat) (w s0.toNat) else -1000) else -1000)) args s 0 0 (fun _ => False) := ⟨_, rfl⟩
  rw [← hQ]
  obtain ⟨hm, hsd, hsz, hwd, hkn⟩ := hB
  refine lv_iload_n hx hb d_M_many_0 rfl (lv_at hl 1 rfl) ?_
  refine hp_callS (W.runS (As := [.int (iI s0)]) (rest := []) ⟨hx, hb, hml, hown, hG⟩ (c_M_isSlot l E s0 (by unfold iR at *; omega)) (cwS 1 hG (hp_goodS ml_M_60 st_M_isSlot in_M co_M_isSlot) rfl rfl rfl hd_M_isSlot ⟨by rw [hRf]; exact Nat.le_of_ble_eq_true rfl, by rw [hRl]; exact Nat.le_of_ble_eq_true rfl⟩) (hp_preS hp_nsn hK trivial) rfl rfl hl.1 rfl (lv_room (Nat.le_of_ble_eq_true rfl)) d_M_many_1 ⟨by rw [hRc]; exact Nat.le_of_ble_eq_true rfl, by rw [hRs]; exact Nat.le_of_ble_eq_true rfl⟩) ?_
  refine hp_ifb_ne (tgt := 11) hx hb d_M_many_4 (by decide) (fun c4 => ?_) (fun c4 => ?_)
  · skip
    have c4 := of_decide_eq_true c4
    obtain ⟨t, rfl⟩ : ∃ q : Nat, s0 = (q : Int) := ⟨s0.toNat, by omega⟩
    have hvt := hvm t (by omega)
    refine lv_iload_n hx hb d_M_many_11 rfl (lv_at hl 2 rfl) ?_
    rcases (show x0 < 0 ∨ 4 < x0 ∨ x0 = 0 ∨ x0 = 1 ∨ x0 = 2 ∨ x0 = 3 ∨ x0 = 4 by omega) with c12 | c12 | c12 | c12 | c12 | c12 | c12
    · refine lv_tableOut (tgt := 80) hx hb d_M_many_12 (by rw [iI_toInt (by unfold iR at *; omega)]; omega) (by decide) ?_
      refine hp_sipush (z := (-1000)) hx hb d_M_many_80 (by rfl) ?_
      rw [hQ]
      refine hp_iretS hx hb hrt hlocks d_M_many_83 ?_
      rw [Int.toNat_natCast, if_pos (by omega)]
      rw [if_neg (by omega), if_neg (by omega), if_neg (by omega), if_neg (by omega), if_neg (by omega)]
    · refine lv_tableOut (tgt := 80) hx hb d_M_many_12 (by rw [iI_toInt (by unfold iR at *; omega)]; omega) (by decide) ?_
      refine hp_sipush (z := (-1000)) hx hb d_M_many_80 (by rfl) ?_
      rw [hQ]
      refine hp_iretS hx hb hrt hlocks d_M_many_83 ?_
      rw [Int.toNat_natCast, if_pos (by omega)]
      rw [if_neg (by omega), if_neg (by omega), if_neg (by omega), if_neg (by omega), if_neg (by omega)]
    · refine lv_tableIn (tgt := 48) hx hb d_M_many_12 (by rw [iI_toInt (by unfold iR at *; omega)]; omega) (by rw [iI_toInt (by unfold iR at *; omega)]; omega) (by rw [iI_toInt (by unfold iR at *; omega), c12]; rfl) (by decide) ?_
      refine lv_aload_n hx hb d_M_many_48 rfl (lv_at hl 0 rfl) ?_
      refine hp_get (C := R_M) (T := F_M) (N := 19) (v := .ref (mo + 1)) hx hb hG la_M hown hK.1 hm rfl 1 (by decide) (hG _ fl_M_7) (fun _ h9 => h9) rfl d_M_many_49 ?_
      refine lv_iload_n hx hb d_M_many_52 rfl (lv_at hl 1 rfl) ?_
      refine hp_iald hx hb hK.1 0 hsd rfl d_M_many_53 (by omega) t (by omega) (by omega) ?_
      rw [hQ]
      refine hp_iretS hx hb hrt hlocks d_M_many_54 ?_
      rw [Int.toNat_natCast, if_pos (by omega)]
      rw [if_pos (by omega)]
    · refine lv_tableIn (tgt := 55) hx hb d_M_many_12 (by rw [iI_toInt (by unfold iR at *; omega)]; omega) (by rw [iI_toInt (by unfold iR at *; omega)]; omega) (by rw [iI_toInt (by unfold iR at *; omega), c12]; rfl) (by decide) ?_
      refine lv_aload_n hx hb d_M_many_55 rfl (lv_at hl 0 rfl) ?_
      refine hp_get (C := R_M) (T := F_M) (N := 19) (v := .ref (mo + 2)) hx hb hG la_M hown hK.1 hm rfl 2 (by decide) (hG _ fl_M_13) (fun _ h9 => h9) rfl d_M_many_56 ?_
      refine lv_iload_n hx hb d_M_many_59 rfl (lv_at hl 1 rfl) ?_
      refine hp_iald hx hb hK.1 0 hsz rfl d_M_many_60 (by omega) t (by omega) (by omega) ?_
      rw [hQ]
      refine hp_iretS hx hb hrt hlocks d_M_many_61 ?_
      rw [Int.toNat_natCast, if_pos (by omega)]
      rw [if_neg (by omega), if_pos (by omega)]
    · refine lv_tableIn (tgt := 62) hx hb d_M_many_12 (by rw [iI_toInt (by unfold iR at *; omega)]; omega) (by rw [iI_toInt (by unfold iR at *; omega)]; omega) (by rw [iI_toInt (by unfold iR at *; omega), c12]; rfl) (by decide) ?_
      refine lv_aload_n hx hb d_M_many_62 rfl (lv_at hl 0 rfl) ?_
      refine lv_iload_n hx hb d_M_many_63 rfl (lv_at hl 1 rfl) ?_
      refine hp_callS (W.runV (As := [.int (iI (t : Int))]) (rest := []) ⟨hx, hb, hml, hown, hG⟩ (c_M_signs l E mo th md fe ps w c g kz t (by omega) (by omega) hbd (fun j hj => (hok t (by omega) j hj).1)) (cwV 1 hG (hp_goodV ml_M_75 im_M_signs se_M_signs in_M co_M_signs) rfl rfl rfl hd_M_signs ⟨by rw [hRf]; exact Nat.le_of_ble_eq_true rfl, by rw [hRl]; exact Nat.le_of_ble_eq_true rfl⟩) (hp_preV (ci := 3) hp_nsn hK rfl hm ⟨hm, hsd, hsz, hwd, hkn⟩) rfl rfl hl.1 rfl (lv_room (Nat.le_of_ble_eq_true rfl)) d_M_many_64 ⟨by rw [hRc]; exact Nat.le_of_ble_eq_true rfl, by rw [hRs]; exact Nat.le_of_ble_eq_true rfl⟩) ?_
      rw [hQ]
      refine hp_iretS hx hb hrt hlocks d_M_many_67 ?_
      rw [Int.toNat_natCast, if_pos (by omega)]
      rw [if_neg (by omega), if_neg (by omega), if_pos (by omega)]
    · refine lv_tableIn (tgt := 68) hx hb d_M_many_12 (by rw [iI_toInt (by unfold iR at *; omega)]; omega) (by rw [iI_toInt (by unfold iR at *; omega)]; omega) (by rw [iI_toInt (by unfold iR at *; omega), c12]; rfl) (by decide) ?_
      refine lv_aload_n hx hb d_M_many_68 rfl (lv_at hl 0 rfl) ?_
      refine lv_iload_n hx hb d_M_many_69 rfl (lv_at hl 1 rfl) ?_
      refine hp_callS (W.runV (As := [.int (iI (t : Int))]) (rest := []) ⟨hx, hb, hml, hown, hG⟩ (c_M_rounds l E mo th md fe ps w c g kz t (by omega) (by omega) hbd (hok t (by omega))) (cwV 1 hG (hp_goodV ml_M_78 im_M_rounds se_M_rounds in_M co_M_rounds) rfl rfl rfl hd_M_rounds ⟨by rw [hRf]; exact Nat.le_of_ble_eq_true rfl, by rw [hRl]; exact Nat.le_of_ble_eq_true rfl⟩) (hp_preV (ci := 3) hp_nsn hK rfl hm ⟨hm, hsd, hsz, hwd, hkn⟩) rfl rfl hl.1 rfl (lv_room (Nat.le_of_ble_eq_true rfl)) d_M_many_70 ⟨by rw [hRc]; exact Nat.le_of_ble_eq_true rfl, by rw [hRs]; exact Nat.le_of_ble_eq_true rfl⟩) ?_
      rw [hQ]
      refine hp_iretS hx hb hrt hlocks d_M_many_73 ?_
      rw [Int.toNat_natCast, if_pos (by omega)]
      rw [if_neg (by omega), if_neg (by omega), if_neg (by omega), if_pos (by omega)]
    · refine lv_tableIn (tgt := 74) hx hb d_M_many_12 (by rw [iI_toInt (by unfold iR at *; omega)]; omega) (by rw [iI_toInt (by unfold iR at *; omega)]; omega) (by rw [iI_toInt (by unfold iR at *; omega), c12]; rfl) (by decide) ?_
      refine lv_aload_n hx hb d_M_many_74 rfl (lv_at hl 0 rfl) ?_
      refine lv_iload_n hx hb d_M_many_75 rfl (lv_at hl 1 rfl) ?_
      refine hp_callS (W.runV (As := [.int (iI (t : Int))]) (rest := []) ⟨hx, hb, hml, hown, hG⟩ (c_M_untouched l E mo th md fe ps w c g kz t (by omega) (by omega) hbd) (cwV 1 hG (hp_goodV ml_M_81 im_M_untouched se_M_untouched in_M co_M_untouched) rfl rfl rfl hd_M_untouched ⟨by rw [hRf]; exact Nat.le_of_ble_eq_true rfl, by rw [hRl]; exact Nat.le_of_ble_eq_true rfl⟩) (hp_preV (ci := 3) hp_nsn hK rfl hm ⟨hm, hsd, hsz, hwd, hkn⟩) rfl rfl hl.1 rfl (lv_room (Nat.le_of_ble_eq_true rfl)) d_M_many_76 ⟨by rw [hRc]; exact Nat.le_of_ble_eq_true rfl, by rw [hRs]; exact Nat.le_of_ble_eq_true rfl⟩) ?_
      rw [hQ]
      refine hp_iretS hx hb hrt hlocks d_M_many_79 ?_
      rw [Int.toNat_natCast, if_pos (by omega)]
      rw [if_neg (by omega), if_neg (by omega), if_neg (by omega), if_neg (by omega), if_pos (by omega)]
  · skip
    have c4 := of_decide_eq_false c4
    refine hp_sipush (z := (-1000)) hx hb d_M_many_7 (by rfl) ?_
    rw [hQ]
    refine hp_iretS hx hb hrt hlocks d_M_many_10 ?_
    rw [if_neg (by omega)]
