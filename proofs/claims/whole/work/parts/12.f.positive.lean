theorem gs_si_v {w v p : Nat} (hv1 : 1 ≤ v) (hv2 : v < w) (h1 : 1 ≤ p) (h2 : p ≤ w) : (gs_si w v true).1 p = if w + 1 - p = v then v + 1 else if w + 1 - p = v + 1 then v else w + 1 - p := by
  show gs_tn w (gs_sw (w - v) p) = _
  have e := gs_tn_sw (n := w) (i := w - v) (by omega) (by omega) p
  rw [show w - (w - v) = v by omega] at e
  rw [← e, gs_tn_in h1 h2]
  rfl
theorem po_h_mi {po po2 : Nat → Int} {w : Nat} {Y : List Nat} (h : po_h po Y) (hY : rz_in w Y) (h2 : ∀ j, j < Y.length → po2 j = (w : Int) - po j) : po_h po2 (gs_mi w Y) := fun i hi => by
  have hl : (gs_mi w Y).length = Y.length := by simp [gs_mi]
  rw [hl] at hi
  rw [h2 i hi, h i hi]
  have hm := hY (Y[i]) (List.getElem_mem hi)
  have e1 : Y.getD i 0 = Y[i] := by simp [List.getD_eq_getElem?_getD, hi]
  have e2 : (gs_mi w Y).getD i 0 = w - Y[i] := by simp [gs_mi, List.getD_eq_getElem?_getD, hi]
  rw [e1, e2]
  omega
theorem gs_mi_len (w : Nat) (Y : List Nat) : (gs_mi w Y).length = Y.length := by simp [gs_mi]

set_option maxHeartbeats 4000000 in
set_option maxRecDepth 100000 in
/-- makePositive(s) -/
theorem c_M_makePositive (l : Launch) (E : hp_E) (mo : Nat) (th md fe ps : Int) (w c : Nat → Nat) (g : Nat → Int) (kz : Nat → Bool) (po ta tu : Nat → Int) (t : Nat) (ht : t < 4) (hct : 1 ≤ w t ∧ w t ≤ 8 ∧ c t ≤ 32) (hbd : bd g) (hok : okw (w t) (c t) (gw g t)) : Met l y_M_makePositive (Cond.code y_M_makePositive b_M_makePositive 7 (none) :: G0) ({ frames := 1, cells := 0, slots := 0, locals := 24 }) (hp_P E [.ref mo, .int (iI (t : Int))] (fun H => mW E H mo th md fe ps w c g kz ∧ ca E H (mo + 7) (ai E 4096 po) ∧ ca E H (mo + 8) (ai E 9 ta) ∧ ca E H (mo + 11) (ai E 4 tu))) (hp_Qv (fun q => q = mo ∨ q = mo + 7 ∨ q = mo + 8 ∨ q = mo + 11) (fun H => ∃ (Y : List Nat) (po1 ta1 : Nat → Int), gs_ws (w t) (bn_X (w t) (c t) (gw g t)) (c t) Y ∧ po_h po1 Y ∧ mW E H mo th md fe ((Y.length : Nat) : Int) w c g kz ∧ ca E H (mo + 7) (ai E 4096 po1) ∧ ca E H (mo + 8) (ai E 9 ta1) ∧ ca E H (mo + 11) (ai E 4 (hp_up tu t (-((bw_neg (gw g t) (c t) : Nat) : Int)))))) 0 0 (fun q => q = mo ∨ q = mo + 7 ∨ q = mo + 8 ∨ q = mo + 11) := by
  refine Met.ofW (cc := b_M_makePositive) (maxL := 7) (ret := none) (by decide) rfl ?_
  intro p e s m args below meth cd s₁ Bd hml hv
  obtain ⟨hargs, hB, hK⟩ := hv
  have hx := Bd.exec
  have hb := Bd.bytes
  have hrt := Bd.returns
  have hts := atoms_spec (ws := Cond.code y_M_makePositive b_M_makePositive 7 (none) :: G0) Bd.pre
  have hG : ∀ w ∈ G0, w.before args s = true := fun w h => hts w (List.mem_cons_of_mem _ h)
  have hown : s.vm.findClass R_M = some m.cls := findClass_of_methodNamed Bd.named
  have hlocks := Bd.notSynchronized
  have hl := lv_entry ([.ref mo, .int (iI (t : Int))]) (n := 7) (Nat.le_of_ble_eq_true rfl)
  rw [show entryFrame m args 7 = entryFrame m ([.ref mo, .int (iI (t : Int))] : List Value).toArray 7 from by rw [hargs]]
  rw [lg_entry_eq]
  generalize (lg_sl ([.ref mo, .int (iI (t : Int))]) ++ List.replicate (7 - (lg_sl ([.ref mo, .int (iI (t : Int))])).length) Slot.unset).toArray = ls at hl ⊢
  have hl : lv_has ls 7 [(0, .ref mo), (1, .int (iI (t : Int)))] := hl
  obtain ⟨R, hR⟩ : ∃ R, R = (headSpec (Cond.code y_M_makePositive b_M_makePositive 7 (none) :: G0) { frames := 1, cells := 0, slots := 0, locals := 24 }).room := ⟨_, rfl⟩
  rw [← hR]
  have hRf : R.frames = 1 := by rw [hR]; rfl
  have hRl : R.locals = 24 := by rw [hR]; rfl
  have hRc : R.cells = 0 := by rw [hR]; rfl
  have hRs : R.slots = 0 := by rw [hR]; rfl
  obtain ⟨Q, hQ⟩ : ∃ Q, Q = MQ below (hp_Qv (fun q => q = mo ∨ q = mo + 7 ∨ q = mo + 8 ∨ q = mo + 11) (fun H => ∃ (Y : List Nat) (po1 ta1 : Nat → Int), gs_ws (w t) (bn_X (w t) (c t) (gw g t)) (c t) Y ∧ po_h po1 Y ∧ mW E H mo th md fe ((Y.length : Nat) : Int) w c g kz ∧ ca E H (mo + 7) (ai E 4096 po1) ∧ ca E H (mo + 8) (ai E 9 ta1) ∧ ca E H (mo + 11) (ai E 4 (hp_up tu t (-((bw_neg (gw g t) (c t) : Nat) : Int)))))) args s 0 0 (fun q => q = mo ∨ q = mo + 7 ∨ q = mo + 8 ∨ q = mo + 11) := ⟨_, rfl⟩
  rw [← hQ]
  obtain ⟨H, hH⟩ : ∃ H, H = s.heap := ⟨_, rfl⟩
  obtain ⟨locs, hlocs⟩ : ∃ locs : List Loc, locs = [] := ⟨_, rfl⟩
  have hS : va_S (fun q => q = mo ∨ q = mo + 7 ∨ q = mo + 8 ∨ q = mo + 11) s.heap H locs := by rw [hH, hlocs]; exact va_S.rf
  have hZ : H.size = s.heap.size := by rw [hH]
  rw [← hH] at hB
  rw [show W p l e R s m args below meth cd s.heap [] 0 0 Q (F0 m 0 ls []) = W p l e R s m args below meth cd H locs 0 0 Q (F0 m 0 ls []) from by rw [hH, hlocs]]
  obtain ⟨⟨hm, hsd, hsz, hwd, hkn⟩, hpo, hta, htu⟩ := hB
  refine lv_aload_n hx hb d_M_makePositive_0 rfl (lv_at hl 0 rfl) ?_
  refine hp_get (C := R_M) (T := F_M) (N := 19) (v := .ref (mo + 1)) hx hb hG la_M hown hK.1 hm rfl 1 (by decide) (hG _ fl_M_7) (fun _ h9 => h9) rfl d_M_makePositive_1 ?_
  refine lv_iload_n hx hb d_M_makePositive_4 rfl (lv_at hl 1 rfl) ?_
  refine hp_iald hx hb hK.1 0 hsd rfl d_M_makePositive_5 (by omega) t (by omega) (by omega) ?_
  refine lv_istore_n (lv' := [(2, .int (iI ((w t : Nat) : Int))), (0, .ref mo), (1, .int (iI (t : Int)))]) hx hb d_M_makePositive_6 rfl hl (by decide) rfl (fun ls hl => ?_)
  refine lv_aload_n hx hb d_M_makePositive_7 rfl (lv_at hl 1 rfl) ?_
  refine hp_iconst (z := 0) hx hb d_M_makePositive_8 (by rfl) ?_
  refine hp_put (C := R_M) (T := F_M) (N := 19) (v := .int (iI 0)) (ty := .int) hx hb hG la_M t_M tk_M n_M hown hK.1 hm hS (by show _ ∨ _; omega) rfl 9 (by decide) (hG _ fl_M_105) (fun _ h9 => h9) rfl (by decide +kernel) rfl rfl (Nat.le_of_ble_eq_true rfl) d_M_makePositive_9 (fun H locs hmn hz1 ho1 hS => ?_)
  have hZ := hz1.trans hZ
  have hsd := hsd.keep (ho1 (mo + 1) (by omega))
  have hsz := hsz.keep (ho1 (mo + 2) (by omega))
  have hwd := hwd.keep (ho1 (mo + 3) (by omega))
  have hkn := hkn.keep (ho1 (mo + 10) (by omega))
  have hpo := hpo.keep (ho1 (mo + 7) (by omega))
  have hta := hta.keep (ho1 (mo + 8) (by omega))
  have htu := htu.keep (ho1 (mo + 11) (by omega))
  have hm : ca E H (mo) (.inr (3, [.int (iI th), .ref (mo + 1), .ref (mo + 2), .ref (mo + 3), .ref (mo + 4), .ref (mo + 5), .ref (mo + 6), .int (iI md), .int (iI fe), .int (iI 0), .ref (mo + 7), .ref (mo + 8), .ref (mo + 9), .ref (mo + 10), .ref (mo + 11), .ref (mo + 12), .ref (mo + 13), .ref (mo + 14), .ref (mo + 15)])) := hmn
  refine lv_aload_n hx hb d_M_makePositive_12 rfl (lv_at hl 1 rfl) ?_
  refine hp_get (C := R_M) (T := F_M) (N := 19) (v := .ref (mo + 11)) hx hb hG la_M hown hK.1 hm rfl 14 (by decide) (hG _ fl_M_41) (fun _ h9 => h9) rfl d_M_makePositive_13 ?_
  refine lv_iload_n hx hb d_M_makePositive_16 rfl (lv_at hl 2 rfl) ?_
  refine hp_iconst (z := 0) hx hb d_M_makePositive_17 (by rfl) ?_
  refine hp_iast hx hb hK.1 0 htu hS (by show _ ∨ _; omega) rfl d_M_makePositive_18 (by omega) t (by omega) (by omega) (fun H locs htun hz1 ho1 hS => ?_)
  have hZ := hz1.trans hZ
  have hm := hm.keep (ho1 (mo) (by omega))
  have hsd := hsd.keep (ho1 (mo + 1) (by omega))
  have hsz := hsz.keep (ho1 (mo + 2) (by omega))
  have hwd := hwd.keep (ho1 (mo + 3) (by omega))
  have hkn := hkn.keep (ho1 (mo + 10) (by omega))
  have hpo := hpo.keep (ho1 (mo + 7) (by omega))
  have hta := hta.keep (ho1 (mo + 8) (by omega))
  have htu : ca E H (mo + 11) (ai E 4 (hp_up tu t 0)) := htun
  refine hp_iconst (z := 0) hx hb d_M_makePositive_19 (by rfl) ?_
  refine lv_istore_n (lv' := [(3, .int (iI 0)), (2, .int (iI ((w t : Nat) : Int))), (0, .ref mo), (1, .int (iI (t : Int)))]) hx hb d_M_makePositive_20 rfl hl (by decide) rfl (fun ls hl => ?_)
  have L21 : ∀ (N : Nat) (k q : Nat) (z : Int) (Y : List Nat) (po1 ta1 : Nat → Int), c t - k < N → (k ≤ c t) → (q = Y.length) → (gs_ws (w t) (bn_X (w t) k (gw g t)) k Y) → (po_h po1 Y) → (z = -((bw_neg (gw g t) k : Nat) : Int)) → ∀ (H : Heap) (locs : List Loc), va_S (fun q => q = mo ∨ q = mo + 7 ∨ q = mo + 8 ∨ q = mo + 11) s.heap H locs → H.size = s.heap.size → ca E H mo (oM mo th md fe (q : Int)) → ca E H (mo + 1) (ai E 4 (fun k => (w k : Int))) → ca E H (mo + 2) (ai E 4 (fun k => (c k : Int))) → ca E H (mo + 3) (ai E 128 g) → ca E H (mo + 10) (hp_az (E.2 1) 4 kz) → ca E H (mo + 7) (ai E 4096 po1) → ca E H (mo + 8) (ai E 9 ta1) → ca E H (mo + 11) (ai E 4 (hp_up tu t z)) → ∀ ls : Array Slot, lv_has ls 7 [(0, .ref mo), (1, .int (iI (t : Int))), (2, .int (iI (w t : Int))), (3, .int (iI (k : Int)))] → W p l e R s m args below meth cd H locs 0 0 Q (F0 m 21 ls []) := by
    intro N
    induction N with
    | zero => intro k q z Y po1 ta1 hN; exact absurd hN (by omega)
    | succ N ih =>
      intro k q z Y po1 ta1 hN hk hq hws hpp hz H locs hS hZ hm hsd hsz hwd hkn hpo hta htu ls hl
      have ih21 := ih
      refine lv_iload_n hx hb d_M_makePositive_21 rfl (lv_at hl 3 rfl) ?_
      refine lv_aload_n hx hb d_M_makePositive_22 rfl (lv_at hl 0 rfl) ?_
      refine hp_get (C := R_M) (T := F_M) (N := 19) (v := .ref (mo + 2)) hx hb hG la_M hown hK.1 hm rfl 2 (by decide) (hG _ fl_M_13) (fun _ h9 => h9) rfl d_M_makePositive_23 ?_
      refine lv_iload_n hx hb d_M_makePositive_26 rfl (lv_at hl 1 rfl) ?_
      refine hp_iald hx hb hK.1 0 hsz rfl d_M_makePositive_27 (by omega) t (by omega) (by omega) ?_
      refine hp_icmp_ge (tgt := 185) hx hb d_M_makePositive_28 (by decide) (by unfold iR; omega) (by unfold iR; omega) (fun c28 => ?_) (fun c28 => ?_)
      · skip
        rw [hQ]
        refine hp_vretQ hx hb hrt hlocks d_M_makePositive_185 hS hZ ?_
        have ek : k = c t := by omega
        rw [ek] at hws hz
        rw [hz] at htu
        rw [hq] at hm
        exact ⟨Y, po1, ta1, hws, hpp, ⟨hm, hsd, hsz, hwd, hkn⟩, hpo, hta, htu⟩
      · skip
        have hlq := gs_ws_len hct.2.1 hws
        refine lv_aload_n hx hb d_M_makePositive_31 rfl (lv_at hl 0 rfl) ?_
        refine lv_iload_n hx hb d_M_makePositive_32 rfl (lv_at hl 1 rfl) ?_
        refine lv_iload_n hx hb d_M_makePositive_33 rfl (lv_at hl 3 rfl) ?_
        refine hp_callS (W.runV (As := [.int (iI (t : Int)), .int (iI (k : Int))]) (rest := []) ⟨hx, hb, hml, hown, hG⟩ (c_M_letterAt l E mo th md fe (q : Int) w c g kz t k (by omega)) (cwV 2 hG (hp_goodV ml_M_64 im_M_letterAt se_M_letterAt in_M co_M_letterAt) rfl rfl rfl hd_M_letterAt ⟨by rw [hRf]; exact Nat.le_of_ble_eq_true rfl, by rw [hRl]; exact Nat.le_of_ble_eq_true rfl⟩) (hp_preV (ci := 3) hp_nsn hK rfl hm ⟨hm, hsd, hsz, hwd, hkn⟩) rfl rfl hl.1 rfl (lv_room (Nat.le_of_ble_eq_true rfl)) d_M_makePositive_34 ⟨by rw [hRc]; exact Nat.le_of_ble_eq_true rfl, by rw [hRs]; exact Nat.le_of_ble_eq_true rfl⟩) ?_
        have hb1 := gw_bd hbd t k
        have ho1 := hok k (by omega)
        refine lv_istore (lv' := [(4, .int (iI (gw g t k))), (0, .ref mo), (1, .int (iI (t : Int))), (2, .int (iI (w t : Int))), (3, .int (iI (k : Int)))]) hx hb d_M_makePositive_37 hl (by decide) rfl (fun ls hl => ?_)
        refine lv_iload hx hb d_M_makePositive_39 (lv_at hl 0 rfl) ?_
        refine hp_if_le (tgt := 68) hx hb d_M_makePositive_41 (by decide) (by unfold iR; omega) (fun c41 => ?_) (fun c41 => ?_)
        · skip
          refine hp_iconst (z := 0) hx hb d_M_makePositive_68 (by rfl) ?_
          refine lv_istore (lv' := [(5, .int (iI 0)), (4, .int (iI (gw g t k))), (0, .ref mo), (1, .int (iI (t : Int))), (2, .int (iI (w t : Int))), (3, .int (iI (k : Int)))]) hx hb d_M_makePositive_69 hl (by decide) rfl (fun ls hl => ?_)
          have L71 : ∀ (N : Nat) (i : Nat) (po2 : Nat → Int), q - i < N → (i ≤ q) → (∀ j, j < i → po2 j = (w t : Int) - po1 j) → (∀ j, i ≤ j → po2 j = po1 j) → ∀ (H : Heap) (locs : List Loc), va_S (fun q => q = mo ∨ q = mo + 7 ∨ q = mo + 8 ∨ q = mo + 11) s.heap H locs → H.size = s.heap.size → ca E H mo (oM mo th md fe (q : Int)) → ca E H (mo + 1) (ai E 4 (fun k => (w k : Int))) → ca E H (mo + 2) (ai E 4 (fun k => (c k : Int))) → ca E H (mo + 3) (ai E 128 g) → ca E H (mo + 10) (hp_az (E.2 1) 4 kz) → ca E H (mo + 7) (ai E 4096 po2) → ca E H (mo + 8) (ai E 9 ta1) → ca E H (mo + 11) (ai E 4 (hp_up tu t z)) → ∀ ls : Array Slot, lv_has ls 7 [(0, .ref mo), (1, .int (iI (t : Int))), (2, .int (iI (w t : Int))), (3, .int (iI (k : Int))), (4, .int (iI (gw g t k))), (5, .int (iI (i : Int)))] → W p l e R s m args below meth cd H locs 0 0 Q (F0 m 71 ls []) := by
            intro N
            induction N with
            | zero => intro i po2 hN; exact absurd hN (by omega)
            | succ N ih =>
              intro i po2 hN hi hlo hhi H locs hS hZ hm hsd hsz hwd hkn hpo hta htu ls hl
              have ih71 := ih
              refine lv_iload hx hb d_M_makePositive_71 (lv_at hl 5 rfl) ?_
              refine lv_aload_n hx hb d_M_makePositive_73 rfl (lv_at hl 0 rfl) ?_
              refine hp_get (C := R_M) (T := F_M) (N := 19) (v := .int (iI (q : Int))) hx hb hG la_M hown hK.1 hm rfl 9 (by decide) (hG _ fl_M_105) (fun _ h9 => h9) rfl d_M_makePositive_74 ?_
              refine hp_icmp_ge (tgt := 102) hx hb d_M_makePositive_77 (by decide) (by unfold iR; omega) (by unfold iR; omega) (fun c77 => ?_) (fun c77 => ?_)
              · skip
                have ei : i = q := by omega
                rw [ei] at hlo
                have hpm : po_h po2 (gs_mi (w t) Y) := po_h_mi hpp (gs_ws_in hws) (fun j hj => hlo j (by omega))
                refine lv_aload_n hx hb d_M_makePositive_102 rfl (lv_at hl 0 rfl) ?_
                refine hp_get (C := R_M) (T := F_M) (N := 19) (v := .ref (mo + 11)) hx hb hG la_M hown hK.1 hm rfl 14 (by decide) (hG _ fl_M_41) (fun _ h9 => h9) rfl d_M_makePositive_103 ?_
                refine lv_iload_n hx hb d_M_makePositive_106 rfl (lv_at hl 1 rfl) ?_
                refine lv_dup2_11 hx hb d_M_makePositive_107 rfl rfl ?_
                refine hp_iald hx hb hK.1 0 htu rfl d_M_makePositive_108 (by omega) t (by omega) (by omega) ?_
                refine hp_iconst (z := 1) hx hb d_M_makePositive_109 (by rfl) ?_
                refine hp_isub hx hb d_M_makePositive_110 ?_
                refine hp_iast hx hb hK.1 0 htu hS (by show _ ∨ _; omega) rfl d_M_makePositive_111 (by omega) t (by omega) (by omega) (fun H locs htun hz1 ho1 hS => ?_)
                have hZ := hz1.trans hZ
                have hm := hm.keep (ho1 (mo) (by omega))
                have hsd := hsd.keep (ho1 (mo + 1) (by omega))
                have hsz := hsz.keep (ho1 (mo + 2) (by omega))
                have hwd := hwd.keep (ho1 (mo + 3) (by omega))
                have hkn := hkn.keep (ho1 (mo + 10) (by omega))
                have hpo := hpo.keep (ho1 (mo + 7) (by omega))
                have hta := hta.keep (ho1 (mo + 8) (by omega))
                have htu : ca E H (mo + 11) (ai E 4 (hp_up (hp_up tu t z) t (((hp_up tu t z) t) - 1))) := htun
                rw [hp_up_s, hp_up_up] at htu
                refine hp_iconst (z := 1) hx hb d_M_makePositive_112 (by rfl) ?_
                refine lv_istore (lv' := [(5, .int (iI 1)), (0, .ref mo), (1, .int (iI (t : Int))), (2, .int (iI (w t : Int))), (3, .int (iI (k : Int))), (4, .int (iI (gw g t k)))]) hx hb d_M_makePositive_113 hl (by decide) rfl (fun ls hl => ?_)
                have L115 : ∀ (N : Nat) (p9 : Nat) (ta2 : Nat → Int), w t + 2 - p9 < N → (1 ≤ p9 ∧ p9 ≤ w t + 1) → (∀ j : Nat, 1 ≤ j → j < p9 → ta2 j = (((gs_si (w t) (gw g t k).natAbs true).1 j : Nat) : Int)) → ∀ (H : Heap) (locs : List Loc), va_S (fun q => q = mo ∨ q = mo + 7 ∨ q = mo + 8 ∨ q = mo + 11) s.heap H locs → H.size = s.heap.size → ca E H mo (oM mo th md fe (q : Int)) → ca E H (mo + 1) (ai E 4 (fun k => (w k : Int))) → ca E H (mo + 2) (ai E 4 (fun k => (c k : Int))) → ca E H (mo + 3) (ai E 128 g) → ca E H (mo + 10) (hp_az (E.2 1) 4 kz) → ca E H (mo + 7) (ai E 4096 po2) → ca E H (mo + 8) (ai E 9 ta2) → ca E H (mo + 11) (ai E 4 (hp_up tu t (z - 1))) → ∀ ls : Array Slot, lv_has ls 7 [(0, .ref mo), (1, .int (iI (t : Int))), (2, .int (iI (w t : Int))), (3, .int (iI (k : Int))), (4, .int (iI (gw g t k))), (5, .int (iI (p9 : Int)))] → W p l e R s m args below meth cd H locs 0 0 Q (F0 m 115 ls []) := by
                  intro N
                  induction N with
                  | zero => intro p9 ta2 hN; exact absurd hN (by omega)
                  | succ N ih =>
                    intro p9 ta2 hN hp hts H locs hS hZ hm hsd hsz hwd hkn hpo hta htu ls hl
                    have ih115 := ih
                    refine lv_iload hx hb d_M_makePositive_115 (lv_at hl 5 rfl) ?_
                    refine lv_iload_n hx hb d_M_makePositive_117 rfl (lv_at hl 2 rfl) ?_
                    refine hp_icmp_gt (tgt := 174) hx hb d_M_makePositive_118 (by decide) (by unfold iR; omega) (by unfold iR; omega) (fun c118 => ?_) (fun c118 => ?_)
                    · skip
                      have hbn : bn_h (w t) ta2 (gs_si (w t) (gw g t k).natAbs true).1 := fun j h1 h2 => hts j h1 (by omega)
                      rw [show q = (gs_mi (w t) Y).length by rw [gs_mi_len]; exact hq] at hm
                      refine lv_aload_n hx hb d_M_makePositive_174 rfl (lv_at hl 0 rfl) ?_
                      refine lv_iload_n hx hb d_M_makePositive_175 rfl (lv_at hl 2 rfl) ?_
                      refine hp_callv (W.runV (As := [.int (iI (w t : Int))]) (rest := []) ⟨hx, hb, hml, hown, hG⟩ (c_M_writeSimple l E mo th md fe po2 ta2 (w t) (gs_mi (w t) Y) (gs_si (w t) (gw g t k).natAbs true) (gs_ok_si true (by omega) (by omega)) (by omega) hbn hpm (by rw [gs_mi_len]; omega)) (cwV 1 hG (hp_goodV ml_M_108 im_M_writeSimple se_M_writeSimple in_M co_M_writeSimple) rfl rfl rfl hd_M_writeSimple ⟨by rw [hRf]; exact Nat.le_of_ble_eq_true rfl, by rw [hRl]; exact Nat.le_of_ble_eq_true rfl⟩) (hp_preV (ci := 3) hp_nsn hK rfl hm ⟨hm, hpo, hta⟩) rfl rfl hl.1 rfl (lv_room (Nat.le_of_ble_eq_true rfl)) d_M_makePositive_176 ⟨by rw [hRc]; exact Nat.le_of_ble_eq_true rfl, by rw [hRs]; exact Nat.le_of_ble_eq_true rfl⟩) hS (fun q h => by have h : q = mo ∨ q = mo + 7 ∨ q = mo + 8 := h; show _ ∨ _; omega) (fun H locs hpost hz1 ho1 hS => ?_)
                      have hZ := hz1.trans hZ
                      obtain ⟨u, po3, ta3, hru, hwu, hiu, hul, hpp3, hm, hpo, hta⟩ := hpost
                      have hsd := hsd.keep (ho1 (mo + 1) (by omega))
                      have hsz := hsz.keep (ho1 (mo + 2) (by omega))
                      have hwd := hwd.keep (ho1 (mo + 3) (by omega))
                      have hkn := hkn.keep (ho1 (mo + 10) (by omega))
                      have htu := htu.keep (ho1 (mo + 11) (by omega))
                      refine hp_iinc (z := ((k : Int) + 1)) (lv' := [(3, .int (iI ((k : Int) + 1))), (0, .ref mo), (1, .int (iI (t : Int))), (2, .int (iI (w t : Int))), (4, .int (iI (gw g t k))), (5, .int (iI (p9 : Int)))]) hx hb d_M_makePositive_179 hl (k := 3) rfl (by omega) (by decide) rfl (fun ls hl => ?_)
                      refine lv_goto (tgt := 21) hx hb d_M_makePositive_182 (by decide) ?_
                      exact ih21  (k + 1) ((gs_mi (w t) Y ++ u).length) (z - 1) (gs_mi (w t) Y ++ u) po3 ta3 (by omega) (by omega) (by first | rfl | (rw [hq]; simp)) (by first | exact gs_ws_pos (rz_in_cons (by omega) (fun _ h9 => by simp at h9)) (by omega) hws | exact gs_ws_neg (fun j hj => hok j (by omega)) (by omega) hws hiu hru hwu) (by first | exact hpp3 | exact po_h_s hpp hq) (by rw [hz]; simp only [bw_neg]; first | (rw [if_pos (by omega)]; omega) | (rw [if_neg (by omega)]; omega)) H locs hS hZ hm hsd hsz hwd hkn hpo hta htu ls (lv_sub hl [1, 2, 3, 0] rfl)
                    · skip
                      refine lv_iload_n hx hb d_M_makePositive_121 rfl (lv_at hl 2 rfl) ?_
                      refine hp_iconst (z := 1) hx hb d_M_makePositive_122 (by rfl) ?_
                      refine hp_iadd hx hb d_M_makePositive_123 ?_
                      refine lv_iload hx hb d_M_makePositive_124 (lv_at hl 5 rfl) ?_
                      refine hp_isub hx hb d_M_makePositive_126 ?_
                      refine lv_istore (lv' := [(6, .int (iI (((w t : Int) + 1) - (p9 : Int)))), (0, .ref mo), (1, .int (iI (t : Int))), (2, .int (iI (w t : Int))), (3, .int (iI (k : Int))), (4, .int (iI (gw g t k))), (5, .int (iI (p9 : Int)))]) hx hb d_M_makePositive_127 hl (by decide) rfl (fun ls hl => ?_)
                      refine lv_aload_n hx hb d_M_makePositive_129 rfl (lv_at hl 1 rfl) ?_
                      refine hp_get (C := R_M) (T := F_M) (N := 19) (v := .ref (mo + 8)) hx hb hG la_M hown hK.1 hm rfl 11 (by decide) (hG _ fl_M_31) (fun _ h9 => h9) rfl d_M_makePositive_130 ?_
                      refine lv_iload hx hb d_M_makePositive_133 (lv_at hl 6 rfl) ?_
                      refine lv_iload hx hb d_M_makePositive_135 (lv_at hl 0 rfl) ?_
                      refine lv_iload hx hb d_M_makePositive_137 (lv_at hl 5 rfl) ?_
                      refine hp_ineg hx hb d_M_makePositive_139 ?_
                      refine hp_icmp_ne (tgt := 150) hx hb d_M_makePositive_140 (by decide) (by unfold iR; omega) (by unfold iR; omega) (fun c140 => ?_) (fun c140 => ?_)
                      · skip
                        refine lv_iload hx hb d_M_makePositive_150 (lv_at hl 0 rfl) ?_
                        refine hp_iconst (z := 1) hx hb d_M_makePositive_152 (by rfl) ?_
                        refine lv_iload hx hb d_M_makePositive_153 (lv_at hl 5 rfl) ?_
                        refine hp_isub hx hb d_M_makePositive_155 ?_
                        refine hp_icmp_ne (tgt := 165) hx hb d_M_makePositive_156 (by decide) (by unfold iR; omega) (by unfold iR; omega) (fun c156 => ?_) (fun c156 => ?_)
                        · skip
                          refine lv_iload hx hb d_M_makePositive_165 (lv_at hl 0 rfl) ?_
                          refine hp_iast hx hb hK.1 0 hta hS (by show _ ∨ _; omega) rfl d_M_makePositive_167 (by omega) p9 (by omega) (by omega) (fun H locs htan hz1 ho1 hS => ?_)
                          have hZ := hz1.trans hZ
                          have hm := hm.keep (ho1 (mo) (by omega))
                          have hsd := hsd.keep (ho1 (mo + 1) (by omega))
                          have hsz := hsz.keep (ho1 (mo + 2) (by omega))
                          have hwd := hwd.keep (ho1 (mo + 3) (by omega))
                          have hkn := hkn.keep (ho1 (mo + 10) (by omega))
                          have hpo := hpo.keep (ho1 (mo + 7) (by omega))
                          have htu := htu.keep (ho1 (mo + 11) (by omega))
                          have hta : ca E H (mo + 8) (ai E 9 (hp_up ta2 p9 (((w t : Int) + 1) - (p9 : Int)))) := htan
                          refine hp_iinc (z := ((p9 : Int) + 1)) (lv' := [(5, .int (iI ((p9 : Int) + 1))), (6, .int (iI (((w t : Int) + 1) - (p9 : Int)))), (0, .ref mo), (1, .int (iI (t : Int))), (2, .int (iI (w t : Int))), (3, .int (iI (k : Int))), (4, .int (iI (gw g t k)))]) hx hb d_M_makePositive_168 hl (k := 6) rfl (by omega) (by decide) rfl (fun ls hl => ?_)
                          refine lv_goto (tgt := 115) hx hb d_M_makePositive_171 (by decide) ?_
                          exact ih115  (p9 + 1) (hp_up ta2 p9 (((w t : Int) + 1) - (p9 : Int))) (by omega) (by omega) (by intro j h1 h2; by_cases e9 : j = p9; (rw [e9, hp_up_s, gs_si_v (by omega) (by omega) (by omega) (by omega)]; split <;> (try split) <;> omega); (rw [hp_up_n _ _ e9]; exact hts j h1 (by omega))) H locs hS hZ hm hsd hsz hwd hkn hpo hta htu ls (lv_sub hl [2, 3, 4, 5, 6, 0] rfl)
                        · skip
                          refine lv_iload hx hb d_M_makePositive_159 (lv_at hl 5 rfl) ?_
                          refine hp_ineg hx hb d_M_makePositive_161 ?_
                          refine lv_goto (tgt := 167) hx hb d_M_makePositive_162 (by decide) ?_
                          refine hp_iast hx hb hK.1 0 hta hS (by show _ ∨ _; omega) rfl d_M_makePositive_167 (by omega) p9 (by omega) (by omega) (fun H locs htan hz1 ho1 hS => ?_)
                          have hZ := hz1.trans hZ
                          have hm := hm.keep (ho1 (mo) (by omega))
                          have hsd := hsd.keep (ho1 (mo + 1) (by omega))
                          have hsz := hsz.keep (ho1 (mo + 2) (by omega))
                          have hwd := hwd.keep (ho1 (mo + 3) (by omega))
                          have hkn := hkn.keep (ho1 (mo + 10) (by omega))
                          have hpo := hpo.keep (ho1 (mo + 7) (by omega))
                          have htu := htu.keep (ho1 (mo + 11) (by omega))
                          have hta : ca E H (mo + 8) (ai E 9 (hp_up ta2 p9 (-(gw g t k)))) := htan
                          refine hp_iinc (z := ((p9 : Int) + 1)) (lv' := [(5, .int (iI ((p9 : Int) + 1))), (6, .int (iI (((w t : Int) + 1) - (p9 : Int)))), (0, .ref mo), (1, .int (iI (t : Int))), (2, .int (iI (w t : Int))), (3, .int (iI (k : Int))), (4, .int (iI (gw g t k)))]) hx hb d_M_makePositive_168 hl (k := 6) rfl (by omega) (by decide) rfl (fun ls hl => ?_)
                          refine lv_goto (tgt := 115) hx hb d_M_makePositive_171 (by decide) ?_
                          exact ih115  (p9 + 1) (hp_up ta2 p9 (-(gw g t k))) (by omega) (by omega) (by intro j h1 h2; by_cases e9 : j = p9; (rw [e9, hp_up_s, gs_si_v (by omega) (by omega) (by omega) (by omega)]; split <;> (try split) <;> omega); (rw [hp_up_n _ _ e9]; exact hts j h1 (by omega))) H locs hS hZ hm hsd hsz hwd hkn hpo hta htu ls (lv_sub hl [2, 3, 4, 5, 6, 0] rfl)
                      · skip
                        refine hp_iconst (z := 1) hx hb d_M_makePositive_143 (by rfl) ?_
                        refine lv_iload hx hb d_M_makePositive_144 (lv_at hl 5 rfl) ?_
                        refine hp_isub hx hb d_M_makePositive_146 ?_
                        refine lv_goto (tgt := 167) hx hb d_M_makePositive_147 (by decide) ?_
                        refine hp_iast hx hb hK.1 0 hta hS (by show _ ∨ _; omega) rfl d_M_makePositive_167 (by omega) p9 (by omega) (by omega) (fun H locs htan hz1 ho1 hS => ?_)
                        have hZ := hz1.trans hZ
                        have hm := hm.keep (ho1 (mo) (by omega))
                        have hsd := hsd.keep (ho1 (mo + 1) (by omega))
                        have hsz := hsz.keep (ho1 (mo + 2) (by omega))
                        have hwd := hwd.keep (ho1 (mo + 3) (by omega))
                        have hkn := hkn.keep (ho1 (mo + 10) (by omega))
                        have hpo := hpo.keep (ho1 (mo + 7) (by omega))
                        have htu := htu.keep (ho1 (mo + 11) (by omega))
                        have hta : ca E H (mo + 8) (ai E 9 (hp_up ta2 p9 (1 - (gw g t k)))) := htan
                        refine hp_iinc (z := ((p9 : Int) + 1)) (lv' := [(5, .int (iI ((p9 : Int) + 1))), (6, .int (iI (((w t : Int) + 1) - (p9 : Int)))), (0, .ref mo), (1, .int (iI (t : Int))), (2, .int (iI (w t : Int))), (3, .int (iI (k : Int))), (4, .int (iI (gw g t k)))]) hx hb d_M_makePositive_168 hl (k := 6) rfl (by omega) (by decide) rfl (fun ls hl => ?_)
                        refine lv_goto (tgt := 115) hx hb d_M_makePositive_171 (by decide) ?_
                        exact ih115  (p9 + 1) (hp_up ta2 p9 (1 - (gw g t k))) (by omega) (by omega) (by intro j h1 h2; by_cases e9 : j = p9; (rw [e9, hp_up_s, gs_si_v (by omega) (by omega) (by omega) (by omega)]; split <;> (try split) <;> omega); (rw [hp_up_n _ _ e9]; exact hts j h1 (by omega))) H locs hS hZ hm hsd hsz hwd hkn hpo hta htu ls (lv_sub hl [2, 3, 4, 5, 6, 0] rfl)
                exact L115 (w t + 2 - 1 + 1) 1 ta1 (by omega) (by omega) (by intro j h1 h2; omega) H locs hS hZ hm hsd hsz hwd hkn hpo hta htu ls (lv_sub hl [1, 2, 3, 4, 5, 0] rfl)
              · skip
                refine lv_aload_n hx hb d_M_makePositive_80 rfl (lv_at hl 0 rfl) ?_
                refine hp_get (C := R_M) (T := F_M) (N := 19) (v := .ref (mo + 7)) hx hb hG la_M hown hK.1 hm rfl 10 (by decide) (hG _ fl_M_28) (fun _ h9 => h9) rfl d_M_makePositive_81 ?_
                refine lv_iload hx hb d_M_makePositive_84 (lv_at hl 5 rfl) ?_
                refine lv_iload_n hx hb d_M_makePositive_86 rfl (lv_at hl 2 rfl) ?_
                refine lv_aload_n hx hb d_M_makePositive_87 rfl (lv_at hl 0 rfl) ?_
                refine hp_get (C := R_M) (T := F_M) (N := 19) (v := .ref (mo + 7)) hx hb hG la_M hown hK.1 hm rfl 10 (by decide) (hG _ fl_M_28) (fun _ h9 => h9) rfl d_M_makePositive_88 ?_
                refine lv_iload hx hb d_M_makePositive_91 (lv_at hl 5 rfl) ?_
                refine hp_iald hx hb hK.1 0 hpo rfl d_M_makePositive_93 (by omega) i (by omega) (by omega) ?_
                refine hp_isub hx hb d_M_makePositive_94 ?_
                refine hp_iast hx hb hK.1 0 hpo hS (by show _ ∨ _; omega) rfl d_M_makePositive_95 (by omega) i (by omega) (by omega) (fun H locs hpon hz1 ho1 hS => ?_)
                have hZ := hz1.trans hZ
                have hm := hm.keep (ho1 (mo) (by omega))
                have hsd := hsd.keep (ho1 (mo + 1) (by omega))
                have hsz := hsz.keep (ho1 (mo + 2) (by omega))
                have hwd := hwd.keep (ho1 (mo + 3) (by omega))
                have hkn := hkn.keep (ho1 (mo + 10) (by omega))
                have hta := hta.keep (ho1 (mo + 8) (by omega))
                have htu := htu.keep (ho1 (mo + 11) (by omega))
                have hpo : ca E H (mo + 7) (ai E 4096 (hp_up po2 i ((w t : Int) - (po2 i)))) := hpon
                refine hp_iinc (z := ((i : Int) + 1)) (lv' := [(5, .int (iI ((i : Int) + 1))), (0, .ref mo), (1, .int (iI (t : Int))), (2, .int (iI (w t : Int))), (3, .int (iI (k : Int))), (4, .int (iI (gw g t k)))]) hx hb d_M_makePositive_96 hl (k := 5) rfl (by omega) (by decide) rfl (fun ls hl => ?_)
                refine lv_goto (tgt := 71) hx hb d_M_makePositive_99 (by decide) ?_
                exact ih71  (i + 1) (hp_up po2 i ((w t : Int) - (po2 i))) (by omega) (by omega) (by intro j h9; by_cases e9 : j = i; (rw [e9, hp_up_s, hhi i (by omega)]); (rw [hp_up_n _ _ e9]; exact hlo j (by omega))) (by intro j h9; rw [hp_up_n _ _ (by omega)]; exact hhi j (by omega)) H locs hS hZ hm hsd hsz hwd hkn hpo hta htu ls (lv_sub hl [1, 2, 3, 4, 5, 0] rfl)
          exact L71 (q - 0 + 1) 0 po1 (by omega) (by omega) (by intro j h; omega) (by intro j _; rfl) H locs hS hZ hm hsd hsz hwd hkn hpo hta htu ls (lv_sub hl [2, 3, 4, 5, 1, 0] rfl)
        · skip
          refine lv_aload_n hx hb d_M_makePositive_44 rfl (lv_at hl 1 rfl) ?_
          refine hp_get (C := R_M) (T := F_M) (N := 19) (v := .ref (mo + 7)) hx hb hG la_M hown hK.1 hm rfl 10 (by decide) (hG _ fl_M_28) (fun _ h9 => h9) rfl d_M_makePositive_45 ?_
          refine lv_aload_n hx hb d_M_makePositive_48 rfl (lv_at hl 1 rfl) ?_
          refine hp_get (C := R_M) (T := F_M) (N := 19) (v := .int (iI (q : Int))) hx hb hG la_M hown hK.1 hm rfl 9 (by decide) (hG _ fl_M_105) (fun _ h9 => h9) rfl d_M_makePositive_49 ?_
          refine lv_iload hx hb d_M_makePositive_52 (lv_at hl 0 rfl) ?_
          refine hp_iast hx hb hK.1 0 hpo hS (by show _ ∨ _; omega) rfl d_M_makePositive_54 (by omega) q (by omega) (by omega) (fun H locs hpon hz1 ho1 hS => ?_)
          have hZ := hz1.trans hZ
          have hm := hm.keep (ho1 (mo) (by omega))
          have hsd := hsd.keep (ho1 (mo + 1) (by omega))
          have hsz := hsz.keep (ho1 (mo + 2) (by omega))
          have hwd := hwd.keep (ho1 (mo + 3) (by omega))
          have hkn := hkn.keep (ho1 (mo + 10) (by omega))
          have hta := hta.keep (ho1 (mo + 8) (by omega))
          have htu := htu.keep (ho1 (mo + 11) (by omega))
          have hpo : ca E H (mo + 7) (ai E 4096 (hp_up po1 q (gw g t k))) := hpon
          refine lv_aload_n hx hb d_M_makePositive_55 rfl (lv_at hl 1 rfl) ?_
          refine lv_dup hx hb d_M_makePositive_56 rfl ?_
          refine hp_get (C := R_M) (T := F_M) (N := 19) (v := .int (iI (q : Int))) hx hb hG la_M hown hK.1 hm rfl 9 (by decide) (hG _ fl_M_105) (fun _ h9 => h9) rfl d_M_makePositive_57 ?_
          refine hp_iconst (z := 1) hx hb d_M_makePositive_60 (by rfl) ?_
          refine hp_iadd hx hb d_M_makePositive_61 ?_
          refine hp_put (C := R_M) (T := F_M) (N := 19) (v := .int (iI ((q : Int) + 1))) (ty := .int) hx hb hG la_M t_M tk_M n_M hown hK.1 hm hS (by show _ ∨ _; omega) rfl 9 (by decide) (hG _ fl_M_105) (fun _ h9 => h9) rfl (by decide +kernel) rfl rfl (Nat.le_of_ble_eq_true rfl) d_M_makePositive_62 (fun H locs hmn hz1 ho1 hS => ?_)
          have hZ := hz1.trans hZ
          have hsd := hsd.keep (ho1 (mo + 1) (by omega))
          have hsz := hsz.keep (ho1 (mo + 2) (by omega))
          have hwd := hwd.keep (ho1 (mo + 3) (by omega))
          have hkn := hkn.keep (ho1 (mo + 10) (by omega))
          have hpo := hpo.keep (ho1 (mo + 7) (by omega))
          have hta := hta.keep (ho1 (mo + 8) (by omega))
          have htu := htu.keep (ho1 (mo + 11) (by omega))
          have hm : ca E H (mo) (.inr (3, [.int (iI th), .ref (mo + 1), .ref (mo + 2), .ref (mo + 3), .ref (mo + 4), .ref (mo + 5), .ref (mo + 6), .int (iI md), .int (iI fe), .int (iI ((q : Int) + 1)), .ref (mo + 7), .ref (mo + 8), .ref (mo + 9), .ref (mo + 10), .ref (mo + 11), .ref (mo + 12), .ref (mo + 13), .ref (mo + 14), .ref (mo + 15)])) := hmn
          rw [show (gw g t k : Int) = (((gw g t k).toNat : Nat) : Int) from by omega] at hpo
          refine lv_goto (tgt := 179) hx hb d_M_makePositive_65 (by decide) ?_
          refine hp_iinc (z := ((k : Int) + 1)) (lv' := [(3, .int (iI ((k : Int) + 1))), (4, .int (iI (gw g t k))), (0, .ref mo), (1, .int (iI (t : Int))), (2, .int (iI (w t : Int)))]) hx hb d_M_makePositive_179 hl (k := 4) rfl (by omega) (by decide) rfl (fun ls hl => ?_)
          refine lv_goto (tgt := 21) hx hb d_M_makePositive_182 (by decide) ?_
          exact ih21  (k + 1) (q + 1) z (Y ++ [(gw g t k).toNat]) (hp_up po1 q (((gw g t k).toNat : Nat) : Int)) ta1 (by omega) (by omega) (by first | rfl | (rw [hq]; simp)) (by first | exact gs_ws_pos (rz_in_cons (by omega) (fun _ h9 => by simp at h9)) (by omega) hws | exact gs_ws_neg (fun j hj => hok j (by omega)) (by omega) hws hiu hru hwu) (by first | exact hpp3 | exact po_h_s hpp hq) (by rw [hz]; simp only [bw_neg]; first | (rw [if_pos (by omega)]; omega) | (rw [if_neg (by omega)]; omega)) H locs hS hZ hm hsd hsz hwd hkn hpo hta htu ls (lv_sub hl [2, 3, 4, 0] rfl)
  exact L21 (c t - 0 + 1) 0 0 0 ([]) po ta (by omega) (by omega) (by rfl) (by rfl) (by exact po_h_0 _) (by rfl) H locs hS hZ hm hsd hsz hwd hkn hpo hta htu ls (lv_sub hl [2, 3, 1, 0] rfl)
