/-! An array that holds a word from its first place on -/
def po_h (po : Nat → Int) (Y : List Nat) : Prop := ∀ i, i < Y.length → po i = ((Y.getD i 0 : Nat) : Int)
theorem po_h_0 (po : Nat → Int) : po_h po [] := fun i h => by simp at h
theorem po_h_s {po : Nat → Int} {Y : List Nat} {x : Nat} {q : Nat} (h : po_h po Y) (hq : q = Y.length) : po_h (hp_up po q (x : Int)) (Y ++ [x]) := fun i hi => by
  simp only [List.length_append, List.length_cons, List.length_nil] at hi
  by_cases e : i = q
  · rw [e, hp_up_s, hq]
    simp
  · rw [hp_up_n _ _ e, h i (by omega)]
    congr 1
    simp only [List.getD_eq_getElem?_getD]
    rw [List.getElem?_append_left (by omega)]
theorem po_h_pre {po : Nat → Int} {Y u : List Nat} (h : po_h po (Y ++ u)) : po_h po Y := fun i hi => by
  rw [h i (by simp; omega)]
  congr 1
  simp only [List.getD_eq_getElem?_getD]
  rw [List.getElem?_append_left hi]
theorem po_h_mem {po : Nat → Int} {Y : List Nat} (h : po_h po Y) {i : Nat} (hi : i < Y.length) : ∃ y, y ∈ Y ∧ po i = (y : Int) := ⟨Y[i], List.getElem_mem hi, by rw [h i hi]; simp [List.getD_eq_getElem?_getD, hi]⟩

set_option maxHeartbeats 4000000 in
set_option maxRecDepth 100000 in
/-- writeSimple(n) -/
theorem c_M_writeSimple (l : Launch) (E : hp_E) (mo : Nat) (th md fe : Int) (po ta : Nat → Int) (n : Nat) (Y : List Nat) (S0 : gs_P) (hS0 : gs_ok n S0) (hn : 1 ≤ n ∧ n ≤ 8) (hta0 : bn_h n ta S0.1) (hpo0 : po_h po Y) (hY : Y.length ≤ 1000) : Met l y_M_writeSimple (Cond.code y_M_writeSimple b_M_writeSimple 5 (none) :: G0) ({ frames := 0, cells := 0, slots := 0, locals := 0 }) (hp_P E [.ref mo, .int (iI (n : Int))] (fun H => ca E H mo (oM mo th md fe ((Y.length : Nat) : Int)) ∧ ca E H (mo + 7) (ai E 4096 po) ∧ ca E H (mo + 8) (ai E 9 ta))) (hp_Qv (fun q => q = mo ∨ q = mo + 7 ∨ q = mo + 8) (fun H => ∃ (u : List Nat) (po1 ta1 : Nat → Int), gs_r u ∧ gs_w u = S0 ∧ rz_in n u ∧ u.length ≤ 28 ∧ po_h po1 (Y ++ u) ∧ ca E H mo (oM mo th md fe (((Y ++ u).length : Nat) : Int)) ∧ ca E H (mo + 7) (ai E 4096 po1) ∧ ca E H (mo + 8) (ai E 9 ta1))) 0 0 (fun q => q = mo ∨ q = mo + 7 ∨ q = mo + 8) := by
  refine Met.ofW (cc := b_M_writeSimple) (maxL := 5) (ret := none) (by decide) rfl ?_
  intro p e s m args below meth cd s₁ Bd hml hv
  obtain ⟨hargs, hB, hK⟩ := hv
  have hx := Bd.exec
  have hb := Bd.bytes
  have hrt := Bd.returns
  have hts := atoms_spec (ws := Cond.code y_M_writeSimple b_M_writeSimple 5 (none) :: G0) Bd.pre
  have hG : ∀ w ∈ G0, w.before args s = true := fun w h => hts w (List.mem_cons_of_mem _ h)
  have hown : s.vm.findClass R_M = some m.cls := findClass_of_methodNamed Bd.named
  have hlocks := Bd.notSynchronized
  have hl := lv_entry ([.ref mo, .int (iI (n : Int))]) (n := 5) (Nat.le_of_ble_eq_true rfl)
  rw [show entryFrame m args 5 = entryFrame m ([.ref mo, .int (iI (n : Int))] : List Value).toArray 5 from by rw [hargs]]
  rw [lg_entry_eq]
  generalize (lg_sl ([.ref mo, .int (iI (n : Int))]) ++ List.replicate (5 - (lg_sl ([.ref mo, .int (iI (n : Int))])).length) Slot.unset).toArray = ls at hl ⊢
  have hl : lv_has ls 5 [(0, .ref mo), (1, .int (iI (n : Int)))] := hl
  obtain ⟨R, hR⟩ : ∃ R, R = (headSpec (Cond.code y_M_writeSimple b_M_writeSimple 5 (none) :: G0) { frames := 0, cells := 0, slots := 0, locals := 0 }).room := ⟨_, rfl⟩
  rw [← hR]
  have hRf : R.frames = 0 := by rw [hR]; rfl
  have hRl : R.locals = 0 := by rw [hR]; rfl
  have hRc : R.cells = 0 := by rw [hR]; rfl
  have hRs : R.slots = 0 := by rw [hR]; rfl
  obtain ⟨Q, hQ⟩ : ∃ Q, Q = MQ below (hp_Qv (fun q => q = mo ∨ q = mo + 7 ∨ q = mo + 8) (fun H => ∃ (u : List Nat) (po1 ta1 : Nat → Int), gs_r u ∧ gs_w u = S0 ∧ rz_in n u ∧ u.length ≤ 28 ∧ po_h po1 (Y ++ u) ∧ ca E H mo (oM mo th md fe (((Y ++ u).length : Nat) : Int)) ∧ ca E H (mo + 7) (ai E 4096 po1) ∧ ca E H (mo + 8) (ai E 9 ta1))) args s 0 0 (fun q => q = mo ∨ q = mo + 7 ∨ q = mo + 8) := ⟨_, rfl⟩
  rw [← hQ]
  obtain ⟨H, hH⟩ : ∃ H, H = s.heap := ⟨_, rfl⟩
  obtain ⟨locs, hlocs⟩ : ∃ locs : List Loc, locs = [] := ⟨_, rfl⟩
  have hS : va_S (fun q => q = mo ∨ q = mo + 7 ∨ q = mo + 8) s.heap H locs := by rw [hH, hlocs]; exact va_S.rf
  have hZ : H.size = s.heap.size := by rw [hH]
  rw [← hH] at hB
  rw [show W p l e R s m args below meth cd s.heap [] 0 0 Q (F0 m 0 ls []) = W p l e R s m args below meth cd H locs 0 0 Q (F0 m 0 ls []) from by rw [hH, hlocs]]
  obtain ⟨hm, hpo, hta⟩ := hB
  refine hp_iconst (z := 1) hx hb d_M_writeSimple_0 (by rfl) ?_
  refine lv_istore_n (lv' := [(2, .int (iI 1)), (0, .ref mo), (1, .int (iI (n : Int)))]) hx hb d_M_writeSimple_1 rfl hl (by decide) rfl (fun ls hl => ?_)
  have L2 : ∀ (N : Nat) (x q : Nat) (mr : Bool) (u : List Nat) (S1 : gs_P) (po1 ta1 : Nat → Int), x < N → (q = (Y ++ u).length) → (gs_so n S0 u S1) → (bn_h n ta1 S1.1) → (po_h po1 (Y ++ u)) → (mr = false → ∀ i, 1 ≤ i → i < n → ¬ S1.1 (i + 1) < S1.1 i) → (mr = true → 2 * gs_inv n S1.1 + 1 ≤ x) → ∀ (H : Heap) (locs : List Loc), va_S (fun q => q = mo ∨ q = mo + 7 ∨ q = mo + 8) s.heap H locs → H.size = s.heap.size → ca E H mo (oM mo th md fe (q : Int)) → ca E H (mo + 7) (ai E 4096 po1) → ca E H (mo + 8) (ai E 9 ta1) → ∀ ls : Array Slot, lv_has ls 5 [(0, .ref mo), (1, .int (iI (n : Int))), (2, .int (iI (bI mr)))] → W p l e R s m args below meth cd H locs 0 0 Q (F0 m 2 ls []) := by
    intro N
    induction N with
    | zero => intro x q mr u S1 po1 ta1 hN; exact absurd hN (by omega)
    | succ N ih =>
      intro x q mr u S1 po1 ta1 hN hq hso hbn hpp hsr hxm H locs hS hZ hm hpo hta ls hl
      have ih2 := ih
      refine lv_iload_n hx hb d_M_writeSimple_2 rfl (lv_at hl 2 rfl) ?_
      refine hp_ifb_eq (tgt := 95) hx hb d_M_writeSimple_3 (by decide) (fun c3 => ?_) (fun c3 => ?_)
      · skip
        rw [hQ]
        refine hp_vretQ hx hb hrt hlocks d_M_writeSimple_95 hS hZ ?_
        obtain ⟨hru, hwu, hiu⟩ := gs_so_end hS0 hso (hsr c3)
        have hul := gs_so_len hn.2 hso
        exact ⟨u, po1, ta1, hru, hwu, hiu, by omega, hpp, by rw [← hq]; exact hm, hpo, hta⟩
      · skip
        refine hp_iconst (z := 0) hx hb d_M_writeSimple_6 (by rfl) ?_
        refine lv_istore_n (lv' := [(2, .int (iI 0)), (0, .ref mo), (1, .int (iI (n : Int)))]) hx hb d_M_writeSimple_7 rfl hl (by decide) rfl (fun ls hl => ?_)
        refine hp_iconst (z := 1) hx hb d_M_writeSimple_8 (by rfl) ?_
        refine lv_istore_n (lv' := [(3, .int (iI 1)), (2, .int (iI 0)), (0, .ref mo), (1, .int (iI (n : Int)))]) hx hb d_M_writeSimple_9 rfl hl (by decide) rfl (fun ls hl => ?_)
        have L10 : ∀ (N : Nat) (p9 q2 : Nat) (m2 : Bool) (u2 : List Nat) (S2 : gs_P) (po2 ta2 : Nat → Int), n - p9 < N → (1 ≤ p9 ∧ p9 ≤ n) → (q2 = (Y ++ u2).length) → (gs_so n S0 u2 S2) → (bn_h n ta2 S2.1) → (po_h po2 (Y ++ u2)) → (m2 = false → S2 = S1 ∧ ∀ i, 1 ≤ i → i < p9 → ¬ S2.1 (i + 1) < S2.1 i) → (m2 = true → gs_inv n S2.1 + 1 ≤ gs_inv n S1.1) → (gs_inv n S2.1 ≤ gs_inv n S1.1) → ∀ (H : Heap) (locs : List Loc), va_S (fun q => q = mo ∨ q = mo + 7 ∨ q = mo + 8) s.heap H locs → H.size = s.heap.size → ca E H mo (oM mo th md fe (q2 : Int)) → ca E H (mo + 7) (ai E 4096 po2) → ca E H (mo + 8) (ai E 9 ta2) → ∀ ls : Array Slot, lv_has ls 5 [(0, .ref mo), (1, .int (iI (n : Int))), (2, .int (iI (bI m2))), (3, .int (iI (p9 : Int)))] → W p l e R s m args below meth cd H locs 0 0 Q (F0 m 10 ls []) := by
          intro N
          induction N with
          | zero => intro p9 q2 m2 u2 S2 po2 ta2 hN; exact absurd hN (by omega)
          | succ N ih =>
            intro p9 q2 m2 u2 S2 po2 ta2 hN hp hq2 hso2 hbn2 hpp2 hun hch hle H locs hS hZ hm hpo hta ls hl
            have ih10 := ih
            refine lv_iload_n hx hb d_M_writeSimple_10 rfl (lv_at hl 3 rfl) ?_
            refine lv_iload_n hx hb d_M_writeSimple_11 rfl (lv_at hl 1 rfl) ?_
            refine hp_icmp_ge (tgt := 92) hx hb d_M_writeSimple_12 (by decide) (by unfold iR; omega) (by unfold iR; omega) (fun c12 => ?_) (fun c12 => ?_)
            · skip
              have ep : p9 = n := by omega
              refine lv_goto (tgt := 2) hx hb d_M_writeSimple_92 (by decide) ?_
              exact ih2  (x - 1) q2 m2 u2 S2 po2 ta2 (by have h9 := hxm c3; omega) (by exact hq2) (by exact hso2) (by exact hbn2) (by exact hpp2) (by intro h9 i h1 h2; exact (hun h9).2 i h1 (by omega)) (by intro h9; have h8 := hch h9; have h7 := hxm c3; omega) H locs hS hZ hm hpo hta ls (lv_sub hl [0, 1, 2] rfl)
            · skip
              refine lv_aload_n hx hb d_M_writeSimple_15 rfl (lv_at hl 0 rfl) ?_
              refine hp_get (C := R_M) (T := F_M) (N := 19) (v := .ref (mo + 8)) hx hb hG la_M hown hK.1 hm rfl 11 (by decide) (hG _ fl_M_31) (fun _ h9 => h9) rfl d_M_writeSimple_16 ?_
              refine lv_iload_n hx hb d_M_writeSimple_19 rfl (lv_at hl 3 rfl) ?_
              refine hp_iald hx hb hK.1 0 hta rfl d_M_writeSimple_20 (by omega) p9 (by omega) (by omega) ?_
              refine lv_aload_n hx hb d_M_writeSimple_21 rfl (lv_at hl 0 rfl) ?_
              refine hp_get (C := R_M) (T := F_M) (N := 19) (v := .ref (mo + 8)) hx hb hG la_M hown hK.1 hm rfl 11 (by decide) (hG _ fl_M_31) (fun _ h9 => h9) rfl d_M_writeSimple_22 ?_
              refine lv_iload_n hx hb d_M_writeSimple_25 rfl (lv_at hl 3 rfl) ?_
              refine hp_iconst (z := 1) hx hb d_M_writeSimple_26 (by rfl) ?_
              refine hp_iadd hx hb d_M_writeSimple_27 ?_
              refine hp_iald hx hb hK.1 0 hta rfl d_M_writeSimple_28 (by omega) (p9 + 1) (by omega) (by omega) ?_
              have ht1 := hbn2 p9 (by omega) (by omega)
              have ht2 := hbn2 (p9 + 1) (by omega) (by omega)
              have hr1 := gs_rng hso2.1 (p := p9) (by omega) (by omega)
              have hr2 := gs_rng hso2.1 (p := p9 + 1) (by omega) (by omega)
              have hql := gs_so_len hn.2 hso2
              rw [List.length_append] at hq2
              refine hp_icmp_le (tgt := 86) hx hb d_M_writeSimple_29 (by decide) (by unfold iR; omega) (by unfold iR; omega) (fun c29 => ?_) (fun c29 => ?_)
              · skip
                have hdn : ¬ S2.1 (p9 + 1) < S2.1 p9 := by omega
                rw [← List.length_append] at hq2
                refine hp_iinc (z := ((p9 : Int) + 1)) (lv' := [(3, .int (iI ((p9 : Int) + 1))), (0, .ref mo), (1, .int (iI (n : Int))), (2, .int (iI (bI m2)))]) hx hb d_M_writeSimple_86 hl (k := 3) rfl (by omega) (by decide) rfl (fun ls hl => ?_)
                refine lv_goto (tgt := 10) hx hb d_M_writeSimple_89 (by decide) ?_
                exact ih10  (p9 + 1) q2 m2 u2 S2 po2 ta2 (by omega) (by omega) (by first | exact hq2 | (rw [hq2]; simp; omega)) (by first | exact hso2 | exact gs_so_st hso2 (by omega) (by omega) hdd) (by first | exact hbn2 | exact bn_h_R hbn2 (by omega) (by omega)) (by first | exact hpp2 | (rw [← List.append_assoc]; exact po_h_s hpp2 hq2)) (by first | (intro h9; refine ⟨(hun h9).1, fun i h1 h2 => ?_⟩; by_cases e9 : i = p9; (rw [e9]; exact hdn); exact (hun h9).2 i h1 (by omega)) | (intro h9; cases h9)) (by first | exact hch | (intro _; have h9 := gs_inv_R (n := n) (i := p9) (f := S2.1) (by omega) (by omega) hdd; have h8 : gs_inv n (gs_R p9 S2).1 = gs_inv n (fun p => S2.1 (gs_sw p9 p)) := rfl; omega)) (by first | exact hle | (have h9 := gs_inv_R (n := n) (i := p9) (f := S2.1) (by omega) (by omega) hdd; have h8 : gs_inv n (gs_R p9 S2).1 = gs_inv n (fun p => S2.1 (gs_sw p9 p)) := rfl; omega)) H locs hS hZ hm hpo hta ls (lv_sub hl [1, 2, 3, 0] rfl)
              · skip
                have hdd : S2.1 (p9 + 1) < S2.1 p9 := by omega
                refine lv_aload_n hx hb d_M_writeSimple_32 rfl (lv_at hl 0 rfl) ?_
                refine hp_get (C := R_M) (T := F_M) (N := 19) (v := .ref (mo + 8)) hx hb hG la_M hown hK.1 hm rfl 11 (by decide) (hG _ fl_M_31) (fun _ h9 => h9) rfl d_M_writeSimple_33 ?_
                refine lv_iload_n hx hb d_M_writeSimple_36 rfl (lv_at hl 3 rfl) ?_
                refine hp_iald hx hb hK.1 0 hta rfl d_M_writeSimple_37 (by omega) p9 (by omega) (by omega) ?_
                refine lv_istore (lv' := [(4, .int (iI (ta2 p9))), (0, .ref mo), (1, .int (iI (n : Int))), (2, .int (iI (bI m2))), (3, .int (iI (p9 : Int)))]) hx hb d_M_writeSimple_38 hl (by decide) rfl (fun ls hl => ?_)
                refine lv_aload_n hx hb d_M_writeSimple_40 rfl (lv_at hl 1 rfl) ?_
                refine hp_get (C := R_M) (T := F_M) (N := 19) (v := .ref (mo + 8)) hx hb hG la_M hown hK.1 hm rfl 11 (by decide) (hG _ fl_M_31) (fun _ h9 => h9) rfl d_M_writeSimple_41 ?_
                refine lv_iload_n hx hb d_M_writeSimple_44 rfl (lv_at hl 4 rfl) ?_
                refine lv_aload_n hx hb d_M_writeSimple_45 rfl (lv_at hl 1 rfl) ?_
                refine hp_get (C := R_M) (T := F_M) (N := 19) (v := .ref (mo + 8)) hx hb hG la_M hown hK.1 hm rfl 11 (by decide) (hG _ fl_M_31) (fun _ h9 => h9) rfl d_M_writeSimple_46 ?_
                refine lv_iload_n hx hb d_M_writeSimple_49 rfl (lv_at hl 4 rfl) ?_
                refine hp_iconst (z := 1) hx hb d_M_writeSimple_50 (by rfl) ?_
                refine hp_iadd hx hb d_M_writeSimple_51 ?_
                refine hp_iald hx hb hK.1 0 hta rfl d_M_writeSimple_52 (by omega) (p9 + 1) (by omega) (by omega) ?_
                refine hp_iast hx hb hK.1 0 hta hS (by show _ ∨ _; omega) rfl d_M_writeSimple_53 (by omega) p9 (by omega) (by omega) (fun H locs htan hz1 ho1 hS => ?_)
                have hZ := hz1.trans hZ
                have hm := hm.keep (ho1 (mo) (by omega))
                have hpo := hpo.keep (ho1 (mo + 7) (by omega))
                have hta : ca E H (mo + 8) (ai E 9 (hp_up ta2 p9 (ta2 (p9 + 1)))) := htan
                refine lv_aload_n hx hb d_M_writeSimple_54 rfl (lv_at hl 1 rfl) ?_
                refine hp_get (C := R_M) (T := F_M) (N := 19) (v := .ref (mo + 8)) hx hb hG la_M hown hK.1 hm rfl 11 (by decide) (hG _ fl_M_31) (fun _ h9 => h9) rfl d_M_writeSimple_55 ?_
                refine lv_iload_n hx hb d_M_writeSimple_58 rfl (lv_at hl 4 rfl) ?_
                refine hp_iconst (z := 1) hx hb d_M_writeSimple_59 (by rfl) ?_
                refine hp_iadd hx hb d_M_writeSimple_60 ?_
                refine lv_iload hx hb d_M_writeSimple_61 (lv_at hl 0 rfl) ?_
                refine hp_iast hx hb hK.1 0 hta hS (by show _ ∨ _; omega) rfl d_M_writeSimple_63 (by omega) (p9 + 1) (by omega) (by omega) (fun H locs htan hz1 ho1 hS => ?_)
                have hZ := hz1.trans hZ
                have hm := hm.keep (ho1 (mo) (by omega))
                have hpo := hpo.keep (ho1 (mo + 7) (by omega))
                have hta : ca E H (mo + 8) (ai E 9 (hp_up (hp_up ta2 p9 (ta2 (p9 + 1))) (p9 + 1) (ta2 p9))) := htan
                refine lv_aload_n hx hb d_M_writeSimple_64 rfl (lv_at hl 1 rfl) ?_
                refine hp_get (C := R_M) (T := F_M) (N := 19) (v := .ref (mo + 7)) hx hb hG la_M hown hK.1 hm rfl 10 (by decide) (hG _ fl_M_28) (fun _ h9 => h9) rfl d_M_writeSimple_65 ?_
                refine lv_aload_n hx hb d_M_writeSimple_68 rfl (lv_at hl 1 rfl) ?_
                refine hp_get (C := R_M) (T := F_M) (N := 19) (v := .int (iI (q2 : Int))) hx hb hG la_M hown hK.1 hm rfl 9 (by decide) (hG _ fl_M_105) (fun _ h9 => h9) rfl d_M_writeSimple_69 ?_
                refine lv_iload_n hx hb d_M_writeSimple_72 rfl (lv_at hl 4 rfl) ?_
                refine hp_iast hx hb hK.1 0 hpo hS (by show _ ∨ _; omega) rfl d_M_writeSimple_73 (by omega) q2 (by omega) (by omega) (fun H locs hpon hz1 ho1 hS => ?_)
                have hZ := hz1.trans hZ
                have hm := hm.keep (ho1 (mo) (by omega))
                have hta := hta.keep (ho1 (mo + 8) (by omega))
                have hpo : ca E H (mo + 7) (ai E 4096 (hp_up po2 q2 (p9 : Int))) := hpon
                refine lv_aload_n hx hb d_M_writeSimple_74 rfl (lv_at hl 1 rfl) ?_
                refine lv_dup hx hb d_M_writeSimple_75 rfl ?_
                refine hp_get (C := R_M) (T := F_M) (N := 19) (v := .int (iI (q2 : Int))) hx hb hG la_M hown hK.1 hm rfl 9 (by decide) (hG _ fl_M_105) (fun _ h9 => h9) rfl d_M_writeSimple_76 ?_
                refine hp_iconst (z := 1) hx hb d_M_writeSimple_79 (by rfl) ?_
                refine hp_iadd hx hb d_M_writeSimple_80 ?_
                refine hp_put (C := R_M) (T := F_M) (N := 19) (v := .int (iI ((q2 : Int) + 1))) (ty := .int) hx hb hG la_M t_M tk_M n_M hown hK.1 hm hS (by show _ ∨ _; omega) rfl 9 (by decide) (hG _ fl_M_105) (fun _ h9 => h9) rfl (by decide +kernel) rfl rfl (Nat.le_of_ble_eq_true rfl) d_M_writeSimple_81 (fun H locs hmn hz1 ho1 hS => ?_)
                have hZ := hz1.trans hZ
                have hpo := hpo.keep (ho1 (mo + 7) (by omega))
                have hta := hta.keep (ho1 (mo + 8) (by omega))
                have hm : ca E H (mo) (.inr (3, [.int (iI th), .ref (mo + 1), .ref (mo + 2), .ref (mo + 3), .ref (mo + 4), .ref (mo + 5), .ref (mo + 6), .int (iI md), .int (iI fe), .int (iI ((q2 : Int) + 1)), .ref (mo + 7), .ref (mo + 8), .ref (mo + 9), .ref (mo + 10), .ref (mo + 11), .ref (mo + 12), .ref (mo + 13), .ref (mo + 14), .ref (mo + 15)])) := hmn
                refine hp_iconst (z := 1) hx hb d_M_writeSimple_84 (by rfl) ?_
                refine lv_istore_n (lv' := [(2, .int (iI 1)), (4, .int (iI (ta2 p9))), (0, .ref mo), (1, .int (iI (n : Int))), (3, .int (iI (p9 : Int)))]) hx hb d_M_writeSimple_85 rfl hl (by decide) rfl (fun ls hl => ?_)
                rw [← List.length_append] at hq2
                refine hp_iinc (z := ((p9 : Int) + 1)) (lv' := [(3, .int (iI ((p9 : Int) + 1))), (2, .int (iI 1)), (4, .int (iI (ta2 p9))), (0, .ref mo), (1, .int (iI (n : Int)))]) hx hb d_M_writeSimple_86 hl (k := 4) rfl (by omega) (by decide) rfl (fun ls hl => ?_)
                refine lv_goto (tgt := 10) hx hb d_M_writeSimple_89 (by decide) ?_
                exact ih10  (p9 + 1) (q2 + 1) true (u2 ++ [p9]) (gs_R p9 S2) (hp_up po2 q2 (p9 : Int)) (hp_up (hp_up ta2 p9 (ta2 (p9 + 1))) (p9 + 1) (ta2 p9)) (by omega) (by omega) (by first | exact hq2 | (rw [hq2]; simp; omega)) (by first | exact hso2 | exact gs_so_st hso2 (by omega) (by omega) hdd) (by first | exact hbn2 | exact bn_h_R hbn2 (by omega) (by omega)) (by first | exact hpp2 | (rw [← List.append_assoc]; exact po_h_s hpp2 hq2)) (by first | (intro h9; refine ⟨(hun h9).1, fun i h1 h2 => ?_⟩; by_cases e9 : i = p9; (rw [e9]; exact hdn); exact (hun h9).2 i h1 (by omega)) | (intro h9; cases h9)) (by first | exact hch | (intro _; have h9 := gs_inv_R (n := n) (i := p9) (f := S2.1) (by omega) (by omega) hdd; have h8 : gs_inv n (gs_R p9 S2).1 = gs_inv n (fun p => S2.1 (gs_sw p9 p)) := rfl; omega)) (by first | exact hle | (have h9 := gs_inv_R (n := n) (i := p9) (f := S2.1) (by omega) (by omega) hdd; have h8 : gs_inv n (gs_R p9 S2).1 = gs_inv n (fun p => S2.1 (gs_sw p9 p)) := rfl; omega)) H locs hS hZ hm hpo hta ls (lv_sub hl [3, 4, 1, 0] rfl)
        exact L10 (n - 1 + 1) 1 q false u S1 po1 ta1 (by omega) (by omega) (by exact hq) (by exact hso) (by exact hbn) (by exact hpp) (by intro _; exact ⟨rfl, fun i h1 h2 => by omega⟩) (by intro h9; cases h9) (by exact Nat.le_refl _) H locs hS hZ hm hpo hta ls (lv_sub hl [2, 3, 1, 0] rfl)
  exact L2 (100 + 1) 100 Y.length true ([]) S0 po ta (by omega) (by simp) (by exact gs_so_0 hS0) (by exact hta0) (by simpa using hpo0) (by intro h9; cases h9) (by intro _; have h9 := gs_inv_28 hn.2 S0.1; omega) H locs hS hZ hm hpo hta ls (lv_sub hl [1, 2, 0] rfl)

set_option maxHeartbeats 4000000 in
set_option maxRecDepth 100000 in
/-- writeTurn(n) -/
theorem c_M_writeTurn (l : Launch) (E : hp_E) (mo : Nat) (th md fe : Int) (po ta : Nat → Int) (n : Nat) (Y : List Nat) (hn : 1 ≤ n ∧ n ≤ 8) (hpo0 : po_h po Y) (hY : Y.length ≤ 1000) : Met l y_M_writeTurn (Cond.code y_M_writeTurn b_M_writeTurn 3 (none) :: G0) ({ frames := 1, cells := 0, slots := 0, locals := 24 }) (hp_P E [.ref mo, .int (iI (n : Int))] (fun H => ca E H mo (oM mo th md fe ((Y.length : Nat) : Int)) ∧ ca E H (mo + 7) (ai E 4096 po) ∧ ca E H (mo + 8) (ai E 9 ta))) (hp_Qv (fun q => q = mo ∨ q = mo + 7 ∨ q = mo + 8) (fun H => ∃ (u : List Nat) (po1 ta1 : Nat → Int), gs_r u ∧ gs_w u = gs_T n ∧ rz_in n u ∧ u.length ≤ 28 ∧ po_h po1 (Y ++ u) ∧ ca E H mo (oM mo th md fe (((Y ++ u).length : Nat) : Int)) ∧ ca E H (mo + 7) (ai E 4096 po1) ∧ ca E H (mo + 8) (ai E 9 ta1))) 0 0 (fun q => q = mo ∨ q = mo + 7 ∨ q = mo + 8) := by
  refine Met.ofW (cc := b_M_writeTurn) (maxL := 3) (ret := none) (by decide) rfl ?_
  intro p e s m args below meth cd s₁ Bd hml hv
  obtain ⟨hargs, hB, hK⟩ := hv
  have hx := Bd.exec
  have hb := Bd.bytes
  have hrt := Bd.returns
  have hts := atoms_spec (ws := Cond.code y_M_writeTurn b_M_writeTurn 3 (none) :: G0) Bd.pre
  have hG : ∀ w ∈ G0, w.before args s = true := fun w h => hts w (List.mem_cons_of_mem _ h)
  have hown : s.vm.findClass R_M = some m.cls := findClass_of_methodNamed Bd.named
  have hlocks := Bd.notSynchronized
  have hl := lv_entry ([.ref mo, .int (iI (n : Int))]) (n := 3) (Nat.le_of_ble_eq_true rfl)
  rw [show entryFrame m args 3 = entryFrame m ([.ref mo, .int (iI (n : Int))] : List Value).toArray 3 from by rw [hargs]]
  rw [lg_entry_eq]
  generalize (lg_sl ([.ref mo, .int (iI (n : Int))]) ++ List.replicate (3 - (lg_sl ([.ref mo, .int (iI (n : Int))])).length) Slot.unset).toArray = ls at hl ⊢
  have hl : lv_has ls 3 [(0, .ref mo), (1, .int (iI (n : Int)))] := hl
  obtain ⟨R, hR⟩ : ∃ R, R = (headSpec (Cond.code y_M_writeTurn b_M_writeTurn 3 (none) :: G0) { frames := 1, cells := 0, slots := 0, locals := 24 }).room := ⟨_, rfl⟩
  rw [← hR]
  have hRf : R.frames = 1 := by rw [hR]; rfl
  have hRl : R.locals = 24 := by rw [hR]; rfl
  have hRc : R.cells = 0 := by rw [hR]; rfl
  have hRs : R.slots = 0 := by rw [hR]; rfl
  obtain ⟨Q, hQ⟩ : ∃ Q, Q = MQ below (hp_Qv (fun q => q = mo ∨ q = mo + 7 ∨ q = mo + 8) (fun H => ∃ (u : List Nat) (po1 ta1 : Nat → Int), gs_r u ∧ gs_w u = gs_T n ∧ rz_in n u ∧ u.length ≤ 28 ∧ po_h po1 (Y ++ u) ∧ ca E H mo (oM mo th md fe (((Y ++ u).length : Nat) : Int)) ∧ ca E H (mo + 7) (ai E 4096 po1) ∧ ca E H (mo + 8) (ai E 9 ta1))) args s 0 0 (fun q => q = mo ∨ q = mo + 7 ∨ q = mo + 8) := ⟨_, rfl⟩
  rw [← hQ]
  obtain ⟨H, hH⟩ : ∃ H, H = s.heap := ⟨_, rfl⟩
  obtain ⟨locs, hlocs⟩ : ∃ locs : List Loc, locs = [] := ⟨_, rfl⟩
  have hS : va_S (fun q => q = mo ∨ q = mo + 7 ∨ q = mo + 8) s.heap H locs := by rw [hH, hlocs]; exact va_S.rf
  have hZ : H.size = s.heap.size := by rw [hH]
  rw [← hH] at hB
  rw [show W p l e R s m args below meth cd s.heap [] 0 0 Q (F0 m 0 ls []) = W p l e R s m args below meth cd H locs 0 0 Q (F0 m 0 ls []) from by rw [hH, hlocs]]
  obtain ⟨hm, hpo, hta⟩ := hB
  refine hp_iconst (z := 1) hx hb d_M_writeTurn_0 (by rfl) ?_
  refine lv_istore_n (lv' := [(2, .int (iI 1)), (0, .ref mo), (1, .int (iI (n : Int)))]) hx hb d_M_writeTurn_1 rfl hl (by decide) rfl (fun ls hl => ?_)
  have L2 : ∀ (N : Nat) (p9 : Nat) (ta1 : Nat → Int), n + 2 - p9 < N → (1 ≤ p9 ∧ p9 ≤ n + 1) → (∀ i : Nat, 1 ≤ i → i < p9 → ta1 i = ((n + 1 - i : Nat) : Int)) → ∀ (H : Heap) (locs : List Loc), va_S (fun q => q = mo ∨ q = mo + 7 ∨ q = mo + 8) s.heap H locs → H.size = s.heap.size → ca E H mo (oM mo th md fe ((Y.length : Nat) : Int)) → ca E H (mo + 7) (ai E 4096 po) → ca E H (mo + 8) (ai E 9 ta1) → ∀ ls : Array Slot, lv_has ls 3 [(0, .ref mo), (1, .int (iI (n : Int))), (2, .int (iI (p9 : Int)))] → W p l e R s m args below meth cd H locs 0 0 Q (F0 m 2 ls []) := by
    intro N
    induction N with
    | zero => intro p9 ta1 hN; exact absurd hN (by omega)
    | succ N ih =>
      intro p9 ta1 hN hp htt H locs hS hZ hm hpo hta ls hl
      have ih2 := ih
      refine lv_iload_n hx hb d_M_writeTurn_2 rfl (lv_at hl 2 rfl) ?_
      refine lv_iload_n hx hb d_M_writeTurn_3 rfl (lv_at hl 1 rfl) ?_
      refine hp_icmp_gt (tgt := 24) hx hb d_M_writeTurn_4 (by decide) (by unfold iR; omega) (by unfold iR; omega) (fun c4 => ?_) (fun c4 => ?_)
      · skip
        have hbn : bn_h n ta1 (gs_T n).1 := fun p h1 h2 => by rw [htt p h1 (by omega), show (gs_T n).1 p = gs_tn n p from rfl, gs_tn_in h1 h2]
        refine lv_aload_n hx hb d_M_writeTurn_24 rfl (lv_at hl 0 rfl) ?_
        refine lv_iload_n hx hb d_M_writeTurn_25 rfl (lv_at hl 1 rfl) ?_
        refine hp_callv (W.runV (As := [.int (iI (n : Int))]) (rest := []) ⟨hx, hb, hml, hown, hG⟩ (c_M_writeSimple l E mo th md fe po ta1 n Y (gs_T n) (gs_ok_T n) hn hbn hpo0 hY) (cwV 1 hG (hp_goodV ml_M_108 im_M_writeSimple se_M_writeSimple in_M co_M_writeSimple) rfl rfl rfl hd_M_writeSimple ⟨by rw [hRf]; exact Nat.le_of_ble_eq_true rfl, by rw [hRl]; exact Nat.le_of_ble_eq_true rfl⟩) (hp_preV (ci := 3) hp_nsn hK rfl hm ⟨hm, hpo, hta⟩) rfl rfl hl.1 rfl (lv_room (Nat.le_of_ble_eq_true rfl)) d_M_writeTurn_26 ⟨by rw [hRc]; exact Nat.le_of_ble_eq_true rfl, by rw [hRs]; exact Nat.le_of_ble_eq_true rfl⟩) hS (fun q h => h) (fun H locs hpost hz1 ho1 hS => ?_)
        have hZ := hz1.trans hZ
        obtain ⟨u, po1, ta1, hru, hwu, hiu, hul, hpp, hm, hpo, hta⟩ := hpost
        rw [hQ]
        refine hp_vretQ hx hb hrt hlocks d_M_writeTurn_29 hS hZ ?_
        exact ⟨u, po1, ta1, hru, hwu, hiu, hul, hpp, hm, hpo, hta⟩
      · skip
        refine lv_aload_n hx hb d_M_writeTurn_7 rfl (lv_at hl 0 rfl) ?_
        refine hp_get (C := R_M) (T := F_M) (N := 19) (v := .ref (mo + 8)) hx hb hG la_M hown hK.1 hm rfl 11 (by decide) (hG _ fl_M_31) (fun _ h9 => h9) rfl d_M_writeTurn_8 ?_
        refine lv_iload_n hx hb d_M_writeTurn_11 rfl (lv_at hl 2 rfl) ?_
        refine lv_iload_n hx hb d_M_writeTurn_12 rfl (lv_at hl 1 rfl) ?_
        refine hp_iconst (z := 1) hx hb d_M_writeTurn_13 (by rfl) ?_
        refine hp_iadd hx hb d_M_writeTurn_14 ?_
        refine lv_iload_n hx hb d_M_writeTurn_15 rfl (lv_at hl 2 rfl) ?_
        refine hp_isub hx hb d_M_writeTurn_16 ?_
        refine hp_iast hx hb hK.1 0 hta hS (by show _ ∨ _; omega) rfl d_M_writeTurn_17 (by omega) p9 (by omega) (by omega) (fun H locs htan hz1 ho1 hS => ?_)
        have hZ := hz1.trans hZ
        have hm := hm.keep (ho1 (mo) (by omega))
        have hpo := hpo.keep (ho1 (mo + 7) (by omega))
        have hta : ca E H (mo + 8) (ai E 9 (hp_up ta1 p9 (((n : Int) + 1) - (p9 : Int)))) := htan
        refine hp_iinc (z := ((p9 : Int) + 1)) (lv' := [(2, .int (iI ((p9 : Int) + 1))), (0, .ref mo), (1, .int (iI (n : Int)))]) hx hb d_M_writeTurn_18 hl (k := 2) rfl (by omega) (by decide) rfl (fun ls hl => ?_)
        refine lv_goto (tgt := 2) hx hb d_M_writeTurn_21 (by decide) ?_
        exact ih2  (p9 + 1) (hp_up ta1 p9 (((n : Int) + 1) - (p9 : Int))) (by omega) (by omega) (by intro i h1 h2; by_cases e9 : i = p9; (rw [e9, hp_up_s]; omega); (rw [hp_up_n _ _ e9]; exact htt i h1 (by omega))) H locs hS hZ hm hpo hta ls (lv_sub hl [1, 2, 0] rfl)
  exact L2 (n + 2 - 1 + 1) 1 ta (by omega) (by omega) (by intro i h1 h2; omega) H locs hS hZ hm hpo hta ls (lv_sub hl [1, 2, 0] rfl)
