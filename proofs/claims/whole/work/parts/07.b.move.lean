set_option maxHeartbeats 4000000 in
set_option maxRecDepth 100000 in
/-- moveOver(left, right) -/
theorem c_N_moveOver (l : Launch) (E : hp_E) (b w c fr to : Nat) (pw : Int) (x y : Nat) (S T : gs_P) (g sf h : Nat → Int) (hw8 : w ≤ 8) (hxy : x ≠ y ∧ x ≠ b ∧ x ≠ b + 1 ∧ x ≠ b + 36 ∧ y ≠ b ∧ y ≠ b + 1 ∧ y ≠ b + 36) (oS : gs_ok w S) (oT : gs_ok w T) (hg0 : bn_h w g S.1) (hh0 : bn_h w h T.1) : Met l y_N_moveOver (Cond.code y_N_moveOver b_N_moveOver 7 (some .boolean) :: G0) ({ frames := 2, cells := 0, slots := 0, locals := 45 }) (hp_P E [.ref b, .ref x, .ref y] (fun H => ca E H b (oN b fr to pw) ∧ ca E H (b + 1) (oW (b + 1) w c) ∧ ca E H (b + 36) (ai E 9 sf) ∧ ca E H x (ai E 9 g) ∧ ca E H y (ai E 9 h))) (hp_Qi (fun q => q = x ∨ q = y ∨ q = b + 36) (fun r H => ∃ (k : Nat) (S1 T1 : gs_P) (g1 h1 sf1 : Nat → Int), gs_pr w k S T S1 T1 ∧ gs_lw w S1 T1 ∧ r = bI (decide (k ≠ 0)) ∧ bn_h w g1 S1.1 ∧ bn_h w h1 T1.1 ∧ ca E H x (ai E 9 g1) ∧ ca E H y (ai E 9 h1) ∧ ca E H (b + 36) (ai E 9 sf1))) 0 0 (fun q => q = x ∨ q = y ∨ q = b + 36) := by
  refine Met.ofW (cc := b_N_moveOver) (maxL := 7) (ret := some .boolean) (by decide) rfl ?_
  intro p e s m args below meth cd s₁ Bd hml hv
  obtain ⟨hargs, hB, hK⟩ := hv
  have hx := Bd.exec
  have hb := Bd.bytes
  have hrt := Bd.returns
  have hts := atoms_spec (ws := Cond.code y_N_moveOver b_N_moveOver 7 (some .boolean) :: G0) Bd.pre
  have hG : ∀ w ∈ G0, w.before args s = true := fun w h => hts w (List.mem_cons_of_mem _ h)
  have hown : s.vm.findClass R_N = some m.cls := findClass_of_methodNamed Bd.named
  have hlocks := Bd.notSynchronized
  have hl := lv_entry ([.ref b, .ref x, .ref y]) (n := 7) (Nat.le_of_ble_eq_true rfl)
  rw [show entryFrame m args 7 = entryFrame m ([.ref b, .ref x, .ref y] : List Value).toArray 7 from by rw [hargs]]
  rw [lg_entry_eq]
  generalize (lg_sl ([.ref b, .ref x, .ref y]) ++ List.replicate (7 - (lg_sl ([.ref b, .ref x, .ref y])).length) Slot.unset).toArray = ls at hl ⊢
  have hl : lv_has ls 7 [(0, .ref b), (1, .ref x), (2, .ref y)] := hl
  obtain ⟨R, hR⟩ : ∃ R, R = (headSpec (Cond.code y_N_moveOver b_N_moveOver 7 (some .boolean) :: G0) { frames := 2, cells := 0, slots := 0, locals := 45 }).room := ⟨_, rfl⟩
  rw [← hR]
  have hRf : R.frames = 2 := by rw [hR]; rfl
  have hRl : R.locals = 45 := by rw [hR]; rfl
  have hRc : R.cells = 0 := by rw [hR]; rfl
  have hRs : R.slots = 0 := by rw [hR]; rfl
  obtain ⟨Q, hQ⟩ : ∃ Q, Q = MQ below (hp_Qi (fun q => q = x ∨ q = y ∨ q = b + 36) (fun r H => ∃ (k : Nat) (S1 T1 : gs_P) (g1 h1 sf1 : Nat → Int), gs_pr w k S T S1 T1 ∧ gs_lw w S1 T1 ∧ r = bI (decide (k ≠ 0)) ∧ bn_h w g1 S1.1 ∧ bn_h w h1 T1.1 ∧ ca E H x (ai E 9 g1) ∧ ca E H y (ai E 9 h1) ∧ ca E H (b + 36) (ai E 9 sf1))) args s 0 0 (fun q => q = x ∨ q = y ∨ q = b + 36) := ⟨_, rfl⟩
  rw [← hQ]
  obtain ⟨H, hH⟩ : ∃ H, H = s.heap := ⟨_, rfl⟩
  obtain ⟨locs, hlocs⟩ : ∃ locs : List Loc, locs = [] := ⟨_, rfl⟩
  have hS : va_S (fun q => q = x ∨ q = y ∨ q = b + 36) s.heap H locs := by rw [hH, hlocs]; exact va_S.rf
  have hZ : H.size = s.heap.size := by rw [hH]
  rw [← hH] at hB
  rw [show W p l e R s m args below meth cd s.heap [] 0 0 Q (F0 m 0 ls []) = W p l e R s m args below meth cd H locs 0 0 Q (F0 m 0 ls []) from by rw [hH, hlocs]]
  obtain ⟨hn, hw, hs, hg, hh⟩ := hB
  refine lv_aload_n hx hb d_N_moveOver_0 rfl (lv_at hl 0 rfl) ?_
  refine hp_get (C := R_N) (T := F_N) (N := 6) (v := .ref (b + 1)) hx hb hG la_N hown hK.1 hn rfl 0 (by decide) (hG _ fl_N_12) (fun _ h9 => h9) rfl d_N_moveOver_1 ?_
  refine hp_get (C := R_W) (T := F_W) (N := 3) (v := .int (iI (w : Int))) hx hb hG la_W hown hK.1 hw rfl 1 (by decide) (hG _ fl_N_55) (fun _ h9 => h9) rfl d_N_moveOver_4 ?_
  refine lv_istore_n (lv' := [(3, .int (iI (w : Int))), (0, .ref b), (1, .ref x), (2, .ref y)]) hx hb d_N_moveOver_7 rfl hl (by decide) rfl (fun ls hl => ?_)
  refine hp_iconst (z := 1) hx hb d_N_moveOver_8 (by rfl) ?_
  refine lv_istore (lv' := [(4, .int (iI 1)), (3, .int (iI (w : Int))), (0, .ref b), (1, .ref x), (2, .ref y)]) hx hb d_N_moveOver_9 hl (by decide) rfl (fun ls hl => ?_)
  have L11 : ∀ (N : Nat) (q : Nat) (sf1 : Nat → Int), w + 2 - q < N → (1 ≤ q ∧ q ≤ w + 1) → (∀ r, 1 ≤ r → r < q → sf1 (S.1 r) = (r : Int)) → ∀ (H : Heap) (locs : List Loc), va_S (fun q => q = x ∨ q = y ∨ q = b + 36) s.heap H locs → H.size = s.heap.size → ca E H b (oN b fr to pw) → ca E H (b + 1) (oW (b + 1) w c) → ca E H (b + 36) (ai E 9 sf1) → ca E H (x) (ai E 9 g) → ca E H (y) (ai E 9 h) → ∀ ls : Array Slot, lv_has ls 7 [(0, .ref b), (1, .ref x), (2, .ref y), (3, .int (iI (w : Int))), (4, .int (iI (q : Int)))] → W p l e R s m args below meth cd H locs 0 0 Q (F0 m 11 ls []) := by
    intro N
    induction N with
    | zero => intro q sf1 hN; exact absurd hN (by omega)
    | succ N ih =>
      intro q sf1 hN hq hin H locs hS hZ hn hw hs hg hh ls hl
      have ih11 := ih
      refine lv_iload hx hb d_N_moveOver_11 (lv_at hl 4 rfl) ?_
      refine lv_iload_n hx hb d_N_moveOver_13 rfl (lv_at hl 3 rfl) ?_
      refine hp_icmp_gt (tgt := 34) hx hb d_N_moveOver_14 (by decide) (by unfold iR; omega) (by unfold iR; omega) (fun c14 => ?_) (fun c14 => ?_)
      · skip
        refine hp_iconst (z := 0) hx hb d_N_moveOver_34 (by rfl) ?_
        refine lv_istore (lv' := [(4, .int (iI 0)), (0, .ref b), (1, .ref x), (2, .ref y), (3, .int (iI (w : Int)))]) hx hb d_N_moveOver_35 hl (by decide) rfl (fun ls hl => ?_)
        refine hp_iconst (z := 1) hx hb d_N_moveOver_37 (by rfl) ?_
        refine lv_istore (lv' := [(5, .int (iI 1)), (4, .int (iI 0)), (0, .ref b), (1, .ref x), (2, .ref y), (3, .int (iI (w : Int)))]) hx hb d_N_moveOver_38 hl (by decide) rfl (fun ls hl => ?_)
        refine hp_iconst (z := 0) hx hb d_N_moveOver_40 (by rfl) ?_
        refine lv_istore (lv' := [(6, .int (iI 0)), (5, .int (iI 1)), (4, .int (iI 0)), (0, .ref b), (1, .ref x), (2, .ref y), (3, .int (iI (w : Int)))]) hx hb d_N_moveOver_41 hl (by decide) rfl (fun ls hl => ?_)
        have L43 : ∀ (N : Nat) (t k : Nat) (an mv : Int) (S1 T1 : gs_P) (sf1 h1 : Nat → Int), 30 - t < N → (t ≤ 29) → (gs_pr w k S T S1 T1) → (an = bI (decide (k ≠ 0))) → ((mv = 1 ∧ t ≤ k) ∨ (mv = 0 ∧ gs_lw w S1 T1)) → (bn_h w sf1 S1.2) → (bn_h w h1 T1.1) → ∀ (H : Heap) (locs : List Loc), va_S (fun q => q = x ∨ q = y ∨ q = b + 36) s.heap H locs → H.size = s.heap.size → ca E H b (oN b fr to pw) → ca E H (b + 1) (oW (b + 1) w c) → ca E H (b + 36) (ai E 9 sf1) → ca E H (x) (ai E 9 g) → ca E H (y) (ai E 9 h1) → ∀ ls : Array Slot, lv_has ls 7 [(0, .ref b), (1, .ref x), (2, .ref y), (3, .int (iI (w : Int))), (4, .int (iI an)), (5, .int (iI mv)), (6, .int (iI (t : Int)))] → W p l e R s m args below meth cd H locs 0 0 Q (F0 m 43 ls []) := by
          intro N
          induction N with
          | zero => intro t k an mv S1 T1 sf1 h1 hN; exact absurd hN (by omega)
          | succ N ih =>
            intro t k an mv S1 T1 sf1 h1 hN ht hpr han hmv hs1 hh1 H locs hS hZ hn hw hs hg hh ls hl
            have ih43 := ih
            have z1 := bI_k han
            have z3 : mv = 0 ∨ mv = 1 := by rcases hmv with hmv | hmv <;> omega
            refine lv_iload hx hb d_N_moveOver_43 (lv_at hl 6 rfl) ?_
            refine hp_bipush (z := 28) hx hb d_N_moveOver_45 (by rfl) ?_
            refine hp_icmp_gt (tgt := 85) hx hb d_N_moveOver_47 (by decide) (by unfold iR; omega) (by unfold iR; omega) (fun c47 => ?_) (fun c47 => ?_)
            · skip
              have hlw : gs_lw w S1 T1 := hmv.elim (fun h9 => absurd (gs_few hpr hw8) (by omega)) (fun h9 => h9.2)
              have oo := gs_pr_ok k oS oT hpr
              refine hp_iconst (z := 1) hx hb d_N_moveOver_85 (by rfl) ?_
              refine lv_istore (lv' := [(6, .int (iI 1)), (0, .ref b), (1, .ref x), (2, .ref y), (3, .int (iI (w : Int))), (4, .int (iI an)), (5, .int (iI mv))]) hx hb d_N_moveOver_86 hl (by decide) rfl (fun ls hl => ?_)
              have L88 : ∀ (N : Nat) (q : Nat) (g1 : Nat → Int), w + 2 - q < N → (1 ≤ q ∧ q ≤ w + 1) → (∀ r, 1 ≤ r → r < q → g1 (S1.2 r) = (r : Int)) → ∀ (H : Heap) (locs : List Loc), va_S (fun q => q = x ∨ q = y ∨ q = b + 36) s.heap H locs → H.size = s.heap.size → ca E H b (oN b fr to pw) → ca E H (b + 1) (oW (b + 1) w c) → ca E H (b + 36) (ai E 9 sf1) → ca E H (x) (ai E 9 g1) → ca E H (y) (ai E 9 h1) → ∀ ls : Array Slot, lv_has ls 7 [(0, .ref b), (1, .ref x), (2, .ref y), (3, .int (iI (w : Int))), (4, .int (iI an)), (6, .int (iI (q : Int)))] → W p l e R s m args below meth cd H locs 0 0 Q (F0 m 88 ls []) := by
                intro N
                induction N with
                | zero => intro q g1 hN; exact absurd hN (by omega)
                | succ N ih =>
                  intro q g1 hN hq hout H locs hS hZ hn hw hs hg hh ls hl
                  have ih88 := ih
                  refine lv_iload hx hb d_N_moveOver_88 (lv_at hl 5 rfl) ?_
                  refine lv_iload_n hx hb d_N_moveOver_90 rfl (lv_at hl 3 rfl) ?_
                  refine hp_icmp_gt (tgt := 111) hx hb d_N_moveOver_91 (by decide) (by unfold iR; omega) (by unfold iR; omega) (fun c91 => ?_) (fun c91 => ?_)
                  · skip
                    refine lv_iload hx hb d_N_moveOver_111 (lv_at hl 4 rfl) ?_
                    rw [hQ]
                    refine hp_zretQ hx hb hrt hlocks d_N_moveOver_113 (decide (k ≠ 0)) (by first | rfl | assumption | simp [bI]) hS hZ ?_
                    exact ⟨k, S1, T1, g1, h1, sf1, hpr, hlw, han, bn_out_all oo.1 (fun r h1 h2 => hout r h1 (by omega)), hh1, hg, hh, hs⟩
                  · skip
                    have v1 := hs1 q (by omega) (by omega)
                    have u1 := gs_inv_rng oo.1 (q := q) (by omega) (by omega)
                    refine lv_aload_n hx hb d_N_moveOver_94 rfl (lv_at hl 1 rfl) ?_
                    refine lv_aload_n hx hb d_N_moveOver_95 rfl (lv_at hl 0 rfl) ?_
                    refine hp_get (C := R_N) (T := F_N) (N := 6) (v := .ref (b + 36)) hx hb hG la_N hown hK.1 hn rfl 2 (by decide) (hG _ fl_N_23) (fun _ h9 => h9) rfl d_N_moveOver_96 ?_
                    refine lv_iload hx hb d_N_moveOver_99 (lv_at hl 5 rfl) ?_
                    refine hp_iald hx hb hK.1 0 hs rfl d_N_moveOver_101 (by omega) q (by omega) (by omega) ?_
                    refine lv_iload hx hb d_N_moveOver_102 (lv_at hl 5 rfl) ?_
                    refine hp_iast hx hb hK.1 0 hg hS (by first | exact Or.inl rfl | exact Or.inr (Or.inl rfl) | exact Or.inr (Or.inr rfl) | rfl) rfl d_N_moveOver_104 (by omega) (S1.2 q) (by omega) (by omega) (fun H locs hgn hz1 ho1 hS => ?_)
                    have hZ := hz1.trans hZ
                    have hn := hn.keep (ho1 (b) (by omega))
                    have hw := hw.keep (ho1 (b + 1) (by omega))
                    have hs := hs.keep (ho1 (b + 36) (by omega))
                    have hh := hh.keep (ho1 (y) (by omega))
                    have hg : ca E H (x) (ai E 9 (hp_up g1 (S1.2 q) (q : Int))) := hgn
                    refine hp_iinc (z := ((q : Int) + 1)) (lv' := [(6, .int (iI ((q : Int) + 1))), (0, .ref b), (1, .ref x), (2, .ref y), (3, .int (iI (w : Int))), (4, .int (iI an))]) hx hb d_N_moveOver_105 hl (k := 5) rfl (by omega) (by decide) rfl (fun ls hl => ?_)
                    refine lv_goto (tgt := 88) hx hb d_N_moveOver_108 (by decide) ?_
                    exact ih88  (q + 1) (hp_up g1 (S1.2 q) (q : Int)) (by omega) (by omega) (by exact bn_out (gs_pr_ok k oS oT hpr).1 hout) H locs hS hZ hn hw hs hg hh ls (lv_sub hl [1, 2, 3, 4, 5, 0] rfl)
              exact L88 (w + 2 - 1 + 1) 1 g (by omega) (by omega) (by intro r h1 h2; omega) H locs hS hZ hn hw hs hg hh ls (lv_sub hl [1, 2, 3, 4, 5, 0] rfl)
            · skip
              refine lv_iload hx hb d_N_moveOver_50 (lv_at hl 5 rfl) ?_
              refine hp_if_eq (tgt := 85) hx hb d_N_moveOver_52 (by decide) (by unfold iR; omega) (fun c52 => ?_) (fun c52 => ?_)
              · skip
                have hlw : gs_lw w S1 T1 := hmv.elim (fun h9 => absurd (gs_few hpr hw8) (by omega)) (fun h9 => h9.2)
                have oo := gs_pr_ok k oS oT hpr
                refine hp_iconst (z := 1) hx hb d_N_moveOver_85 (by rfl) ?_
                refine lv_istore (lv' := [(6, .int (iI 1)), (0, .ref b), (1, .ref x), (2, .ref y), (3, .int (iI (w : Int))), (4, .int (iI an)), (5, .int (iI mv))]) hx hb d_N_moveOver_86 hl (by decide) rfl (fun ls hl => ?_)
                have L88 : ∀ (N : Nat) (q : Nat) (g1 : Nat → Int), w + 2 - q < N → (1 ≤ q ∧ q ≤ w + 1) → (∀ r, 1 ≤ r → r < q → g1 (S1.2 r) = (r : Int)) → ∀ (H : Heap) (locs : List Loc), va_S (fun q => q = x ∨ q = y ∨ q = b + 36) s.heap H locs → H.size = s.heap.size → ca E H b (oN b fr to pw) → ca E H (b + 1) (oW (b + 1) w c) → ca E H (b + 36) (ai E 9 sf1) → ca E H (x) (ai E 9 g1) → ca E H (y) (ai E 9 h1) → ∀ ls : Array Slot, lv_has ls 7 [(0, .ref b), (1, .ref x), (2, .ref y), (3, .int (iI (w : Int))), (4, .int (iI an)), (6, .int (iI (q : Int)))] → W p l e R s m args below meth cd H locs 0 0 Q (F0 m 88 ls []) := by
                  intro N
                  induction N with
                  | zero => intro q g1 hN; exact absurd hN (by omega)
                  | succ N ih =>
                    intro q g1 hN hq hout H locs hS hZ hn hw hs hg hh ls hl
                    have ih88 := ih
                    refine lv_iload hx hb d_N_moveOver_88 (lv_at hl 5 rfl) ?_
                    refine lv_iload_n hx hb d_N_moveOver_90 rfl (lv_at hl 3 rfl) ?_
                    refine hp_icmp_gt (tgt := 111) hx hb d_N_moveOver_91 (by decide) (by unfold iR; omega) (by unfold iR; omega) (fun c91 => ?_) (fun c91 => ?_)
                    · skip
                      refine lv_iload hx hb d_N_moveOver_111 (lv_at hl 4 rfl) ?_
                      rw [hQ]
                      refine hp_zretQ hx hb hrt hlocks d_N_moveOver_113 (decide (k ≠ 0)) (by first | rfl | assumption | simp [bI]) hS hZ ?_
                      exact ⟨k, S1, T1, g1, h1, sf1, hpr, hlw, han, bn_out_all oo.1 (fun r h1 h2 => hout r h1 (by omega)), hh1, hg, hh, hs⟩
                    · skip
                      have v1 := hs1 q (by omega) (by omega)
                      have u1 := gs_inv_rng oo.1 (q := q) (by omega) (by omega)
                      refine lv_aload_n hx hb d_N_moveOver_94 rfl (lv_at hl 1 rfl) ?_
                      refine lv_aload_n hx hb d_N_moveOver_95 rfl (lv_at hl 0 rfl) ?_
                      refine hp_get (C := R_N) (T := F_N) (N := 6) (v := .ref (b + 36)) hx hb hG la_N hown hK.1 hn rfl 2 (by decide) (hG _ fl_N_23) (fun _ h9 => h9) rfl d_N_moveOver_96 ?_
                      refine lv_iload hx hb d_N_moveOver_99 (lv_at hl 5 rfl) ?_
                      refine hp_iald hx hb hK.1 0 hs rfl d_N_moveOver_101 (by omega) q (by omega) (by omega) ?_
                      refine lv_iload hx hb d_N_moveOver_102 (lv_at hl 5 rfl) ?_
                      refine hp_iast hx hb hK.1 0 hg hS (by first | exact Or.inl rfl | exact Or.inr (Or.inl rfl) | exact Or.inr (Or.inr rfl) | rfl) rfl d_N_moveOver_104 (by omega) (S1.2 q) (by omega) (by omega) (fun H locs hgn hz1 ho1 hS => ?_)
                      have hZ := hz1.trans hZ
                      have hn := hn.keep (ho1 (b) (by omega))
                      have hw := hw.keep (ho1 (b + 1) (by omega))
                      have hs := hs.keep (ho1 (b + 36) (by omega))
                      have hh := hh.keep (ho1 (y) (by omega))
                      have hg : ca E H (x) (ai E 9 (hp_up g1 (S1.2 q) (q : Int))) := hgn
                      refine hp_iinc (z := ((q : Int) + 1)) (lv' := [(6, .int (iI ((q : Int) + 1))), (0, .ref b), (1, .ref x), (2, .ref y), (3, .int (iI (w : Int))), (4, .int (iI an))]) hx hb d_N_moveOver_105 hl (k := 5) rfl (by omega) (by decide) rfl (fun ls hl => ?_)
                      refine lv_goto (tgt := 88) hx hb d_N_moveOver_108 (by decide) ?_
                      exact ih88  (q + 1) (hp_up g1 (S1.2 q) (q : Int)) (by omega) (by omega) (by exact bn_out (gs_pr_ok k oS oT hpr).1 hout) H locs hS hZ hn hw hs hg hh ls (lv_sub hl [1, 2, 3, 4, 5, 0] rfl)
                exact L88 (w + 2 - 1 + 1) 1 g (by omega) (by omega) (by intro r h1 h2; omega) H locs hS hZ hn hw hs hg hh ls (lv_sub hl [1, 2, 3, 4, 5, 0] rfl)
              · skip
                refine lv_aload_n hx hb d_N_moveOver_55 rfl (lv_at hl 0 rfl) ?_
                refine lv_aload_n hx hb d_N_moveOver_56 rfl (lv_at hl 2 rfl) ?_
                refine hp_calli (W.runV (As := [.ref y]) (rest := []) ⟨hx, hb, hml, hown, hG⟩ (c_N_sweepOver l E b w c fr to pw y S1 T1 sf1 h1 hw8 (by omega) (gs_pr_ok k oS oT hpr).1 (gs_pr_ok k oS oT hpr).2 hs1 hh1) (cwV 1 hG (hp_goodV ml_N_95 im_N_sweepOver se_N_sweepOver in_N co_N_sweepOver) rfl rfl rfl hd_N_sweepOver ⟨by rw [hRf]; exact Nat.le_of_ble_eq_true rfl, by rw [hRl]; exact Nat.le_of_ble_eq_true rfl⟩) (hp_preV (ci := 1) hp_nsn hK rfl hn ⟨hn, hw, hs, hh⟩) rfl rfl hl.1 rfl (lv_room (Nat.le_of_ble_eq_true rfl)) d_N_moveOver_57 ⟨by rw [hRc]; exact Nat.le_of_ble_eq_true rfl, by rw [hRs]; exact Nat.le_of_ble_eq_true rfl⟩) hS (fun q h => by rcases h with h | h <;> rw [h]; exact Or.inr (Or.inl rfl); exact Or.inr (Or.inr rfl)) (fun r1 H locs hpost hz1 ho1 hS => ?_)
                have hZ := hz1.trans hZ
                obtain ⟨k2, S2, T2, sf2, h2, p1, p2, p3, p4, p5, hs, hh⟩ := hpost
                have z2 := bI_k p2
                have hn := hn.keep (ho1 (b) (by omega))
                have hw := hw.keep (ho1 (b + 1) (by omega))
                have hg := hg.keep (ho1 (x) (by omega))
                refine lv_istore (lv' := [(5, .int (iI r1)), (0, .ref b), (1, .ref x), (2, .ref y), (3, .int (iI (w : Int))), (4, .int (iI an)), (6, .int (iI (t : Int)))]) hx hb d_N_moveOver_60 hl (by decide) rfl (fun ls hl => ?_)
                refine lv_iload hx hb d_N_moveOver_62 (lv_at hl 5 rfl) ?_
                refine hp_if_ne (tgt := 72) hx hb d_N_moveOver_64 (by decide) (by unfold iR; omega) (fun c64 => ?_) (fun c64 => ?_)
                · skip
                  refine hp_iconst (z := 1) hx hb d_N_moveOver_72 (by rfl) ?_
                  refine lv_goto (tgt := 77) hx hb d_N_moveOver_73 (by decide) ?_
                  refine lv_istore (lv' := [(4, .int (iI 1)), (5, .int (iI r1)), (0, .ref b), (1, .ref x), (2, .ref y), (3, .int (iI (w : Int))), (6, .int (iI (t : Int)))]) hx hb d_N_moveOver_77 hl (by decide) rfl (fun ls hl => ?_)
                  refine hp_iinc (z := ((t : Int) + 1)) (lv' := [(6, .int (iI ((t : Int) + 1))), (4, .int (iI 1)), (5, .int (iI r1)), (0, .ref b), (1, .ref x), (2, .ref y), (3, .int (iI (w : Int)))]) hx hb d_N_moveOver_79 hl (k := 6) rfl (by omega) (by decide) rfl (fun ls hl => ?_)
                  refine lv_goto (tgt := 43) hx hb d_N_moveOver_82 (by decide) ?_
                  exact ih43  (t + 1) (k + k2) 1 r1 S2 T2 sf2 h2 (by omega) (by omega) (by exact gs_pr_app k hpr p1) (by first | (rw [decide_eq_true (by omega)]; rfl) | (rw [decide_eq_false (by omega)]; rfl)) (by rcases z2 with ⟨e1, e2⟩ | ⟨e1, e2⟩; (right; subst e2; obtain ⟨q1, q2⟩ := p1; subst q1; subst q2; exact ⟨e1, p3 rfl⟩); (left; exact ⟨e1, by rcases hmv with hmv | hmv <;> omega⟩)) (by exact p4) (by exact p5) H locs hS hZ hn hw hs hg hh ls (lv_sub hl [3, 4, 5, 6, 1, 2, 0] rfl)
                · skip
                  refine lv_iload hx hb d_N_moveOver_67 (lv_at hl 0 rfl) ?_
                  refine hp_if_eq (tgt := 76) hx hb d_N_moveOver_69 (by decide) (by unfold iR; omega) (fun c69 => ?_) (fun c69 => ?_)
                  · skip
                    refine hp_iconst (z := 0) hx hb d_N_moveOver_76 (by rfl) ?_
                    refine lv_istore (lv' := [(4, .int (iI 0)), (5, .int (iI r1)), (0, .ref b), (1, .ref x), (2, .ref y), (3, .int (iI (w : Int))), (6, .int (iI (t : Int)))]) hx hb d_N_moveOver_77 hl (by decide) rfl (fun ls hl => ?_)
                    refine hp_iinc (z := ((t : Int) + 1)) (lv' := [(6, .int (iI ((t : Int) + 1))), (4, .int (iI 0)), (5, .int (iI r1)), (0, .ref b), (1, .ref x), (2, .ref y), (3, .int (iI (w : Int)))]) hx hb d_N_moveOver_79 hl (k := 6) rfl (by omega) (by decide) rfl (fun ls hl => ?_)
                    refine lv_goto (tgt := 43) hx hb d_N_moveOver_82 (by decide) ?_
                    exact ih43  (t + 1) (k + k2) 0 r1 S2 T2 sf2 h2 (by omega) (by omega) (by exact gs_pr_app k hpr p1) (by first | (rw [decide_eq_true (by omega)]; rfl) | (rw [decide_eq_false (by omega)]; rfl)) (by rcases z2 with ⟨e1, e2⟩ | ⟨e1, e2⟩; (right; subst e2; obtain ⟨q1, q2⟩ := p1; subst q1; subst q2; exact ⟨e1, p3 rfl⟩); (left; exact ⟨e1, by rcases hmv with hmv | hmv <;> omega⟩)) (by exact p4) (by exact p5) H locs hS hZ hn hw hs hg hh ls (lv_sub hl [3, 4, 5, 6, 1, 2, 0] rfl)
                  · skip
                    refine hp_iconst (z := 1) hx hb d_N_moveOver_72 (by rfl) ?_
                    refine lv_goto (tgt := 77) hx hb d_N_moveOver_73 (by decide) ?_
                    refine lv_istore (lv' := [(4, .int (iI 1)), (5, .int (iI r1)), (0, .ref b), (1, .ref x), (2, .ref y), (3, .int (iI (w : Int))), (6, .int (iI (t : Int)))]) hx hb d_N_moveOver_77 hl (by decide) rfl (fun ls hl => ?_)
                    refine hp_iinc (z := ((t : Int) + 1)) (lv' := [(6, .int (iI ((t : Int) + 1))), (4, .int (iI 1)), (5, .int (iI r1)), (0, .ref b), (1, .ref x), (2, .ref y), (3, .int (iI (w : Int)))]) hx hb d_N_moveOver_79 hl (k := 6) rfl (by omega) (by decide) rfl (fun ls hl => ?_)
                    refine lv_goto (tgt := 43) hx hb d_N_moveOver_82 (by decide) ?_
                    exact ih43  (t + 1) (k + k2) 1 r1 S2 T2 sf2 h2 (by omega) (by omega) (by exact gs_pr_app k hpr p1) (by first | (rw [decide_eq_true (by omega)]; rfl) | (rw [decide_eq_false (by omega)]; rfl)) (by rcases z2 with ⟨e1, e2⟩ | ⟨e1, e2⟩; (right; subst e2; obtain ⟨q1, q2⟩ := p1; subst q1; subst q2; exact ⟨e1, p3 rfl⟩); (left; exact ⟨e1, by rcases hmv with hmv | hmv <;> omega⟩)) (by exact p4) (by exact p5) H locs hS hZ hn hw hs hg hh ls (lv_sub hl [3, 4, 5, 6, 1, 2, 0] rfl)
        exact L43 (30 - 0 + 1) 0 0 0 1 S T sf1 h (by omega) (by omega) (by exact ⟨rfl, rfl⟩) (by rfl) (by omega) (by exact bn_inv_all oS (fun r h1 h2 => hin r h1 (by omega))) (by exact hh0) H locs hS hZ hn hw hs hg hh ls (lv_sub hl [3, 4, 5, 6, 2, 1, 0] rfl)
      · skip
        have v1 := hg0 q (by omega) (by omega)
        have u1 := gs_rng oS (p := q) (by omega) (by omega)
        refine lv_aload_n hx hb d_N_moveOver_17 rfl (lv_at hl 0 rfl) ?_
        refine hp_get (C := R_N) (T := F_N) (N := 6) (v := .ref (b + 36)) hx hb hG la_N hown hK.1 hn rfl 2 (by decide) (hG _ fl_N_23) (fun _ h9 => h9) rfl d_N_moveOver_18 ?_
        refine lv_aload_n hx hb d_N_moveOver_21 rfl (lv_at hl 1 rfl) ?_
        refine lv_iload hx hb d_N_moveOver_22 (lv_at hl 4 rfl) ?_
        refine hp_iald hx hb hK.1 0 hg rfl d_N_moveOver_24 (by omega) q (by omega) (by omega) ?_
        refine lv_iload hx hb d_N_moveOver_25 (lv_at hl 4 rfl) ?_
        refine hp_iast hx hb hK.1 0 hs hS (by first | exact Or.inl rfl | exact Or.inr (Or.inl rfl) | exact Or.inr (Or.inr rfl) | rfl) rfl d_N_moveOver_27 (by omega) (S.1 q) (by omega) (by omega) (fun H locs hsn hz1 ho1 hS => ?_)
        have hZ := hz1.trans hZ
        have hn := hn.keep (ho1 (b) (by omega))
        have hw := hw.keep (ho1 (b + 1) (by omega))
        have hg := hg.keep (ho1 (x) (by omega))
        have hh := hh.keep (ho1 (y) (by omega))
        have hs : ca E H (b + 36) (ai E 9 (hp_up sf1 (S.1 q) (q : Int))) := hsn
        refine hp_iinc (z := ((q : Int) + 1)) (lv' := [(4, .int (iI ((q : Int) + 1))), (0, .ref b), (1, .ref x), (2, .ref y), (3, .int (iI (w : Int)))]) hx hb d_N_moveOver_28 hl (k := 4) rfl (by omega) (by decide) rfl (fun ls hl => ?_)
        refine lv_goto (tgt := 11) hx hb d_N_moveOver_31 (by decide) ?_
        exact ih11  (q + 1) (hp_up sf1 (S.1 q) (q : Int)) (by omega) (by omega) (by exact bn_inv oS hin) H locs hS hZ hn hw hs hg hh ls (lv_sub hl [1, 2, 3, 4, 0] rfl)
  exact L11 (w + 2 - 1 + 1) 1 sf (by omega) (by omega) (by intro r h1 h2; omega) H locs hS hZ hn hw hs hg hh ls (lv_sub hl [2, 3, 4, 1, 0] rfl)
