set_option maxHeartbeats 4000000 in
set_option maxRecDepth 100000 in
/-- components() -/
theorem c_W_components (l : Launch) (E : hp_E) (a w c : Nat) (f : Nat → Int) (hw8 : w ≤ 8) (hc : c ≤ 32) (hbd : bd f) (hok : okw w c f) : Met l y_W_components (Cond.code y_W_components b_W_components 6 (some .int) :: G0) ({ frames := 3, cells := 0, slots := 0, locals := 65 }) (hp_P E [.ref a] (fun H => wAt E H a w c f)) (hp_Si (bw_cmp f c w)) 0 0 (fun _ => False) := by
  refine Met.ofW (cc := b_W_components) (maxL := 6) (ret := some .int) (by decide) rfl ?_
  intro p e s m args below meth cd s₁ Bd hml hv
  obtain ⟨hargs, hB, hK⟩ := hv
  have hx := Bd.exec
  have hb := Bd.bytes
  have hrt := Bd.returns
  have hts := atoms_spec (ws := Cond.code y_W_components b_W_components 6 (some .int) :: G0) Bd.pre
  have hG : ∀ w ∈ G0, w.before args s = true := fun w h => hts w (List.mem_cons_of_mem _ h)
  have hown : s.vm.findClass R_W = some m.cls := findClass_of_methodNamed Bd.named
  have hlocks := Bd.notSynchronized
  have hl := lv_entry ([.ref a]) (n := 6) (Nat.le_of_ble_eq_true rfl)
  rw [show entryFrame m args 6 = entryFrame m ([.ref a] : List Value).toArray 6 from by rw [hargs]]
  rw [lg_entry_eq]
  generalize (lg_sl ([.ref a]) ++ List.replicate (6 - (lg_sl ([.ref a])).length) Slot.unset).toArray = ls at hl ⊢
  have hl : lv_has ls 6 [(0, .ref a)] := hl
  obtain ⟨R, hR⟩ : ∃ R, R = (headSpec (Cond.code y_W_components b_W_components 6 (some .int) :: G0) { frames := 3, cells := 0, slots := 0, locals := 65 }).room := ⟨_, rfl⟩
  rw [← hR]
  have hRf : R.frames = 3 := by rw [hR]; rfl
  have hRl : R.locals = 65 := by rw [hR]; rfl
  have hRc : R.cells = 0 := by rw [hR]; rfl
  have hRs : R.slots = 0 := by rw [hR]; rfl
  obtain ⟨Q, hQ⟩ : ∃ Q, Q = MQ below (hp_Si (bw_cmp f c w)) args s 0 0 (fun _ => False) := ⟨_, rfl⟩
  rw [← hQ]
  obtain ⟨hw, hf1⟩ := hB
  refine hp_iconst (z := 0) hx hb d_W_components_0 (by rfl) ?_
  refine lv_istore_n (lv' := [(1, .int (iI 0)), (0, .ref a)]) hx hb d_W_components_1 rfl hl (by decide) rfl (fun ls hl => ?_)
  refine hp_iconst (z := 0) hx hb d_W_components_2 (by rfl) ?_
  refine lv_istore_n (lv' := [(2, .int (iI 0)), (1, .int (iI 0)), (0, .ref a)]) hx hb d_W_components_3 rfl hl (by decide) rfl (fun ls hl => ?_)
  refine hp_iconst (z := 1) hx hb d_W_components_4 (by rfl) ?_
  refine lv_istore_n (lv' := [(3, .int (iI 1)), (2, .int (iI 0)), (1, .int (iI 0)), (0, .ref a)]) hx hb d_W_components_5 rfl hl (by decide) rfl (fun ls hl => ?_)
  have L6 : ∀ (N : Nat) (q sn : Nat) (n : Int), w + 2 - q < N → (1 ≤ q ∧ q ≤ w + 1) → (sn < 1024) → (bw_sn f w c q sn) → (n = bw_cmp f c (q - 1)) → ∀ ls : Array Slot, lv_has ls 6 [(0, .ref a), (1, .int (iI n)), (2, .int (iI (sn : Int))), (3, .int (iI (q : Int)))] → W p l e R s m args below meth cd s.heap [] 0 0 Q (F0 m 6 ls []) := by
    intro N
    induction N with
    | zero => intro q sn n hN; exact absurd hN (by omega)
    | succ N ih =>
      intro q sn n hN hq hsn hse hn  ls hl
      have ih6 := ih
      refine lv_iload_n hx hb d_W_components_6 rfl (lv_at hl 3 rfl) ?_
      refine lv_aload_n hx hb d_W_components_7 rfl (lv_at hl 0 rfl) ?_
      refine hp_get (C := R_W) (T := F_W) (N := 3) (v := .int (iI (w : Int))) hx hb hG la_W hown hK.1 hw rfl 1 (by decide) (hG _ fl_W_15) (fun _ h9 => h9) rfl d_W_components_8 ?_
      refine hp_icmp_gt (tgt := 76) hx hb d_W_components_11 (by decide) (by unfold iR; omega) (by unfold iR; omega) (fun c11 => ?_) (fun c11 => ?_)
      · skip
        refine lv_iload_n hx hb d_W_components_76 rfl (lv_at hl 1 rfl) ?_
        rw [hQ]
        refine hp_iretS hx hb hrt hlocks d_W_components_77 ?_
        rw [hn, show q - 1 = w by omega]
      · skip
        have hrn := bw_cmp_rng f c (q - 1)
        have hff := bw_first hok hse (by omega) (by omega)
        refine lv_iload_n hx hb d_W_components_14 rfl (lv_at hl 2 rfl) ?_
        refine lv_iload_n hx hb d_W_components_15 rfl (lv_at hl 3 rfl) ?_
        refine hp_bit (n := sn) (q := q) hx hb (by omega) (by omega) d_W_components_16 d_W_components_17 d_W_components_18 ?_
        refine hp_ifb_ne (tgt := 25) hx hb d_W_components_19 (by decide) (fun c19 => ?_) (fun c19 => ?_)
        · skip
          have hL : ¬ bw_lst f c (q : Int) := by first | exact hff.mp c19 | exact Classical.byContradiction (fun z => by rw [hff.mpr z] at c19; cases c19)
          refine lv_iload_n hx hb d_W_components_25 rfl (lv_at hl 3 rfl) ?_
          refine lv_istore (lv' := [(4, .int (iI (q : Int))), (0, .ref a), (1, .int (iI n)), (2, .int (iI (sn : Int))), (3, .int (iI (q : Int)))]) hx hb d_W_components_26 hl (by decide) rfl (fun ls hl => ?_)
          refine hp_iconst (z := 0) hx hb d_W_components_28 (by rfl) ?_
          refine lv_istore (lv' := [(5, .int (iI 0)), (4, .int (iI (q : Int))), (0, .ref a), (1, .int (iI n)), (2, .int (iI (sn : Int))), (3, .int (iI (q : Int)))]) hx hb d_W_components_29 hl (by decide) rfl (fun ls hl => ?_)
          have L31 : ∀ (N : Nat) (j pl sm : Nat), w - j < N → (j ≤ w) → ((pl : Int) = bw_it f c j (q : Int)) → (1 ≤ pl ∧ pl ≤ w) → (sm < 1024) → (∀ x : Nat, 1 ≤ x → x ≤ w → (sm.testBit x = true ↔ sn.testBit x = true ∨ ∃ i, i < j ∧ bw_it f c i (q : Int) = (x : Int))) → ∀ ls : Array Slot, lv_has ls 6 [(0, .ref a), (1, .int (iI n)), (2, .int (iI (sm : Int))), (3, .int (iI (q : Int))), (4, .int (iI (pl : Int))), (5, .int (iI (j : Int)))] → W p l e R s m args below meth cd s.heap [] 0 0 Q (F0 m 31 ls []) := by
            intro N
            induction N with
            | zero => intro j pl sm hN; exact absurd hN (by omega)
            | succ N ih =>
              intro j pl sm hN hj hpl hpr hsm hm  ls hl
              have ih31 := ih
              refine lv_iload hx hb d_W_components_31 (lv_at hl 5 rfl) ?_
              refine lv_aload_n hx hb d_W_components_33 rfl (lv_at hl 0 rfl) ?_
              refine hp_get (C := R_W) (T := F_W) (N := 3) (v := .int (iI (w : Int))) hx hb hG la_W hown hK.1 hw rfl 1 (by decide) (hG _ fl_W_15) (fun _ h9 => h9) rfl d_W_components_34 ?_
              refine hp_icmp_ge (tgt := 70) hx hb d_W_components_37 (by decide) (by unfold iR; omega) (by unfold iR; omega) (fun c37 => ?_) (fun c37 => ?_)
              · skip
                refine hp_iinc (z := ((q : Int) + 1)) (lv' := [(3, .int (iI ((q : Int) + 1))), (0, .ref a), (1, .int (iI n)), (2, .int (iI (sm : Int))), (4, .int (iI (pl : Int))), (5, .int (iI (j : Int)))]) hx hb d_W_components_70 hl (k := 3) rfl (by omega) (by decide) rfl (fun ls hl => ?_)
                refine lv_goto (tgt := 6) hx hb d_W_components_73 (by decide) ?_
                exact ih6  (q + 1) sm n (by omega) (by omega) (by omega) (by exact bw_close hok hse (by omega) (by omega) hm (by first | exact Or.inl (by omega) | exact Or.inr ⟨pl, hpl, c46⟩)) (by rw [show q + 1 - 1 = (q - 1) + 1 by omega]; have e9 : ((q - 1 + 1 : Nat) : Int) = (q : Int) := (by omega); first | (rw [bw_cmp_t (by rw [e9]; exact hL)]; omega) | (rw [bw_cmp_f (by rw [e9]; exact hL)]; omega)) ls (lv_sub hl [1, 2, 3, 0] rfl)
              · skip
                refine lv_iload_n hx hb d_W_components_40 rfl (lv_at hl 2 rfl) ?_
                refine lv_iload hx hb d_W_components_41 (lv_at hl 4 rfl) ?_
                refine hp_bit (n := sm) (q := pl) hx hb (by omega) (by omega) d_W_components_43 d_W_components_44 d_W_components_45 ?_
                refine hp_ifb_ne (tgt := 70) hx hb d_W_components_46 (by decide) (fun c46 => ?_) (fun c46 => ?_)
                · skip
                  refine hp_iinc (z := ((q : Int) + 1)) (lv' := [(3, .int (iI ((q : Int) + 1))), (0, .ref a), (1, .int (iI n)), (2, .int (iI (sm : Int))), (4, .int (iI (pl : Int))), (5, .int (iI (j : Int)))]) hx hb d_W_components_70 hl (k := 3) rfl (by omega) (by decide) rfl (fun ls hl => ?_)
                  refine lv_goto (tgt := 6) hx hb d_W_components_73 (by decide) ?_
                  exact ih6  (q + 1) sm n (by omega) (by omega) (by omega) (by exact bw_close hok hse (by omega) (by omega) hm (by first | exact Or.inl (by omega) | exact Or.inr ⟨pl, hpl, c46⟩)) (by rw [show q + 1 - 1 = (q - 1) + 1 by omega]; have e9 : ((q - 1 + 1 : Nat) : Int) = (q : Int) := (by omega); first | (rw [bw_cmp_t (by rw [e9]; exact hL)]; omega) | (rw [bw_cmp_f (by rw [e9]; exact hL)]; omega)) ls (lv_sub hl [1, 2, 3, 0] rfl)
                · skip
                  refine lv_iload_n hx hb d_W_components_49 rfl (lv_at hl 2 rfl) ?_
                  refine hp_iconst (z := 1) hx hb d_W_components_50 (by rfl) ?_
                  refine lv_iload hx hb d_W_components_51 (lv_at hl 4 rfl) ?_
                  refine hp_setbit (n := sm) (q := pl) hx hb (by omega) d_W_components_53 d_W_components_54 ?_
                  have hsm2 := bb_lt (q := pl) hsm (by omega)
                  refine lv_istore_n (lv' := [(2, .int (iI ((sm ||| 2 ^ pl : Nat) : Int))), (0, .ref a), (1, .int (iI n)), (3, .int (iI (q : Int))), (4, .int (iI (pl : Int))), (5, .int (iI (j : Int)))]) hx hb d_W_components_55 rfl hl (by decide) rfl (fun ls hl => ?_)
                  refine lv_aload_n hx hb d_W_components_56 rfl (lv_at hl 1 rfl) ?_
                  refine lv_iload hx hb d_W_components_57 (lv_at hl 4 rfl) ?_
                  refine hp_callS (W.runV (As := [.int (iI (pl : Int))]) (rest := []) ⟨hx, hb, hml, hown, hG⟩ (c_W_endOf l E a w c f (pl : Int) (by omega) hc hbd) (cwV 1 hG (hp_goodV ml_W_46 im_W_endOf se_W_endOf in_W co_W_endOf) rfl rfl rfl hd_W_endOf ⟨by rw [hRf]; exact Nat.le_of_ble_eq_true rfl, by rw [hRl]; exact Nat.le_of_ble_eq_true rfl⟩) (hp_preV (ci := 0) hp_nsn hK rfl hw ⟨hw, hf1⟩) rfl rfl hl.1 rfl (lv_room (Nat.le_of_ble_eq_true rfl)) d_W_components_59 ⟨by rw [hRc]; exact Nat.le_of_ble_eq_true rfl, by rw [hRs]; exact Nat.le_of_ble_eq_true rfl⟩) ?_
                  have hen := bw_end_in hok (p := (pl : Int)) (by omega) (by omega) c (Nat.le_refl c)
                  obtain ⟨p2, hp2⟩ : ∃ p2 : Nat, bw_end f c (pl : Int) = (p2 : Int) := ⟨(bw_end f c (pl : Int)).toNat, by omega⟩
                  rw [hp2]
                  refine lv_istore (lv' := [(4, .int (iI (p2 : Int))), (2, .int (iI ((sm ||| 2 ^ pl : Nat) : Int))), (0, .ref a), (1, .int (iI n)), (3, .int (iI (q : Int))), (5, .int (iI (j : Int)))]) hx hb d_W_components_62 hl (by decide) rfl (fun ls hl => ?_)
                  refine hp_iinc (z := ((j : Int) + 1)) (lv' := [(5, .int (iI ((j : Int) + 1))), (4, .int (iI (p2 : Int))), (2, .int (iI ((sm ||| 2 ^ pl : Nat) : Int))), (0, .ref a), (1, .int (iI n)), (3, .int (iI (q : Int)))]) hx hb d_W_components_64 hl (k := 5) rfl (by omega) (by decide) rfl (fun ls hl => ?_)
                  refine lv_goto (tgt := 31) hx hb d_W_components_67 (by decide) ?_
                  exact ih31  (j + 1) p2 (sm ||| 2 ^ pl) (by omega) (by omega) (by rw [← hp2, hpl]; rfl) (by omega) (by omega) (by intro x x1 x2; rw [bb_tb, Bool.or_eq_true, hm x x1 x2]; constructor; (intro g; rcases g with (g | ⟨i, g1, g2⟩) | g; exact Or.inl g; exact Or.inr ⟨i, by omega, g2⟩; exact Or.inr ⟨j, by omega, by rw [← hpl, of_decide_eq_true g]⟩); (intro g; rcases g with g | ⟨i, g1, g2⟩; exact Or.inl (Or.inl g); (by_cases e9 : i = j; (right; rw [e9, ← hpl] at g2; exact decide_eq_true (by omega)); exact Or.inl (Or.inr ⟨i, by omega, g2⟩)))) ls (lv_sub hl [3, 4, 2, 5, 1, 0] rfl)
          exact L31 (w - 0 + 1) 0 q sn (by omega) (by omega) (by rfl) (by omega) (by omega) (by intro x x1 x2; constructor; (intro g; exact Or.inl g); (intro g; rcases g with g | ⟨i, g1, g2⟩; exact g; omega)) ls (lv_sub hl [2, 3, 4, 5, 1, 0] rfl)
        · skip
          refine hp_iinc (z := (n + 1)) (lv' := [(1, .int (iI (n + 1))), (0, .ref a), (2, .int (iI (sn : Int))), (3, .int (iI (q : Int)))]) hx hb d_W_components_22 hl (k := 1) rfl (by omega) (by decide) rfl (fun ls hl => ?_)
          have hL :  bw_lst f c (q : Int) := by first | exact hff.mp c19 | exact Classical.byContradiction (fun z => by rw [hff.mpr z] at c19; cases c19)
          refine lv_iload_n hx hb d_W_components_25 rfl (lv_at hl 3 rfl) ?_
          refine lv_istore (lv' := [(4, .int (iI (q : Int))), (1, .int (iI (n + 1))), (0, .ref a), (2, .int (iI (sn : Int))), (3, .int (iI (q : Int)))]) hx hb d_W_components_26 hl (by decide) rfl (fun ls hl => ?_)
          refine hp_iconst (z := 0) hx hb d_W_components_28 (by rfl) ?_
          refine lv_istore (lv' := [(5, .int (iI 0)), (4, .int (iI (q : Int))), (1, .int (iI (n + 1))), (0, .ref a), (2, .int (iI (sn : Int))), (3, .int (iI (q : Int)))]) hx hb d_W_components_29 hl (by decide) rfl (fun ls hl => ?_)
          have L31 : ∀ (N : Nat) (j pl sm : Nat), w - j < N → (j ≤ w) → ((pl : Int) = bw_it f c j (q : Int)) → (1 ≤ pl ∧ pl ≤ w) → (sm < 1024) → (∀ x : Nat, 1 ≤ x → x ≤ w → (sm.testBit x = true ↔ sn.testBit x = true ∨ ∃ i, i < j ∧ bw_it f c i (q : Int) = (x : Int))) → ∀ ls : Array Slot, lv_has ls 6 [(0, .ref a), (1, .int (iI (n + 1))), (2, .int (iI (sm : Int))), (3, .int (iI (q : Int))), (4, .int (iI (pl : Int))), (5, .int (iI (j : Int)))] → W p l e R s m args below meth cd s.heap [] 0 0 Q (F0 m 31 ls []) := by
            intro N
            induction N with
            | zero => intro j pl sm hN; exact absurd hN (by omega)
            | succ N ih =>
              intro j pl sm hN hj hpl hpr hsm hm  ls hl
              have ih31 := ih
              refine lv_iload hx hb d_W_components_31 (lv_at hl 5 rfl) ?_
              refine lv_aload_n hx hb d_W_components_33 rfl (lv_at hl 0 rfl) ?_
              refine hp_get (C := R_W) (T := F_W) (N := 3) (v := .int (iI (w : Int))) hx hb hG la_W hown hK.1 hw rfl 1 (by decide) (hG _ fl_W_15) (fun _ h9 => h9) rfl d_W_components_34 ?_
              refine hp_icmp_ge (tgt := 70) hx hb d_W_components_37 (by decide) (by unfold iR; omega) (by unfold iR; omega) (fun c37 => ?_) (fun c37 => ?_)
              · skip
                refine hp_iinc (z := ((q : Int) + 1)) (lv' := [(3, .int (iI ((q : Int) + 1))), (0, .ref a), (1, .int (iI (n + 1))), (2, .int (iI (sm : Int))), (4, .int (iI (pl : Int))), (5, .int (iI (j : Int)))]) hx hb d_W_components_70 hl (k := 3) rfl (by omega) (by decide) rfl (fun ls hl => ?_)
                refine lv_goto (tgt := 6) hx hb d_W_components_73 (by decide) ?_
                exact ih6  (q + 1) sm (n + 1) (by omega) (by omega) (by omega) (by exact bw_close hok hse (by omega) (by omega) hm (by first | exact Or.inl (by omega) | exact Or.inr ⟨pl, hpl, c46⟩)) (by rw [show q + 1 - 1 = (q - 1) + 1 by omega]; have e9 : ((q - 1 + 1 : Nat) : Int) = (q : Int) := (by omega); first | (rw [bw_cmp_t (by rw [e9]; exact hL)]; omega) | (rw [bw_cmp_f (by rw [e9]; exact hL)]; omega)) ls (lv_sub hl [1, 2, 3, 0] rfl)
              · skip
                refine lv_iload_n hx hb d_W_components_40 rfl (lv_at hl 2 rfl) ?_
                refine lv_iload hx hb d_W_components_41 (lv_at hl 4 rfl) ?_
                refine hp_bit (n := sm) (q := pl) hx hb (by omega) (by omega) d_W_components_43 d_W_components_44 d_W_components_45 ?_
                refine hp_ifb_ne (tgt := 70) hx hb d_W_components_46 (by decide) (fun c46 => ?_) (fun c46 => ?_)
                · skip
                  refine hp_iinc (z := ((q : Int) + 1)) (lv' := [(3, .int (iI ((q : Int) + 1))), (0, .ref a), (1, .int (iI (n + 1))), (2, .int (iI (sm : Int))), (4, .int (iI (pl : Int))), (5, .int (iI (j : Int)))]) hx hb d_W_components_70 hl (k := 3) rfl (by omega) (by decide) rfl (fun ls hl => ?_)
                  refine lv_goto (tgt := 6) hx hb d_W_components_73 (by decide) ?_
                  exact ih6  (q + 1) sm (n + 1) (by omega) (by omega) (by omega) (by exact bw_close hok hse (by omega) (by omega) hm (by first | exact Or.inl (by omega) | exact Or.inr ⟨pl, hpl, c46⟩)) (by rw [show q + 1 - 1 = (q - 1) + 1 by omega]; have e9 : ((q - 1 + 1 : Nat) : Int) = (q : Int) := (by omega); first | (rw [bw_cmp_t (by rw [e9]; exact hL)]; omega) | (rw [bw_cmp_f (by rw [e9]; exact hL)]; omega)) ls (lv_sub hl [1, 2, 3, 0] rfl)
                · skip
                  refine lv_iload_n hx hb d_W_components_49 rfl (lv_at hl 2 rfl) ?_
                  refine hp_iconst (z := 1) hx hb d_W_components_50 (by rfl) ?_
                  refine lv_iload hx hb d_W_components_51 (lv_at hl 4 rfl) ?_
                  refine hp_setbit (n := sm) (q := pl) hx hb (by omega) d_W_components_53 d_W_components_54 ?_
                  have hsm2 := bb_lt (q := pl) hsm (by omega)
                  refine lv_istore_n (lv' := [(2, .int (iI ((sm ||| 2 ^ pl : Nat) : Int))), (0, .ref a), (1, .int (iI (n + 1))), (3, .int (iI (q : Int))), (4, .int (iI (pl : Int))), (5, .int (iI (j : Int)))]) hx hb d_W_components_55 rfl hl (by decide) rfl (fun ls hl => ?_)
                  refine lv_aload_n hx hb d_W_components_56 rfl (lv_at hl 1 rfl) ?_
                  refine lv_iload hx hb d_W_components_57 (lv_at hl 4 rfl) ?_
                  refine hp_callS (W.runV (As := [.int (iI (pl : Int))]) (rest := []) ⟨hx, hb, hml, hown, hG⟩ (c_W_endOf l E a w c f (pl : Int) (by omega) hc hbd) (cwV 1 hG (hp_goodV ml_W_46 im_W_endOf se_W_endOf in_W co_W_endOf) rfl rfl rfl hd_W_endOf ⟨by rw [hRf]; exact Nat.le_of_ble_eq_true rfl, by rw [hRl]; exact Nat.le_of_ble_eq_true rfl⟩) (hp_preV (ci := 0) hp_nsn hK rfl hw ⟨hw, hf1⟩) rfl rfl hl.1 rfl (lv_room (Nat.le_of_ble_eq_true rfl)) d_W_components_59 ⟨by rw [hRc]; exact Nat.le_of_ble_eq_true rfl, by rw [hRs]; exact Nat.le_of_ble_eq_true rfl⟩) ?_
                  have hen := bw_end_in hok (p := (pl : Int)) (by omega) (by omega) c (Nat.le_refl c)
                  obtain ⟨p2, hp2⟩ : ∃ p2 : Nat, bw_end f c (pl : Int) = (p2 : Int) := ⟨(bw_end f c (pl : Int)).toNat, by omega⟩
                  rw [hp2]
                  refine lv_istore (lv' := [(4, .int (iI (p2 : Int))), (2, .int (iI ((sm ||| 2 ^ pl : Nat) : Int))), (0, .ref a), (1, .int (iI (n + 1))), (3, .int (iI (q : Int))), (5, .int (iI (j : Int)))]) hx hb d_W_components_62 hl (by decide) rfl (fun ls hl => ?_)
                  refine hp_iinc (z := ((j : Int) + 1)) (lv' := [(5, .int (iI ((j : Int) + 1))), (4, .int (iI (p2 : Int))), (2, .int (iI ((sm ||| 2 ^ pl : Nat) : Int))), (0, .ref a), (1, .int (iI (n + 1))), (3, .int (iI (q : Int)))]) hx hb d_W_components_64 hl (k := 5) rfl (by omega) (by decide) rfl (fun ls hl => ?_)
                  refine lv_goto (tgt := 31) hx hb d_W_components_67 (by decide) ?_
                  exact ih31  (j + 1) p2 (sm ||| 2 ^ pl) (by omega) (by omega) (by rw [← hp2, hpl]; rfl) (by omega) (by omega) (by intro x x1 x2; rw [bb_tb, Bool.or_eq_true, hm x x1 x2]; constructor; (intro g; rcases g with (g | ⟨i, g1, g2⟩) | g; exact Or.inl g; exact Or.inr ⟨i, by omega, g2⟩; exact Or.inr ⟨j, by omega, by rw [← hpl, of_decide_eq_true g]⟩); (intro g; rcases g with g | ⟨i, g1, g2⟩; exact Or.inl (Or.inl g); (by_cases e9 : i = j; (right; rw [e9, ← hpl] at g2; exact decide_eq_true (by omega)); exact Or.inl (Or.inr ⟨i, by omega, g2⟩)))) ls (lv_sub hl [3, 4, 2, 5, 1, 0] rfl)
          exact L31 (w - 0 + 1) 0 q sn (by omega) (by omega) (by rfl) (by omega) (by omega) (by intro x x1 x2; constructor; (intro g; exact Or.inl g); (intro g; rcases g with g | ⟨i, g1, g2⟩; exact g; omega)) ls (lv_sub hl [3, 2, 4, 5, 1, 0] rfl)
  exact L6 (w + 2 - 1 + 1) 1 0 0 (by omega) (by omega) (by omega) (by intro x x1 x2; simp; intro r r1 r2; omega) (by rfl) ls (lv_sub hl [3, 2, 1, 0] rfl)
