set_option maxHeartbeats 4000000 in
set_option maxRecDepth 100000 in
/-- turnRight() -/
theorem c_M_turnRight (l : Launch) (E : hp_E) (mo : Nat) (th ps : Int) (md fe : Nat) (lf : Nat → Int) (nx bf : Nat → Nat) (r0 f0 : List Nat) (t9 : Nat) (W9 : List Int) (hI0 : ch_I nx bf md fe [] r0 f0) (hmx0 : md ≤ 8192) (hl10 : lf 1 = 0) (hlb0 : ∀ z, z ∈ r0 → -10 < lf z ∧ lf z < 10) (hrz0 : rz 8000 t9 [] (ch_w false lf r0) W9) : Met l y_M_turnRight (Cond.code y_M_turnRight b_M_turnRight 7 (none) :: G0) ({ frames := 1, cells := 0, slots := 0, locals := 23 }) (hp_P E [.ref mo] (fun H => chA E H mo th md fe ps lf nx bf)) (hp_Qv (fun q => q = mo ∨ q = mo + 4 ∨ q = mo + 5 ∨ q = mo + 6) (fun H => ∃ (md1 fe1 : Nat) (lf1 : Nat → Int) (nx1 bf1 : Nat → Nat) (ff1 rr1 : List Nat), ch_w false lf1 rr1 = W9 ∧ lf1 1 = 0 ∧ md1 ≤ 8192 ∧ chA E H mo th md1 fe1 ps lf1 nx1 bf1 ∧ ch_I nx1 bf1 md1 fe1 [] rr1 ff1 ∧ ∀ z, z ∈ rr1 → -10 < lf1 z ∧ lf1 z < 10)) 0 0 (fun q => q = mo ∨ q = mo + 4 ∨ q = mo + 5 ∨ q = mo + 6) := by
  refine Met.ofW (cc := b_M_turnRight) (maxL := 7) (ret := none) (by decide) rfl ?_
  intro p e s m args below meth cd s₁ Bd hml hv
  obtain ⟨hargs, hB, hK⟩ := hv
  have hx := Bd.exec
  have hb := Bd.bytes
  have hrt := Bd.returns
  have hts := atoms_spec (ws := Cond.code y_M_turnRight b_M_turnRight 7 (none) :: G0) Bd.pre
  have hG : ∀ w ∈ G0, w.before args s = true := fun w h => hts w (List.mem_cons_of_mem _ h)
  have hown : s.vm.findClass R_M = some m.cls := findClass_of_methodNamed Bd.named
  have hlocks := Bd.notSynchronized
  have hl := lv_entry ([.ref mo]) (n := 7) (Nat.le_of_ble_eq_true rfl)
  rw [show entryFrame m args 7 = entryFrame m ([.ref mo] : List Value).toArray 7 from by rw [hargs]]
  rw [lg_entry_eq]
  generalize (lg_sl ([.ref mo]) ++ List.replicate (7 - (lg_sl ([.ref mo])).length) Slot.unset).toArray = ls at hl ⊢
  have hl : lv_has ls 7 [(0, .ref mo)] := hl
  obtain ⟨R, hR⟩ : ∃ R, R = (headSpec (Cond.code y_M_turnRight b_M_turnRight 7 (none) :: G0) { frames := 1, cells := 0, slots := 0, locals := 23 }).room := ⟨_, rfl⟩
  rw [← hR]
  have hRf : R.frames = 1 := by rw [hR]; rfl
  have hRl : R.locals = 23 := by rw [hR]; rfl
  have hRc : R.cells = 0 := by rw [hR]; rfl
  have hRs : R.slots = 0 := by rw [hR]; rfl
  obtain ⟨Q, hQ⟩ : ∃ Q, Q = MQ below (hp_Qv (fun q => q = mo ∨ q = mo + 4 ∨ q = mo + 5 ∨ q = mo + 6) (fun H => ∃ (md1 fe1 : Nat) (lf1 : Nat → Int) (nx1 bf1 : Nat → Nat) (ff1 rr1 : List Nat), ch_w false lf1 rr1 = W9 ∧ lf1 1 = 0 ∧ md1 ≤ 8192 ∧ chA E H mo th md1 fe1 ps lf1 nx1 bf1 ∧ ch_I nx1 bf1 md1 fe1 [] rr1 ff1 ∧ ∀ z, z ∈ rr1 → -10 < lf1 z ∧ lf1 z < 10)) args s 0 0 (fun q => q = mo ∨ q = mo + 4 ∨ q = mo + 5 ∨ q = mo + 6) := ⟨_, rfl⟩
  rw [← hQ]
  obtain ⟨H, hH⟩ : ∃ H, H = s.heap := ⟨_, rfl⟩
  obtain ⟨locs, hlocs⟩ : ∃ locs : List Loc, locs = [] := ⟨_, rfl⟩
  have hS : va_S (fun q => q = mo ∨ q = mo + 4 ∨ q = mo + 5 ∨ q = mo + 6) s.heap H locs := by rw [hH, hlocs]; exact va_S.rf
  have hZ : H.size = s.heap.size := by rw [hH]
  rw [← hH] at hB
  rw [show W p l e R s m args below meth cd s.heap [] 0 0 Q (F0 m 0 ls []) = W p l e R s m args below meth cd H locs 0 0 Q (F0 m 0 ls []) from by rw [hH, hlocs]]
  obtain ⟨hm, hlf, hnx, hbf⟩ := hB
  have hlbr : ∀ (l1 r1 : List Nat) {k m : Nat} {lf : Nat → Int}, (∀ z, z ∈ k :: l1 ++ m :: r1 → -10 < lf z ∧ lf z < 10) → ∀ z, z ∈ l1 ++ r1 → -10 < lf z ∧ lf z < 10 := fun l1 r1 k m lf h z hz => h z (by rcases List.mem_append.mp hz with q | q; (simp [q]); (simp [q]))
  obtain ⟨l2, r2, hI2, hst2, he2⟩ := ch_b0 (s := t9) hI0 (by omega) hrz0
  have hlb2 := ch_lb (l := []) he2 hlb0
  refine lv_aload_n hx hb d_M_turnRight_0 rfl (lv_at hl 0 rfl) ?_
  refine hp_get (C := R_M) (T := F_M) (N := 19) (v := .ref (mo + 5)) hx hb hG la_M hown hK.1 hm rfl 5 (by decide) (hG _ fl_M_22) (fun _ h9 => h9) rfl d_M_turnRight_1 ?_
  refine hp_iconst (z := 0) hx hb d_M_turnRight_4 (by rfl) ?_
  refine hp_iald hx hb hK.1 0 hnx rfl d_M_turnRight_5 (by omega) 0 (by omega) (by omega) ?_
  refine lv_istore_n (lv' := [(1, .int (iI ((nx 0 : Nat) : Int))), (0, .ref mo)]) hx hb d_M_turnRight_6 rfl hl (by decide) rfl (fun ls hl => ?_)
  have L7 : ∀ (N : Nat) (s9 k : Nat) (ll rr ff : List Nat) (md fe : Nat) (lf : Nat → Int) (nx bf : Nat → Nat), s9 < N → (ch_st false s9 k ll rr lf W9) → (ch_I nx bf md fe ll rr ff) → (md ≤ 8192) → (lf 1 = 0) → (∀ z, z ∈ ll ++ rr → -10 < lf z ∧ lf z < 10) → ∀ (H : Heap) (locs : List Loc), va_S (fun q => q = mo ∨ q = mo + 4 ∨ q = mo + 5 ∨ q = mo + 6) s.heap H locs → H.size = s.heap.size → ca E H mo (oM mo th (md : Int) (fe : Int) ps) → ca E H (mo + 4) (ai E 8192 lf) → ca E H (mo + 5) (ai E 8192 (fun k => (nx k : Int))) → ca E H (mo + 6) (ai E 8192 (fun k => (bf k : Int))) → ∀ ls : Array Slot, lv_has ls 7 [(0, .ref mo), (1, .int (iI (k : Int)))] → W p l e R s m args below meth cd H locs 0 0 Q (F0 m 7 ls []) := by
    intro N
    induction N with
    | zero => intro s9 k ll rr ff md fe lf nx bf hN; exact absurd hN (by omega)
    | succ N ih =>
      intro s9 k ll rr ff md fe lf nx bf hN hst hI hmx hl1 hlb H locs hS hZ hm hlf hnx hbf ls hl
      have ih7 := ih
      refine lv_iload_n hx hb d_M_turnRight_7 rfl (lv_at hl 1 rfl) ?_
      refine hp_iconst (z := 1) hx hb d_M_turnRight_8 (by rfl) ?_
      have hkr : k < 8192 := ch_kb hst hI hmx
      refine hp_icmp_eq (tgt := 150) hx hb d_M_turnRight_9 (by decide) (by unfold iR; omega) (by unfold iR; omega) (fun c9 => ?_) (fun c9 => ?_)
      · skip
        rw [hQ]
        refine hp_vretQ hx hb hrt hlocks d_M_turnRight_150 hS hZ ?_
        rcases hst with ⟨h9, h8, h7⟩ | ⟨l9, t, ht9, el9, hz9⟩
        · rw [h8] at hI hlb
          refine ⟨md, fe, lf, nx, bf, ff, ll.reverse ++ [], ?_, hl1, hmx, ⟨hm, hlf, hnx, hbf⟩, ch_all hI, fun z hz => hlb z (by simpa using hz)⟩
          rw [h7]; simp [ch_w]
        · have h6 := hI.2.1.2.1 k (by rw [el9]; simp)
          omega
      · skip
        obtain ⟨l1, t0, ht0, el, hrz⟩ : ∃ l1 t0, t0 < s9 ∧ ll = k :: l1 ∧ rz 8000 t0 (ch_w false lf ll) (ch_w false lf rr) W9 := by rcases hst with h9 | h9; (exact absurd (by omega) c9); exact h9
        subst el
        have hkb : 2 ≤ k ∧ k < md := hI.2.1.2.1 k (by simp)
        have hrg := ch_rng hI
        have enx : nx k = ch_h rr 1 := hI.1.2.1
        have ebf : bf k = ch_h l1 0 := hI.1.1.2.1
        have hla := hlb k (by simp)
        have hlm : -10 < lf (nx k) ∧ lf (nx k) < 10 := by rw [enx]; rcases ch_h_in rr 1 with e9 | e9; (rw [e9, hl1]; omega); exact hlb _ (by simp [e9])
        refine lv_aload_n hx hb d_M_turnRight_12 rfl (lv_at hl 0 rfl) ?_
        refine hp_get (C := R_M) (T := F_M) (N := 19) (v := .ref (mo + 5)) hx hb hG la_M hown hK.1 hm rfl 5 (by decide) (hG _ fl_M_22) (fun _ h9 => h9) rfl d_M_turnRight_13 ?_
        refine lv_iload_n hx hb d_M_turnRight_16 rfl (lv_at hl 1 rfl) ?_
        refine hp_iald hx hb hK.1 0 hnx rfl d_M_turnRight_17 (by omega) k (by omega) (by omega) ?_
        refine lv_istore_n (lv' := [(2, .int (iI ((nx k : Nat) : Int))), (0, .ref mo), (1, .int (iI (k : Int)))]) hx hb d_M_turnRight_18 rfl hl (by decide) rfl (fun ls hl => ?_)
        refine lv_aload_n hx hb d_M_turnRight_19 rfl (lv_at hl 1 rfl) ?_
        refine hp_get (C := R_M) (T := F_M) (N := 19) (v := .ref (mo + 4)) hx hb hG la_M hown hK.1 hm rfl 4 (by decide) (hG _ fl_M_19) (fun _ h9 => h9) rfl d_M_turnRight_20 ?_
        refine lv_iload_n hx hb d_M_turnRight_23 rfl (lv_at hl 2 rfl) ?_
        refine hp_iald hx hb hK.1 0 hlf rfl d_M_turnRight_24 (by omega) k (by omega) (by omega) ?_
        refine hp_if_ge (tgt := 145) hx hb d_M_turnRight_25 (by decide) (by unfold iR; omega) (fun c25 => ?_) (fun c25 => ?_)
        · skip
          obtain ⟨l2, r2, hI2, hst2, he2⟩ := ch_mv (s := s9 - 1) hI (by omega) hrz (fun h9 => by have h8 : lf k < 0 := h9.1; have h7 : 0 < lf (nx k) := h9.2; omega)
          have hlb2 := ch_lb he2 hlb
          refine lv_iload_n hx hb d_M_turnRight_145 rfl (lv_at hl 0 rfl) ?_
          refine lv_istore_n (lv' := [(1, .int (iI ((nx k : Nat) : Int))), (2, .int (iI ((nx k : Nat) : Int))), (0, .ref mo)]) hx hb d_M_turnRight_146 rfl hl (by decide) rfl (fun ls hl => ?_)
          refine lv_goto (tgt := 7) hx hb d_M_turnRight_147 (by decide) ?_
          exact ih7  (s9 - 1) (nx k) l2 r2 ff md fe lf nx bf (by omega) (by exact hst2) (by exact hI2) (by omega) (by exact hl1) (by exact hlb2) H locs hS hZ hm hlf hnx hbf ls (lv_sub hl [2, 0] rfl)
        · skip
          refine lv_aload_n hx hb d_M_turnRight_28 rfl (lv_at hl 1 rfl) ?_
          refine hp_get (C := R_M) (T := F_M) (N := 19) (v := .ref (mo + 4)) hx hb hG la_M hown hK.1 hm rfl 4 (by decide) (hG _ fl_M_19) (fun _ h9 => h9) rfl d_M_turnRight_29 ?_
          refine lv_iload_n hx hb d_M_turnRight_32 rfl (lv_at hl 0 rfl) ?_
          refine hp_iald hx hb hK.1 0 hlf rfl d_M_turnRight_33 (by omega) (nx k) (by omega) (by omega) ?_
          refine hp_if_le (tgt := 145) hx hb d_M_turnRight_34 (by decide) (by unfold iR; omega) (fun c34 => ?_) (fun c34 => ?_)
          · skip
            obtain ⟨l2, r2, hI2, hst2, he2⟩ := ch_mv (s := s9 - 1) hI (by omega) hrz (fun h9 => by have h8 : lf k < 0 := h9.1; have h7 : 0 < lf (nx k) := h9.2; omega)
            have hlb2 := ch_lb he2 hlb
            refine lv_iload_n hx hb d_M_turnRight_145 rfl (lv_at hl 0 rfl) ?_
            refine lv_istore_n (lv' := [(1, .int (iI ((nx k : Nat) : Int))), (2, .int (iI ((nx k : Nat) : Int))), (0, .ref mo)]) hx hb d_M_turnRight_146 rfl hl (by decide) rfl (fun ls hl => ?_)
            refine lv_goto (tgt := 7) hx hb d_M_turnRight_147 (by decide) ?_
            exact ih7  (s9 - 1) (nx k) l2 r2 ff md fe lf nx bf (by omega) (by exact hst2) (by exact hI2) (by omega) (by exact hl1) (by exact hlb2) H locs hS hZ hm hlf hnx hbf ls (lv_sub hl [2, 0] rfl)
          · skip
            obtain ⟨r1, er⟩ := ch_cons enx (fun q => by rw [q, hl1] at c34; omega)
            subst er
            obtain ⟨t1, et, hb9, hrz1⟩ := rz_inv_rp (show rz 8000 t0 (ch_u false (lf k) :: ch_w false lf l1) (ch_u false (lf (nx k)) :: ch_w false lf r1) W9 from hrz) (by show lf k < 0; omega) (by show 0 < lf (nx k); omega)
            rw [List.length_append, ch_w_len, ch_w_len] at hb9
            have hlr := hlbr l1 r1 hlb
            refine lv_aload_n hx hb d_M_turnRight_37 rfl (lv_at hl 1 rfl) ?_
            refine hp_get (C := R_M) (T := F_M) (N := 19) (v := .ref (mo + 4)) hx hb hG la_M hown hK.1 hm rfl 4 (by decide) (hG _ fl_M_19) (fun _ h9 => h9) rfl d_M_turnRight_38 ?_
            refine lv_iload_n hx hb d_M_turnRight_41 rfl (lv_at hl 2 rfl) ?_
            refine hp_iald hx hb hK.1 0 hlf rfl d_M_turnRight_42 (by omega) k (by omega) (by omega) ?_
            refine hp_ineg hx hb d_M_turnRight_43 ?_
            refine lv_istore_n (lv' := [(3, .int (iI (-(lf k)))), (2, .int (iI ((nx k : Nat) : Int))), (0, .ref mo), (1, .int (iI (k : Int)))]) hx hb d_M_turnRight_44 rfl hl (by decide) rfl (fun ls hl => ?_)
            refine lv_aload_n hx hb d_M_turnRight_45 rfl (lv_at hl 2 rfl) ?_
            refine hp_get (C := R_M) (T := F_M) (N := 19) (v := .ref (mo + 4)) hx hb hG la_M hown hK.1 hm rfl 4 (by decide) (hG _ fl_M_19) (fun _ h9 => h9) rfl d_M_turnRight_46 ?_
            refine lv_iload_n hx hb d_M_turnRight_49 rfl (lv_at hl 1 rfl) ?_
            refine hp_iald hx hb hK.1 0 hlf rfl d_M_turnRight_50 (by omega) (nx k) (by omega) (by omega) ?_
            refine lv_istore (lv' := [(4, .int (iI (lf (nx k)))), (3, .int (iI (-(lf k)))), (2, .int (iI ((nx k : Nat) : Int))), (0, .ref mo), (1, .int (iI (k : Int)))]) hx hb d_M_turnRight_51 hl (by decide) rfl (fun ls hl => ?_)
            refine lv_aload_n hx hb d_M_turnRight_53 rfl (lv_at hl 3 rfl) ?_
            refine hp_get (C := R_M) (T := F_M) (N := 19) (v := .ref (mo + 6)) hx hb hG la_M hown hK.1 hm rfl 6 (by decide) (hG _ fl_M_25) (fun _ h9 => h9) rfl d_M_turnRight_54 ?_
            refine lv_iload_n hx hb d_M_turnRight_57 rfl (lv_at hl 4 rfl) ?_
            refine hp_iald hx hb hK.1 0 hbf rfl d_M_turnRight_58 (by omega) k (by omega) (by omega) ?_
            rw [ebf]
            refine lv_istore (lv' := [(5, .int (iI ((ch_h l1 0 : Nat) : Int))), (4, .int (iI (lf (nx k)))), (3, .int (iI (-(lf k)))), (2, .int (iI ((nx k : Nat) : Int))), (0, .ref mo), (1, .int (iI (k : Int)))]) hx hb d_M_turnRight_59 hl (by decide) rfl (fun ls hl => ?_)
            refine lv_aload_n hx hb d_M_turnRight_61 rfl (lv_at hl 4 rfl) ?_
            refine lv_iload_n hx hb d_M_turnRight_62 rfl (lv_at hl 5 rfl) ?_
            refine hp_callv (W.runV (As := [.int (iI (k : Int))]) (rest := []) ⟨hx, hb, hml, hown, hG⟩ (c_M_take l E mo th ps md fe lf nx bf l1 (nx k :: r1) ff k hI (by omega)) (cwV 1 hG (hp_goodV ml_M_94 im_M_take se_M_take in_M co_M_take) rfl rfl rfl hd_M_take ⟨by rw [hRf]; exact Nat.le_of_ble_eq_true rfl, by rw [hRl]; exact Nat.le_of_ble_eq_true rfl⟩) (hp_preV (ci := 3) hp_nsn hK rfl hm ⟨hm, hlf, hnx, hbf⟩) rfl rfl hl.1 rfl (lv_room (Nat.le_of_ble_eq_true rfl)) d_M_turnRight_63 ⟨by rw [hRc]; exact Nat.le_of_ble_eq_true rfl, by rw [hRs]; exact Nat.le_of_ble_eq_true rfl⟩) hS (fun q h => h) (fun H locs hpost hz1 ho1 hS => ?_)
            have hZ := hz1.trans hZ
            obtain ⟨nxa, bfa, ⟨hm, hlf, hnx, hbf⟩, hI⟩ := hpost
            have hI := ch_sh.mp hI
            refine lv_aload_n hx hb d_M_turnRight_66 rfl (lv_at hl 4 rfl) ?_
            refine lv_iload_n hx hb d_M_turnRight_67 rfl (lv_at hl 3 rfl) ?_
            refine hp_callv (W.runV (As := [.int (iI ((nx k : Nat) : Int))]) (rest := []) ⟨hx, hb, hml, hown, hG⟩ (c_M_take l E mo th ps md k lf nxa bfa l1 r1 (k :: ff) (nx k) hI (by omega)) (cwV 1 hG (hp_goodV ml_M_94 im_M_take se_M_take in_M co_M_take) rfl rfl rfl hd_M_take ⟨by rw [hRf]; exact Nat.le_of_ble_eq_true rfl, by rw [hRl]; exact Nat.le_of_ble_eq_true rfl⟩) (hp_preV (ci := 3) hp_nsn hK rfl hm ⟨hm, hlf, hnx, hbf⟩) rfl rfl hl.1 rfl (lv_room (Nat.le_of_ble_eq_true rfl)) d_M_turnRight_68 ⟨by rw [hRc]; exact Nat.le_of_ble_eq_true rfl, by rw [hRs]; exact Nat.le_of_ble_eq_true rfl⟩) hS (fun q h => h) (fun H locs hpost hz1 ho1 hS => ?_)
            have hZ := hz1.trans hZ
            obtain ⟨nxb, bfb, ⟨hm, hlf, hnx, hbf⟩, hI⟩ := hpost
            refine lv_iload_n hx hb d_M_turnRight_71 rfl (lv_at hl 2 rfl) ?_
            refine lv_iload hx hb d_M_turnRight_72 (lv_at hl 1 rfl) ?_
            refine hp_icmp_eq (tgt := 125) hx hb d_M_turnRight_74 (by decide) (by unfold iR; omega) (by unfold iR; omega) (fun c74 => ?_) (fun c74 => ?_)
            · skip
              have hrz9 : rz 8000 t1 (ch_w false lf l1) (ch_w false lf r1) W9 := by have e9 : [] = rz_p (ch_u false (lf k)) (ch_u false (lf (nx k))) := ch_e0 (by show lf (nx k) = -lf k; omega); rw [← e9] at hrz1; exact hrz1
              have hrg2 := ch_rng hI
              have hlb : ∀ z, z ∈ l1 ++ r1 → -10 < lf z ∧ lf z < 10 := hlr
              refine lv_iload hx hb d_M_turnRight_125 (lv_at hl 0 rfl) ?_
              refine hp_if_ne (tgt := 139) hx hb d_M_turnRight_127 (by decide) (by unfold iR; omega) (fun c127 => ?_) (fun c127 => ?_)
              · skip
                obtain ⟨l2, r2, hI2, hst2, he2⟩ := ch_b1 (s := s9 - 1) hI (by omega) (by omega) hrz9
                have hlb2 := ch_lb he2 hlb
                refine lv_iload hx hb d_M_turnRight_139 (lv_at hl 0 rfl) ?_
                refine lv_istore_n (lv' := [(1, .int (iI ((ch_h l1 0 : Nat) : Int))), (5, .int (iI ((ch_h l1 0 : Nat) : Int))), (4, .int (iI (lf (nx k)))), (3, .int (iI (-(lf k)))), (2, .int (iI ((nx k : Nat) : Int))), (0, .ref mo)]) hx hb d_M_turnRight_141 rfl hl (by decide) rfl (fun ls hl => ?_)
                refine lv_goto (tgt := 147) hx hb d_M_turnRight_142 (by decide) ?_
                refine lv_goto (tgt := 7) hx hb d_M_turnRight_147 (by decide) ?_
                exact ih7  (s9 - 1) (ch_h l1 0) l2 r2 ((nx k) :: (k :: ff)) md (nx k) lf nxb bfb (by omega) (by exact hst2) (by exact hI2) (by omega) (by exact hl1) (by exact hlb2) H locs hS hZ hm hlf hnx hbf ls (lv_sub hl [5, 0] rfl)
              · skip
                have el1 : l1 = [] := ch_nil hI (by omega)
                rw [el1] at hI hrz9 hlb
                obtain ⟨l2, r2, hI2, hst2, he2⟩ := ch_b0 (s := s9 - 1) hI (by omega) hrz9
                have hlb2 := ch_lb (l := []) he2 hlb
                refine lv_aload_n hx hb d_M_turnRight_130 rfl (lv_at hl 4 rfl) ?_
                refine hp_get (C := R_M) (T := F_M) (N := 19) (v := .ref (mo + 5)) hx hb hG la_M hown hK.1 hm rfl 5 (by decide) (hG _ fl_M_22) (fun _ h9 => h9) rfl d_M_turnRight_131 ?_
                refine hp_iconst (z := 0) hx hb d_M_turnRight_134 (by rfl) ?_
                refine hp_iald hx hb hK.1 0 hnx rfl d_M_turnRight_135 (by omega) 0 (by omega) (by omega) ?_
                refine lv_goto (tgt := 141) hx hb d_M_turnRight_136 (by decide) ?_
                refine lv_istore_n (lv' := [(1, .int (iI ((nxb 0 : Nat) : Int))), (5, .int (iI ((ch_h l1 0 : Nat) : Int))), (4, .int (iI (lf (nx k)))), (3, .int (iI (-(lf k)))), (2, .int (iI ((nx k : Nat) : Int))), (0, .ref mo)]) hx hb d_M_turnRight_141 rfl hl (by decide) rfl (fun ls hl => ?_)
                refine lv_goto (tgt := 147) hx hb d_M_turnRight_142 (by decide) ?_
                refine lv_goto (tgt := 7) hx hb d_M_turnRight_147 (by decide) ?_
                exact ih7  (s9 - 1) (nxb 0) l2 r2 ((nx k) :: (k :: ff)) md (nx k) lf nxb bfb (by omega) (by exact hst2) (by exact hI2) (by omega) (by exact hl1) (by exact hlb2) H locs hS hZ hm hlf hnx hbf ls (lv_sub hl [5, 0] rfl)
            · skip
              refine lv_aload_n hx hb d_M_turnRight_77 rfl (lv_at hl 4 rfl) ?_
              refine lv_iload hx hb d_M_turnRight_78 (lv_at hl 0 rfl) ?_
              refine lv_iload hx hb d_M_turnRight_80 (lv_at hl 1 rfl) ?_
              refine hp_calli (W.runV (As := [.int (iI ((ch_h l1 0 : Nat) : Int)), .int (iI (lf (nx k)))]) (rest := []) ⟨hx, hb, hml, hown, hG⟩ (c_M_insert l E mo th ps md (nx k) lf nxb bfb l1 r1 ((nx k) :: (k :: ff)) (lf (nx k)) hI (by omega) (by first | omega | (simp only [List.length_cons]; omega))) (cwV 2 hG (hp_goodV ml_M_98 im_M_insert se_M_insert in_M co_M_insert) rfl rfl rfl hd_M_insert ⟨by rw [hRf]; exact Nat.le_of_ble_eq_true rfl, by rw [hRl]; exact Nat.le_of_ble_eq_true rfl⟩) (hp_preV (ci := 3) hp_nsn hK rfl hm ⟨hm, hlf, hnx, hbf⟩) rfl rfl hl.1 rfl (lv_room (Nat.le_of_ble_eq_true rfl)) d_M_turnRight_82 ⟨by rw [hRc]; exact Nat.le_of_ble_eq_true rfl, by rw [hRs]; exact Nat.le_of_ble_eq_true rfl⟩) hS (fun q h => h) (fun r1 H locs hpost hz1 ho1 hS => ?_)
              have hZ := hz1.trans hZ
              obtain ⟨kc, mdc, fec, lfc, nxc, bfc, ffc, rfl, hk2c, hmx, huc, hwc, ⟨hm, hlf, hnx, hbf⟩, hI⟩ := hpost
              have hmpc := ch_mp false hI huc hwc
              have hl1 : lfc 1 = 0 := by rw [hwc 1 (by omega)]; exact hl1
              refine lv_istore (lv' := [(6, .int (iI (kc : Int))), (5, .int (iI ((ch_h l1 0 : Nat) : Int))), (4, .int (iI (lf (nx k)))), (3, .int (iI (-(lf k)))), (2, .int (iI ((nx k : Nat) : Int))), (0, .ref mo), (1, .int (iI (k : Int)))]) hx hb d_M_turnRight_85 hl (by decide) rfl (fun ls hl => ?_)
              refine lv_iload_n hx hb d_M_turnRight_87 rfl (lv_at hl 3 rfl) ?_
              refine lv_iload hx hb d_M_turnRight_88 (lv_at hl 2 rfl) ?_
              refine hp_callS (W.runS (As := [.int (iI (-(lf k))), .int (iI (lf (nx k)))]) (rest := []) ⟨hx, hb, hml, hown, hG⟩ (c_M_isNear l E (-(lf k)) (lf (nx k)) (by omega) (by omega)) (cwS 2 hG (hp_goodS ml_M_101 st_M_isNear in_M co_M_isNear) rfl rfl rfl hd_M_isNear ⟨by rw [hRf]; exact Nat.le_of_ble_eq_true rfl, by rw [hRl]; exact Nat.le_of_ble_eq_true rfl⟩) (hp_preS hp_nsn hK trivial) rfl rfl hl.1 rfl (lv_room (Nat.le_of_ble_eq_true rfl)) d_M_turnRight_90 ⟨by rw [hRc]; exact Nat.le_of_ble_eq_true rfl, by rw [hRs]; exact Nat.le_of_ble_eq_true rfl⟩) ?_
              refine hp_ifb_eq (tgt := 116) hx hb d_M_turnRight_93 (by decide) (fun c93 => ?_) (fun c93 => ?_)
              · skip
                have c93 := of_decide_eq_false c93
                refine lv_aload_n hx hb d_M_turnRight_116 rfl (lv_at hl 5 rfl) ?_
                refine lv_iload hx hb d_M_turnRight_117 (lv_at hl 0 rfl) ?_
                refine lv_iload_n hx hb d_M_turnRight_119 rfl (lv_at hl 3 rfl) ?_
                refine hp_ineg hx hb d_M_turnRight_120 ?_
                refine hp_calli (W.runV (As := [.int (iI (kc : Int)), .int (iI (-(-(lf k))))]) (rest := []) ⟨hx, hb, hml, hown, hG⟩ (c_M_insert l E mo th ps mdc fec lfc nxc bfc (kc :: l1) r1 ffc (-(-(lf k))) hI (by omega) (by first | omega | (simp only [List.length_cons]; omega))) (cwV 2 hG (hp_goodV ml_M_98 im_M_insert se_M_insert in_M co_M_insert) rfl rfl rfl hd_M_insert ⟨by rw [hRf]; exact Nat.le_of_ble_eq_true rfl, by rw [hRl]; exact Nat.le_of_ble_eq_true rfl⟩) (hp_preV (ci := 3) hp_nsn hK rfl hm ⟨hm, hlf, hnx, hbf⟩) rfl rfl hl.1 rfl (lv_room (Nat.le_of_ble_eq_true rfl)) d_M_turnRight_121 ⟨by rw [hRc]; exact Nat.le_of_ble_eq_true rfl, by rw [hRs]; exact Nat.le_of_ble_eq_true rfl⟩) hS (fun q h => h) (fun r2 H locs hpost hz1 ho1 hS => ?_)
                have hZ := hz1.trans hZ
                obtain ⟨kd, mdd, fed, lfd, nxd, bfd, ffd, rfl, hk2d, hmx, hud, hwd, ⟨hm, hlf, hnx, hbf⟩, hI⟩ := hpost
                have hmpd := ch_mp false hI hud hwd
                have hl1 : lfd 1 = 0 := by rw [hwd 1 (by omega)]; exact hl1
                refine lv_pop hx hb d_M_turnRight_124 rfl ?_
                have hL : ch_w false lfd (kd :: kc :: l1) = ch_u false (-(-(lf k))) :: ch_u false (lf (nx k)) :: ch_w false lf l1 := by rw [hmpd.1, hmpc.1]
                have hR : ch_w false lfd r1 = ch_w false lf r1 := by rw [hmpd.2, hmpc.2]
                have hI := ch_sh.mpr hI
                have hI := ch_sh.mpr hI
                have hxx := ch_x2 hL hR
                have hrz9 : rz 8000 t1 (ch_w false lfd l1) (ch_w false lfd (kc :: kd :: r1)) W9 := by rw [hxx.1, hxx.2, ch_e2 (x := ch_u false (lf k)) (y := ch_u false (lf (nx k))) (by show lf (nx k) ≠ -(lf k); omega) (by show ¬ (lf k + lf (nx k) = 1 ∨ lf k + lf (nx k) = -1); omega) (by show (lf (nx k)) = lf (nx k); omega) (by show (-(-(lf k))) = lf k; omega)]; exact hrz1
                have hrg2 := ch_rng hI
                have hlb : ∀ z, z ∈ l1 ++ (kc :: kd :: r1) → -10 < lfd z ∧ lfd z < 10 := by intro z hz; by_cases ed : z = kd; (rw [ed, hud]; omega); rw [hwd z ed]; by_cases ec : z = kc; (rw [ec, huc]; omega); rw [hwc z ec]; exact hlr z (by simpa [ec, ed] using hz)
                refine lv_iload hx hb d_M_turnRight_125 (lv_at hl 1 rfl) ?_
                refine hp_if_ne (tgt := 139) hx hb d_M_turnRight_127 (by decide) (by unfold iR; omega) (fun c127 => ?_) (fun c127 => ?_)
                · skip
                  obtain ⟨l2, r2, hI2, hst2, he2⟩ := ch_b1 (s := s9 - 1) hI (by omega) (by omega) hrz9
                  have hlb2 := ch_lb he2 hlb
                  refine lv_iload hx hb d_M_turnRight_139 (lv_at hl 1 rfl) ?_
                  refine lv_istore_n (lv' := [(1, .int (iI ((ch_h l1 0 : Nat) : Int))), (6, .int (iI (kc : Int))), (5, .int (iI ((ch_h l1 0 : Nat) : Int))), (4, .int (iI (lf (nx k)))), (3, .int (iI (-(lf k)))), (2, .int (iI ((nx k : Nat) : Int))), (0, .ref mo)]) hx hb d_M_turnRight_141 rfl hl (by decide) rfl (fun ls hl => ?_)
                  refine lv_goto (tgt := 147) hx hb d_M_turnRight_142 (by decide) ?_
                  refine lv_goto (tgt := 7) hx hb d_M_turnRight_147 (by decide) ?_
                  exact ih7  (s9 - 1) (ch_h l1 0) l2 r2 ffd mdd fed lfd nxd bfd (by omega) (by exact hst2) (by exact hI2) (by omega) (by exact hl1) (by exact hlb2) H locs hS hZ hm hlf hnx hbf ls (lv_sub hl [6, 0] rfl)
                · skip
                  have el1 : l1 = [] := ch_nil hI (by omega)
                  rw [el1] at hI hrz9 hlb
                  obtain ⟨l2, r2, hI2, hst2, he2⟩ := ch_b0 (s := s9 - 1) hI (by omega) hrz9
                  have hlb2 := ch_lb (l := []) he2 hlb
                  refine lv_aload_n hx hb d_M_turnRight_130 rfl (lv_at hl 5 rfl) ?_
                  refine hp_get (C := R_M) (T := F_M) (N := 19) (v := .ref (mo + 5)) hx hb hG la_M hown hK.1 hm rfl 5 (by decide) (hG _ fl_M_22) (fun _ h9 => h9) rfl d_M_turnRight_131 ?_
                  refine hp_iconst (z := 0) hx hb d_M_turnRight_134 (by rfl) ?_
                  refine hp_iald hx hb hK.1 0 hnx rfl d_M_turnRight_135 (by omega) 0 (by omega) (by omega) ?_
                  refine lv_goto (tgt := 141) hx hb d_M_turnRight_136 (by decide) ?_
                  refine lv_istore_n (lv' := [(1, .int (iI ((nxd 0 : Nat) : Int))), (6, .int (iI (kc : Int))), (5, .int (iI ((ch_h l1 0 : Nat) : Int))), (4, .int (iI (lf (nx k)))), (3, .int (iI (-(lf k)))), (2, .int (iI ((nx k : Nat) : Int))), (0, .ref mo)]) hx hb d_M_turnRight_141 rfl hl (by decide) rfl (fun ls hl => ?_)
                  refine lv_goto (tgt := 147) hx hb d_M_turnRight_142 (by decide) ?_
                  refine lv_goto (tgt := 7) hx hb d_M_turnRight_147 (by decide) ?_
                  exact ih7  (s9 - 1) (nxd 0) l2 r2 ffd mdd fed lfd nxd bfd (by omega) (by exact hst2) (by exact hI2) (by omega) (by exact hl1) (by exact hlb2) H locs hS hZ hm hlf hnx hbf ls (lv_sub hl [6, 0] rfl)
              · skip
                have c93 := of_decide_eq_true c93
                refine lv_aload_n hx hb d_M_turnRight_96 rfl (lv_at hl 5 rfl) ?_
                refine lv_iload hx hb d_M_turnRight_97 (lv_at hl 0 rfl) ?_
                refine lv_iload_n hx hb d_M_turnRight_99 rfl (lv_at hl 3 rfl) ?_
                refine hp_calli (W.runV (As := [.int (iI (kc : Int)), .int (iI (-(lf k)))]) (rest := []) ⟨hx, hb, hml, hown, hG⟩ (c_M_insert l E mo th ps mdc fec lfc nxc bfc (kc :: l1) r1 ffc (-(lf k)) hI (by omega) (by first | omega | (simp only [List.length_cons]; omega))) (cwV 2 hG (hp_goodV ml_M_98 im_M_insert se_M_insert in_M co_M_insert) rfl rfl rfl hd_M_insert ⟨by rw [hRf]; exact Nat.le_of_ble_eq_true rfl, by rw [hRl]; exact Nat.le_of_ble_eq_true rfl⟩) (hp_preV (ci := 3) hp_nsn hK rfl hm ⟨hm, hlf, hnx, hbf⟩) rfl rfl hl.1 rfl (lv_room (Nat.le_of_ble_eq_true rfl)) d_M_turnRight_100 ⟨by rw [hRc]; exact Nat.le_of_ble_eq_true rfl, by rw [hRs]; exact Nat.le_of_ble_eq_true rfl⟩) hS (fun q h => h) (fun r3 H locs hpost hz1 ho1 hS => ?_)
                have hZ := hz1.trans hZ
                obtain ⟨kd, mdd, fed, lfd, nxd, bfd, ffd, rfl, hk2d, hmx, hud, hwd, ⟨hm, hlf, hnx, hbf⟩, hI⟩ := hpost
                have hmpd := ch_mp false hI hud hwd
                have hl1 : lfd 1 = 0 := by rw [hwd 1 (by omega)]; exact hl1
                refine lv_istore (lv' := [(6, .int (iI (kd : Int))), (5, .int (iI ((ch_h l1 0 : Nat) : Int))), (4, .int (iI (lf (nx k)))), (3, .int (iI (-(lf k)))), (2, .int (iI ((nx k : Nat) : Int))), (0, .ref mo), (1, .int (iI (k : Int)))]) hx hb d_M_turnRight_103 hl (by decide) rfl (fun ls hl => ?_)
                refine lv_aload_n hx hb d_M_turnRight_105 rfl (lv_at hl 5 rfl) ?_
                refine lv_iload hx hb d_M_turnRight_106 (lv_at hl 0 rfl) ?_
                refine lv_iload hx hb d_M_turnRight_108 (lv_at hl 2 rfl) ?_
                refine hp_ineg hx hb d_M_turnRight_110 ?_
                refine hp_calli (W.runV (As := [.int (iI (kd : Int)), .int (iI (-(lf (nx k))))]) (rest := []) ⟨hx, hb, hml, hown, hG⟩ (c_M_insert l E mo th ps mdd fed lfd nxd bfd (kd :: (kc :: l1)) r1 ffd (-(lf (nx k))) hI (by omega) (by first | omega | (simp only [List.length_cons]; omega))) (cwV 2 hG (hp_goodV ml_M_98 im_M_insert se_M_insert in_M co_M_insert) rfl rfl rfl hd_M_insert ⟨by rw [hRf]; exact Nat.le_of_ble_eq_true rfl, by rw [hRl]; exact Nat.le_of_ble_eq_true rfl⟩) (hp_preV (ci := 3) hp_nsn hK rfl hm ⟨hm, hlf, hnx, hbf⟩) rfl rfl hl.1 rfl (lv_room (Nat.le_of_ble_eq_true rfl)) d_M_turnRight_111 ⟨by rw [hRc]; exact Nat.le_of_ble_eq_true rfl, by rw [hRs]; exact Nat.le_of_ble_eq_true rfl⟩) hS (fun q h => h) (fun r4 H locs hpost hz1 ho1 hS => ?_)
                have hZ := hz1.trans hZ
                obtain ⟨ke, mde, fee, lfe, nxe, bfe, ffe, rfl, hk2e, hmx, hue, hwe, ⟨hm, hlf, hnx, hbf⟩, hI⟩ := hpost
                have hmpe := ch_mp false hI hue hwe
                have hl1 : lfe 1 = 0 := by rw [hwe 1 (by omega)]; exact hl1
                refine lv_istore (lv' := [(6, .int (iI (ke : Int))), (5, .int (iI ((ch_h l1 0 : Nat) : Int))), (4, .int (iI (lf (nx k)))), (3, .int (iI (-(lf k)))), (2, .int (iI ((nx k : Nat) : Int))), (0, .ref mo), (1, .int (iI (k : Int)))]) hx hb d_M_turnRight_114 hl (by decide) rfl (fun ls hl => ?_)
                refine lv_aload_n hx hb d_M_turnRight_116 rfl (lv_at hl 5 rfl) ?_
                refine lv_iload hx hb d_M_turnRight_117 (lv_at hl 0 rfl) ?_
                refine lv_iload_n hx hb d_M_turnRight_119 rfl (lv_at hl 3 rfl) ?_
                refine hp_ineg hx hb d_M_turnRight_120 ?_
                refine hp_calli (W.runV (As := [.int (iI (ke : Int)), .int (iI (-(-(lf k))))]) (rest := []) ⟨hx, hb, hml, hown, hG⟩ (c_M_insert l E mo th ps mde fee lfe nxe bfe (ke :: (kd :: (kc :: l1))) r1 ffe (-(-(lf k))) hI (by omega) (by first | omega | (simp only [List.length_cons]; omega))) (cwV 2 hG (hp_goodV ml_M_98 im_M_insert se_M_insert in_M co_M_insert) rfl rfl rfl hd_M_insert ⟨by rw [hRf]; exact Nat.le_of_ble_eq_true rfl, by rw [hRl]; exact Nat.le_of_ble_eq_true rfl⟩) (hp_preV (ci := 3) hp_nsn hK rfl hm ⟨hm, hlf, hnx, hbf⟩) rfl rfl hl.1 rfl (lv_room (Nat.le_of_ble_eq_true rfl)) d_M_turnRight_121 ⟨by rw [hRc]; exact Nat.le_of_ble_eq_true rfl, by rw [hRs]; exact Nat.le_of_ble_eq_true rfl⟩) hS (fun q h => h) (fun r5 H locs hpost hz1 ho1 hS => ?_)
                have hZ := hz1.trans hZ
                obtain ⟨kf, mdf, fef, lff, nxf, bff, fff, rfl, hk2f, hmx, huf, hwf, ⟨hm, hlf, hnx, hbf⟩, hI⟩ := hpost
                have hmpf := ch_mp false hI huf hwf
                have hl1 : lff 1 = 0 := by rw [hwf 1 (by omega)]; exact hl1
                refine lv_pop hx hb d_M_turnRight_124 rfl ?_
                have hL : ch_w false lff (kf :: ke :: kd :: kc :: l1) = ch_u false (-(-(lf k))) :: ch_u false (-(lf (nx k))) :: ch_u false (-(lf k)) :: ch_u false (lf (nx k)) :: ch_w false lf l1 := by rw [hmpf.1, hmpe.1, hmpd.1, hmpc.1]
                have hR : ch_w false lff r1 = ch_w false lf r1 := by rw [hmpf.2, hmpe.2, hmpd.2, hmpc.2]
                have hI := ch_sh.mpr hI
                have hI := ch_sh.mpr hI
                have hI := ch_sh.mpr hI
                have hI := ch_sh.mpr hI
                have hxx := ch_x4 hL hR
                have hrz9 : rz 8000 t1 (ch_w false lff l1) (ch_w false lff (kc :: kd :: ke :: kf :: r1)) W9 := by rw [hxx.1, hxx.2, ch_e4 (x := ch_u false (lf k)) (y := ch_u false (lf (nx k))) (by show lf (nx k) ≠ -(lf k); omega) (by show lf k + lf (nx k) = 1 ∨ lf k + lf (nx k) = -1; omega) (by show (lf (nx k)) = lf (nx k); omega) (by show (-(lf k)) = -(lf k); omega) (by show (-(lf (nx k))) = -(lf (nx k)); omega) (by show (-(-(lf k))) = lf k; omega)]; exact hrz1
                have hrg2 := ch_rng hI
                have hlb : ∀ z, z ∈ l1 ++ (kc :: kd :: ke :: kf :: r1) → -10 < lff z ∧ lff z < 10 := by intro z hz; by_cases ef : z = kf; (rw [ef, huf]; omega); rw [hwf z ef]; by_cases ee : z = ke; (rw [ee, hue]; omega); rw [hwe z ee]; by_cases ed : z = kd; (rw [ed, hud]; omega); rw [hwd z ed]; by_cases ec : z = kc; (rw [ec, huc]; omega); rw [hwc z ec]; exact hlr z (by simpa [ec, ed, ee, ef] using hz)
                refine lv_iload hx hb d_M_turnRight_125 (lv_at hl 1 rfl) ?_
                refine hp_if_ne (tgt := 139) hx hb d_M_turnRight_127 (by decide) (by unfold iR; omega) (fun c127 => ?_) (fun c127 => ?_)
                · skip
                  obtain ⟨l2, r2, hI2, hst2, he2⟩ := ch_b1 (s := s9 - 1) hI (by omega) (by omega) hrz9
                  have hlb2 := ch_lb he2 hlb
                  refine lv_iload hx hb d_M_turnRight_139 (lv_at hl 1 rfl) ?_
                  refine lv_istore_n (lv' := [(1, .int (iI ((ch_h l1 0 : Nat) : Int))), (6, .int (iI (ke : Int))), (5, .int (iI ((ch_h l1 0 : Nat) : Int))), (4, .int (iI (lf (nx k)))), (3, .int (iI (-(lf k)))), (2, .int (iI ((nx k : Nat) : Int))), (0, .ref mo)]) hx hb d_M_turnRight_141 rfl hl (by decide) rfl (fun ls hl => ?_)
                  refine lv_goto (tgt := 147) hx hb d_M_turnRight_142 (by decide) ?_
                  refine lv_goto (tgt := 7) hx hb d_M_turnRight_147 (by decide) ?_
                  exact ih7  (s9 - 1) (ch_h l1 0) l2 r2 fff mdf fef lff nxf bff (by omega) (by exact hst2) (by exact hI2) (by omega) (by exact hl1) (by exact hlb2) H locs hS hZ hm hlf hnx hbf ls (lv_sub hl [6, 0] rfl)
                · skip
                  have el1 : l1 = [] := ch_nil hI (by omega)
                  rw [el1] at hI hrz9 hlb
                  obtain ⟨l2, r2, hI2, hst2, he2⟩ := ch_b0 (s := s9 - 1) hI (by omega) hrz9
                  have hlb2 := ch_lb (l := []) he2 hlb
                  refine lv_aload_n hx hb d_M_turnRight_130 rfl (lv_at hl 5 rfl) ?_
                  refine hp_get (C := R_M) (T := F_M) (N := 19) (v := .ref (mo + 5)) hx hb hG la_M hown hK.1 hm rfl 5 (by decide) (hG _ fl_M_22) (fun _ h9 => h9) rfl d_M_turnRight_131 ?_
                  refine hp_iconst (z := 0) hx hb d_M_turnRight_134 (by rfl) ?_
                  refine hp_iald hx hb hK.1 0 hnx rfl d_M_turnRight_135 (by omega) 0 (by omega) (by omega) ?_
                  refine lv_goto (tgt := 141) hx hb d_M_turnRight_136 (by decide) ?_
                  refine lv_istore_n (lv' := [(1, .int (iI ((nxf 0 : Nat) : Int))), (6, .int (iI (ke : Int))), (5, .int (iI ((ch_h l1 0 : Nat) : Int))), (4, .int (iI (lf (nx k)))), (3, .int (iI (-(lf k)))), (2, .int (iI ((nx k : Nat) : Int))), (0, .ref mo)]) hx hb d_M_turnRight_141 rfl hl (by decide) rfl (fun ls hl => ?_)
                  refine lv_goto (tgt := 147) hx hb d_M_turnRight_142 (by decide) ?_
                  refine lv_goto (tgt := 7) hx hb d_M_turnRight_147 (by decide) ?_
                  exact ih7  (s9 - 1) (nxf 0) l2 r2 fff mdf fef lff nxf bff (by omega) (by exact hst2) (by exact hI2) (by omega) (by exact hl1) (by exact hlb2) H locs hS hZ hm hlf hnx hbf ls (lv_sub hl [6, 0] rfl)
  exact L7 (t9 + 1) t9 (nx 0) l2 r2 f0 md fe lf nx bf (by omega) (by exact hst2) (by exact hI2) (by exact hmx0) (by exact hl10) (by exact hlb2) H locs hS hZ hm hlf hnx hbf ls (lv_sub hl [1, 0] rfl)

set_option maxHeartbeats 4000000 in
set_option maxRecDepth 100000 in
/-- turnLeft() -/
theorem c_M_turnLeft (l : Launch) (E : hp_E) (mo : Nat) (th ps : Int) (md fe : Nat) (lf : Nat → Int) (nx bf : Nat → Nat) (r0 f0 : List Nat) (t9 : Nat) (W9 : List Int) (hI0 : ch_I nx bf md fe [] r0 f0) (hmx0 : md ≤ 8192) (hl10 : lf 1 = 0) (hlb0 : ∀ z, z ∈ r0 → -10 < lf z ∧ lf z < 10) (hrz0 : rz 8000 t9 [] (ch_w true lf r0) W9) : Met l y_M_turnLeft (Cond.code y_M_turnLeft b_M_turnLeft 7 (none) :: G0) ({ frames := 1, cells := 0, slots := 0, locals := 23 }) (hp_P E [.ref mo] (fun H => chA E H mo th md fe ps lf nx bf)) (hp_Qv (fun q => q = mo ∨ q = mo + 4 ∨ q = mo + 5 ∨ q = mo + 6) (fun H => ∃ (md1 fe1 : Nat) (lf1 : Nat → Int) (nx1 bf1 : Nat → Nat) (ff1 rr1 : List Nat), ch_w true lf1 rr1 = W9 ∧ lf1 1 = 0 ∧ md1 ≤ 8192 ∧ chA E H mo th md1 fe1 ps lf1 nx1 bf1 ∧ ch_I nx1 bf1 md1 fe1 [] rr1 ff1 ∧ ∀ z, z ∈ rr1 → -10 < lf1 z ∧ lf1 z < 10)) 0 0 (fun q => q = mo ∨ q = mo + 4 ∨ q = mo + 5 ∨ q = mo + 6) := by
  refine Met.ofW (cc := b_M_turnLeft) (maxL := 7) (ret := none) (by decide) rfl ?_
  intro p e s m args below meth cd s₁ Bd hml hv
  obtain ⟨hargs, hB, hK⟩ := hv
  have hx := Bd.exec
  have hb := Bd.bytes
  have hrt := Bd.returns
  have hts := atoms_spec (ws := Cond.code y_M_turnLeft b_M_turnLeft 7 (none) :: G0) Bd.pre
  have hG : ∀ w ∈ G0, w.before args s = true := fun w h => hts w (List.mem_cons_of_mem _ h)
  have hown : s.vm.findClass R_M = some m.cls := findClass_of_methodNamed Bd.named
  have hlocks := Bd.notSynchronized
  have hl := lv_entry ([.ref mo]) (n := 7) (Nat.le_of_ble_eq_true rfl)
  rw [show entryFrame m args 7 = entryFrame m ([.ref mo] : List Value).toArray 7 from by rw [hargs]]
  rw [lg_entry_eq]
  generalize (lg_sl ([.ref mo]) ++ List.replicate (7 - (lg_sl ([.ref mo])).length) Slot.unset).toArray = ls at hl ⊢
  have hl : lv_has ls 7 [(0, .ref mo)] := hl
  obtain ⟨R, hR⟩ : ∃ R, R = (headSpec (Cond.code y_M_turnLeft b_M_turnLeft 7 (none) :: G0) { frames := 1, cells := 0, slots := 0, locals := 23 }).room := ⟨_, rfl⟩
  rw [← hR]
  have hRf : R.frames = 1 := by rw [hR]; rfl
  have hRl : R.locals = 23 := by rw [hR]; rfl
  have hRc : R.cells = 0 := by rw [hR]; rfl
  have hRs : R.slots = 0 := by rw [hR]; rfl
  obtain ⟨Q, hQ⟩ : ∃ Q, Q = MQ below (hp_Qv (fun q => q = mo ∨ q = mo + 4 ∨ q = mo + 5 ∨ q = mo + 6) (fun H => ∃ (md1 fe1 : Nat) (lf1 : Nat → Int) (nx1 bf1 : Nat → Nat) (ff1 rr1 : List Nat), ch_w true lf1 rr1 = W9 ∧ lf1 1 = 0 ∧ md1 ≤ 8192 ∧ chA E H mo th md1 fe1 ps lf1 nx1 bf1 ∧ ch_I nx1 bf1 md1 fe1 [] rr1 ff1 ∧ ∀ z, z ∈ rr1 → -10 < lf1 z ∧ lf1 z < 10)) args s 0 0 (fun q => q = mo ∨ q = mo + 4 ∨ q = mo + 5 ∨ q = mo + 6) := ⟨_, rfl⟩
  rw [← hQ]
  obtain ⟨H, hH⟩ : ∃ H, H = s.heap := ⟨_, rfl⟩
  obtain ⟨locs, hlocs⟩ : ∃ locs : List Loc, locs = [] := ⟨_, rfl⟩
  have hS : va_S (fun q => q = mo ∨ q = mo + 4 ∨ q = mo + 5 ∨ q = mo + 6) s.heap H locs := by rw [hH, hlocs]; exact va_S.rf
  have hZ : H.size = s.heap.size := by rw [hH]
  rw [← hH] at hB
  rw [show W p l e R s m args below meth cd s.heap [] 0 0 Q (F0 m 0 ls []) = W p l e R s m args below meth cd H locs 0 0 Q (F0 m 0 ls []) from by rw [hH, hlocs]]
  obtain ⟨hm, hlf, hnx, hbf⟩ := hB
  have hlbr : ∀ (l1 r1 : List Nat) {k m : Nat} {lf : Nat → Int}, (∀ z, z ∈ k :: l1 ++ m :: r1 → -10 < lf z ∧ lf z < 10) → ∀ z, z ∈ l1 ++ r1 → -10 < lf z ∧ lf z < 10 := fun l1 r1 k m lf h z hz => h z (by rcases List.mem_append.mp hz with q | q; (simp [q]); (simp [q]))
  obtain ⟨l2, r2, hI2, hst2, he2⟩ := ch_b0 (s := t9) hI0 (by omega) hrz0
  have hlb2 := ch_lb (l := []) he2 hlb0
  refine lv_aload_n hx hb d_M_turnLeft_0 rfl (lv_at hl 0 rfl) ?_
  refine hp_get (C := R_M) (T := F_M) (N := 19) (v := .ref (mo + 5)) hx hb hG la_M hown hK.1 hm rfl 5 (by decide) (hG _ fl_M_22) (fun _ h9 => h9) rfl d_M_turnLeft_1 ?_
  refine hp_iconst (z := 0) hx hb d_M_turnLeft_4 (by rfl) ?_
  refine hp_iald hx hb hK.1 0 hnx rfl d_M_turnLeft_5 (by omega) 0 (by omega) (by omega) ?_
  refine lv_istore_n (lv' := [(1, .int (iI ((nx 0 : Nat) : Int))), (0, .ref mo)]) hx hb d_M_turnLeft_6 rfl hl (by decide) rfl (fun ls hl => ?_)
  have L7 : ∀ (N : Nat) (s9 k : Nat) (ll rr ff : List Nat) (md fe : Nat) (lf : Nat → Int) (nx bf : Nat → Nat), s9 < N → (ch_st true s9 k ll rr lf W9) → (ch_I nx bf md fe ll rr ff) → (md ≤ 8192) → (lf 1 = 0) → (∀ z, z ∈ ll ++ rr → -10 < lf z ∧ lf z < 10) → ∀ (H : Heap) (locs : List Loc), va_S (fun q => q = mo ∨ q = mo + 4 ∨ q = mo + 5 ∨ q = mo + 6) s.heap H locs → H.size = s.heap.size → ca E H mo (oM mo th (md : Int) (fe : Int) ps) → ca E H (mo + 4) (ai E 8192 lf) → ca E H (mo + 5) (ai E 8192 (fun k => (nx k : Int))) → ca E H (mo + 6) (ai E 8192 (fun k => (bf k : Int))) → ∀ ls : Array Slot, lv_has ls 7 [(0, .ref mo), (1, .int (iI (k : Int)))] → W p l e R s m args below meth cd H locs 0 0 Q (F0 m 7 ls []) := by
    intro N
    induction N with
    | zero => intro s9 k ll rr ff md fe lf nx bf hN; exact absurd hN (by omega)
    | succ N ih =>
      intro s9 k ll rr ff md fe lf nx bf hN hst hI hmx hl1 hlb H locs hS hZ hm hlf hnx hbf ls hl
      have ih7 := ih
      refine lv_iload_n hx hb d_M_turnLeft_7 rfl (lv_at hl 1 rfl) ?_
      refine hp_iconst (z := 1) hx hb d_M_turnLeft_8 (by rfl) ?_
      have hkr : k < 8192 := ch_kb hst hI hmx
      refine hp_icmp_eq (tgt := 150) hx hb d_M_turnLeft_9 (by decide) (by unfold iR; omega) (by unfold iR; omega) (fun c9 => ?_) (fun c9 => ?_)
      · skip
        rw [hQ]
        refine hp_vretQ hx hb hrt hlocks d_M_turnLeft_150 hS hZ ?_
        rcases hst with ⟨h9, h8, h7⟩ | ⟨l9, t, ht9, el9, hz9⟩
        · rw [h8] at hI hlb
          refine ⟨md, fe, lf, nx, bf, ff, ll.reverse ++ [], ?_, hl1, hmx, ⟨hm, hlf, hnx, hbf⟩, ch_all hI, fun z hz => hlb z (by simpa using hz)⟩
          rw [h7]; simp [ch_w]
        · have h6 := hI.2.1.2.1 k (by rw [el9]; simp)
          omega
      · skip
        obtain ⟨l1, t0, ht0, el, hrz⟩ : ∃ l1 t0, t0 < s9 ∧ ll = k :: l1 ∧ rz 8000 t0 (ch_w true lf ll) (ch_w true lf rr) W9 := by rcases hst with h9 | h9; (exact absurd (by omega) c9); exact h9
        subst el
        have hkb : 2 ≤ k ∧ k < md := hI.2.1.2.1 k (by simp)
        have hrg := ch_rng hI
        have enx : nx k = ch_h rr 1 := hI.1.2.1
        have ebf : bf k = ch_h l1 0 := hI.1.1.2.1
        have hla := hlb k (by simp)
        have hlm : -10 < lf (nx k) ∧ lf (nx k) < 10 := by rw [enx]; rcases ch_h_in rr 1 with e9 | e9; (rw [e9, hl1]; omega); exact hlb _ (by simp [e9])
        refine lv_aload_n hx hb d_M_turnLeft_12 rfl (lv_at hl 0 rfl) ?_
        refine hp_get (C := R_M) (T := F_M) (N := 19) (v := .ref (mo + 5)) hx hb hG la_M hown hK.1 hm rfl 5 (by decide) (hG _ fl_M_22) (fun _ h9 => h9) rfl d_M_turnLeft_13 ?_
        refine lv_iload_n hx hb d_M_turnLeft_16 rfl (lv_at hl 1 rfl) ?_
        refine hp_iald hx hb hK.1 0 hnx rfl d_M_turnLeft_17 (by omega) k (by omega) (by omega) ?_
        refine lv_istore_n (lv' := [(2, .int (iI ((nx k : Nat) : Int))), (0, .ref mo), (1, .int (iI (k : Int)))]) hx hb d_M_turnLeft_18 rfl hl (by decide) rfl (fun ls hl => ?_)
        refine lv_aload_n hx hb d_M_turnLeft_19 rfl (lv_at hl 1 rfl) ?_
        refine hp_get (C := R_M) (T := F_M) (N := 19) (v := .ref (mo + 4)) hx hb hG la_M hown hK.1 hm rfl 4 (by decide) (hG _ fl_M_19) (fun _ h9 => h9) rfl d_M_turnLeft_20 ?_
        refine lv_iload_n hx hb d_M_turnLeft_23 rfl (lv_at hl 2 rfl) ?_
        refine hp_iald hx hb hK.1 0 hlf rfl d_M_turnLeft_24 (by omega) k (by omega) (by omega) ?_
        refine hp_if_le (tgt := 145) hx hb d_M_turnLeft_25 (by decide) (by unfold iR; omega) (fun c25 => ?_) (fun c25 => ?_)
        · skip
          obtain ⟨l2, r2, hI2, hst2, he2⟩ := ch_mv (s := s9 - 1) hI (by omega) hrz (fun h9 => by have h8 : (-lf k) < 0 := h9.1; have h7 : 0 < (-lf (nx k)) := h9.2; omega)
          have hlb2 := ch_lb he2 hlb
          refine lv_iload_n hx hb d_M_turnLeft_145 rfl (lv_at hl 0 rfl) ?_
          refine lv_istore_n (lv' := [(1, .int (iI ((nx k : Nat) : Int))), (2, .int (iI ((nx k : Nat) : Int))), (0, .ref mo)]) hx hb d_M_turnLeft_146 rfl hl (by decide) rfl (fun ls hl => ?_)
          refine lv_goto (tgt := 7) hx hb d_M_turnLeft_147 (by decide) ?_
          exact ih7  (s9 - 1) (nx k) l2 r2 ff md fe lf nx bf (by omega) (by exact hst2) (by exact hI2) (by omega) (by exact hl1) (by exact hlb2) H locs hS hZ hm hlf hnx hbf ls (lv_sub hl [2, 0] rfl)
        · skip
          refine lv_aload_n hx hb d_M_turnLeft_28 rfl (lv_at hl 1 rfl) ?_
          refine hp_get (C := R_M) (T := F_M) (N := 19) (v := .ref (mo + 4)) hx hb hG la_M hown hK.1 hm rfl 4 (by decide) (hG _ fl_M_19) (fun _ h9 => h9) rfl d_M_turnLeft_29 ?_
          refine lv_iload_n hx hb d_M_turnLeft_32 rfl (lv_at hl 0 rfl) ?_
          refine hp_iald hx hb hK.1 0 hlf rfl d_M_turnLeft_33 (by omega) (nx k) (by omega) (by omega) ?_
          refine hp_if_ge (tgt := 145) hx hb d_M_turnLeft_34 (by decide) (by unfold iR; omega) (fun c34 => ?_) (fun c34 => ?_)
          · skip
            obtain ⟨l2, r2, hI2, hst2, he2⟩ := ch_mv (s := s9 - 1) hI (by omega) hrz (fun h9 => by have h8 : (-lf k) < 0 := h9.1; have h7 : 0 < (-lf (nx k)) := h9.2; omega)
            have hlb2 := ch_lb he2 hlb
            refine lv_iload_n hx hb d_M_turnLeft_145 rfl (lv_at hl 0 rfl) ?_
            refine lv_istore_n (lv' := [(1, .int (iI ((nx k : Nat) : Int))), (2, .int (iI ((nx k : Nat) : Int))), (0, .ref mo)]) hx hb d_M_turnLeft_146 rfl hl (by decide) rfl (fun ls hl => ?_)
            refine lv_goto (tgt := 7) hx hb d_M_turnLeft_147 (by decide) ?_
            exact ih7  (s9 - 1) (nx k) l2 r2 ff md fe lf nx bf (by omega) (by exact hst2) (by exact hI2) (by omega) (by exact hl1) (by exact hlb2) H locs hS hZ hm hlf hnx hbf ls (lv_sub hl [2, 0] rfl)
          · skip
            obtain ⟨r1, er⟩ := ch_cons enx (fun q => by rw [q, hl1] at c34; omega)
            subst er
            obtain ⟨t1, et, hb9, hrz1⟩ := rz_inv_rp (show rz 8000 t0 (ch_u true (lf k) :: ch_w true lf l1) (ch_u true (lf (nx k)) :: ch_w true lf r1) W9 from hrz) (by show (-lf k) < 0; omega) (by show 0 < (-lf (nx k)); omega)
            rw [List.length_append, ch_w_len, ch_w_len] at hb9
            have hlr := hlbr l1 r1 hlb
            refine lv_aload_n hx hb d_M_turnLeft_37 rfl (lv_at hl 1 rfl) ?_
            refine hp_get (C := R_M) (T := F_M) (N := 19) (v := .ref (mo + 4)) hx hb hG la_M hown hK.1 hm rfl 4 (by decide) (hG _ fl_M_19) (fun _ h9 => h9) rfl d_M_turnLeft_38 ?_
            refine lv_iload_n hx hb d_M_turnLeft_41 rfl (lv_at hl 2 rfl) ?_
            refine hp_iald hx hb hK.1 0 hlf rfl d_M_turnLeft_42 (by omega) k (by omega) (by omega) ?_
            refine lv_istore_n (lv' := [(3, .int (iI (lf k))), (2, .int (iI ((nx k : Nat) : Int))), (0, .ref mo), (1, .int (iI (k : Int)))]) hx hb d_M_turnLeft_43 rfl hl (by decide) rfl (fun ls hl => ?_)
            refine lv_aload_n hx hb d_M_turnLeft_44 rfl (lv_at hl 2 rfl) ?_
            refine hp_get (C := R_M) (T := F_M) (N := 19) (v := .ref (mo + 4)) hx hb hG la_M hown hK.1 hm rfl 4 (by decide) (hG _ fl_M_19) (fun _ h9 => h9) rfl d_M_turnLeft_45 ?_
            refine lv_iload_n hx hb d_M_turnLeft_48 rfl (lv_at hl 1 rfl) ?_
            refine hp_iald hx hb hK.1 0 hlf rfl d_M_turnLeft_49 (by omega) (nx k) (by omega) (by omega) ?_
            refine hp_ineg hx hb d_M_turnLeft_50 ?_
            refine lv_istore (lv' := [(4, .int (iI (-(lf (nx k))))), (3, .int (iI (lf k))), (2, .int (iI ((nx k : Nat) : Int))), (0, .ref mo), (1, .int (iI (k : Int)))]) hx hb d_M_turnLeft_51 hl (by decide) rfl (fun ls hl => ?_)
            refine lv_aload_n hx hb d_M_turnLeft_53 rfl (lv_at hl 3 rfl) ?_
            refine hp_get (C := R_M) (T := F_M) (N := 19) (v := .ref (mo + 6)) hx hb hG la_M hown hK.1 hm rfl 6 (by decide) (hG _ fl_M_25) (fun _ h9 => h9) rfl d_M_turnLeft_54 ?_
            refine lv_iload_n hx hb d_M_turnLeft_57 rfl (lv_at hl 4 rfl) ?_
            refine hp_iald hx hb hK.1 0 hbf rfl d_M_turnLeft_58 (by omega) k (by omega) (by omega) ?_
            rw [ebf]
            refine lv_istore (lv' := [(5, .int (iI ((ch_h l1 0 : Nat) : Int))), (4, .int (iI (-(lf (nx k))))), (3, .int (iI (lf k))), (2, .int (iI ((nx k : Nat) : Int))), (0, .ref mo), (1, .int (iI (k : Int)))]) hx hb d_M_turnLeft_59 hl (by decide) rfl (fun ls hl => ?_)
            refine lv_aload_n hx hb d_M_turnLeft_61 rfl (lv_at hl 4 rfl) ?_
            refine lv_iload_n hx hb d_M_turnLeft_62 rfl (lv_at hl 5 rfl) ?_
            refine hp_callv (W.runV (As := [.int (iI (k : Int))]) (rest := []) ⟨hx, hb, hml, hown, hG⟩ (c_M_take l E mo th ps md fe lf nx bf l1 (nx k :: r1) ff k hI (by omega)) (cwV 1 hG (hp_goodV ml_M_94 im_M_take se_M_take in_M co_M_take) rfl rfl rfl hd_M_take ⟨by rw [hRf]; exact Nat.le_of_ble_eq_true rfl, by rw [hRl]; exact Nat.le_of_ble_eq_true rfl⟩) (hp_preV (ci := 3) hp_nsn hK rfl hm ⟨hm, hlf, hnx, hbf⟩) rfl rfl hl.1 rfl (lv_room (Nat.le_of_ble_eq_true rfl)) d_M_turnLeft_63 ⟨by rw [hRc]; exact Nat.le_of_ble_eq_true rfl, by rw [hRs]; exact Nat.le_of_ble_eq_true rfl⟩) hS (fun q h => h) (fun H locs hpost hz1 ho1 hS => ?_)
            have hZ := hz1.trans hZ
            obtain ⟨nxa, bfa, ⟨hm, hlf, hnx, hbf⟩, hI⟩ := hpost
            have hI := ch_sh.mp hI
            refine lv_aload_n hx hb d_M_turnLeft_66 rfl (lv_at hl 4 rfl) ?_
            refine lv_iload_n hx hb d_M_turnLeft_67 rfl (lv_at hl 3 rfl) ?_
            refine hp_callv (W.runV (As := [.int (iI ((nx k : Nat) : Int))]) (rest := []) ⟨hx, hb, hml, hown, hG⟩ (c_M_take l E mo th ps md k lf nxa bfa l1 r1 (k :: ff) (nx k) hI (by omega)) (cwV 1 hG (hp_goodV ml_M_94 im_M_take se_M_take in_M co_M_take) rfl rfl rfl hd_M_take ⟨by rw [hRf]; exact Nat.le_of_ble_eq_true rfl, by rw [hRl]; exact Nat.le_of_ble_eq_true rfl⟩) (hp_preV (ci := 3) hp_nsn hK rfl hm ⟨hm, hlf, hnx, hbf⟩) rfl rfl hl.1 rfl (lv_room (Nat.le_of_ble_eq_true rfl)) d_M_turnLeft_68 ⟨by rw [hRc]; exact Nat.le_of_ble_eq_true rfl, by rw [hRs]; exact Nat.le_of_ble_eq_true rfl⟩) hS (fun q h => h) (fun H locs hpost hz1 ho1 hS => ?_)
            have hZ := hz1.trans hZ
            obtain ⟨nxb, bfb, ⟨hm, hlf, hnx, hbf⟩, hI⟩ := hpost
            refine lv_iload_n hx hb d_M_turnLeft_71 rfl (lv_at hl 2 rfl) ?_
            refine lv_iload hx hb d_M_turnLeft_72 (lv_at hl 1 rfl) ?_
            refine hp_icmp_eq (tgt := 125) hx hb d_M_turnLeft_74 (by decide) (by unfold iR; omega) (by unfold iR; omega) (fun c74 => ?_) (fun c74 => ?_)
            · skip
              have hrz9 : rz 8000 t1 (ch_w true lf l1) (ch_w true lf r1) W9 := by have e9 : [] = rz_p (ch_u true (lf k)) (ch_u true (lf (nx k))) := ch_e0 (by show (-lf (nx k)) = -(-lf k); omega); rw [← e9] at hrz1; exact hrz1
              have hrg2 := ch_rng hI
              have hlb : ∀ z, z ∈ l1 ++ r1 → -10 < lf z ∧ lf z < 10 := hlr
              refine lv_iload hx hb d_M_turnLeft_125 (lv_at hl 0 rfl) ?_
              refine hp_if_ne (tgt := 139) hx hb d_M_turnLeft_127 (by decide) (by unfold iR; omega) (fun c127 => ?_) (fun c127 => ?_)
              · skip
                obtain ⟨l2, r2, hI2, hst2, he2⟩ := ch_b1 (s := s9 - 1) hI (by omega) (by omega) hrz9
                have hlb2 := ch_lb he2 hlb
                refine lv_iload hx hb d_M_turnLeft_139 (lv_at hl 0 rfl) ?_
                refine lv_istore_n (lv' := [(1, .int (iI ((ch_h l1 0 : Nat) : Int))), (5, .int (iI ((ch_h l1 0 : Nat) : Int))), (4, .int (iI (-(lf (nx k))))), (3, .int (iI (lf k))), (2, .int (iI ((nx k : Nat) : Int))), (0, .ref mo)]) hx hb d_M_turnLeft_141 rfl hl (by decide) rfl (fun ls hl => ?_)
                refine lv_goto (tgt := 147) hx hb d_M_turnLeft_142 (by decide) ?_
                refine lv_goto (tgt := 7) hx hb d_M_turnLeft_147 (by decide) ?_
                exact ih7  (s9 - 1) (ch_h l1 0) l2 r2 ((nx k) :: (k :: ff)) md (nx k) lf nxb bfb (by omega) (by exact hst2) (by exact hI2) (by omega) (by exact hl1) (by exact hlb2) H locs hS hZ hm hlf hnx hbf ls (lv_sub hl [5, 0] rfl)
              · skip
                have el1 : l1 = [] := ch_nil hI (by omega)
                rw [el1] at hI hrz9 hlb
                obtain ⟨l2, r2, hI2, hst2, he2⟩ := ch_b0 (s := s9 - 1) hI (by omega) hrz9
                have hlb2 := ch_lb (l := []) he2 hlb
                refine lv_aload_n hx hb d_M_turnLeft_130 rfl (lv_at hl 4 rfl) ?_
                refine hp_get (C := R_M) (T := F_M) (N := 19) (v := .ref (mo + 5)) hx hb hG la_M hown hK.1 hm rfl 5 (by decide) (hG _ fl_M_22) (fun _ h9 => h9) rfl d_M_turnLeft_131 ?_
                refine hp_iconst (z := 0) hx hb d_M_turnLeft_134 (by rfl) ?_
                refine hp_iald hx hb hK.1 0 hnx rfl d_M_turnLeft_135 (by omega) 0 (by omega) (by omega) ?_
                refine lv_goto (tgt := 141) hx hb d_M_turnLeft_136 (by decide) ?_
                refine lv_istore_n (lv' := [(1, .int (iI ((nxb 0 : Nat) : Int))), (5, .int (iI ((ch_h l1 0 : Nat) : Int))), (4, .int (iI (-(lf (nx k))))), (3, .int (iI (lf k))), (2, .int (iI ((nx k : Nat) : Int))), (0, .ref mo)]) hx hb d_M_turnLeft_141 rfl hl (by decide) rfl (fun ls hl => ?_)
                refine lv_goto (tgt := 147) hx hb d_M_turnLeft_142 (by decide) ?_
                refine lv_goto (tgt := 7) hx hb d_M_turnLeft_147 (by decide) ?_
                exact ih7  (s9 - 1) (nxb 0) l2 r2 ((nx k) :: (k :: ff)) md (nx k) lf nxb bfb (by omega) (by exact hst2) (by exact hI2) (by omega) (by exact hl1) (by exact hlb2) H locs hS hZ hm hlf hnx hbf ls (lv_sub hl [5, 0] rfl)
            · skip
              refine lv_aload_n hx hb d_M_turnLeft_77 rfl (lv_at hl 4 rfl) ?_
              refine lv_iload hx hb d_M_turnLeft_78 (lv_at hl 0 rfl) ?_
              refine lv_iload hx hb d_M_turnLeft_80 (lv_at hl 1 rfl) ?_
              refine hp_ineg hx hb d_M_turnLeft_82 ?_
              refine hp_calli (W.runV (As := [.int (iI ((ch_h l1 0 : Nat) : Int)), .int (iI (-(-(lf (nx k)))))]) (rest := []) ⟨hx, hb, hml, hown, hG⟩ (c_M_insert l E mo th ps md (nx k) lf nxb bfb l1 r1 ((nx k) :: (k :: ff)) (-(-(lf (nx k)))) hI (by omega) (by first | omega | (simp only [List.length_cons]; omega))) (cwV 2 hG (hp_goodV ml_M_98 im_M_insert se_M_insert in_M co_M_insert) rfl rfl rfl hd_M_insert ⟨by rw [hRf]; exact Nat.le_of_ble_eq_true rfl, by rw [hRl]; exact Nat.le_of_ble_eq_true rfl⟩) (hp_preV (ci := 3) hp_nsn hK rfl hm ⟨hm, hlf, hnx, hbf⟩) rfl rfl hl.1 rfl (lv_room (Nat.le_of_ble_eq_true rfl)) d_M_turnLeft_83 ⟨by rw [hRc]; exact Nat.le_of_ble_eq_true rfl, by rw [hRs]; exact Nat.le_of_ble_eq_true rfl⟩) hS (fun q h => h) (fun r1 H locs hpost hz1 ho1 hS => ?_)
              have hZ := hz1.trans hZ
              obtain ⟨kc, mdc, fec, lfc, nxc, bfc, ffc, rfl, hk2c, hmx, huc, hwc, ⟨hm, hlf, hnx, hbf⟩, hI⟩ := hpost
              have hmpc := ch_mp true hI huc hwc
              have hl1 : lfc 1 = 0 := by rw [hwc 1 (by omega)]; exact hl1
              refine lv_istore (lv' := [(6, .int (iI (kc : Int))), (5, .int (iI ((ch_h l1 0 : Nat) : Int))), (4, .int (iI (-(lf (nx k))))), (3, .int (iI (lf k))), (2, .int (iI ((nx k : Nat) : Int))), (0, .ref mo), (1, .int (iI (k : Int)))]) hx hb d_M_turnLeft_86 hl (by decide) rfl (fun ls hl => ?_)
              refine lv_iload_n hx hb d_M_turnLeft_88 rfl (lv_at hl 3 rfl) ?_
              refine lv_iload hx hb d_M_turnLeft_89 (lv_at hl 2 rfl) ?_
              refine hp_callS (W.runS (As := [.int (iI (lf k)), .int (iI (-(lf (nx k))))]) (rest := []) ⟨hx, hb, hml, hown, hG⟩ (c_M_isNear l E (lf k) (-(lf (nx k))) (by omega) (by omega)) (cwS 2 hG (hp_goodS ml_M_101 st_M_isNear in_M co_M_isNear) rfl rfl rfl hd_M_isNear ⟨by rw [hRf]; exact Nat.le_of_ble_eq_true rfl, by rw [hRl]; exact Nat.le_of_ble_eq_true rfl⟩) (hp_preS hp_nsn hK trivial) rfl rfl hl.1 rfl (lv_room (Nat.le_of_ble_eq_true rfl)) d_M_turnLeft_91 ⟨by rw [hRc]; exact Nat.le_of_ble_eq_true rfl, by rw [hRs]; exact Nat.le_of_ble_eq_true rfl⟩) ?_
              refine hp_ifb_eq (tgt := 117) hx hb d_M_turnLeft_94 (by decide) (fun c94 => ?_) (fun c94 => ?_)
              · skip
                have c94 := of_decide_eq_false c94
                refine lv_aload_n hx hb d_M_turnLeft_117 rfl (lv_at hl 5 rfl) ?_
                refine lv_iload hx hb d_M_turnLeft_118 (lv_at hl 0 rfl) ?_
                refine lv_iload_n hx hb d_M_turnLeft_120 rfl (lv_at hl 3 rfl) ?_
                refine hp_calli (W.runV (As := [.int (iI (kc : Int)), .int (iI (lf k))]) (rest := []) ⟨hx, hb, hml, hown, hG⟩ (c_M_insert l E mo th ps mdc fec lfc nxc bfc (kc :: l1) r1 ffc (lf k) hI (by omega) (by first | omega | (simp only [List.length_cons]; omega))) (cwV 2 hG (hp_goodV ml_M_98 im_M_insert se_M_insert in_M co_M_insert) rfl rfl rfl hd_M_insert ⟨by rw [hRf]; exact Nat.le_of_ble_eq_true rfl, by rw [hRl]; exact Nat.le_of_ble_eq_true rfl⟩) (hp_preV (ci := 3) hp_nsn hK rfl hm ⟨hm, hlf, hnx, hbf⟩) rfl rfl hl.1 rfl (lv_room (Nat.le_of_ble_eq_true rfl)) d_M_turnLeft_121 ⟨by rw [hRc]; exact Nat.le_of_ble_eq_true rfl, by rw [hRs]; exact Nat.le_of_ble_eq_true rfl⟩) hS (fun q h => h) (fun r2 H locs hpost hz1 ho1 hS => ?_)
                have hZ := hz1.trans hZ
                obtain ⟨kd, mdd, fed, lfd, nxd, bfd, ffd, rfl, hk2d, hmx, hud, hwd, ⟨hm, hlf, hnx, hbf⟩, hI⟩ := hpost
                have hmpd := ch_mp true hI hud hwd
                have hl1 : lfd 1 = 0 := by rw [hwd 1 (by omega)]; exact hl1
                refine lv_pop hx hb d_M_turnLeft_124 rfl ?_
                have hL : ch_w true lfd (kd :: kc :: l1) = ch_u true (lf k) :: ch_u true (-(-(lf (nx k)))) :: ch_w true lf l1 := by rw [hmpd.1, hmpc.1]
                have hR : ch_w true lfd r1 = ch_w true lf r1 := by rw [hmpd.2, hmpc.2]
                have hI := ch_sh.mpr hI
                have hI := ch_sh.mpr hI
                have hxx := ch_x2 hL hR
                have hrz9 : rz 8000 t1 (ch_w true lfd l1) (ch_w true lfd (kc :: kd :: r1)) W9 := by rw [hxx.1, hxx.2, ch_e2 (x := ch_u true (lf k)) (y := ch_u true (lf (nx k))) (by show (-lf (nx k)) ≠ -(-lf k); omega) (by show ¬ ((-lf k) + (-lf (nx k)) = 1 ∨ (-lf k) + (-lf (nx k)) = -1); omega) (by show (-(-(-(lf (nx k))))) = (-lf (nx k)); omega) (by show (-(lf k)) = (-lf k); omega)]; exact hrz1
                have hrg2 := ch_rng hI
                have hlb : ∀ z, z ∈ l1 ++ (kc :: kd :: r1) → -10 < lfd z ∧ lfd z < 10 := by intro z hz; by_cases ed : z = kd; (rw [ed, hud]; omega); rw [hwd z ed]; by_cases ec : z = kc; (rw [ec, huc]; omega); rw [hwc z ec]; exact hlr z (by simpa [ec, ed] using hz)
                refine lv_iload hx hb d_M_turnLeft_125 (lv_at hl 1 rfl) ?_
                refine hp_if_ne (tgt := 139) hx hb d_M_turnLeft_127 (by decide) (by unfold iR; omega) (fun c127 => ?_) (fun c127 => ?_)
                · skip
                  obtain ⟨l2, r2, hI2, hst2, he2⟩ := ch_b1 (s := s9 - 1) hI (by omega) (by omega) hrz9
                  have hlb2 := ch_lb he2 hlb
                  refine lv_iload hx hb d_M_turnLeft_139 (lv_at hl 1 rfl) ?_
                  refine lv_istore_n (lv' := [(1, .int (iI ((ch_h l1 0 : Nat) : Int))), (6, .int (iI (kc : Int))), (5, .int (iI ((ch_h l1 0 : Nat) : Int))), (4, .int (iI (-(lf (nx k))))), (3, .int (iI (lf k))), (2, .int (iI ((nx k : Nat) : Int))), (0, .ref mo)]) hx hb d_M_turnLeft_141 rfl hl (by decide) rfl (fun ls hl => ?_)
                  refine lv_goto (tgt := 147) hx hb d_M_turnLeft_142 (by decide) ?_
                  refine lv_goto (tgt := 7) hx hb d_M_turnLeft_147 (by decide) ?_
                  exact ih7  (s9 - 1) (ch_h l1 0) l2 r2 ffd mdd fed lfd nxd bfd (by omega) (by exact hst2) (by exact hI2) (by omega) (by exact hl1) (by exact hlb2) H locs hS hZ hm hlf hnx hbf ls (lv_sub hl [6, 0] rfl)
                · skip
                  have el1 : l1 = [] := ch_nil hI (by omega)
                  rw [el1] at hI hrz9 hlb
                  obtain ⟨l2, r2, hI2, hst2, he2⟩ := ch_b0 (s := s9 - 1) hI (by omega) hrz9
                  have hlb2 := ch_lb (l := []) he2 hlb
                  refine lv_aload_n hx hb d_M_turnLeft_130 rfl (lv_at hl 5 rfl) ?_
                  refine hp_get (C := R_M) (T := F_M) (N := 19) (v := .ref (mo + 5)) hx hb hG la_M hown hK.1 hm rfl 5 (by decide) (hG _ fl_M_22) (fun _ h9 => h9) rfl d_M_turnLeft_131 ?_
                  refine hp_iconst (z := 0) hx hb d_M_turnLeft_134 (by rfl) ?_
                  refine hp_iald hx hb hK.1 0 hnx rfl d_M_turnLeft_135 (by omega) 0 (by omega) (by omega) ?_
                  refine lv_goto (tgt := 141) hx hb d_M_turnLeft_136 (by decide) ?_
                  refine lv_istore_n (lv' := [(1, .int (iI ((nxd 0 : Nat) : Int))), (6, .int (iI (kc : Int))), (5, .int (iI ((ch_h l1 0 : Nat) : Int))), (4, .int (iI (-(lf (nx k))))), (3, .int (iI (lf k))), (2, .int (iI ((nx k : Nat) : Int))), (0, .ref mo)]) hx hb d_M_turnLeft_141 rfl hl (by decide) rfl (fun ls hl => ?_)
                  refine lv_goto (tgt := 147) hx hb d_M_turnLeft_142 (by decide) ?_
                  refine lv_goto (tgt := 7) hx hb d_M_turnLeft_147 (by decide) ?_
                  exact ih7  (s9 - 1) (nxd 0) l2 r2 ffd mdd fed lfd nxd bfd (by omega) (by exact hst2) (by exact hI2) (by omega) (by exact hl1) (by exact hlb2) H locs hS hZ hm hlf hnx hbf ls (lv_sub hl [6, 0] rfl)
              · skip
                have c94 := of_decide_eq_true c94
                refine lv_aload_n hx hb d_M_turnLeft_97 rfl (lv_at hl 5 rfl) ?_
                refine lv_iload hx hb d_M_turnLeft_98 (lv_at hl 0 rfl) ?_
                refine lv_iload_n hx hb d_M_turnLeft_100 rfl (lv_at hl 3 rfl) ?_
                refine hp_ineg hx hb d_M_turnLeft_101 ?_
                refine hp_calli (W.runV (As := [.int (iI (kc : Int)), .int (iI (-(lf k)))]) (rest := []) ⟨hx, hb, hml, hown, hG⟩ (c_M_insert l E mo th ps mdc fec lfc nxc bfc (kc :: l1) r1 ffc (-(lf k)) hI (by omega) (by first | omega | (simp only [List.length_cons]; omega))) (cwV 2 hG (hp_goodV ml_M_98 im_M_insert se_M_insert in_M co_M_insert) rfl rfl rfl hd_M_insert ⟨by rw [hRf]; exact Nat.le_of_ble_eq_true rfl, by rw [hRl]; exact Nat.le_of_ble_eq_true rfl⟩) (hp_preV (ci := 3) hp_nsn hK rfl hm ⟨hm, hlf, hnx, hbf⟩) rfl rfl hl.1 rfl (lv_room (Nat.le_of_ble_eq_true rfl)) d_M_turnLeft_102 ⟨by rw [hRc]; exact Nat.le_of_ble_eq_true rfl, by rw [hRs]; exact Nat.le_of_ble_eq_true rfl⟩) hS (fun q h => h) (fun r3 H locs hpost hz1 ho1 hS => ?_)
                have hZ := hz1.trans hZ
                obtain ⟨kd, mdd, fed, lfd, nxd, bfd, ffd, rfl, hk2d, hmx, hud, hwd, ⟨hm, hlf, hnx, hbf⟩, hI⟩ := hpost
                have hmpd := ch_mp true hI hud hwd
                have hl1 : lfd 1 = 0 := by rw [hwd 1 (by omega)]; exact hl1
                refine lv_istore (lv' := [(6, .int (iI (kd : Int))), (5, .int (iI ((ch_h l1 0 : Nat) : Int))), (4, .int (iI (-(lf (nx k))))), (3, .int (iI (lf k))), (2, .int (iI ((nx k : Nat) : Int))), (0, .ref mo), (1, .int (iI (k : Int)))]) hx hb d_M_turnLeft_105 hl (by decide) rfl (fun ls hl => ?_)
                refine lv_aload_n hx hb d_M_turnLeft_107 rfl (lv_at hl 5 rfl) ?_
                refine lv_iload hx hb d_M_turnLeft_108 (lv_at hl 0 rfl) ?_
                refine lv_iload hx hb d_M_turnLeft_110 (lv_at hl 2 rfl) ?_
                refine hp_calli (W.runV (As := [.int (iI (kd : Int)), .int (iI (-(lf (nx k))))]) (rest := []) ⟨hx, hb, hml, hown, hG⟩ (c_M_insert l E mo th ps mdd fed lfd nxd bfd (kd :: (kc :: l1)) r1 ffd (-(lf (nx k))) hI (by omega) (by first | omega | (simp only [List.length_cons]; omega))) (cwV 2 hG (hp_goodV ml_M_98 im_M_insert se_M_insert in_M co_M_insert) rfl rfl rfl hd_M_insert ⟨by rw [hRf]; exact Nat.le_of_ble_eq_true rfl, by rw [hRl]; exact Nat.le_of_ble_eq_true rfl⟩) (hp_preV (ci := 3) hp_nsn hK rfl hm ⟨hm, hlf, hnx, hbf⟩) rfl rfl hl.1 rfl (lv_room (Nat.le_of_ble_eq_true rfl)) d_M_turnLeft_112 ⟨by rw [hRc]; exact Nat.le_of_ble_eq_true rfl, by rw [hRs]; exact Nat.le_of_ble_eq_true rfl⟩) hS (fun q h => h) (fun r4 H locs hpost hz1 ho1 hS => ?_)
                have hZ := hz1.trans hZ
                obtain ⟨ke, mde, fee, lfe, nxe, bfe, ffe, rfl, hk2e, hmx, hue, hwe, ⟨hm, hlf, hnx, hbf⟩, hI⟩ := hpost
                have hmpe := ch_mp true hI hue hwe
                have hl1 : lfe 1 = 0 := by rw [hwe 1 (by omega)]; exact hl1
                refine lv_istore (lv' := [(6, .int (iI (ke : Int))), (5, .int (iI ((ch_h l1 0 : Nat) : Int))), (4, .int (iI (-(lf (nx k))))), (3, .int (iI (lf k))), (2, .int (iI ((nx k : Nat) : Int))), (0, .ref mo), (1, .int (iI (k : Int)))]) hx hb d_M_turnLeft_115 hl (by decide) rfl (fun ls hl => ?_)
                refine lv_aload_n hx hb d_M_turnLeft_117 rfl (lv_at hl 5 rfl) ?_
                refine lv_iload hx hb d_M_turnLeft_118 (lv_at hl 0 rfl) ?_
                refine lv_iload_n hx hb d_M_turnLeft_120 rfl (lv_at hl 3 rfl) ?_
                refine hp_calli (W.runV (As := [.int (iI (ke : Int)), .int (iI (lf k))]) (rest := []) ⟨hx, hb, hml, hown, hG⟩ (c_M_insert l E mo th ps mde fee lfe nxe bfe (ke :: (kd :: (kc :: l1))) r1 ffe (lf k) hI (by omega) (by first | omega | (simp only [List.length_cons]; omega))) (cwV 2 hG (hp_goodV ml_M_98 im_M_insert se_M_insert in_M co_M_insert) rfl rfl rfl hd_M_insert ⟨by rw [hRf]; exact Nat.le_of_ble_eq_true rfl, by rw [hRl]; exact Nat.le_of_ble_eq_true rfl⟩) (hp_preV (ci := 3) hp_nsn hK rfl hm ⟨hm, hlf, hnx, hbf⟩) rfl rfl hl.1 rfl (lv_room (Nat.le_of_ble_eq_true rfl)) d_M_turnLeft_121 ⟨by rw [hRc]; exact Nat.le_of_ble_eq_true rfl, by rw [hRs]; exact Nat.le_of_ble_eq_true rfl⟩) hS (fun q h => h) (fun r5 H locs hpost hz1 ho1 hS => ?_)
                have hZ := hz1.trans hZ
                obtain ⟨kf, mdf, fef, lff, nxf, bff, fff, rfl, hk2f, hmx, huf, hwf, ⟨hm, hlf, hnx, hbf⟩, hI⟩ := hpost
                have hmpf := ch_mp true hI huf hwf
                have hl1 : lff 1 = 0 := by rw [hwf 1 (by omega)]; exact hl1
                refine lv_pop hx hb d_M_turnLeft_124 rfl ?_
                have hL : ch_w true lff (kf :: ke :: kd :: kc :: l1) = ch_u true (lf k) :: ch_u true (-(lf (nx k))) :: ch_u true (-(lf k)) :: ch_u true (-(-(lf (nx k)))) :: ch_w true lf l1 := by rw [hmpf.1, hmpe.1, hmpd.1, hmpc.1]
                have hR : ch_w true lff r1 = ch_w true lf r1 := by rw [hmpf.2, hmpe.2, hmpd.2, hmpc.2]
                have hI := ch_sh.mpr hI
                have hI := ch_sh.mpr hI
                have hI := ch_sh.mpr hI
                have hI := ch_sh.mpr hI
                have hxx := ch_x4 hL hR
                have hrz9 : rz 8000 t1 (ch_w true lff l1) (ch_w true lff (kc :: kd :: ke :: kf :: r1)) W9 := by rw [hxx.1, hxx.2, ch_e4 (x := ch_u true (lf k)) (y := ch_u true (lf (nx k))) (by show (-lf (nx k)) ≠ -(-lf k); omega) (by show (-lf k) + (-lf (nx k)) = 1 ∨ (-lf k) + (-lf (nx k)) = -1; omega) (by show (-(-(-(lf (nx k))))) = (-lf (nx k)); omega) (by show (-(-(lf k))) = -(-lf k); omega) (by show (-(-(lf (nx k)))) = -(-lf (nx k)); omega) (by show (-(lf k)) = (-lf k); omega)]; exact hrz1
                have hrg2 := ch_rng hI
                have hlb : ∀ z, z ∈ l1 ++ (kc :: kd :: ke :: kf :: r1) → -10 < lff z ∧ lff z < 10 := by intro z hz; by_cases ef : z = kf; (rw [ef, huf]; omega); rw [hwf z ef]; by_cases ee : z = ke; (rw [ee, hue]; omega); rw [hwe z ee]; by_cases ed : z = kd; (rw [ed, hud]; omega); rw [hwd z ed]; by_cases ec : z = kc; (rw [ec, huc]; omega); rw [hwc z ec]; exact hlr z (by simpa [ec, ed, ee, ef] using hz)
                refine lv_iload hx hb d_M_turnLeft_125 (lv_at hl 1 rfl) ?_
                refine hp_if_ne (tgt := 139) hx hb d_M_turnLeft_127 (by decide) (by unfold iR; omega) (fun c127 => ?_) (fun c127 => ?_)
                · skip
                  obtain ⟨l2, r2, hI2, hst2, he2⟩ := ch_b1 (s := s9 - 1) hI (by omega) (by omega) hrz9
                  have hlb2 := ch_lb he2 hlb
                  refine lv_iload hx hb d_M_turnLeft_139 (lv_at hl 1 rfl) ?_
                  refine lv_istore_n (lv' := [(1, .int (iI ((ch_h l1 0 : Nat) : Int))), (6, .int (iI (ke : Int))), (5, .int (iI ((ch_h l1 0 : Nat) : Int))), (4, .int (iI (-(lf (nx k))))), (3, .int (iI (lf k))), (2, .int (iI ((nx k : Nat) : Int))), (0, .ref mo)]) hx hb d_M_turnLeft_141 rfl hl (by decide) rfl (fun ls hl => ?_)
                  refine lv_goto (tgt := 147) hx hb d_M_turnLeft_142 (by decide) ?_
                  refine lv_goto (tgt := 7) hx hb d_M_turnLeft_147 (by decide) ?_
                  exact ih7  (s9 - 1) (ch_h l1 0) l2 r2 fff mdf fef lff nxf bff (by omega) (by exact hst2) (by exact hI2) (by omega) (by exact hl1) (by exact hlb2) H locs hS hZ hm hlf hnx hbf ls (lv_sub hl [6, 0] rfl)
                · skip
                  have el1 : l1 = [] := ch_nil hI (by omega)
                  rw [el1] at hI hrz9 hlb
                  obtain ⟨l2, r2, hI2, hst2, he2⟩ := ch_b0 (s := s9 - 1) hI (by omega) hrz9
                  have hlb2 := ch_lb (l := []) he2 hlb
                  refine lv_aload_n hx hb d_M_turnLeft_130 rfl (lv_at hl 5 rfl) ?_
                  refine hp_get (C := R_M) (T := F_M) (N := 19) (v := .ref (mo + 5)) hx hb hG la_M hown hK.1 hm rfl 5 (by decide) (hG _ fl_M_22) (fun _ h9 => h9) rfl d_M_turnLeft_131 ?_
                  refine hp_iconst (z := 0) hx hb d_M_turnLeft_134 (by rfl) ?_
                  refine hp_iald hx hb hK.1 0 hnx rfl d_M_turnLeft_135 (by omega) 0 (by omega) (by omega) ?_
                  refine lv_goto (tgt := 141) hx hb d_M_turnLeft_136 (by decide) ?_
                  refine lv_istore_n (lv' := [(1, .int (iI ((nxf 0 : Nat) : Int))), (6, .int (iI (ke : Int))), (5, .int (iI ((ch_h l1 0 : Nat) : Int))), (4, .int (iI (-(lf (nx k))))), (3, .int (iI (lf k))), (2, .int (iI ((nx k : Nat) : Int))), (0, .ref mo)]) hx hb d_M_turnLeft_141 rfl hl (by decide) rfl (fun ls hl => ?_)
                  refine lv_goto (tgt := 147) hx hb d_M_turnLeft_142 (by decide) ?_
                  refine lv_goto (tgt := 7) hx hb d_M_turnLeft_147 (by decide) ?_
                  exact ih7  (s9 - 1) (nxf 0) l2 r2 fff mdf fef lff nxf bff (by omega) (by exact hst2) (by exact hI2) (by omega) (by exact hl1) (by exact hlb2) H locs hS hZ hm hlf hnx hbf ls (lv_sub hl [6, 0] rfl)
  exact L7 (t9 + 1) t9 (nx 0) l2 r2 f0 md fe lf nx bf (by omega) (by exact hst2) (by exact hI2) (by exact hmx0) (by exact hl10) (by exact hlb2) H locs hS hZ hm hlf hnx hbf ls (lv_sub hl [1, 0] rfl)
