/-! every simple braid has a reduced word; the reference's normal form so far -/
theorem gs_so_ex {n : Nat} {S : gs_P} : ∀ (N : Nat) {u : List Nat} {S1 : gs_P}, gs_inv n S1.1 ≤ N → gs_so n S u S1 → ∃ u' S', gs_so n S u' S' ∧ ∀ i, 1 ≤ i → i < n → ¬ S'.1 (i + 1) < S'.1 i := by
  intro N
  induction N with
  | zero =>
    intro u S1 hN h
    refine ⟨u, S1, h, fun i h1 h2 hd => ?_⟩
    have := gs_inv_R h1 h2 hd
    omega
  | succ N ih =>
    intro u S1 hN h
    by_cases hx : ∃ i, 1 ≤ i ∧ i < n ∧ S1.1 (i + 1) < S1.1 i
    · obtain ⟨i, h1, h2, hd⟩ := hx
      have hi := gs_inv_R h1 h2 hd
      exact ih (show gs_inv n (fun p => S1.1 (gs_sw i p)) ≤ N by omega) (gs_so_st h h1 h2 hd)
    · exact ⟨u, S1, h, fun i h1 h2 hd => hx ⟨i, h1, h2, hd⟩⟩
theorem gs_tw_ex (n : Nat) : ∃ T, gs_tw n T := by
  obtain ⟨u, S', h, hs⟩ := gs_so_ex _ (Nat.le_refl _) (gs_so_0 (gs_ok_T n))
  have := gs_so_end (gs_ok_T n) h hs
  exact ⟨u, this.2.2, this.1, this.2.1⟩
def kJ (w c : Nat) (f : Nat → Int) (a : Nat) (ls : List gs_P) (Y : List Nat) (z : Int) (X : Nat → Nat → Int) : Prop := gs_J w (bn_X w c f) (List.replicate a (gs_T w) ++ ls) Y ∧ gs_nT w ls ∧ z = (a : Int) - (bw_neg f c : Int) ∧ ∀ j, j < ls.length → bn_h w (X j) (gs_rw ls j).1
theorem bn_X_id {w c : Nat} {f : Nat → Int} : ∀ i, c ≤ i → bn_X w c f i = gs_id := fun i q => by unfold bn_X; rw [if_neg (by omega)]
theorem kJ_few {w c : Nat} {f : Nat → Int} {a : Nat} {ls : List gs_P} {Y : List Nat} {z : Int} {X : Nat → Nat → Int} (hw : w ≤ 8) (h : kJ w c f a ls Y z X) : a + ls.length ≤ c ∧ (Y ≠ [] → a + ls.length < c) := by
  obtain ⟨T, hT⟩ := gs_tw_ex w
  have := gs_J_few hw hT bn_X_id h.1
  simp only [List.length_append, List.length_replicate] at this
  exact this
theorem kJ_0 {w c : Nat} {f : Nat → Int} {Y : List Nat} (X : Nat → Nat → Int) (h : gs_ws w (bn_X w c f) c Y) : kJ w c f 0 [] Y (-((bw_neg f c : Nat) : Int)) X := by
  refine ⟨?_, fun S hS => by simp at hS, by omega, fun j hj => by simp at hj⟩
  simpa using gs_ws_J h
theorem kJ_T {w c : Nat} {f : Nat → Int} {a : Nat} {ls : List gs_P} {Y D : List Nat} {z : Int} {X : Nat → Nat → Int} (h : kJ w c f a ls Y z X) (hd : gs_hd w Y D (gs_T w)) (h0 : Y ≠ []) : ls = [] ∧ kJ w c f (a + 1) ls D (z + 1) X := by
  obtain ⟨h1, h2, h3, h4⟩ := h
  have e : ls = [] := by
    by_cases q : ls = []
    · exact q
    · exfalso
      have hp : 0 < ls.length := by
        cases ls with
        | nil => exact absurd rfl q
        | cons _ _ => simp
      have hl := h1.2.2.2.2.2 D (gs_T w) hd (fun z9 => q (List.append_eq_nil_iff.mp z9).2)
      have e1 : gs_rw (List.replicate a (gs_T w) ++ ls) ((List.replicate a (gs_T w) ++ ls).length - 1) = gs_rw ls (ls.length - 1) := by
        have := gs_rw_ap (List.replicate a (gs_T w)) ls (ls.length - 1)
        rw [← this]
        congr 1
        simp only [List.length_append, List.length_replicate]
        omega
      rw [e1] at hl
      have hm := gs_rw_mem ls (j := ls.length - 1) (by omega)
      exact h2 _ hm (gs_lw_T (h1.2.1 _ (by simp [hm])) hl)
  subst e
  refine ⟨rfl, ?_, h2, by omega, h4⟩
  have := gs_J_st h1 hd h0
  simp only [List.append_nil] at this ⊢
  rw [List.replicate_succ']
  exact this
theorem kJ_n {w c : Nat} {f : Nat → Int} {a : Nat} {ls : List gs_P} {Y D : List Nat} {S : gs_P} {z : Int} {X X' : Nat → Nat → Int} (h : kJ w c f a ls Y z X) (hd : gs_hd w Y D S) (h0 : Y ≠ []) (hS : S ≠ gs_T w) (hb : bn_h w (X' ls.length) S.1) (hx : ∀ j, j < ls.length → ∀ p, 1 ≤ p → p ≤ w → X' j p = X j p) : kJ w c f a (ls ++ [S]) D z X' := by
  obtain ⟨h1, h2, h3, h4⟩ := h
  refine ⟨?_, fun S' hS' => ?_, h3, fun j hj => ?_⟩
  · have := gs_J_st h1 hd h0
    rwa [List.append_assoc] at this
  · rcases List.mem_append.mp hS' with q | q
    · exact h2 _ q
    · simp at q
      rw [q]
      exact hS
  · simp only [List.length_append, List.length_cons, List.length_nil] at hj
    by_cases e : j < ls.length
    · rw [gs_rw_lt _ _ e]
      intro p q1 q2
      rw [hx j e p q1 q2]
      exact h4 j e p q1 q2
    · have e : j = ls.length := by omega
      rw [e, gs_rw_at]
      exact hb
theorem kJ_end {w c : Nat} {f : Nat → Int} {a : Nat} {ls : List gs_P} {z : Int} {X : Nat → Nat → Int} (h : kJ w c f a ls [] z X) : kN w c f z ls.length X := ⟨a, ls, h.1, h.2.1, h.2.2.1, rfl, h.2.2.2⟩
theorem kN_few {w c : Nat} {f : Nat → Int} {z : Int} {si : Nat} {X : Nat → Nat → Int} (hw : w ≤ 8) (h : kN w c f z si X) : si ≤ c ∧ -(c : Int) ≤ z ∧ z ≤ (c : Int) := by
  obtain ⟨a, l, h1, h2, h3, h4, h5⟩ := h
  have := (kJ_few (a := a) (ls := l) (z := z) (X := X) hw ⟨h1, h2, h3, fun j hj => h5 j (by omega)⟩).1
  have := bw_neg_le f c
  omega
theorem kN_cg {w c : Nat} {f : Nat → Int} {z : Int} {si : Nat} {X X' : Nat → Nat → Int} (h : kN w c f z si X) (e : ∀ j, j < si → ∀ p, 1 ≤ p → p ≤ w → X' j p = X j p) : kN w c f z si X' := by
  obtain ⟨a, l, h1, h2, h3, h4, h5⟩ := h
  exact ⟨a, l, h1, h2, h3, h4, fun j hj p q1 q2 => by rw [e j hj p q1 q2]; exact h5 j hj p q1 q2⟩
/-- what the reference knows of slot t's word -/
def kS (w c : Nat → Nat) (g tu : Nat → Int) (si : Nat → Nat) (sm : Nat → Int) (t : Nat) : Prop := kN (w t) (c t) (gw g t) (tu t) (si t) (fun j p => sm (576 * t + 9 * j + p))
/-- all of the reference but label and corner -/
def mA (E : hp_E) (H : Heap) (mo : Nat) (th : Int) (md fe : Nat) (ps : Int) (w c : Nat → Nat) (g : Nat → Int) (kz : Nat → Bool) (lf : Nat → Int) (nx bf : Nat → Nat) (po ta en tu : Nat → Int) (si : Nat → Nat) (sm : Nat → Int) : Prop := mW E H mo th (md : Int) (fe : Int) ps w c g kz ∧ ca E H (mo + 4) (ai E 8192 lf) ∧ ca E H (mo + 5) (ai E 8192 (fun k => (nx k : Int))) ∧ ca E H (mo + 6) (ai E 8192 (fun k => (bf k : Int))) ∧ ca E H (mo + 7) (ai E 4096 po) ∧ ca E H (mo + 8) (ai E 9 ta) ∧ ca E H (mo + 9) (ai E 9 en) ∧ ca E H (mo + 11) (ai E 4 tu) ∧ ca E H (mo + 12) (ai E 4 (fun k => (si k : Int))) ∧ ca E H (mo + 13) (ai E 2304 sm)
def mG (E : hp_E) (H : Heap) (mo : Nat) (w c : Nat → Nat) (g : Nat → Int) (kz : Nat → Bool) : Prop := ∃ (th : Int) (md fe : Nat) (ps : Int) (lf : Nat → Int) (nx bf : Nat → Nat) (po ta en tu : Nat → Int) (si : Nat → Nat) (sm : Nat → Int), mA E H mo th md fe ps w c g kz lf nx bf po ta en tu si sm ∧ ∀ i, i < 4 → kz i = true → kS w c g tu si sm i
theorem hp_up_id {α : Type} {f : Nat → α} {k : Nat} {v : α} (h : f k = v) : hp_up f k v = f := by
  funext j
  unfold hp_up
  split
  · rename_i e; rw [e, h]
  · rfl
theorem kS_up {w c : Nat → Nat} {g tu tu1 : Nat → Int} {si si1 : Nat → Nat} {sm sm1 : Nat → Int} {kz : Nat → Bool} {t : Nat} (hall : ∀ i, i < 4 → w i ≤ 8 ∧ c i ≤ 32) (h : ∀ i, i < 4 → kz i = true → kS w c g tu si sm i) (ht : kS w c g tu1 si1 sm1 t) (h1 : ∀ i, i ≠ t → tu1 i = tu i) (h2 : ∀ i, i ≠ t → si1 i = si i) (h3 : ∀ i, ¬ (576 * t ≤ i ∧ i < 576 * t + 576) → sm1 i = sm i) : ∀ i, i < 4 → hp_up kz t true i = true → kS w c g tu1 si1 sm1 i := by
  intro i hi hz
  by_cases e : i = t
  · rw [e]; exact ht
  · rw [hp_up_n _ _ e] at hz
    have hk := h i hi hz
    have hf := kN_few (hall i hi).1 hk
    have := (hall i hi).2
    unfold kS at hk ⊢
    rw [h1 i e, h2 i e]
    exact kN_cg hk (fun j hj p q1 q2 => h3 _ (by have := (hall i hi).1; omega))

set_option maxHeartbeats 4000000 in
set_option maxRecDepth 100000 in
/-- know(s) -/
theorem c_M_know (l : Launch) (E : hp_E) (mo : Nat) (w c : Nat → Nat) (g : Nat → Int) (kz : Nat → Bool) (t : Nat) (ht : t < 4) (hct : 1 ≤ w t ∧ w t ≤ 8 ∧ c t ≤ 32) (hbd : bd g) (hok : okw (w t) (c t) (gw g t)) (hall : ∀ i, i < 4 → w i ≤ 8 ∧ c i ≤ 32) : Met l y_M_know (Cond.code y_M_know b_M_know 5 (none) :: G0) ({ frames := 3, cells := 0, slots := 0, locals := 75 }) (hp_P E [.ref mo, .int (iI (t : Int))] (fun H => mG E H mo w c g kz)) (hp_Qv (fun q => q = mo ∨ (mo + 4 ≤ q ∧ q ≤ mo + 13)) (fun H => mG E H mo w c g (hp_up kz t true))) 0 0 (fun q => q = mo ∨ (mo + 4 ≤ q ∧ q ≤ mo + 13)) := by
  refine Met.ofW (cc := b_M_know) (maxL := 5) (ret := none) (by decide) rfl ?_
  intro p e s m args below meth cd s₁ Bd hml hv
  obtain ⟨hargs, hB, hK⟩ := hv
  have hx := Bd.exec
  have hb := Bd.bytes
  have hrt := Bd.returns
  have hts := atoms_spec (ws := Cond.code y_M_know b_M_know 5 (none) :: G0) Bd.pre
  have hG : ∀ w ∈ G0, w.before args s = true := fun w h => hts w (List.mem_cons_of_mem _ h)
  have hown : s.vm.findClass R_M = some m.cls := findClass_of_methodNamed Bd.named
  have hlocks := Bd.notSynchronized
  have hl := lv_entry ([.ref mo, .int (iI (t : Int))]) (n := 5) (Nat.le_of_ble_eq_true rfl)
  rw [show entryFrame m args 5 = entryFrame m ([.ref mo, .int (iI (t : Int))] : List Value).toArray 5 from by rw [hargs]]
  rw [lg_entry_eq]
  generalize (lg_sl ([.ref mo, .int (iI (t : Int))]) ++ List.replicate (5 - (lg_sl ([.ref mo, .int (iI (t : Int))])).length) Slot.unset).toArray = ls at hl ⊢
  have hl : lv_has ls 5 [(0, .ref mo), (1, .int (iI (t : Int)))] := hl
  obtain ⟨R, hR⟩ : ∃ R, R = (headSpec (Cond.code y_M_know b_M_know 5 (none) :: G0) { frames := 3, cells := 0, slots := 0, locals := 75 }).room := ⟨_, rfl⟩
  rw [← hR]
  have hRf : R.frames = 3 := by rw [hR]; rfl
  have hRl : R.locals = 75 := by rw [hR]; rfl
  have hRc : R.cells = 0 := by rw [hR]; rfl
  have hRs : R.slots = 0 := by rw [hR]; rfl
  obtain ⟨Q, hQ⟩ : ∃ Q, Q = MQ below (hp_Qv (fun q => q = mo ∨ (mo + 4 ≤ q ∧ q ≤ mo + 13)) (fun H => mG E H mo w c g (hp_up kz t true))) args s 0 0 (fun q => q = mo ∨ (mo + 4 ≤ q ∧ q ≤ mo + 13)) := ⟨_, rfl⟩
  rw [← hQ]
  obtain ⟨H, hH⟩ : ∃ H, H = s.heap := ⟨_, rfl⟩
  obtain ⟨locs, hlocs⟩ : ∃ locs : List Loc, locs = [] := ⟨_, rfl⟩
  have hS : va_S (fun q => q = mo ∨ (mo + 4 ≤ q ∧ q ≤ mo + 13)) s.heap H locs := by rw [hH, hlocs]; exact va_S.rf
  have hZ : H.size = s.heap.size := by rw [hH]
  rw [← hH] at hB
  rw [show W p l e R s m args below meth cd s.heap [] 0 0 Q (F0 m 0 ls []) = W p l e R s m args below meth cd H locs 0 0 Q (F0 m 0 ls []) from by rw [hH, hlocs]]
  obtain ⟨th, md, fe, ps, lf, nx, bf, po, ta, en, tu, si, sm, ⟨⟨hm, hsd, hsz, hwd, hkn⟩, hlf, hnx, hbf, hpo, hta, hen, htu, hsi, hsm⟩, hks⟩ := hB
  refine lv_aload_n hx hb d_M_know_0 rfl (lv_at hl 0 rfl) ?_
  refine hp_get (C := R_M) (T := F_M) (N := 19) (v := .ref (mo + 10)) hx hb hG la_M hown hK.1 hm rfl 13 (by decide) (hG _ fl_M_37) (fun _ h9 => h9) rfl d_M_know_1 ?_
  refine lv_iload_n hx hb d_M_know_4 rfl (lv_at hl 1 rfl) ?_
  refine hp_zald hx hb hK.1 1 hkn rfl d_M_know_5 (by omega) t (by omega) (by omega) ?_
  refine hp_ifb_eq (tgt := 10) hx hb d_M_know_6 (by decide) (fun c6 => ?_) (fun c6 => ?_)
  · skip
    refine lv_aload_n hx hb d_M_know_10 rfl (lv_at hl 0 rfl) ?_
    refine hp_get (C := R_M) (T := F_M) (N := 19) (v := .ref (mo + 10)) hx hb hG la_M hown hK.1 hm rfl 13 (by decide) (hG _ fl_M_37) (fun _ h9 => h9) rfl d_M_know_11 ?_
    refine lv_iload_n hx hb d_M_know_14 rfl (lv_at hl 1 rfl) ?_
    refine hp_iconst (z := 1) hx hb d_M_know_15 (by rfl) ?_
    refine hp_zast hx hb hK.1 1 hkn hS (by show _ ∨ _; omega) rfl d_M_know_16 (by omega) true t (by omega) (by omega) (fun H locs hknn hz1 ho1 hS => ?_)
    have hZ := hz1.trans hZ
    have hm := hm.keep (ho1 (mo) (by omega))
    have hsd := hsd.keep (ho1 (mo + 1) (by omega))
    have hsz := hsz.keep (ho1 (mo + 2) (by omega))
    have hwd := hwd.keep (ho1 (mo + 3) (by omega))
    have hlf := hlf.keep (ho1 (mo + 4) (by omega))
    have hnx := hnx.keep (ho1 (mo + 5) (by omega))
    have hbf := hbf.keep (ho1 (mo + 6) (by omega))
    have hpo := hpo.keep (ho1 (mo + 7) (by omega))
    have hta := hta.keep (ho1 (mo + 8) (by omega))
    have hen := hen.keep (ho1 (mo + 9) (by omega))
    have htu := htu.keep (ho1 (mo + 11) (by omega))
    have hsi := hsi.keep (ho1 (mo + 12) (by omega))
    have hsm := hsm.keep (ho1 (mo + 13) (by omega))
    have hkn : ca E H (mo + 10) (hp_az (E.2 1) 4 (hp_up kz t true)) := hknn
    refine lv_aload_n hx hb d_M_know_17 rfl (lv_at hl 0 rfl) ?_
    refine hp_get (C := R_M) (T := F_M) (N := 19) (v := .ref (mo + 1)) hx hb hG la_M hown hK.1 hm rfl 1 (by decide) (hG _ fl_M_7) (fun _ h9 => h9) rfl d_M_know_18 ?_
    refine lv_iload_n hx hb d_M_know_21 rfl (lv_at hl 1 rfl) ?_
    refine hp_iald hx hb hK.1 0 hsd rfl d_M_know_22 (by omega) t (by omega) (by omega) ?_
    refine lv_istore_n (lv' := [(2, .int (iI ((w t : Nat) : Int))), (0, .ref mo), (1, .int (iI (t : Int)))]) hx hb d_M_know_23 rfl hl (by decide) rfl (fun ls hl => ?_)
    refine lv_aload_n hx hb d_M_know_24 rfl (lv_at hl 1 rfl) ?_
    refine lv_iload_n hx hb d_M_know_25 rfl (lv_at hl 2 rfl) ?_
    refine hp_callv (W.runV (As := [.int (iI (t : Int))]) (rest := []) ⟨hx, hb, hml, hown, hG⟩ (c_M_makePositive l E mo th (md : Int) (fe : Int) ps w c g (hp_up kz t true) po ta tu t ht hct hbd hok) (cwV 1 hG (hp_goodV ml_M_123 im_M_makePositive se_M_makePositive in_M co_M_makePositive) rfl rfl rfl hd_M_makePositive ⟨by rw [hRf]; exact Nat.le_of_ble_eq_true rfl, by rw [hRl]; exact Nat.le_of_ble_eq_true rfl⟩) (hp_preV (ci := 3) hp_nsn hK rfl hm ⟨⟨hm, hsd, hsz, hwd, hkn⟩, hpo, hta, htu⟩) rfl rfl hl.1 rfl (lv_room (Nat.le_of_ble_eq_true rfl)) d_M_know_26 ⟨by rw [hRc]; exact Nat.le_of_ble_eq_true rfl, by rw [hRs]; exact Nat.le_of_ble_eq_true rfl⟩) hS (fun q h => by have h : q = mo ∨ q = mo + 7 ∨ q = mo + 8 ∨ q = mo + 11 := h; show _ ∨ _; omega) (fun H locs hpost hz1 ho1 hS => ?_)
    have hZ := hz1.trans hZ
    obtain ⟨Y, po1, ta1, hws, hpp, ⟨hm, hsd, hsz, hwd, hkn⟩, hpo, hta, htu⟩ := hpost
    have hlf := hlf.keep (ho1 (mo + 4) (by omega))
    have hnx := hnx.keep (ho1 (mo + 5) (by omega))
    have hbf := hbf.keep (ho1 (mo + 6) (by omega))
    have hen := hen.keep (ho1 (mo + 9) (by omega))
    have hsi := hsi.keep (ho1 (mo + 12) (by omega))
    have hsm := hsm.keep (ho1 (mo + 13) (by omega))
    have hlq := gs_ws_len hct.2.1 hws
    refine lv_aload_n hx hb d_M_know_29 rfl (lv_at hl 1 rfl) ?_
    refine hp_get (C := R_M) (T := F_M) (N := 19) (v := .ref (mo + 12)) hx hb hG la_M hown hK.1 hm rfl 15 (by decide) (hG _ fl_M_44) (fun _ h9 => h9) rfl d_M_know_30 ?_
    refine lv_iload_n hx hb d_M_know_33 rfl (lv_at hl 2 rfl) ?_
    refine hp_iconst (z := 0) hx hb d_M_know_34 (by rfl) ?_
    refine hp_iast hx hb hK.1 0 hsi hS (by show _ ∨ _; omega) rfl d_M_know_35 (by omega) t (by omega) (by omega) (fun H locs hsin hz1 ho1 hS => ?_)
    rw [show (0 : Int) = ((0 : Nat) : Int) from by omega, nn_up] at hsin
    have hZ := hz1.trans hZ
    have hm := hm.keep (ho1 (mo) (by omega))
    have hsd := hsd.keep (ho1 (mo + 1) (by omega))
    have hsz := hsz.keep (ho1 (mo + 2) (by omega))
    have hwd := hwd.keep (ho1 (mo + 3) (by omega))
    have hkn := hkn.keep (ho1 (mo + 10) (by omega))
    have hlf := hlf.keep (ho1 (mo + 4) (by omega))
    have hnx := hnx.keep (ho1 (mo + 5) (by omega))
    have hbf := hbf.keep (ho1 (mo + 6) (by omega))
    have hpo := hpo.keep (ho1 (mo + 7) (by omega))
    have hta := hta.keep (ho1 (mo + 8) (by omega))
    have hen := hen.keep (ho1 (mo + 9) (by omega))
    have htu := htu.keep (ho1 (mo + 11) (by omega))
    have hsm := hsm.keep (ho1 (mo + 13) (by omega))
    have hsi : ca E H (mo + 12) (ai E 4 (fun k => (((hp_up si t 0) k : Nat) : Int))) := hsin
    have L36 : ∀ (N : Nat) (md fe : Nat) (Y : List Nat) (a q : Nat) (lz : List gs_P) (z : Int) (lf : Nat → Int) (nx bf : Nat → Nat) (po ta en sm1 : Nat → Int), Y.length < N → (kJ (w t) (c t) (gw g t) a lz Y z (fun j p => sm1 (576 * t + 9 * j + p))) → (q = lz.length) → (Y.length ≤ 900) → (po_h po Y) → (∀ i, ¬ (576 * t ≤ i ∧ i < 576 * t + 576) → sm1 i = sm i) → ∀ (H : Heap) (locs : List Loc), va_S (fun q => q = mo ∨ (mo + 4 ≤ q ∧ q ≤ mo + 13)) s.heap H locs → H.size = s.heap.size → ca E H mo (oM mo th ((md : Nat) : Int) ((fe : Nat) : Int) ((Y.length : Nat) : Int)) → ca E H (mo + 1) (ai E 4 (fun k => (w k : Int))) → ca E H (mo + 2) (ai E 4 (fun k => (c k : Int))) → ca E H (mo + 3) (ai E 128 g) → ca E H (mo + 10) (hp_az (E.2 1) 4 (hp_up kz t true)) → ca E H (mo + 4) (ai E 8192 lf) → ca E H (mo + 5) (ai E 8192 (fun k => (nx k : Int))) → ca E H (mo + 6) (ai E 8192 (fun k => (bf k : Int))) → ca E H (mo + 7) (ai E 4096 po) → ca E H (mo + 8) (ai E 9 ta) → ca E H (mo + 9) (ai E 9 en) → ca E H (mo + 11) (ai E 4 (hp_up tu t z)) → ca E H (mo + 12) (ai E 4 (fun k => (((hp_up si t q) k : Nat) : Int))) → ca E H (mo + 13) (ai E 2304 sm1) → ∀ ls : Array Slot, lv_has ls 5 [(0, .ref mo), (1, .int (iI (t : Int))), (2, .int (iI (w t : Int)))] → W p l e R s m args below meth cd H locs 0 0 Q (F0 m 36 ls []) := by
      intro N
      induction N with
      | zero => intro md fe Y a q lz z lf nx bf po ta en sm1 hN; exact absurd hN (by omega)
      | succ N ih =>
        intro md fe Y a q lz z lf nx bf po ta en sm1 hN hK1 hq hYl hpp hou1 H locs hS hZ hm hsd hsz hwd hkn hlf hnx hbf hpo hta hen htu hsi hsm ls hl
        have ih36 := ih
        refine lv_aload_n hx hb d_M_know_36 rfl (lv_at hl 0 rfl) ?_
        refine hp_get (C := R_M) (T := F_M) (N := 19) (v := .int (iI ((Y.length : Nat) : Int))) hx hb hG la_M hown hK.1 hm rfl 9 (by decide) (hG _ fl_M_105) (fun _ h9 => h9) rfl d_M_know_37 ?_
        refine hp_if_le (tgt := 166) hx hb d_M_know_40 (by decide) (by unfold iR; omega) (fun c40 => ?_) (fun c40 => ?_)
        · skip
          rw [hQ]
          refine hp_vretQ hx hb hrt hlocks d_M_know_166 hS hZ ?_
          have eY : Y = [] := List.length_eq_zero_iff.mp (by omega)
          subst eY
          have hkt : kS w c g (hp_up tu t z) (hp_up si t q) sm1 t := by unfold kS; rw [hp_up_s, hp_up_s, hq]; exact kJ_end hK1
          have hks := kS_up hall hks hkt (tu1 := hp_up tu t z) (si1 := hp_up si t q) (fun i e9 => hp_up_n _ _ e9) (fun i e9 => hp_up_n _ _ e9) hou1
          exact ⟨_, _, _, _, _, _, _, _, _, _, _, _, _, ⟨⟨hm, hsd, hsz, hwd, hkn⟩, hlf, hnx, hbf, hpo, hta, hen, htu, hsi, hsm⟩, hks⟩
        · skip
          have hY0 : Y ≠ [] := fun e9 => by rw [e9] at c40; simp at c40
          have hfew := (kJ_few hct.2.1 hK1).2 hY0
          refine lv_aload_n hx hb d_M_know_43 rfl (lv_at hl 0 rfl) ?_
          refine lv_iload_n hx hb d_M_know_44 rfl (lv_at hl 2 rfl) ?_
          refine hp_callv (W.runV (As := [.int (iI (w t : Int))]) (rest := []) ⟨hx, hb, hml, hown, hG⟩ (c_M_takeSimple l E mo th md fe lf nx bf po ta en (w t) Y ⟨hct.1, hct.2.1⟩ hK1.1.2.2.1 hYl hpp) (cwV 1 hG (hp_goodV ml_M_126 im_M_takeSimple se_M_takeSimple in_M co_M_takeSimple) rfl rfl rfl hd_M_takeSimple ⟨by rw [hRf]; exact Nat.le_of_ble_eq_true rfl, by rw [hRl]; exact Nat.le_of_ble_eq_true rfl⟩) (hp_preV (ci := 3) hp_nsn hK rfl hm ⟨hm, hlf, hnx, hbf, hpo, hta, hen⟩) rfl rfl hl.1 rfl (lv_room (Nat.le_of_ble_eq_true rfl)) d_M_know_45 ⟨by rw [hRc]; exact Nat.le_of_ble_eq_true rfl, by rw [hRs]; exact Nat.le_of_ble_eq_true rfl⟩) hS (fun q h => by have h : q = mo ∨ (mo + 4 ≤ q ∧ q ≤ mo + 9) := h; show _ ∨ _; omega) (fun H locs hpost hz1 ho1 hS => ?_)
          have hZ := hz1.trans hZ
          obtain ⟨D, S, md1, fe1, lf1, nx1, bf1, po1, ta1, en1, hhd, hpD, hbS, hm, hlf, hnx, hbf, hpo, hta, hen⟩ := hpost
          have hsd := hsd.keep (ho1 (mo + 1) (by omega))
          have hsz := hsz.keep (ho1 (mo + 2) (by omega))
          have hwd := hwd.keep (ho1 (mo + 3) (by omega))
          have hkn := hkn.keep (ho1 (mo + 10) (by omega))
          have htu := htu.keep (ho1 (mo + 11) (by omega))
          have hsi := hsi.keep (ho1 (mo + 12) (by omega))
          have hsm := hsm.keep (ho1 (mo + 13) (by omega))
          have hDl := (gs_hd_ne hhd hK1.1.2.2.1 hY0).1
          have okS := (gs_hd_ok hhd).1
          refine hp_iconst (z := 1) hx hb d_M_know_48 (by rfl) ?_
          refine lv_istore_n (lv' := [(3, .int (iI 1)), (0, .ref mo), (1, .int (iI (t : Int))), (2, .int (iI (w t : Int)))]) hx hb d_M_know_49 rfl hl (by decide) rfl (fun ls hl => ?_)
          refine hp_iconst (z := 1) hx hb d_M_know_50 (by rfl) ?_
          refine lv_istore (lv' := [(4, .int (iI 1)), (3, .int (iI 1)), (0, .ref mo), (1, .int (iI (t : Int))), (2, .int (iI (w t : Int)))]) hx hb d_M_know_51 hl (by decide) rfl (fun ls hl => ?_)
          have L53 : ∀ (N : Nat) (p9 : Nat) (wh : Bool), w t + 2 - p9 < N → (1 ≤ p9 ∧ p9 ≤ w t + 1) → (wh = true ↔ ∀ p : Nat, 1 ≤ p → p < p9 → en1 p = (w t : Int) + 1 - p) → ∀ ls : Array Slot, lv_has ls 5 [(0, .ref mo), (1, .int (iI (t : Int))), (2, .int (iI (w t : Int))), (3, .int (iI (bI wh))), (4, .int (iI (p9 : Int)))] → W p l e R s m args below meth cd H locs 0 0 Q (F0 m 53 ls []) := by
            intro N
            induction N with
            | zero => intro p9 wh hN; exact absurd hN (by omega)
            | succ N ih =>
              intro p9 wh hN hp hwh  ls hl
              have ih53 := ih
              refine lv_iload hx hb d_M_know_53 (lv_at hl 4 rfl) ?_
              refine lv_iload_n hx hb d_M_know_55 rfl (lv_at hl 2 rfl) ?_
              refine hp_icmp_gt (tgt := 91) hx hb d_M_know_56 (by decide) (by unfold iR; omega) (by unfold iR; omega) (fun c56 => ?_) (fun c56 => ?_)
              · skip
                refine lv_iload_n hx hb d_M_know_91 rfl (lv_at hl 3 rfl) ?_
                refine hp_ifb_eq (tgt := 108) hx hb d_M_know_92 (by decide) (fun c92 => ?_) (fun c92 => ?_)
                · skip
                  have hST : S ≠ gs_T (w t) := fun e9 => by have h9 := hwh.mpr (fun p h1 h2 => (bn_isT okS hbS).mpr e9 p (by omega) h1); rw [c92] at h9; cases h9
                  have hsiq : hp_up si t q t = q := hp_up_s _ _ _
                  refine hp_iconst (z := 1) hx hb d_M_know_108 (by rfl) ?_
                  refine lv_istore (lv' := [(4, .int (iI 1)), (0, .ref mo), (1, .int (iI (t : Int))), (2, .int (iI (w t : Int))), (3, .int (iI (bI wh)))]) hx hb d_M_know_109 hl (by decide) rfl (fun ls hl => ?_)
                  have L111 : ∀ (N : Nat) (p9 : Nat) (sm2 : Nat → Int), w t + 2 - p9 < N → (1 ≤ p9 ∧ p9 ≤ w t + 1) → (∀ j, 1 ≤ j → j < p9 → sm2 (576 * t + 9 * q + j) = en1 j) → (∀ i, ¬ (576 * t + 9 * q + 1 ≤ i ∧ i < 576 * t + 9 * q + p9) → sm2 i = sm1 i) → ∀ (H : Heap) (locs : List Loc), va_S (fun q => q = mo ∨ (mo + 4 ≤ q ∧ q ≤ mo + 13)) s.heap H locs → H.size = s.heap.size → ca E H mo (oM mo th ((md1 : Nat) : Int) ((fe1 : Nat) : Int) ((D.length : Nat) : Int)) → ca E H (mo + 1) (ai E 4 (fun k => (w k : Int))) → ca E H (mo + 2) (ai E 4 (fun k => (c k : Int))) → ca E H (mo + 3) (ai E 128 g) → ca E H (mo + 10) (hp_az (E.2 1) 4 (hp_up kz t true)) → ca E H (mo + 4) (ai E 8192 lf1) → ca E H (mo + 5) (ai E 8192 (fun k => (nx1 k : Int))) → ca E H (mo + 6) (ai E 8192 (fun k => (bf1 k : Int))) → ca E H (mo + 7) (ai E 4096 po1) → ca E H (mo + 8) (ai E 9 ta1) → ca E H (mo + 9) (ai E 9 en1) → ca E H (mo + 11) (ai E 4 (hp_up tu t z)) → ca E H (mo + 12) (ai E 4 (fun k => (((hp_up si t q) k : Nat) : Int))) → ca E H (mo + 13) (ai E 2304 sm2) → ∀ ls : Array Slot, lv_has ls 5 [(0, .ref mo), (1, .int (iI (t : Int))), (2, .int (iI (w t : Int))), (4, .int (iI (p9 : Int)))] → W p l e R s m args below meth cd H locs 0 0 Q (F0 m 111 ls []) := by
                    intro N
                    induction N with
                    | zero => intro p9 sm2 hN; exact absurd hN (by omega)
                    | succ N ih =>
                      intro p9 sm2 hN hp hin hout H locs hS hZ hm hsd hsz hwd hkn hlf hnx hbf hpo hta hen htu hsi hsm ls hl
                      have ih111 := ih
                      refine lv_iload hx hb d_M_know_111 (lv_at hl 3 rfl) ?_
                      refine lv_iload_n hx hb d_M_know_113 rfl (lv_at hl 2 rfl) ?_
                      refine hp_icmp_gt (tgt := 153) hx hb d_M_know_114 (by decide) (by unfold iR; omega) (by unfold iR; omega) (fun c114 => ?_) (fun c114 => ?_)
                      · skip
                        have ep : p9 = w t + 1 := by omega
                        have hK2 := kJ_n (X' := fun j p => sm2 (576 * t + 9 * j + p)) hK1 hhd hY0 hST (fun p h1 h2 => by show sm2 (576 * t + 9 * lz.length + p) = _; rw [← hq, hin p h1 (by omega)]; exact hbS p h1 h2) (fun j hj p h1 h2 => hout _ (by omega))
                        refine lv_aload_n hx hb d_M_know_153 rfl (lv_at hl 0 rfl) ?_
                        refine hp_get (C := R_M) (T := F_M) (N := 19) (v := .ref (mo + 12)) hx hb hG la_M hown hK.1 hm rfl 15 (by decide) (hG _ fl_M_44) (fun _ h9 => h9) rfl d_M_know_154 ?_
                        refine lv_iload_n hx hb d_M_know_157 rfl (lv_at hl 1 rfl) ?_
                        refine lv_dup2_11 hx hb d_M_know_158 rfl rfl ?_
                        refine hp_iald hx hb hK.1 0 hsi rfl d_M_know_159 (by omega) t (by omega) (by omega) ?_
                        refine hp_iconst (z := 1) hx hb d_M_know_160 (by rfl) ?_
                        refine hp_iadd hx hb d_M_know_161 ?_
                        refine hp_iast hx hb hK.1 0 hsi hS (by show _ ∨ _; omega) rfl d_M_know_162 (by omega) t (by omega) (by omega) (fun H locs hsin hz1 ho1 hS => ?_)
                        rw [show (((((hp_up si t q) t : Nat) : Int) + 1) : Int) = (((((hp_up si t q) t) + 1) : Nat) : Int) from by omega, nn_up] at hsin
                        have hZ := hz1.trans hZ
                        have hm := hm.keep (ho1 (mo) (by omega))
                        have hsd := hsd.keep (ho1 (mo + 1) (by omega))
                        have hsz := hsz.keep (ho1 (mo + 2) (by omega))
                        have hwd := hwd.keep (ho1 (mo + 3) (by omega))
                        have hkn := hkn.keep (ho1 (mo + 10) (by omega))
                        have hlf := hlf.keep (ho1 (mo + 4) (by omega))
                        have hnx := hnx.keep (ho1 (mo + 5) (by omega))
                        have hbf := hbf.keep (ho1 (mo + 6) (by omega))
                        have hpo := hpo.keep (ho1 (mo + 7) (by omega))
                        have hta := hta.keep (ho1 (mo + 8) (by omega))
                        have hen := hen.keep (ho1 (mo + 9) (by omega))
                        have htu := htu.keep (ho1 (mo + 11) (by omega))
                        have hsm := hsm.keep (ho1 (mo + 13) (by omega))
                        have hsi : ca E H (mo + 12) (ai E 4 (fun k => (((hp_up (hp_up si t q) t (((hp_up si t q) t) + 1)) k : Nat) : Int))) := hsin
                        rw [hp_up_s, hp_up_up] at hsi
                        refine lv_goto (tgt := 36) hx hb d_M_know_163 (by decide) ?_
                        exact ih36  md1 fe1 D a (q + 1) (lz ++ [S]) z lf1 nx1 bf1 po1 ta1 en1 sm2 (by omega) (by exact hK2) (by first | exact hq | (rw [hq]; simp)) (by omega) (by exact hpD) (by first | exact hou1 | exact fun i h9 => (hout i (by omega)).trans (hou1 i h9)) H locs hS hZ hm hsd hsz hwd hkn hlf hnx hbf hpo hta hen htu hsi hsm ls (lv_sub hl [0, 1, 2] rfl)
                      · skip
                        refine lv_aload_n hx hb d_M_know_117 rfl (lv_at hl 0 rfl) ?_
                        refine hp_get (C := R_M) (T := F_M) (N := 19) (v := .ref (mo + 13)) hx hb hG la_M hown hK.1 hm rfl 16 (by decide) (hG _ fl_M_47) (fun _ h9 => h9) rfl d_M_know_118 ?_
                        refine hp_sipush (z := 576) hx hb d_M_know_121 (by rfl) ?_
                        refine lv_iload_n hx hb d_M_know_124 rfl (lv_at hl 1 rfl) ?_
                        refine hp_imul hx hb d_M_know_125 ?_
                        refine hp_bipush (z := 9) hx hb d_M_know_126 (by rfl) ?_
                        refine lv_aload_n hx hb d_M_know_128 rfl (lv_at hl 0 rfl) ?_
                        refine hp_get (C := R_M) (T := F_M) (N := 19) (v := .ref (mo + 12)) hx hb hG la_M hown hK.1 hm rfl 15 (by decide) (hG _ fl_M_44) (fun _ h9 => h9) rfl d_M_know_129 ?_
                        refine lv_iload_n hx hb d_M_know_132 rfl (lv_at hl 1 rfl) ?_
                        refine hp_iald hx hb hK.1 0 hsi rfl d_M_know_133 (by omega) t (by omega) (by omega) ?_
                        refine hp_imul hx hb d_M_know_134 ?_
                        refine hp_iadd hx hb d_M_know_135 ?_
                        refine lv_iload hx hb d_M_know_136 (lv_at hl 3 rfl) ?_
                        refine hp_iadd hx hb d_M_know_138 ?_
                        refine lv_aload_n hx hb d_M_know_139 rfl (lv_at hl 0 rfl) ?_
                        refine hp_get (C := R_M) (T := F_M) (N := 19) (v := .ref (mo + 9)) hx hb hG la_M hown hK.1 hm rfl 12 (by decide) (hG _ fl_M_34) (fun _ h9 => h9) rfl d_M_know_140 ?_
                        refine lv_iload hx hb d_M_know_143 (lv_at hl 3 rfl) ?_
                        refine hp_iald hx hb hK.1 0 hen rfl d_M_know_145 (by omega) p9 (by omega) (by omega) ?_
                        refine hp_iast hx hb hK.1 0 hsm hS (by show _ ∨ _; omega) rfl d_M_know_146 (by omega) (576 * t + 9 * q + p9) (by omega) (by omega) (fun H locs hsmn hz1 ho1 hS => ?_)
                        have hZ := hz1.trans hZ
                        have hm := hm.keep (ho1 (mo) (by omega))
                        have hsd := hsd.keep (ho1 (mo + 1) (by omega))
                        have hsz := hsz.keep (ho1 (mo + 2) (by omega))
                        have hwd := hwd.keep (ho1 (mo + 3) (by omega))
                        have hkn := hkn.keep (ho1 (mo + 10) (by omega))
                        have hlf := hlf.keep (ho1 (mo + 4) (by omega))
                        have hnx := hnx.keep (ho1 (mo + 5) (by omega))
                        have hbf := hbf.keep (ho1 (mo + 6) (by omega))
                        have hpo := hpo.keep (ho1 (mo + 7) (by omega))
                        have hta := hta.keep (ho1 (mo + 8) (by omega))
                        have hen := hen.keep (ho1 (mo + 9) (by omega))
                        have htu := htu.keep (ho1 (mo + 11) (by omega))
                        have hsi := hsi.keep (ho1 (mo + 12) (by omega))
                        have hsm : ca E H (mo + 13) (ai E 2304 (hp_up sm2 (576 * t + 9 * q + p9) (en1 p9))) := hsmn
                        refine hp_iinc (z := ((p9 : Int) + 1)) (lv' := [(4, .int (iI ((p9 : Int) + 1))), (0, .ref mo), (1, .int (iI (t : Int))), (2, .int (iI (w t : Int)))]) hx hb d_M_know_147 hl (k := 3) rfl (by omega) (by decide) rfl (fun ls hl => ?_)
                        refine lv_goto (tgt := 111) hx hb d_M_know_150 (by decide) ?_
                        exact ih111  (p9 + 1) (hp_up sm2 (576 * t + 9 * q + p9) (en1 p9)) (by omega) (by omega) (by intro j h1 h2; by_cases e9 : j = p9; (rw [e9, hp_up_s]); (rw [hp_up_n _ _ (by omega)]; exact hin j h1 (by omega))) (by intro i h9; rw [hp_up_n _ _ (by omega)]; exact hout i (by omega)) H locs hS hZ hm hsd hsz hwd hkn hlf hnx hbf hpo hta hen htu hsi hsm ls (lv_sub hl [1, 2, 3, 0] rfl)
                  exact L111 (w t + 2 - 1 + 1) 1 sm1 (by omega) (by omega) (by intro j h1 h2; omega) (by exact fun _ _ => rfl) H locs hS hZ hm hsd hsz hwd hkn hlf hnx hbf hpo hta hen htu hsi hsm ls (lv_sub hl [1, 2, 3, 0] rfl)
                · skip
                  have hST : S = gs_T (w t) := (bn_isT okS hbS).mp (fun p h1 h2 => hwh.mp c92 p h2 (by omega))
                  rw [hST] at hhd
                  obtain ⟨els, hK2⟩ := kJ_T hK1 hhd hY0
                  refine lv_aload_n hx hb d_M_know_95 rfl (lv_at hl 0 rfl) ?_
                  refine hp_get (C := R_M) (T := F_M) (N := 19) (v := .ref (mo + 11)) hx hb hG la_M hown hK.1 hm rfl 14 (by decide) (hG _ fl_M_41) (fun _ h9 => h9) rfl d_M_know_96 ?_
                  refine lv_iload_n hx hb d_M_know_99 rfl (lv_at hl 1 rfl) ?_
                  refine lv_dup2_11 hx hb d_M_know_100 rfl rfl ?_
                  refine hp_iald hx hb hK.1 0 htu rfl d_M_know_101 (by omega) t (by omega) (by omega) ?_
                  refine hp_iconst (z := 1) hx hb d_M_know_102 (by rfl) ?_
                  refine hp_iadd hx hb d_M_know_103 ?_
                  refine hp_iast hx hb hK.1 0 htu hS (by show _ ∨ _; omega) rfl d_M_know_104 (by omega) t (by omega) (by omega) (fun H locs htun hz1 ho1 hS => ?_)
                  have hZ := hz1.trans hZ
                  have hm := hm.keep (ho1 (mo) (by omega))
                  have hsd := hsd.keep (ho1 (mo + 1) (by omega))
                  have hsz := hsz.keep (ho1 (mo + 2) (by omega))
                  have hwd := hwd.keep (ho1 (mo + 3) (by omega))
                  have hkn := hkn.keep (ho1 (mo + 10) (by omega))
                  have hlf := hlf.keep (ho1 (mo + 4) (by omega))
                  have hnx := hnx.keep (ho1 (mo + 5) (by omega))
                  have hbf := hbf.keep (ho1 (mo + 6) (by omega))
                  have hpo := hpo.keep (ho1 (mo + 7) (by omega))
                  have hta := hta.keep (ho1 (mo + 8) (by omega))
                  have hen := hen.keep (ho1 (mo + 9) (by omega))
                  have hsi := hsi.keep (ho1 (mo + 12) (by omega))
                  have hsm := hsm.keep (ho1 (mo + 13) (by omega))
                  have htu : ca E H (mo + 11) (ai E 4 (hp_up (hp_up tu t z) t (((hp_up tu t z) t) + 1))) := htun
                  rw [hp_up_s, hp_up_up] at htu
                  refine lv_goto (tgt := 163) hx hb d_M_know_105 (by decide) ?_
                  refine lv_goto (tgt := 36) hx hb d_M_know_163 (by decide) ?_
                  exact ih36  md1 fe1 D (a + 1) q lz (z + 1) lf1 nx1 bf1 po1 ta1 en1 sm1 (by omega) (by exact hK2) (by first | exact hq | (rw [hq]; simp)) (by omega) (by exact hpD) (by first | exact hou1 | exact fun i h9 => (hout i (by omega)).trans (hou1 i h9)) H locs hS hZ hm hsd hsz hwd hkn hlf hnx hbf hpo hta hen htu hsi hsm ls (lv_sub hl [0, 1, 2] rfl)
              · skip
                refine lv_iload_n hx hb d_M_know_59 rfl (lv_at hl 3 rfl) ?_
                refine hp_ifb_eq (tgt := 83) hx hb d_M_know_60 (by decide) (fun c60 => ?_) (fun c60 => ?_)
                · skip
                  refine hp_iconst (z := 0) hx hb d_M_know_83 (by rfl) ?_
                  refine lv_istore_n (lv' := [(3, .int (iI 0)), (0, .ref mo), (1, .int (iI (t : Int))), (2, .int (iI (w t : Int))), (4, .int (iI (p9 : Int)))]) hx hb d_M_know_84 rfl hl (by decide) rfl (fun ls hl => ?_)
                  refine hp_iinc (z := ((p9 : Int) + 1)) (lv' := [(4, .int (iI ((p9 : Int) + 1))), (3, .int (iI 0)), (0, .ref mo), (1, .int (iI (t : Int))), (2, .int (iI (w t : Int)))]) hx hb d_M_know_85 hl (k := 4) rfl (by omega) (by decide) rfl (fun ls hl => ?_)
                  refine lv_goto (tgt := 53) hx hb d_M_know_88 (by decide) ?_
                  exact ih53  (p9 + 1) false (by omega) (by omega) (by constructor; (intro y9 p h1 h2; first | exact absurd y9 (by decide) | (by_cases e9 : p = p9; (rw [e9]; omega); exact (hwh.mp c60) p h1 (by omega))); (intro y9; first | rfl | (exfalso; first | (have h8 := y9 p9 (by omega) (by omega); omega) | (have h8 := hwh.mpr (fun p h1 h2 => y9 p h1 (by omega)); rw [c60] at h8; cases h8)))) ls (lv_sub hl [2, 3, 4, 1, 0] rfl)
                · skip
                  have hrb := gs_rng okS (p := p9) (by omega) (by omega)
                  have hen9 := hbS p9 (by omega) (by omega)
                  refine lv_aload_n hx hb d_M_know_63 rfl (lv_at hl 0 rfl) ?_
                  refine hp_get (C := R_M) (T := F_M) (N := 19) (v := .ref (mo + 9)) hx hb hG la_M hown hK.1 hm rfl 12 (by decide) (hG _ fl_M_34) (fun _ h9 => h9) rfl d_M_know_64 ?_
                  refine lv_iload hx hb d_M_know_67 (lv_at hl 4 rfl) ?_
                  refine hp_iald hx hb hK.1 0 hen rfl d_M_know_69 (by omega) p9 (by omega) (by omega) ?_
                  refine lv_iload_n hx hb d_M_know_70 rfl (lv_at hl 2 rfl) ?_
                  refine hp_iconst (z := 1) hx hb d_M_know_71 (by rfl) ?_
                  refine hp_iadd hx hb d_M_know_72 ?_
                  refine lv_iload hx hb d_M_know_73 (lv_at hl 4 rfl) ?_
                  refine hp_isub hx hb d_M_know_75 ?_
                  refine hp_icmp_ne (tgt := 83) hx hb d_M_know_76 (by decide) (by unfold iR; omega) (by unfold iR; omega) (fun c76 => ?_) (fun c76 => ?_)
                  · skip
                    refine hp_iconst (z := 0) hx hb d_M_know_83 (by rfl) ?_
                    refine lv_istore_n (lv' := [(3, .int (iI 0)), (0, .ref mo), (1, .int (iI (t : Int))), (2, .int (iI (w t : Int))), (4, .int (iI (p9 : Int)))]) hx hb d_M_know_84 rfl hl (by decide) rfl (fun ls hl => ?_)
                    refine hp_iinc (z := ((p9 : Int) + 1)) (lv' := [(4, .int (iI ((p9 : Int) + 1))), (3, .int (iI 0)), (0, .ref mo), (1, .int (iI (t : Int))), (2, .int (iI (w t : Int)))]) hx hb d_M_know_85 hl (k := 4) rfl (by omega) (by decide) rfl (fun ls hl => ?_)
                    refine lv_goto (tgt := 53) hx hb d_M_know_88 (by decide) ?_
                    exact ih53  (p9 + 1) false (by omega) (by omega) (by constructor; (intro y9 p h1 h2; first | exact absurd y9 (by decide) | (by_cases e9 : p = p9; (rw [e9]; omega); exact (hwh.mp c60) p h1 (by omega))); (intro y9; first | rfl | (exfalso; first | (have h8 := y9 p9 (by omega) (by omega); omega) | (have h8 := hwh.mpr (fun p h1 h2 => y9 p h1 (by omega)); rw [c60] at h8; cases h8)))) ls (lv_sub hl [2, 3, 4, 1, 0] rfl)
                  · skip
                    refine hp_iconst (z := 1) hx hb d_M_know_79 (by rfl) ?_
                    refine lv_goto (tgt := 84) hx hb d_M_know_80 (by decide) ?_
                    refine lv_istore_n (lv' := [(3, .int (iI 1)), (0, .ref mo), (1, .int (iI (t : Int))), (2, .int (iI (w t : Int))), (4, .int (iI (p9 : Int)))]) hx hb d_M_know_84 rfl hl (by decide) rfl (fun ls hl => ?_)
                    refine hp_iinc (z := ((p9 : Int) + 1)) (lv' := [(4, .int (iI ((p9 : Int) + 1))), (3, .int (iI 1)), (0, .ref mo), (1, .int (iI (t : Int))), (2, .int (iI (w t : Int)))]) hx hb d_M_know_85 hl (k := 4) rfl (by omega) (by decide) rfl (fun ls hl => ?_)
                    refine lv_goto (tgt := 53) hx hb d_M_know_88 (by decide) ?_
                    exact ih53  (p9 + 1) true (by omega) (by omega) (by constructor; (intro y9 p h1 h2; first | exact absurd y9 (by decide) | (by_cases e9 : p = p9; (rw [e9]; omega); exact (hwh.mp c60) p h1 (by omega))); (intro y9; first | rfl | (exfalso; first | (have h8 := y9 p9 (by omega) (by omega); omega) | (have h8 := hwh.mpr (fun p h1 h2 => y9 p h1 (by omega)); rw [c60] at h8; cases h8)))) ls (lv_sub hl [2, 3, 4, 1, 0] rfl)
          exact L53 (w t + 2 - 1 + 1) 1 true (by omega) (by omega) (by constructor; (intro _ p h1 h2; omega); (intro _; rfl)) ls (lv_sub hl [2, 3, 4, 1, 0] rfl)
    exact L36 (Y.length + 1) md fe Y 0 0 ([]) (-((bw_neg (gw g t) (c t) : Nat) : Int)) lf nx bf po1 ta1 en sm (by omega) (by exact kJ_0 _ hws) (by rfl) (by omega) (by exact hpp) (by exact fun _ _ => rfl) H locs hS hZ hm hsd hsz hwd hkn hlf hnx hbf hpo hta hen htu hsi hsm ls (lv_sub hl [1, 2, 0] rfl)
  · skip
    rw [hQ]
    refine hp_vretQ hx hb hrt hlocks d_M_know_9 hS hZ ?_
    rw [show hp_up kz t true = kz from hp_up_id c6]
    exact ⟨_, _, _, _, _, _, _, _, _, _, _, _, _, ⟨⟨hm, hsd, hsz, hwd, hkn⟩, hlf, hnx, hbf, hpo, hta, hen, htu, hsi, hsm⟩, hks⟩
