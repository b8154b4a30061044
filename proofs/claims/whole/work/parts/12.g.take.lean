theorem rz_dr {Z : List Nat} {k : Nat} (h0 : 0 < k) (h : k ≤ Z.length) : rz_ng (Z.drop (k - 1)) = -((Z.getD (k - 1) 0 : Nat) : Int) :: rz_ng (Z.drop k) := by
  have h1 : k - 1 < Z.length := by omega
  rw [List.drop_eq_getElem_cons h1, show k - 1 + 1 = k by omega]
  have e : Z.getD (k - 1) 0 = Z[k - 1] := by simp [List.getD_eq_getElem?_getD, h1]
  rw [e]
  rfl
theorem rz_tk {Y : List Nat} {k : Nat} (h : k < Y.length) : (rz_ps (Y.take (k + 1))).reverse = ((Y.getD k 0 : Nat) : Int) :: (rz_ps (Y.take k)).reverse := by
  have e : Y.getD k 0 = Y[k] := by simp [List.getD_eq_getElem?_getD, h]
  rw [e, List.take_succ_eq_append_getElem h]
  unfold rz_ps
  rw [List.map_append, List.reverse_append]
  rfl
theorem rz_n1 (A : List Nat) : (rz_ps A).map (fun x => -x) = rz_ng A := by unfold rz_ps rz_ng; rw [List.map_map]; rfl
theorem rz_n2 (B : List Nat) : (rz_ng B).map (fun x => -x) = rz_ps B := by unfold rz_ps rz_ng; rw [List.map_map]; exact List.map_congr_left (fun i _ => by simp)
theorem ch_flip {lf : Nat → Int} {l : List Nat} {A B : List Nat} (h : ch_w false lf l = rz_ps A ++ (rz_ng B).reverse) : ch_w true lf l = rz_ng A ++ (rz_ps B).reverse := by
  have e : ch_w true lf l = (ch_w false lf l).map (fun x => -x) := by simp [ch_w, ch_u]
  rw [e, h, List.map_append, List.map_reverse, rz_n1, rz_n2]
theorem ch_flop {lf : Nat → Int} {l : List Nat} {A B : List Nat} (h : ch_w true lf l = rz_ps A ++ (rz_ng B).reverse) : ch_w false lf l = rz_ng A ++ rz_ps B.reverse := by
  have e : ch_w false lf l = (ch_w true lf l).map (fun x => -x) := by simp [ch_w, ch_u]
  rw [e, h, List.map_append, List.map_reverse, rz_n1, rz_n2]
  simp [rz_ps]
theorem ch_bnd {lf : Nat → Int} {l : List Nat} {L : List Int} (h : ch_w false lf l = L) (hL : ∀ x, x ∈ L → -10 < x ∧ x < 10) : ∀ z, z ∈ l → -10 < lf z ∧ lf z < 10 := fun z hz => hL _ (by rw [← h]; exact List.mem_map.mpr ⟨z, hz, rfl⟩)
theorem rz_ng_b {n : Nat} {u : List Nat} (hn : n ≤ 8) (h : rz_in n u) : ∀ x, x ∈ rz_ng u → -10 < x ∧ x < 10 := fun x hx => by
  obtain ⟨i, hi, rfl⟩ := List.mem_map.mp hx
  have := h i hi
  omega
theorem rz_ps_b {n : Nat} {u : List Nat} (hn : n ≤ 8) (h : rz_in n u) : ∀ x, x ∈ rz_ps u → -10 < x ∧ x < 10 := fun x hx => by
  obtain ⟨i, hi, rfl⟩ := List.mem_map.mp hx
  have := h i hi
  omega
theorem ch_neg {lf : Nat → Int} {k : Nat} {r b d : List Nat} (h : ch_w false lf (k :: r) = rz_ng b ++ rz_ps d) (hl : lf k < 0) : ∃ i b', b = i :: b' ∧ lf k = -(i : Int) ∧ ch_w false lf r = rz_ng b' ++ rz_ps d := by
  have h : lf k :: ch_w false lf r = rz_ng b ++ rz_ps d := h
  match b, d, h with
  | [], [], h => exact absurd h (by simp [rz_ng, rz_ps])
  | [], j :: d, h =>
    have h : lf k :: ch_w false lf r = (j : Int) :: rz_ps d := h
    injection h with e1 e2
    omega
  | i :: b, d, h =>
    have h : lf k :: ch_w false lf r = -(i : Int) :: (rz_ng b ++ rz_ps d) := h
    injection h with e1 e2
    exact ⟨i, b, rfl, e1, e2⟩
theorem ch_pos {n : Nat} {lf : Nat → Int} {k : Nat} {r b d : List Nat} (h : ch_w false lf (k :: r) = rz_ng b ++ rz_ps d) (hb : rz_in n b) (hl : ¬ lf k < 0) : b = [] ∧ ∃ j d', d = j :: d' ∧ lf k = (j : Int) ∧ ch_w false lf r = rz_ng [] ++ rz_ps d' := by
  have h : lf k :: ch_w false lf r = rz_ng b ++ rz_ps d := h
  match b, d, h, hb with
  | [], [], h, _ => exact absurd h (by simp [rz_ng, rz_ps])
  | [], j :: d, h, _ =>
    have h : lf k :: ch_w false lf r = (j : Int) :: rz_ps d := h
    injection h with e1 e2
    exact ⟨rfl, j, d, rfl, e1, e2⟩
  | i :: b, d, h, hb =>
    have h : lf k :: ch_w false lf r = -(i : Int) :: (rz_ng b ++ rz_ps d) := h
    injection h with e1 e2
    have := (hb i (by simp)).1
    omega
theorem ch_w_nil {lf : Nat → Int} {b d : List Nat} (h : ch_w false lf [] = rz_ng b ++ rz_ps d) : b = [] ∧ d = [] := by
  match b, d, h with
  | [], [], _ => exact ⟨rfl, rfl⟩
  | [], j :: d, h => exact absurd h (by simp [ch_w, rz_ng, rz_ps])
  | i :: b, d, h => exact absurd h (by simp [ch_w, rz_ng])
theorem ch_h1 {nx bf : Nat → Nat} {md fe : Nat} {l r fs : List Nat} (h : ch_I nx bf md fe l r fs) (h1 : ch_h r 1 = 1) : r = [] := by
  match r, h, h1 with
  | [], _, _ => rfl
  | x :: r, h, h1 =>
    have := (h.2.1.2.1 x (by simp)).1
    have : x = 1 := h1
    omega

set_option maxHeartbeats 4000000 in
set_option maxRecDepth 100000 in
/-- takeSimple(n) -/
theorem c_M_takeSimple (l : Launch) (E : hp_E) (mo : Nat) (th : Int) (md fe : Nat) (lf : Nat → Int) (nx bf : Nat → Nat) (po ta en : Nat → Int) (n : Nat) (Y : List Nat) (hn : 1 ≤ n ∧ n ≤ 8) (hY : rz_in n Y) (hYl : Y.length ≤ 900) (hpo0 : po_h po Y) : Met l y_M_takeSimple (Cond.code y_M_takeSimple b_M_takeSimple 7 (none) :: G0) ({ frames := 2, cells := 0, slots := 0, locals := 49 }) (hp_P E [.ref mo, .int (iI (n : Int))] (fun H => ca E H mo (oM mo th ((md : Nat) : Int) ((fe : Nat) : Int) ((Y.length : Nat) : Int)) ∧ ca E H (mo + 4) (ai E 8192 lf) ∧ ca E H (mo + 5) (ai E 8192 (fun k => (nx k : Int))) ∧ ca E H (mo + 6) (ai E 8192 (fun k => (bf k : Int))) ∧ ca E H (mo + 7) (ai E 4096 po) ∧ ca E H (mo + 8) (ai E 9 ta) ∧ ca E H (mo + 9) (ai E 9 en))) (hp_Qv (fun q => q = mo ∨ (mo + 4 ≤ q ∧ q ≤ mo + 9)) (fun H => ∃ (D : List Nat) (S : gs_P) (md1 fe1 : Nat) (lf1 : Nat → Int) (nx1 bf1 : Nat → Nat) (po1 ta1 en1 : Nat → Int), gs_hd n Y D S ∧ po_h po1 D ∧ bn_h n en1 S.1 ∧ ca E H mo (oM mo th ((md1 : Nat) : Int) ((fe1 : Nat) : Int) ((D.length : Nat) : Int)) ∧ ca E H (mo + 4) (ai E 8192 lf1) ∧ ca E H (mo + 5) (ai E 8192 (fun k => (nx1 k : Int))) ∧ ca E H (mo + 6) (ai E 8192 (fun k => (bf1 k : Int))) ∧ ca E H (mo + 7) (ai E 4096 po1) ∧ ca E H (mo + 8) (ai E 9 ta1) ∧ ca E H (mo + 9) (ai E 9 en1))) 0 0 (fun q => q = mo ∨ (mo + 4 ≤ q ∧ q ≤ mo + 9)) := by
  refine Met.ofW (cc := b_M_takeSimple) (maxL := 7) (ret := none) (by decide) rfl ?_
  intro p e s m args below meth cd s₁ Bd hml hv
  obtain ⟨hargs, hB, hK⟩ := hv
  have hx := Bd.exec
  have hb := Bd.bytes
  have hrt := Bd.returns
  have hts := atoms_spec (ws := Cond.code y_M_takeSimple b_M_takeSimple 7 (none) :: G0) Bd.pre
  have hG : ∀ w ∈ G0, w.before args s = true := fun w h => hts w (List.mem_cons_of_mem _ h)
  have hown : s.vm.findClass R_M = some m.cls := findClass_of_methodNamed Bd.named
  have hlocks := Bd.notSynchronized
  have hl := lv_entry ([.ref mo, .int (iI (n : Int))]) (n := 7) (Nat.le_of_ble_eq_true rfl)
  rw [show entryFrame m args 7 = entryFrame m ([.ref mo, .int (iI (n : Int))] : List Value).toArray 7 from by rw [hargs]]
  rw [lg_entry_eq]
  generalize (lg_sl ([.ref mo, .int (iI (n : Int))]) ++ List.replicate (7 - (lg_sl ([.ref mo, .int (iI (n : Int))])).length) Slot.unset).toArray = ls at hl ⊢
  have hl : lv_has ls 7 [(0, .ref mo), (1, .int (iI (n : Int)))] := hl
  obtain ⟨R, hR⟩ : ∃ R, R = (headSpec (Cond.code y_M_takeSimple b_M_takeSimple 7 (none) :: G0) { frames := 2, cells := 0, slots := 0, locals := 49 }).room := ⟨_, rfl⟩
  rw [← hR]
  have hRf : R.frames = 2 := by rw [hR]; rfl
  have hRl : R.locals = 49 := by rw [hR]; rfl
  have hRc : R.cells = 0 := by rw [hR]; rfl
  have hRs : R.slots = 0 := by rw [hR]; rfl
  obtain ⟨Q, hQ⟩ : ∃ Q, Q = MQ below (hp_Qv (fun q => q = mo ∨ (mo + 4 ≤ q ∧ q ≤ mo + 9)) (fun H => ∃ (D : List Nat) (S : gs_P) (md1 fe1 : Nat) (lf1 : Nat → Int) (nx1 bf1 : Nat → Nat) (po1 ta1 en1 : Nat → Int), gs_hd n Y D S ∧ po_h po1 D ∧ bn_h n en1 S.1 ∧ ca E H mo (oM mo th ((md1 : Nat) : Int) ((fe1 : Nat) : Int) ((D.length : Nat) : Int)) ∧ ca E H (mo + 4) (ai E 8192 lf1) ∧ ca E H (mo + 5) (ai E 8192 (fun k => (nx1 k : Int))) ∧ ca E H (mo + 6) (ai E 8192 (fun k => (bf1 k : Int))) ∧ ca E H (mo + 7) (ai E 4096 po1) ∧ ca E H (mo + 8) (ai E 9 ta1) ∧ ca E H (mo + 9) (ai E 9 en1))) args s 0 0 (fun q => q = mo ∨ (mo + 4 ≤ q ∧ q ≤ mo + 9)) := ⟨_, rfl⟩
  rw [← hQ]
  obtain ⟨H, hH⟩ : ∃ H, H = s.heap := ⟨_, rfl⟩
  obtain ⟨locs, hlocs⟩ : ∃ locs : List Loc, locs = [] := ⟨_, rfl⟩
  have hS : va_S (fun q => q = mo ∨ (mo + 4 ≤ q ∧ q ≤ mo + 9)) s.heap H locs := by rw [hH, hlocs]; exact va_S.rf
  have hZ : H.size = s.heap.size := by rw [hH]
  rw [← hH] at hB
  rw [show W p l e R s m args below meth cd s.heap [] 0 0 Q (F0 m 0 ls []) = W p l e R s m args below meth cd H locs 0 0 Q (F0 m 0 ls []) from by rw [hH, hlocs]]
  obtain ⟨hm, hlf, hnx, hbf, hpo, hta, hen⟩ := hB
  refine lv_aload_n hx hb d_M_takeSimple_0 rfl (lv_at hl 0 rfl) ?_
  refine hp_get (C := R_M) (T := F_M) (N := 19) (v := .int (iI ((Y.length : Nat) : Int))) hx hb hG la_M hown hK.1 hm rfl 9 (by decide) (hG _ fl_M_105) (fun _ h9 => h9) rfl d_M_takeSimple_1 ?_
  refine lv_istore_n (lv' := [(2, .int (iI ((Y.length : Nat) : Int))), (0, .ref mo), (1, .int (iI (n : Int)))]) hx hb d_M_takeSimple_4 rfl hl (by decide) rfl (fun ls hl => ?_)
  refine lv_aload_n hx hb d_M_takeSimple_5 rfl (lv_at hl 1 rfl) ?_
  refine hp_callv (W.runV (As := []) (rest := []) ⟨hx, hb, hml, hown, hG⟩ (c_M_clearChain l E mo th ((Y.length : Nat) : Int) md fe lf nx bf) (cwV 0 hG (hp_goodV ml_M_111 im_M_clearChain se_M_clearChain in_M co_M_clearChain) rfl rfl rfl hd_M_clearChain ⟨by rw [hRf]; exact Nat.le_of_ble_eq_true rfl, by rw [hRl]; exact Nat.le_of_ble_eq_true rfl⟩) (hp_preV (ci := 3) hp_nsn hK rfl hm ⟨hm, hlf, hnx, hbf⟩) rfl rfl hl.1 rfl (lv_room (Nat.le_of_ble_eq_true rfl)) d_M_takeSimple_6 ⟨by rw [hRc]; exact Nat.le_of_ble_eq_true rfl, by rw [hRs]; exact Nat.le_of_ble_eq_true rfl⟩) hS (fun q h => by have h : q = mo ∨ q = mo + 4 ∨ q = mo + 5 ∨ q = mo + 6 := h; show _ ∨ _; omega) (fun H locs hpost hz1 ho1 hS => ?_)
  have hZ := hz1.trans hZ
  obtain ⟨lf1, hl1, ⟨hm, hlf, hnx, hbf⟩, hI⟩ := hpost
  have hpo := hpo.keep (ho1 (mo + 7) (by omega))
  have hta := hta.keep (ho1 (mo + 8) (by omega))
  have hen := hen.keep (ho1 (mo + 9) (by omega))
  refine lv_aload_n hx hb d_M_takeSimple_9 rfl (lv_at hl 1 rfl) ?_
  refine lv_iload_n hx hb d_M_takeSimple_10 rfl (lv_at hl 2 rfl) ?_
  refine hp_callv (W.runV (As := [.int (iI (n : Int))]) (rest := []) ⟨hx, hb, hml, hown, hG⟩ (c_M_writeTurn l E mo th 2 0 po ta n Y hn hpo0 (by omega)) (cwV 1 hG (hp_goodV ml_M_114 im_M_writeTurn se_M_writeTurn in_M co_M_writeTurn) rfl rfl rfl hd_M_writeTurn ⟨by rw [hRf]; exact Nat.le_of_ble_eq_true rfl, by rw [hRl]; exact Nat.le_of_ble_eq_true rfl⟩) (hp_preV (ci := 3) hp_nsn hK rfl hm ⟨hm, hpo, hta⟩) rfl rfl hl.1 rfl (lv_room (Nat.le_of_ble_eq_true rfl)) d_M_takeSimple_11 ⟨by rw [hRc]; exact Nat.le_of_ble_eq_true rfl, by rw [hRs]; exact Nat.le_of_ble_eq_true rfl⟩) hS (fun q h => by have h : q = mo ∨ q = mo + 7 ∨ q = mo + 8 := h; show _ ∨ _; omega) (fun H locs hpost hz1 ho1 hS => ?_)
  have hZ := hz1.trans hZ
  obtain ⟨T, po1, ta1, hrT, hwT, hiT, hTl, hpp, hm, hpo, hta⟩ := hpost
  have hlf := hlf.keep (ho1 (mo + 4) (by omega))
  have hnx := hnx.keep (ho1 (mo + 5) (by omega))
  have hbf := hbf.keep (ho1 (mo + 6) (by omega))
  have hen := hen.keep (ho1 (mo + 9) (by omega))
  skip
  have hlen := List.length_append (as := Y) (bs := T)
  refine hp_iconst (z := 0) hx hb d_M_takeSimple_14 (by rfl) ?_
  refine lv_istore_n (lv' := [(3, .int (iI 0)), (2, .int (iI ((Y.length : Nat) : Int))), (0, .ref mo), (1, .int (iI (n : Int)))]) hx hb d_M_takeSimple_15 rfl hl (by decide) rfl (fun ls hl => ?_)
  refine lv_aload_n hx hb d_M_takeSimple_16 rfl (lv_at hl 2 rfl) ?_
  refine hp_get (C := R_M) (T := F_M) (N := 19) (v := .int (iI (((Y ++ T).length : Nat) : Int))) hx hb hG la_M hown hK.1 hm rfl 9 (by decide) (hG _ fl_M_105) (fun _ h9 => h9) rfl d_M_takeSimple_17 ?_
  refine hp_iconst (z := 1) hx hb d_M_takeSimple_20 (by rfl) ?_
  refine hp_isub hx hb d_M_takeSimple_21 ?_
  refine lv_istore (lv' := [(4, .int (iI ((((Y ++ T).length : Nat) : Int) - 1))), (3, .int (iI 0)), (2, .int (iI ((Y.length : Nat) : Int))), (0, .ref mo), (1, .int (iI (n : Int)))]) hx hb d_M_takeSimple_22 hl (by decide) rfl (fun ls hl => ?_)
  have L24 : ∀ (N : Nat) (k1 : Nat) (ll ff : List Nat) (md fe : Nat) (lf : Nat → Int) (nx bf : Nat → Nat), k1 < N → (Y.length ≤ k1 ∧ k1 ≤ (Y ++ T).length) → (ll.length + k1 = (Y ++ T).length) → (ch_w false lf ll = rz_ng ((Y ++ T).drop k1)) → (ch_I nx bf md fe ll [] ff) → (md ≤ 8192) → (lf 1 = 0) → ∀ (H : Heap) (locs : List Loc), va_S (fun q => q = mo ∨ (mo + 4 ≤ q ∧ q ≤ mo + 9)) s.heap H locs → H.size = s.heap.size → ca E H mo (oM mo th ((md : Nat) : Int) ((fe : Nat) : Int) (((Y ++ T).length : Nat) : Int)) → ca E H (mo + 4) (ai E 8192 lf) → ca E H (mo + 5) (ai E 8192 (fun k => (nx k : Int))) → ca E H (mo + 6) (ai E 8192 (fun k => (bf k : Int))) → ca E H (mo + 7) (ai E 4096 po1) → ca E H (mo + 8) (ai E 9 ta1) → ca E H (mo + 9) (ai E 9 en) → ∀ ls : Array Slot, lv_has ls 7 [(0, .ref mo), (1, .int (iI (n : Int))), (2, .int (iI ((Y.length : Nat) : Int))), (3, .int (iI ((ch_h ll 0 : Nat) : Int))), (4, .int (iI (((k1 : Nat) : Int) - 1)))] → W p l e R s m args below meth cd H locs 0 0 Q (F0 m 24 ls []) := by
    intro N
    induction N with
    | zero => intro k1 ll ff md fe lf nx bf hN; exact absurd hN (by omega)
    | succ N ih =>
      intro k1 ll ff md fe lf nx bf hN hk1 hln hlt hI hmx hl1 H locs hS hZ hm hlf hnx hbf hpo hta hen ls hl
      have ih24 := ih
      refine lv_iload hx hb d_M_takeSimple_24 (lv_at hl 4 rfl) ?_
      refine lv_iload_n hx hb d_M_takeSimple_26 rfl (lv_at hl 2 rfl) ?_
      refine hp_icmp_lt (tgt := 50) hx hb d_M_takeSimple_27 (by decide) (by unfold iR; omega) (by unfold iR; omega) (fun c27 => ?_) (fun c27 => ?_)
      · skip
        refine hp_iconst (z := 0) hx hb d_M_takeSimple_50 (by rfl) ?_
        refine lv_istore (lv' := [(4, .int (iI 0)), (0, .ref mo), (1, .int (iI (n : Int))), (2, .int (iI ((Y.length : Nat) : Int))), (3, .int (iI ((ch_h ll 0 : Nat) : Int)))]) hx hb d_M_takeSimple_51 hl (by decide) rfl (fun ls hl => ?_)
        have L53 : ∀ (N : Nat) (k : Nat) (ll ff : List Nat) (md fe : Nat) (lf : Nat → Int) (nx bf : Nat → Nat), Y.length - k < N → (k ≤ Y.length) → (ll.length = T.length + k) → (ch_w false lf ll = (rz_ps (Y.take k)).reverse ++ rz_ng T) → (ch_I nx bf md fe ll [] ff) → (md ≤ 8192) → (lf 1 = 0) → ∀ (H : Heap) (locs : List Loc), va_S (fun q => q = mo ∨ (mo + 4 ≤ q ∧ q ≤ mo + 9)) s.heap H locs → H.size = s.heap.size → ca E H mo (oM mo th ((md : Nat) : Int) ((fe : Nat) : Int) (((Y ++ T).length : Nat) : Int)) → ca E H (mo + 4) (ai E 8192 lf) → ca E H (mo + 5) (ai E 8192 (fun k => (nx k : Int))) → ca E H (mo + 6) (ai E 8192 (fun k => (bf k : Int))) → ca E H (mo + 7) (ai E 4096 po1) → ca E H (mo + 8) (ai E 9 ta1) → ca E H (mo + 9) (ai E 9 en) → ∀ ls : Array Slot, lv_has ls 7 [(0, .ref mo), (1, .int (iI (n : Int))), (2, .int (iI ((Y.length : Nat) : Int))), (3, .int (iI ((ch_h ll 0 : Nat) : Int))), (4, .int (iI (k : Int)))] → W p l e R s m args below meth cd H locs 0 0 Q (F0 m 53 ls []) := by
          intro N
          induction N with
          | zero => intro k ll ff md fe lf nx bf hN; exact absurd hN (by omega)
          | succ N ih =>
            intro k ll ff md fe lf nx bf hN hk hln hlt hI hmx hl1 H locs hS hZ hm hlf hnx hbf hpo hta hen ls hl
            have ih53 := ih
            refine lv_iload hx hb d_M_takeSimple_53 (lv_at hl 4 rfl) ?_
            refine lv_iload_n hx hb d_M_takeSimple_55 rfl (lv_at hl 2 rfl) ?_
            refine hp_icmp_ge (tgt := 78) hx hb d_M_takeSimple_56 (by decide) (by unfold iR; omega) (by unfold iR; omega) (fun c56 => ?_) (fun c56 => ?_)
            · skip
              have ek : k = Y.length := by omega
              rw [ek, List.take_length] at hlt
              have hI := ch_all hI
              have hTw : gs_tw n T := ⟨hiT, hrT, hwT⟩
              obtain ⟨A, B, A', B', hA, hB, hA', hB', lA, lB, lA', lB', ⟨t1, hz1⟩, ⟨t2, hz2⟩, S, hhd, hSS⟩ := gs_turn (bd := 8000) hTw hY (by omega)
              have hw0 : ch_w false lf (ll.reverse ++ []) = (rz_ng T).reverse ++ rz_ps Y := by rw [List.append_nil, show ch_w false lf ll.reverse = (ch_w false lf ll).reverse by simp [ch_w], hlt]; simp
              have hlb := ch_bnd hw0 (fun x h9 => by rcases List.mem_append.mp h9 with h9 | h9; (exact rz_ng_b hn.2 hiT x (by simpa using h9)); exact rz_ps_b hn.2 hY x h9)
              rw [← hw0] at hz1
              refine lv_aload_n hx hb d_M_takeSimple_78 rfl (lv_at hl 0 rfl) ?_
              refine hp_callv (W.runV (As := []) (rest := []) ⟨hx, hb, hml, hown, hG⟩ (c_M_turnRight l E mo th (((Y ++ T).length : Nat) : Int) md fe lf nx bf (ll.reverse ++ []) ff t1 _ hI hmx hl1 hlb hz1) (cwV 0 hG (hp_goodV ml_M_117 im_M_turnRight se_M_turnRight in_M co_M_turnRight) rfl rfl rfl hd_M_turnRight ⟨by rw [hRf]; exact Nat.le_of_ble_eq_true rfl, by rw [hRl]; exact Nat.le_of_ble_eq_true rfl⟩) (hp_preV (ci := 3) hp_nsn hK rfl hm ⟨hm, hlf, hnx, hbf⟩) rfl rfl hl.1 rfl (lv_room (Nat.le_of_ble_eq_true rfl)) d_M_takeSimple_79 ⟨by rw [hRc]; exact Nat.le_of_ble_eq_true rfl, by rw [hRs]; exact Nat.le_of_ble_eq_true rfl⟩) hS (fun q h => by have h : q = mo ∨ q = mo + 4 ∨ q = mo + 5 ∨ q = mo + 6 := h; show _ ∨ _; omega) (fun H locs hpost hz1 ho1 hS => ?_)
              have hZ := hz1.trans hZ
              obtain ⟨md1, fe1, lf1, nx1, bf1, ff1, rr1, hw1, hl1, hmx, ⟨hm, hlf, hnx, hbf⟩, hI, hlb⟩ := hpost
              have hpo := hpo.keep (ho1 (mo + 7) (by omega))
              have hta := hta.keep (ho1 (mo + 8) (by omega))
              have hen := hen.keep (ho1 (mo + 9) (by omega))
              have hw1f := ch_flip hw1
              rw [← hw1f] at hz2
              refine lv_aload_n hx hb d_M_takeSimple_82 rfl (lv_at hl 0 rfl) ?_
              refine hp_callv (W.runV (As := []) (rest := []) ⟨hx, hb, hml, hown, hG⟩ (c_M_turnLeft l E mo th (((Y ++ T).length : Nat) : Int) md1 fe1 lf1 nx1 bf1 rr1 ff1 t2 _ hI hmx hl1 hlb hz2) (cwV 0 hG (hp_goodV ml_M_120 im_M_turnLeft se_M_turnLeft in_M co_M_turnLeft) rfl rfl rfl hd_M_turnLeft ⟨by rw [hRf]; exact Nat.le_of_ble_eq_true rfl, by rw [hRl]; exact Nat.le_of_ble_eq_true rfl⟩) (hp_preV (ci := 3) hp_nsn hK rfl hm ⟨hm, hlf, hnx, hbf⟩) rfl rfl hl.1 rfl (lv_room (Nat.le_of_ble_eq_true rfl)) d_M_takeSimple_83 ⟨by rw [hRc]; exact Nat.le_of_ble_eq_true rfl, by rw [hRs]; exact Nat.le_of_ble_eq_true rfl⟩) hS (fun q h => by have h : q = mo ∨ q = mo + 4 ∨ q = mo + 5 ∨ q = mo + 6 := h; show _ ∨ _; omega) (fun H locs hpost hz1 ho1 hS => ?_)
              have hZ := hz1.trans hZ
              obtain ⟨md2, fe2, lf2, nx2, bf2, ff2, rr2, hw2, hl1, hmx, ⟨hm, hlf, hnx, hbf⟩, hI, hlb⟩ := hpost
              have hpo := hpo.keep (ho1 (mo + 7) (by omega))
              have hta := hta.keep (ho1 (mo + 8) (by omega))
              have hen := hen.keep (ho1 (mo + 9) (by omega))
              have hw4 := ch_flop hw2
              skip
              refine hp_iconst (z := 1) hx hb d_M_takeSimple_86 (by rfl) ?_
              refine lv_istore (lv' := [(4, .int (iI 1)), (0, .ref mo), (1, .int (iI (n : Int))), (2, .int (iI ((Y.length : Nat) : Int))), (3, .int (iI ((ch_h ll 0 : Nat) : Int)))]) hx hb d_M_takeSimple_87 hl (by decide) rfl (fun ls hl => ?_)
              have L89 : ∀ (N : Nat) (p9 : Nat) (ta2 : Nat → Int), n + 2 - p9 < N → (1 ≤ p9 ∧ p9 ≤ n + 1) → (∀ i : Nat, 1 ≤ i → i < p9 → ta2 i = (i : Int)) → ∀ (H : Heap) (locs : List Loc), va_S (fun q => q = mo ∨ (mo + 4 ≤ q ∧ q ≤ mo + 9)) s.heap H locs → H.size = s.heap.size → ca E H mo (oM mo th ((md2 : Nat) : Int) ((fe2 : Nat) : Int) (((Y ++ T).length : Nat) : Int)) → ca E H (mo + 4) (ai E 8192 lf2) → ca E H (mo + 5) (ai E 8192 (fun k => (nx2 k : Int))) → ca E H (mo + 6) (ai E 8192 (fun k => (bf2 k : Int))) → ca E H (mo + 7) (ai E 4096 po1) → ca E H (mo + 8) (ai E 9 ta2) → ca E H (mo + 9) (ai E 9 en) → ∀ ls : Array Slot, lv_has ls 7 [(0, .ref mo), (1, .int (iI (n : Int))), (2, .int (iI ((Y.length : Nat) : Int))), (4, .int (iI (p9 : Int)))] → W p l e R s m args below meth cd H locs 0 0 Q (F0 m 89 ls []) := by
                intro N
                induction N with
                | zero => intro p9 ta2 hN; exact absurd hN (by omega)
                | succ N ih =>
                  intro p9 ta2 hN hp htt H locs hS hZ hm hlf hnx hbf hpo hta hen ls hl
                  have ih89 := ih
                  refine lv_iload hx hb d_M_takeSimple_89 (lv_at hl 3 rfl) ?_
                  refine lv_iload_n hx hb d_M_takeSimple_91 rfl (lv_at hl 1 rfl) ?_
                  refine hp_icmp_gt (tgt := 110) hx hb d_M_takeSimple_92 (by decide) (by unfold iR; omega) (by unfold iR; omega) (fun c92 => ?_) (fun c92 => ?_)
                  · skip
                    refine lv_aload_n hx hb d_M_takeSimple_110 rfl (lv_at hl 0 rfl) ?_
                    refine hp_iconst (z := 0) hx hb d_M_takeSimple_111 (by rfl) ?_
                    refine hp_put (C := R_M) (T := F_M) (N := 19) (v := .int (iI 0)) (ty := .int) hx hb hG la_M t_M tk_M n_M hown hK.1 hm hS (by show _ ∨ _; omega) rfl 9 (by decide) (hG _ fl_M_105) (fun _ h9 => h9) rfl (by decide +kernel) rfl rfl (Nat.le_of_ble_eq_true rfl) d_M_takeSimple_112 (fun H locs hmn hz1 ho1 hS => ?_)
                    have hZ := hz1.trans hZ
                    have hlf := hlf.keep (ho1 (mo + 4) (by omega))
                    have hnx := hnx.keep (ho1 (mo + 5) (by omega))
                    have hbf := hbf.keep (ho1 (mo + 6) (by omega))
                    have hpo := hpo.keep (ho1 (mo + 7) (by omega))
                    have hta := hta.keep (ho1 (mo + 8) (by omega))
                    have hen := hen.keep (ho1 (mo + 9) (by omega))
                    have hm : ca E H (mo) (.inr (3, [.int (iI th), .ref (mo + 1), .ref (mo + 2), .ref (mo + 3), .ref (mo + 4), .ref (mo + 5), .ref (mo + 6), .int (iI (md2 : Int)), .int (iI (fe2 : Int)), .int (iI 0), .ref (mo + 7), .ref (mo + 8), .ref (mo + 9), .ref (mo + 10), .ref (mo + 11), .ref (mo + 12), .ref (mo + 13), .ref (mo + 14), .ref (mo + 15)])) := hmn
                    refine lv_aload_n hx hb d_M_takeSimple_115 rfl (lv_at hl 0 rfl) ?_
                    refine hp_get (C := R_M) (T := F_M) (N := 19) (v := .ref (mo + 5)) hx hb hG la_M hown hK.1 hm rfl 5 (by decide) (hG _ fl_M_22) (fun _ h9 => h9) rfl d_M_takeSimple_116 ?_
                    refine hp_iconst (z := 0) hx hb d_M_takeSimple_119 (by rfl) ?_
                    refine hp_iald hx hb hK.1 0 hnx rfl d_M_takeSimple_120 (by omega) 0 (by omega) (by omega) ?_
                    refine lv_istore (lv' := [(4, .int (iI ((nx2 0 : Nat) : Int))), (0, .ref mo), (1, .int (iI (n : Int))), (2, .int (iI ((Y.length : Nat) : Int)))]) hx hb d_M_takeSimple_121 hl (by decide) rfl (fun ls hl => ?_)
                    have L123 : ∀ (N : Nat) (k q : Nat) (l2 r2 a b d1 d2 : List Nat) (po2 ta3 : Nat → Int), r2.length < N → (ch_I nx2 bf2 md2 fe2 l2 r2 ff2) → (k = ch_h r2 1) → (ch_w false lf2 r2 = rz_ng b ++ rz_ps d2) → (a ++ b = A') → (d1 ++ d2 = B'.reverse) → (∀ i : Nat, 1 ≤ i → i ≤ n → ta3 i = (((gs_w a).2 i : Nat) : Int)) → (po_h po2 d1) → (q = d1.length) → ∀ (H : Heap) (locs : List Loc), va_S (fun q => q = mo ∨ (mo + 4 ≤ q ∧ q ≤ mo + 9)) s.heap H locs → H.size = s.heap.size → ca E H mo (oM mo th ((md2 : Nat) : Int) ((fe2 : Nat) : Int) ((q : Nat) : Int)) → ca E H (mo + 4) (ai E 8192 lf2) → ca E H (mo + 5) (ai E 8192 (fun k => (nx2 k : Int))) → ca E H (mo + 6) (ai E 8192 (fun k => (bf2 k : Int))) → ca E H (mo + 7) (ai E 4096 po2) → ca E H (mo + 8) (ai E 9 ta3) → ca E H (mo + 9) (ai E 9 en) → ∀ ls : Array Slot, lv_has ls 7 [(0, .ref mo), (1, .int (iI (n : Int))), (2, .int (iI ((Y.length : Nat) : Int))), (4, .int (iI (k : Int)))] → W p l e R s m args below meth cd H locs 0 0 Q (F0 m 123 ls []) := by
                      intro N
                      induction N with
                      | zero => intro k q l2 r2 a b d1 d2 po2 ta3 hN; exact absurd hN (by omega)
                      | succ N ih =>
                        intro k q l2 r2 a b d1 d2 po2 ta3 hN hI2 hk hw9 hab hd9 ht3 hp2 hq H locs hS hZ hm hlf hnx hbf hpo hta hen ls hl
                        have ih123 := ih
                        refine lv_iload hx hb d_M_takeSimple_123 (lv_at hl 3 rfl) ?_
                        refine hp_iconst (z := 1) hx hb d_M_takeSimple_125 (by rfl) ?_
                        have hkr := ch_rng hI2
                        refine hp_icmp_eq (tgt := 217) hx hb d_M_takeSimple_126 (by decide) (by unfold iR; omega) (by unfold iR; omega) (fun c126 => ?_) (fun c126 => ?_)
                        · skip
                          have er2 : r2 = [] := ch_h1 hI2 (by omega)
                          subst er2
                          obtain ⟨eb, ed⟩ := ch_w_nil hw9
                          subst eb
                          subst ed
                          rw [List.append_nil] at hab hd9
                          rw [hab] at ht3
                          rw [hd9] at hp2 hq
                          refine hp_iconst (z := 1) hx hb d_M_takeSimple_217 (by rfl) ?_
                          refine lv_istore (lv' := [(4, .int (iI 1)), (0, .ref mo), (1, .int (iI (n : Int))), (2, .int (iI ((Y.length : Nat) : Int)))]) hx hb d_M_takeSimple_218 hl (by decide) rfl (fun ls hl => ?_)
                          have L220 : ∀ (N : Nat) (p9 : Nat) (en1 : Nat → Int), n + 2 - p9 < N → (1 ≤ p9 ∧ p9 ≤ n + 1) → (∀ i : Nat, 1 ≤ i → i < p9 → en1 (gs_tn n ((gs_w A').2 i)) = (i : Int)) → ∀ (H : Heap) (locs : List Loc), va_S (fun q => q = mo ∨ (mo + 4 ≤ q ∧ q ≤ mo + 9)) s.heap H locs → H.size = s.heap.size → ca E H mo (oM mo th ((md2 : Nat) : Int) ((fe2 : Nat) : Int) ((q : Nat) : Int)) → ca E H (mo + 4) (ai E 8192 lf2) → ca E H (mo + 5) (ai E 8192 (fun k => (nx2 k : Int))) → ca E H (mo + 6) (ai E 8192 (fun k => (bf2 k : Int))) → ca E H (mo + 7) (ai E 4096 po2) → ca E H (mo + 8) (ai E 9 ta3) → ca E H (mo + 9) (ai E 9 en1) → ∀ ls : Array Slot, lv_has ls 7 [(0, .ref mo), (1, .int (iI (n : Int))), (2, .int (iI ((Y.length : Nat) : Int))), (4, .int (iI (p9 : Int)))] → W p l e R s m args below meth cd H locs 0 0 Q (F0 m 220 ls []) := by
                            intro N
                            induction N with
                            | zero => intro p9 en1 hN; exact absurd hN (by omega)
                            | succ N ih =>
                              intro p9 en1 hN hp hee H locs hS hZ hm hlf hnx hbf hpo hta hen ls hl
                              have ih220 := ih
                              refine lv_iload hx hb d_M_takeSimple_220 (lv_at hl 3 rfl) ?_
                              refine lv_iload_n hx hb d_M_takeSimple_222 rfl (lv_at hl 1 rfl) ?_
                              refine hp_icmp_gt (tgt := 250) hx hb d_M_takeSimple_223 (by decide) (by unfold iR; omega) (by unfold iR; omega) (fun c223 => ?_) (fun c223 => ?_)
                              · skip
                                rw [hQ]
                                refine hp_vretQ hx hb hrt hlocks d_M_takeSimple_250 hS hZ ?_
                                have ep : p9 = n + 1 := by omega
                                refine ⟨B'.reverse, S, md2, fe2, lf2, nx2, bf2, po2, ta3, en1, hhd, hp2, fun q9 h1 h2 => ?_, by rw [← hq]; exact hm, hlf, hnx, hbf, hpo, hta, hen⟩
                                have h9 := gs_rng (gs_hd_ok hhd).1 h1 h2
                                have h8 := hee (S.1 q9) h9.1 (by omega)
                                rw [hSS, gs_tn_tn] at h8
                                exact h8
                              · skip
                                refine lv_aload_n hx hb d_M_takeSimple_226 rfl (lv_at hl 0 rfl) ?_
                                refine hp_get (C := R_M) (T := F_M) (N := 19) (v := .ref (mo + 9)) hx hb hG la_M hown hK.1 hm rfl 12 (by decide) (hG _ fl_M_34) (fun _ h9 => h9) rfl d_M_takeSimple_227 ?_
                                refine lv_iload_n hx hb d_M_takeSimple_230 rfl (lv_at hl 1 rfl) ?_
                                refine hp_iconst (z := 1) hx hb d_M_takeSimple_231 (by rfl) ?_
                                refine hp_iadd hx hb d_M_takeSimple_232 ?_
                                refine lv_aload_n hx hb d_M_takeSimple_233 rfl (lv_at hl 0 rfl) ?_
                                refine hp_get (C := R_M) (T := F_M) (N := 19) (v := .ref (mo + 8)) hx hb hG la_M hown hK.1 hm rfl 11 (by decide) (hG _ fl_M_31) (fun _ h9 => h9) rfl d_M_takeSimple_234 ?_
                                refine lv_iload hx hb d_M_takeSimple_237 (lv_at hl 3 rfl) ?_
                                refine hp_iald hx hb hK.1 0 hta rfl d_M_takeSimple_239 (by omega) p9 (by omega) (by omega) ?_
                                have h39 := ht3 p9 (by omega) (by omega)
                                have hr9 := gs_inv_rng (gs_w_ok hA') (q := p9) (by omega) (by omega)
                                have hix : n + 1 - ((gs_w A').2 p9) = gs_tn n ((gs_w A').2 p9) := (gs_tn_in hr9.1 hr9.2).symm
                                refine hp_isub hx hb d_M_takeSimple_240 ?_
                                refine lv_iload hx hb d_M_takeSimple_241 (lv_at hl 3 rfl) ?_
                                refine hp_iast hx hb hK.1 0 hen hS (by show _ ∨ _; omega) rfl d_M_takeSimple_243 (by omega) (n + 1 - ((gs_w A').2 p9)) (by omega) (by omega) (fun H locs henn hz1 ho1 hS => ?_)
                                have hZ := hz1.trans hZ
                                have hm := hm.keep (ho1 (mo) (by omega))
                                have hlf := hlf.keep (ho1 (mo + 4) (by omega))
                                have hnx := hnx.keep (ho1 (mo + 5) (by omega))
                                have hbf := hbf.keep (ho1 (mo + 6) (by omega))
                                have hpo := hpo.keep (ho1 (mo + 7) (by omega))
                                have hta := hta.keep (ho1 (mo + 8) (by omega))
                                have hen : ca E H (mo + 9) (ai E 9 (hp_up en1 (n + 1 - ((gs_w A').2 p9)) (p9 : Int))) := henn
                                refine hp_iinc (z := ((p9 : Int) + 1)) (lv' := [(4, .int (iI ((p9 : Int) + 1))), (0, .ref mo), (1, .int (iI (n : Int))), (2, .int (iI ((Y.length : Nat) : Int)))]) hx hb d_M_takeSimple_244 hl (k := 3) rfl (by omega) (by decide) rfl (fun ls hl => ?_)
                                refine lv_goto (tgt := 220) hx hb d_M_takeSimple_247 (by decide) ?_
                                exact ih220  (p9 + 1) (hp_up en1 (n + 1 - ((gs_w A').2 p9)) (p9 : Int)) (by omega) (by omega) (by intro i h1 h2; by_cases e9 : i = p9; (rw [e9, ← hix, hp_up_s]); (rw [hp_up_n _ _ (by rw [hix]; exact fun q9 => gs_ne2 (gs_w_ok hA') e9 (by have h9 := congrArg (gs_tn n) q9; rwa [gs_tn_tn, gs_tn_tn] at h9))]; exact hee i h1 (by omega))) H locs hS hZ hm hlf hnx hbf hpo hta hen ls (lv_sub hl [1, 2, 3, 0] rfl)
                          exact L220 (n + 2 - 1 + 1) 1 en (by omega) (by omega) (by intro i h1 h2; omega) H locs hS hZ hm hlf hnx hbf hpo hta hen ls (lv_sub hl [1, 2, 3, 0] rfl)
                        · skip
                          have hkm : 2 ≤ k ∧ k < md2 := by obtain ⟨r3, er⟩ := ch_cons hk (by omega); exact hI2.2.1.2.1 k (by rw [er]; simp)
                          obtain ⟨r3, er⟩ := ch_cons hk (by omega)
                          subst er
                          have hlk := ch_bnd hw9 (fun x h9 => by rcases List.mem_append.mp h9 with h9 | h9; (exact rz_ng_b hn.2 (fun y hy => hA' y (by rw [← hab]; simp [hy])) x h9); exact rz_ps_b hn.2 (fun y hy => rz_in_r hB' y (by rw [← hd9]; simp [hy])) x h9) k (by simp)
                          refine lv_aload_n hx hb d_M_takeSimple_129 rfl (lv_at hl 0 rfl) ?_
                          refine hp_get (C := R_M) (T := F_M) (N := 19) (v := .ref (mo + 4)) hx hb hG la_M hown hK.1 hm rfl 4 (by decide) (hG _ fl_M_19) (fun _ h9 => h9) rfl d_M_takeSimple_130 ?_
                          refine lv_iload hx hb d_M_takeSimple_133 (lv_at hl 3 rfl) ?_
                          refine hp_iald hx hb hK.1 0 hlf rfl d_M_takeSimple_135 (by omega) k (by omega) (by omega) ?_
                          refine lv_istore (lv' := [(5, .int (iI (lf2 k))), (0, .ref mo), (1, .int (iI (n : Int))), (2, .int (iI ((Y.length : Nat) : Int))), (4, .int (iI (k : Int)))]) hx hb d_M_takeSimple_136 hl (by decide) rfl (fun ls hl => ?_)
                          refine lv_iload hx hb d_M_takeSimple_138 (lv_at hl 0 rfl) ?_
                          refine hp_if_ge (tgt := 184) hx hb d_M_takeSimple_140 (by decide) (by unfold iR; omega) (fun c140 => ?_) (fun c140 => ?_)
                          · skip
                            obtain ⟨eb, j9, d9, ed, hlj, hw8⟩ := ch_pos (n := n) hw9 (fun y hy => hA' y (by rw [← hab]; simp [hy])) (by omega)
                            subst eb
                            subst ed
                            have hj9 := rz_in_r hB' j9 (by rw [← hd9]; simp)
                            have hdl : (d1 ++ j9 :: d9).length = B'.length := by rw [hd9]; simp
                            simp only [List.length_append, List.length_cons] at hdl
                            refine lv_aload_n hx hb d_M_takeSimple_184 rfl (lv_at hl 1 rfl) ?_
                            refine hp_get (C := R_M) (T := F_M) (N := 19) (v := .ref (mo + 7)) hx hb hG la_M hown hK.1 hm rfl 10 (by decide) (hG _ fl_M_28) (fun _ h9 => h9) rfl d_M_takeSimple_185 ?_
                            refine lv_aload_n hx hb d_M_takeSimple_188 rfl (lv_at hl 1 rfl) ?_
                            refine hp_get (C := R_M) (T := F_M) (N := 19) (v := .int (iI (q : Int))) hx hb hG la_M hown hK.1 hm rfl 9 (by decide) (hG _ fl_M_105) (fun _ h9 => h9) rfl d_M_takeSimple_189 ?_
                            refine lv_iload hx hb d_M_takeSimple_192 (lv_at hl 0 rfl) ?_
                            refine hp_iast hx hb hK.1 0 hpo hS (by show _ ∨ _; omega) rfl d_M_takeSimple_194 (by omega) q (by omega) (by omega) (fun H locs hpon hz1 ho1 hS => ?_)
                            have hZ := hz1.trans hZ
                            have hm := hm.keep (ho1 (mo) (by omega))
                            have hlf := hlf.keep (ho1 (mo + 4) (by omega))
                            have hnx := hnx.keep (ho1 (mo + 5) (by omega))
                            have hbf := hbf.keep (ho1 (mo + 6) (by omega))
                            have hta := hta.keep (ho1 (mo + 8) (by omega))
                            have hen := hen.keep (ho1 (mo + 9) (by omega))
                            have hpo : ca E H (mo + 7) (ai E 4096 (hp_up po2 q (lf2 k))) := hpon
                            rw [hlj] at hpo
                            refine lv_aload_n hx hb d_M_takeSimple_195 rfl (lv_at hl 1 rfl) ?_
                            refine lv_dup hx hb d_M_takeSimple_196 rfl ?_
                            refine hp_get (C := R_M) (T := F_M) (N := 19) (v := .int (iI (q : Int))) hx hb hG la_M hown hK.1 hm rfl 9 (by decide) (hG _ fl_M_105) (fun _ h9 => h9) rfl d_M_takeSimple_197 ?_
                            refine hp_iconst (z := 1) hx hb d_M_takeSimple_200 (by rfl) ?_
                            refine hp_iadd hx hb d_M_takeSimple_201 ?_
                            refine hp_put (C := R_M) (T := F_M) (N := 19) (v := .int (iI ((q : Int) + 1))) (ty := .int) hx hb hG la_M t_M tk_M n_M hown hK.1 hm hS (by show _ ∨ _; omega) rfl 9 (by decide) (hG _ fl_M_105) (fun _ h9 => h9) rfl (by decide +kernel) rfl rfl (Nat.le_of_ble_eq_true rfl) d_M_takeSimple_202 (fun H locs hmn hz1 ho1 hS => ?_)
                            have hZ := hz1.trans hZ
                            have hlf := hlf.keep (ho1 (mo + 4) (by omega))
                            have hnx := hnx.keep (ho1 (mo + 5) (by omega))
                            have hbf := hbf.keep (ho1 (mo + 6) (by omega))
                            have hpo := hpo.keep (ho1 (mo + 7) (by omega))
                            have hta := hta.keep (ho1 (mo + 8) (by omega))
                            have hen := hen.keep (ho1 (mo + 9) (by omega))
                            have hm : ca E H (mo) (.inr (3, [.int (iI th), .ref (mo + 1), .ref (mo + 2), .ref (mo + 3), .ref (mo + 4), .ref (mo + 5), .ref (mo + 6), .int (iI (md2 : Int)), .int (iI (fe2 : Int)), .int (iI ((q : Int) + 1)), .ref (mo + 7), .ref (mo + 8), .ref (mo + 9), .ref (mo + 10), .ref (mo + 11), .ref (mo + 12), .ref (mo + 13), .ref (mo + 14), .ref (mo + 15)])) := hmn
                            have hI3 := ch_sh.mp hI2
                            have enk : nx2 k = ch_h r3 1 := hI3.1.2.1
                            refine lv_aload_n hx hb d_M_takeSimple_205 rfl (lv_at hl 1 rfl) ?_
                            refine hp_get (C := R_M) (T := F_M) (N := 19) (v := .ref (mo + 5)) hx hb hG la_M hown hK.1 hm rfl 5 (by decide) (hG _ fl_M_22) (fun _ h9 => h9) rfl d_M_takeSimple_206 ?_
                            refine lv_iload hx hb d_M_takeSimple_209 (lv_at hl 4 rfl) ?_
                            refine hp_iald hx hb hK.1 0 hnx rfl d_M_takeSimple_211 (by omega) k (by omega) (by omega) ?_
                            refine lv_istore (lv' := [(4, .int (iI ((nx2 k : Nat) : Int))), (5, .int (iI (lf2 k))), (0, .ref mo), (1, .int (iI (n : Int))), (2, .int (iI ((Y.length : Nat) : Int)))]) hx hb d_M_takeSimple_212 hl (by decide) rfl (fun ls hl => ?_)
                            refine lv_goto (tgt := 123) hx hb d_M_takeSimple_214 (by decide) ?_
                            exact ih123  (nx2 k) (q + 1) (k :: l2) r3 a ([]) (d1 ++ [j9]) d9 (hp_up po2 q (j9 : Int)) ta3 (by simp only [List.length_cons] at hN; omega) (by exact hI3) (by exact enk) (by exact hw8) (by first | exact hab | (rw [← hab]; simp)) (by first | exact hd9 | (rw [← hd9]; simp)) (by first | exact ht3 | (intro i h1 h2; have h9 := gs_sw_rng hi9.1 hi9.2 h1 h2; have h8 := ht3 _ h9.1 h9.2; rw [gs_w_sn]; exact (bn_sw ta3 i9 i).trans h8)) (by first | exact hp2 | exact po_h_s hp2 hq) (by first | exact hq | (rw [hq]; simp)) H locs hS hZ hm hlf hnx hbf hpo hta hen ls (lv_sub hl [2, 3, 4, 0] rfl)
                          · skip
                            obtain ⟨i9, b9, eb, hli, hw8⟩ := ch_neg hw9 (by omega)
                            subst eb
                            have hi9 := hA' i9 (by rw [← hab]; simp)
                            refine lv_aload_n hx hb d_M_takeSimple_143 rfl (lv_at hl 1 rfl) ?_
                            refine hp_get (C := R_M) (T := F_M) (N := 19) (v := .ref (mo + 8)) hx hb hG la_M hown hK.1 hm rfl 11 (by decide) (hG _ fl_M_31) (fun _ h9 => h9) rfl d_M_takeSimple_144 ?_
                            refine lv_iload hx hb d_M_takeSimple_147 (lv_at hl 0 rfl) ?_
                            refine hp_ineg hx hb d_M_takeSimple_149 ?_
                            refine hp_iald hx hb hK.1 0 hta rfl d_M_takeSimple_150 (by omega) i9 (by omega) (by omega) ?_
                            refine lv_istore (lv' := [(6, .int (iI (ta3 i9))), (5, .int (iI (lf2 k))), (0, .ref mo), (1, .int (iI (n : Int))), (2, .int (iI ((Y.length : Nat) : Int))), (4, .int (iI (k : Int)))]) hx hb d_M_takeSimple_151 hl (by decide) rfl (fun ls hl => ?_)
                            refine lv_aload_n hx hb d_M_takeSimple_153 rfl (lv_at hl 2 rfl) ?_
                            refine hp_get (C := R_M) (T := F_M) (N := 19) (v := .ref (mo + 8)) hx hb hG la_M hown hK.1 hm rfl 11 (by decide) (hG _ fl_M_31) (fun _ h9 => h9) rfl d_M_takeSimple_154 ?_
                            refine lv_iload hx hb d_M_takeSimple_157 (lv_at hl 1 rfl) ?_
                            refine hp_ineg hx hb d_M_takeSimple_159 ?_
                            refine lv_aload_n hx hb d_M_takeSimple_160 rfl (lv_at hl 2 rfl) ?_
                            refine hp_get (C := R_M) (T := F_M) (N := 19) (v := .ref (mo + 8)) hx hb hG la_M hown hK.1 hm rfl 11 (by decide) (hG _ fl_M_31) (fun _ h9 => h9) rfl d_M_takeSimple_161 ?_
                            refine hp_iconst (z := 1) hx hb d_M_takeSimple_164 (by rfl) ?_
                            refine lv_iload hx hb d_M_takeSimple_165 (lv_at hl 1 rfl) ?_
                            refine hp_isub hx hb d_M_takeSimple_167 ?_
                            refine hp_iald hx hb hK.1 0 hta rfl d_M_takeSimple_168 (by omega) (i9 + 1) (by omega) (by omega) ?_
                            refine hp_iast hx hb hK.1 0 hta hS (by show _ ∨ _; omega) rfl d_M_takeSimple_169 (by omega) i9 (by omega) (by omega) (fun H locs htan hz1 ho1 hS => ?_)
                            have hZ := hz1.trans hZ
                            have hm := hm.keep (ho1 (mo) (by omega))
                            have hlf := hlf.keep (ho1 (mo + 4) (by omega))
                            have hnx := hnx.keep (ho1 (mo + 5) (by omega))
                            have hbf := hbf.keep (ho1 (mo + 6) (by omega))
                            have hpo := hpo.keep (ho1 (mo + 7) (by omega))
                            have hen := hen.keep (ho1 (mo + 9) (by omega))
                            have hta : ca E H (mo + 8) (ai E 9 (hp_up ta3 i9 (ta3 (i9 + 1)))) := htan
                            refine lv_aload_n hx hb d_M_takeSimple_170 rfl (lv_at hl 2 rfl) ?_
                            refine hp_get (C := R_M) (T := F_M) (N := 19) (v := .ref (mo + 8)) hx hb hG la_M hown hK.1 hm rfl 11 (by decide) (hG _ fl_M_31) (fun _ h9 => h9) rfl d_M_takeSimple_171 ?_
                            refine hp_iconst (z := 1) hx hb d_M_takeSimple_174 (by rfl) ?_
                            refine lv_iload hx hb d_M_takeSimple_175 (lv_at hl 1 rfl) ?_
                            refine hp_isub hx hb d_M_takeSimple_177 ?_
                            refine lv_iload hx hb d_M_takeSimple_178 (lv_at hl 0 rfl) ?_
                            refine hp_iast hx hb hK.1 0 hta hS (by show _ ∨ _; omega) rfl d_M_takeSimple_180 (by omega) (i9 + 1) (by omega) (by omega) (fun H locs htan hz1 ho1 hS => ?_)
                            have hZ := hz1.trans hZ
                            have hm := hm.keep (ho1 (mo) (by omega))
                            have hlf := hlf.keep (ho1 (mo + 4) (by omega))
                            have hnx := hnx.keep (ho1 (mo + 5) (by omega))
                            have hbf := hbf.keep (ho1 (mo + 6) (by omega))
                            have hpo := hpo.keep (ho1 (mo + 7) (by omega))
                            have hen := hen.keep (ho1 (mo + 9) (by omega))
                            have hta : ca E H (mo + 8) (ai E 9 (hp_up (hp_up ta3 i9 (ta3 (i9 + 1))) (i9 + 1) (ta3 i9))) := htan
                            refine lv_goto (tgt := 205) hx hb d_M_takeSimple_181 (by decide) ?_
                            have hI3 := ch_sh.mp hI2
                            have enk : nx2 k = ch_h r3 1 := hI3.1.2.1
                            refine lv_aload_n hx hb d_M_takeSimple_205 rfl (lv_at hl 2 rfl) ?_
                            refine hp_get (C := R_M) (T := F_M) (N := 19) (v := .ref (mo + 5)) hx hb hG la_M hown hK.1 hm rfl 5 (by decide) (hG _ fl_M_22) (fun _ h9 => h9) rfl d_M_takeSimple_206 ?_
                            refine lv_iload hx hb d_M_takeSimple_209 (lv_at hl 5 rfl) ?_
                            refine hp_iald hx hb hK.1 0 hnx rfl d_M_takeSimple_211 (by omega) k (by omega) (by omega) ?_
                            refine lv_istore (lv' := [(4, .int (iI ((nx2 k : Nat) : Int))), (6, .int (iI (ta3 i9))), (5, .int (iI (lf2 k))), (0, .ref mo), (1, .int (iI (n : Int))), (2, .int (iI ((Y.length : Nat) : Int)))]) hx hb d_M_takeSimple_212 hl (by decide) rfl (fun ls hl => ?_)
                            refine lv_goto (tgt := 123) hx hb d_M_takeSimple_214 (by decide) ?_
                            exact ih123  (nx2 k) q (k :: l2) r3 (a ++ [i9]) b9 d1 d2 po2 (hp_up (hp_up ta3 i9 (ta3 (i9 + 1))) (i9 + 1) (ta3 i9)) (by simp only [List.length_cons] at hN; omega) (by exact hI3) (by exact enk) (by exact hw8) (by first | exact hab | (rw [← hab]; simp)) (by first | exact hd9 | (rw [← hd9]; simp)) (by first | exact ht3 | (intro i h1 h2; have h9 := gs_sw_rng hi9.1 hi9.2 h1 h2; have h8 := ht3 _ h9.1 h9.2; rw [gs_w_sn]; exact (bn_sw ta3 i9 i).trans h8)) (by first | exact hp2 | exact po_h_s hp2 hq) (by first | exact hq | (rw [hq]; simp)) H locs hS hZ hm hlf hnx hbf hpo hta hen ls (lv_sub hl [3, 4, 5, 0] rfl)
                    exact L123 (rr2.length + 1) (nx2 0) 0 ([]) rr2 ([]) A' ([]) B'.reverse po1 ta2 (by omega) (by exact hI) (by exact hI.1.2.1) (by exact hw4) (by rfl) (by rfl) (by intro i h1 h2; rw [htt i h1 (by omega)]; rfl) (by exact po_h_0 _) (by rfl) H locs hS hZ hm hlf hnx hbf hpo hta hen ls (lv_sub hl [1, 2, 3, 0] rfl)
                  · skip
                    refine lv_aload_n hx hb d_M_takeSimple_95 rfl (lv_at hl 0 rfl) ?_
                    refine hp_get (C := R_M) (T := F_M) (N := 19) (v := .ref (mo + 8)) hx hb hG la_M hown hK.1 hm rfl 11 (by decide) (hG _ fl_M_31) (fun _ h9 => h9) rfl d_M_takeSimple_96 ?_
                    refine lv_iload hx hb d_M_takeSimple_99 (lv_at hl 3 rfl) ?_
                    refine lv_iload hx hb d_M_takeSimple_101 (lv_at hl 3 rfl) ?_
                    refine hp_iast hx hb hK.1 0 hta hS (by show _ ∨ _; omega) rfl d_M_takeSimple_103 (by omega) p9 (by omega) (by omega) (fun H locs htan hz1 ho1 hS => ?_)
                    have hZ := hz1.trans hZ
                    have hm := hm.keep (ho1 (mo) (by omega))
                    have hlf := hlf.keep (ho1 (mo + 4) (by omega))
                    have hnx := hnx.keep (ho1 (mo + 5) (by omega))
                    have hbf := hbf.keep (ho1 (mo + 6) (by omega))
                    have hpo := hpo.keep (ho1 (mo + 7) (by omega))
                    have hen := hen.keep (ho1 (mo + 9) (by omega))
                    have hta : ca E H (mo + 8) (ai E 9 (hp_up ta2 p9 (p9 : Int))) := htan
                    refine hp_iinc (z := ((p9 : Int) + 1)) (lv' := [(4, .int (iI ((p9 : Int) + 1))), (0, .ref mo), (1, .int (iI (n : Int))), (2, .int (iI ((Y.length : Nat) : Int)))]) hx hb d_M_takeSimple_104 hl (k := 3) rfl (by omega) (by decide) rfl (fun ls hl => ?_)
                    refine lv_goto (tgt := 89) hx hb d_M_takeSimple_107 (by decide) ?_
                    exact ih89  (p9 + 1) (hp_up ta2 p9 (p9 : Int)) (by omega) (by omega) (by intro i h1 h2; by_cases e9 : i = p9; (rw [e9, hp_up_s]); (rw [hp_up_n _ _ e9]; exact htt i h1 (by omega))) H locs hS hZ hm hlf hnx hbf hpo hta hen ls (lv_sub hl [1, 2, 3, 0] rfl)
              exact L89 (n + 2 - 1 + 1) 1 ta1 (by omega) (by omega) (by intro i h1 h2; omega) H locs hS hZ hm hlf hnx hbf hpo hta hen ls (lv_sub hl [1, 2, 3, 0] rfl)
            · skip
              refine lv_aload_n hx hb d_M_takeSimple_59 rfl (lv_at hl 0 rfl) ?_
              refine lv_iload_n hx hb d_M_takeSimple_60 rfl (lv_at hl 3 rfl) ?_
              refine lv_aload_n hx hb d_M_takeSimple_61 rfl (lv_at hl 0 rfl) ?_
              refine hp_get (C := R_M) (T := F_M) (N := 19) (v := .ref (mo + 7)) hx hb hG la_M hown hK.1 hm rfl 10 (by decide) (hG _ fl_M_28) (fun _ h9 => h9) rfl d_M_takeSimple_62 ?_
              refine lv_iload hx hb d_M_takeSimple_65 (lv_at hl 4 rfl) ?_
              refine hp_iald hx hb hK.1 0 hpo rfl d_M_takeSimple_67 (by omega) k (by omega) (by omega) ?_
              refine hp_calli (W.runV (As := [.int (iI ((ch_h ll 0 : Nat) : Int)), .int (iI (po1 k))]) (rest := []) ⟨hx, hb, hml, hown, hG⟩ (c_M_insert l E mo th (((Y ++ T).length : Nat) : Int) md fe lf nx bf ll [] ff (po1 k) hI (by omega) (by simp only [List.length_nil]; omega)) (cwV 2 hG (hp_goodV ml_M_98 im_M_insert se_M_insert in_M co_M_insert) rfl rfl rfl hd_M_insert ⟨by rw [hRf]; exact Nat.le_of_ble_eq_true rfl, by rw [hRl]; exact Nat.le_of_ble_eq_true rfl⟩) (hp_preV (ci := 3) hp_nsn hK rfl hm ⟨hm, hlf, hnx, hbf⟩) rfl rfl hl.1 rfl (lv_room (Nat.le_of_ble_eq_true rfl)) d_M_takeSimple_68 ⟨by rw [hRc]; exact Nat.le_of_ble_eq_true rfl, by rw [hRs]; exact Nat.le_of_ble_eq_true rfl⟩) hS (fun q h => by have h : q = mo ∨ q = mo + 4 ∨ q = mo + 5 ∨ q = mo + 6 := h; show _ ∨ _; omega) (fun r1 H locs hpost hz1 ho1 hS => ?_)
              have hZ := hz1.trans hZ
              obtain ⟨ka, mda, fea, lfa, nxa, bfa, ffa, rfl, hka, hmx, hv1, hv2, ⟨hm, hlf, hnx, hbf⟩, hI⟩ := hpost
              have hpo := hpo.keep (ho1 (mo + 7) (by omega))
              have hta := hta.keep (ho1 (mo + 8) (by omega))
              have hen := hen.keep (ho1 (mo + 9) (by omega))
              have hmp := ch_mp false hI hv1 hv2
              have hl1 : lfa 1 = 0 := by rw [hv2 1 (by omega)]; exact hl1
              refine lv_istore_n (lv' := [(3, .int (iI (ka : Int))), (0, .ref mo), (1, .int (iI (n : Int))), (2, .int (iI ((Y.length : Nat) : Int))), (4, .int (iI (k : Int)))]) hx hb d_M_takeSimple_71 rfl hl (by decide) rfl (fun ls hl => ?_)
              refine hp_iinc (z := ((k : Int) + 1)) (lv' := [(4, .int (iI ((k : Int) + 1))), (3, .int (iI (ka : Int))), (0, .ref mo), (1, .int (iI (n : Int))), (2, .int (iI ((Y.length : Nat) : Int)))]) hx hb d_M_takeSimple_72 hl (k := 4) rfl (by omega) (by decide) rfl (fun ls hl => ?_)
              refine lv_goto (tgt := 53) hx hb d_M_takeSimple_75 (by decide) ?_
              exact ih53  (k + 1) (ka :: ll) ffa mda fea lfa nxa bfa (by omega) (by omega) (by simp only [List.length_cons]; omega) (by rw [hmp.1, hlt, rz_tk (by omega), po_h_pre hpp k (by omega)]; rfl) (by exact hI) (by omega) (by exact hl1) H locs hS hZ hm hlf hnx hbf hpo hta hen ls (lv_sub hl [2, 3, 4, 1, 0] rfl)
        exact L53 (Y.length - 0 + 1) 0 ll ff md fe lf nx bf (by omega) (by omega) (by rw [List.length_append] at hln; omega) (by rw [hlt, show k1 = Y.length by omega]; simp [rz_ps]) (by exact hI) (by omega) (by exact hl1) H locs hS hZ hm hlf hnx hbf hpo hta hen ls (lv_sub hl [1, 2, 3, 4, 0] rfl)
      · skip
        obtain ⟨y9, hy9, ey9⟩ := po_h_mem hpp (i := k1 - 1) (by omega)
        refine lv_aload_n hx hb d_M_takeSimple_30 rfl (lv_at hl 0 rfl) ?_
        refine lv_iload_n hx hb d_M_takeSimple_31 rfl (lv_at hl 3 rfl) ?_
        refine lv_aload_n hx hb d_M_takeSimple_32 rfl (lv_at hl 0 rfl) ?_
        refine hp_get (C := R_M) (T := F_M) (N := 19) (v := .ref (mo + 7)) hx hb hG la_M hown hK.1 hm rfl 10 (by decide) (hG _ fl_M_28) (fun _ h9 => h9) rfl d_M_takeSimple_33 ?_
        refine lv_iload hx hb d_M_takeSimple_36 (lv_at hl 4 rfl) ?_
        refine hp_iald hx hb hK.1 0 hpo rfl d_M_takeSimple_38 (by omega) (k1 - 1) (by omega) (by omega) ?_
        refine hp_ineg hx hb d_M_takeSimple_39 ?_
        refine hp_calli (W.runV (As := [.int (iI ((ch_h ll 0 : Nat) : Int)), .int (iI (-(po1 (k1 - 1))))]) (rest := []) ⟨hx, hb, hml, hown, hG⟩ (c_M_insert l E mo th (((Y ++ T).length : Nat) : Int) md fe lf nx bf ll [] ff (-(po1 (k1 - 1))) hI (by omega) (by simp only [List.length_nil]; omega)) (cwV 2 hG (hp_goodV ml_M_98 im_M_insert se_M_insert in_M co_M_insert) rfl rfl rfl hd_M_insert ⟨by rw [hRf]; exact Nat.le_of_ble_eq_true rfl, by rw [hRl]; exact Nat.le_of_ble_eq_true rfl⟩) (hp_preV (ci := 3) hp_nsn hK rfl hm ⟨hm, hlf, hnx, hbf⟩) rfl rfl hl.1 rfl (lv_room (Nat.le_of_ble_eq_true rfl)) d_M_takeSimple_40 ⟨by rw [hRc]; exact Nat.le_of_ble_eq_true rfl, by rw [hRs]; exact Nat.le_of_ble_eq_true rfl⟩) hS (fun q h => by have h : q = mo ∨ q = mo + 4 ∨ q = mo + 5 ∨ q = mo + 6 := h; show _ ∨ _; omega) (fun r2 H locs hpost hz1 ho1 hS => ?_)
        have hZ := hz1.trans hZ
        obtain ⟨ka, mda, fea, lfa, nxa, bfa, ffa, rfl, hka, hmx, hv1, hv2, ⟨hm, hlf, hnx, hbf⟩, hI⟩ := hpost
        have hpo := hpo.keep (ho1 (mo + 7) (by omega))
        have hta := hta.keep (ho1 (mo + 8) (by omega))
        have hen := hen.keep (ho1 (mo + 9) (by omega))
        have hmp := ch_mp false hI hv1 hv2
        have hl1 : lfa 1 = 0 := by rw [hv2 1 (by omega)]; exact hl1
        refine lv_istore_n (lv' := [(3, .int (iI (ka : Int))), (0, .ref mo), (1, .int (iI (n : Int))), (2, .int (iI ((Y.length : Nat) : Int))), (4, .int (iI (((k1 : Nat) : Int) - 1)))]) hx hb d_M_takeSimple_43 rfl hl (by decide) rfl (fun ls hl => ?_)
        refine hp_iinc (z := ((((k1 : Nat) : Int) - 1) - 1)) (lv' := [(4, .int (iI ((((k1 : Nat) : Int) - 1) - 1))), (3, .int (iI (ka : Int))), (0, .ref mo), (1, .int (iI (n : Int))), (2, .int (iI ((Y.length : Nat) : Int)))]) hx hb d_M_takeSimple_44 hl (k := 4) rfl (by omega) (by decide) rfl (fun ls hl => ?_)
        refine lv_goto (tgt := 24) hx hb d_M_takeSimple_47 (by decide) ?_
        rw [show (((((k1 : Nat) : Int) - 1) - 1) : Int) = ((((k1 - 1) : Nat) : Int) - 1) from by omega] at hl
        exact ih24  (k1 - 1) (ka :: ll) ffa mda fea lfa nxa bfa (by omega) (by omega) (by simp only [List.length_cons]; omega) (by rw [hmp.1, hlt, rz_dr (by omega) (by omega), hpp (k1 - 1) (by omega)]; rfl) (by exact hI) (by omega) (by exact hl1) H locs hS hZ hm hlf hnx hbf hpo hta hen ls (lv_sub hl [2, 3, 4, 1, 0] rfl)
  rw [show (((((Y ++ T).length : Nat) : Int) - 1) : Int) = (((((Y ++ T).length) : Nat) : Int) - 1) from by omega] at hl
  exact L24 (((Y ++ T).length) + 1) ((Y ++ T).length) ([]) ([]) 2 0 lf1 (hp_up nx 0 1) (hp_up bf 1 0) (by omega) (by rw [List.length_append]; omega) (by simp) (by rw [List.drop_length]; rfl) (by exact hI) (by omega) (by exact hl1) H locs hS hZ hm hlf hnx hbf hpo hta hen ls (lv_sub hl [3, 4, 2, 1, 0] rfl)
