theorem hp_sld {p : Program} {l : Launch} {e : Env} {R : Room} {s : State} {m : MethodId} {args : Array Value} {below : List Frame} {meth : Method} {c : Code} {H : Heap} {locs : List Loc} {cells slots : Nat} {Q : State → Prop} {cc : ByteArray} {pc : Nat} {ls : Array Slot} {rest : List Value} {A : Nat → Prop} {H0 : Heap} (hexec : p.tables.exec = Jvm.exec) (hb : c.code = cc) {b L : Nat} {xs : Nat → Int32} (hX : va_X b L xs s H0) (hbl : b < H0.size) (hbA : ¬ A b) (hS : va_S A H0 H locs) (hL : L < 2147483648) {z : Int} (k : Nat) (hz : z = (k : Int)) (hk : k < L) (hdg : decode cc pc = .ok (.iaload, 1))
    (kk : W p l e R s m args below meth c H locs cells slots Q (F0 m (pc + 1) ls (.int (iI (xs k).toInt) :: rest))) : W p l e R s m args below meth c H locs cells slots Q (F0 m pc ls (.int (iI z) :: .ref b :: rest)) := by
  refine va_sld hexec hb hX hbl hbA hS (iI_in hz hk hL) hdg ?_
  rw [iI_cl hz (by omega)]
  rw [iI_of] at kk
  exact kk
/-- between two calls -/
def lwI (E : hp_E) (H : Heap) (o : Nat) : Prop := lwS E H o ∧ (∃ la : Nat → Int, ca E H (o + 159 + 14) (ai E 9 la)) ∧ ∃ co : Nat → Int, ca E H (o + 159 + 15) (ai E 160 co)

set_option maxHeartbeats 4000000 in
set_option maxRecDepth 100000 in
theorem lw_case_0 {p : Program} {l : Launch} {e : Env} {s : State} {m : MethodId} {below : List Frame} {meth : Method} {cd : Code} {b L : Nat} {xs : Nat → Int32} {E : hp_E} {o i : Nat} (hL : L ≤ 2048) (C0 : lw_At p s m meth cd b L xs) (hK : hp_K E s) (ho : s.heap.size ≤ o) (hi : i + 4 ≤ L) (kk : ∀ (H : Heap) (locs : List Loc), lwI E H o → va_S (fun q : Nat => s.heap.size ≤ q) s.heap H locs → ∀ ls : Array Slot, lv_has ls 4 [(0, .ref b), (1, .ref o), (2, .ref (o + 159)), (3, .int (iI (i : Int)))] → W p l e room_1 s m #[Value.ref b] below meth cd H locs 175 32960 (lw_Z below #[Value.ref b] s) (F0 m 698 ls [])) : ∀ (H : Heap) (locs : List Loc), lwI E H o → va_S (fun q : Nat => s.heap.size ≤ q) s.heap H locs → ∀ ls : Array Slot, lv_has ls 4 [(0, .ref b), (1, .ref o), (2, .ref (o + 159)), (3, .int (iI (i : Int)))] → W p l e room_1 s m #[Value.ref b] below meth cd H locs 175 32960 (lw_Z below #[Value.ref b] s) (F0 m 112 ls []) := by
  obtain ⟨hx, hb, hr, hml, hown, hts, hX, hbl, hlocks, hgv⟩ := id C0
  have hown : s.vm.findClass R_L = some m.cls := hown
  have hG : ∀ w ∈ G0, w.before #[Value.ref b] s = true := fun w h => hts w (List.mem_filter.mp h).1
  have hbA : ¬ (fun q : Nat => s.heap.size ≤ q) b := Nat.not_le.mpr hbl
  intro H locs hI hS ls hl
  obtain ⟨⟨w, c, f, g, kz, hB, hM, hbd, hag⟩, ⟨la, hla⟩, ⟨co, hco⟩⟩ := hI
  have hv : ∀ i, i < 4 → 1 ≤ w i ∧ w i ≤ 8 ∧ c i ≤ 32 := fun i hi => ⟨(hB.2.2.2.1 i hi).2.1, (hB.2.2.2.1 i hi).2.2.1, (hB.2.2.2.1 i hi).2.2.2.1⟩
  have hok : ∀ i, i < 4 → okw (w i) (c i) (f i) := fun i hi => (hB.2.2.2.1 i hi).2.2.2.2.2
  have hokg : ∀ i, i < 4 → okw (w i) (c i) (gw g i) := fun i hi => okw_congr (hok i hi) (hag i hi)
  refine lv_aload_n hx hb d_L_law_112 rfl (lv_at hl 1 rfl) ?_
  refine lv_aload_n hx hb d_L_law_113 rfl (lv_at hl 0 rfl) ?_
  refine lv_iload_n hx hb d_L_law_114 rfl (lv_at hl 3 rfl) ?_
  refine hp_iconst (z := 1) hx hb d_L_law_115 (by rfl) ?_
  refine hp_iadd hx hb d_L_law_116 ?_
  refine hp_sld hx hb hX hbl hbA hS (by omega) (i + 1) (by omega) (by omega) d_L_law_117 ?_
  refine lv_aload_n hx hb d_L_law_118 rfl (lv_at hl 0 rfl) ?_
  refine lv_iload_n hx hb d_L_law_119 rfl (lv_at hl 3 rfl) ?_
  refine hp_iconst (z := 2) hx hb d_L_law_120 (by rfl) ?_
  refine hp_iadd hx hb d_L_law_121 ?_
  refine hp_sld hx hb hX hbl hbA hS (by omega) (i + 2) (by omega) (by omega) d_L_law_122 ?_
  refine hp_calli (W.runV (As := [.int (iI (xs (i + 1)).toInt), .int (iI (xs (i + 2)).toInt)]) (rest := []) ⟨hx, hb, hml, hown, hG⟩ (c_B_strands l E o w c f (xs (i + 1)).toInt (xs (i + 2)).toInt (iR_of _) (iR_of _)) (cwV 2 hG (hp_goodV ml_L_13 im_B_strands se_B_strands in_B co_B_strands) rfl rfl rfl hd_B_strands ⟨Nat.le_of_ble_eq_true rfl, Nat.le_of_ble_eq_true rfl⟩) (hp_preV (ci := 2) hp_nsn hK rfl hB.1 hB) rfl rfl hl.1 rfl (lv_room (Nat.le_of_ble_eq_true rfl)) d_L_law_123 ⟨Nat.le_of_ble_eq_true rfl, Nat.le_of_ble_eq_true rfl⟩) hS (fun q h9 => show s.heap.size ≤ q by have h9 : o ≤ q ∧ q ≤ o + 158 := h9; omega) (fun r1 H locs hpB hzB hoB hS => ?_)
  have hM := mG_keep hM (fun q h1 h2 => hoB q (fun h9 => by have h9 : o ≤ q ∧ q ≤ o + 158 := h9; omega))
  have hla := hla.keep (hoB (o + 159 + 14) (fun h9 => by have h9 : o ≤ (o + 159 + 14) ∧ (o + 159 + 14) ≤ o + 158 := h9; omega))
  have hco := hco.keep (hoB (o + 159 + 15) (fun h9 => by have h9 : o ≤ (o + 159 + 15) ∧ (o + 159 + 15) ≤ o + 158 := h9; omega))
  refine lv_aload_n hx hb d_L_law_126 rfl (lv_at hl 2 rfl) ?_
  refine lv_aload_n hx hb d_L_law_127 rfl (lv_at hl 0 rfl) ?_
  refine lv_iload_n hx hb d_L_law_128 rfl (lv_at hl 3 rfl) ?_
  refine hp_iconst (z := 1) hx hb d_L_law_129 (by rfl) ?_
  refine hp_iadd hx hb d_L_law_130 ?_
  refine hp_sld hx hb hX hbl hbA hS (by omega) (i + 1) (by omega) (by omega) d_L_law_131 ?_
  refine lv_aload_n hx hb d_L_law_132 rfl (lv_at hl 0 rfl) ?_
  refine lv_iload_n hx hb d_L_law_133 rfl (lv_at hl 3 rfl) ?_
  refine hp_iconst (z := 2) hx hb d_L_law_134 (by rfl) ?_
  refine hp_iadd hx hb d_L_law_135 ?_
  refine hp_sld hx hb hX hbl hbA hS (by omega) (i + 2) (by omega) (by omega) d_L_law_136 ?_
  obtain ⟨th, md, fe, ps, lf, nx, bf, po, ta, en, tu, si, sm, hA, hks⟩ := id hM
  refine hp_calli (W.runV (As := [.int (iI (xs (i + 1)).toInt), .int (iI (xs (i + 2)).toInt)]) (rest := [.int (iI r1)]) ⟨hx, hb, hml, hown, hG⟩ (c_M_strands l E (o + 159) th (md : Int) (fe : Int) ps w c g kz (xs (i + 1)).toInt (xs (i + 2)).toInt (iR_of _) (iR_of _)) (cwV 2 hG (hp_goodV ml_L_17 im_M_strands se_M_strands in_M co_M_strands) rfl rfl rfl hd_M_strands ⟨Nat.le_of_ble_eq_true rfl, Nat.le_of_ble_eq_true rfl⟩) (hp_preV (ci := 3) hp_nsn hK rfl hA.1.1 hA.1) rfl rfl hl.1 rfl (lv_room (Nat.le_of_ble_eq_true rfl)) d_L_law_137 ⟨Nat.le_of_ble_eq_true rfl, Nat.le_of_ble_eq_true rfl⟩) hS (fun q h9 => show s.heap.size ≤ q by have h9 : q = o + 159 ∨ q = o + 159 + 1 ∨ q = o + 159 + 2 ∨ q = o + 159 + 3 ∨ q = o + 159 + 10 := h9; omega) (fun r2 H locs hpM hzM hoM hS => ?_)
  have hla := hla.keep (hoM (o + 159 + 14) (fun h9 => by have h9 : (o + 159 + 14) = o + 159 ∨ (o + 159 + 14) = o + 159 + 1 ∨ (o + 159 + 14) = o + 159 + 2 ∨ (o + 159 + 14) = o + 159 + 3 ∨ (o + 159 + 14) = o + 159 + 10 := h9; omega))
  have hco := hco.keep (hoM (o + 159 + 15) (fun h9 => by have h9 : (o + 159 + 15) = o + 159 ∨ (o + 159 + 15) = o + 159 + 1 ∨ (o + 159 + 15) = o + 159 + 2 ∨ (o + 159 + 15) = o + 159 + 3 ∨ (o + 159 + 15) = o + 159 + 10 := h9; omega))
  obtain ⟨heq, hLS⟩ := lx_strands hv hA hks hbd hag hoM hpB hpM
  refine lv_icmp_eq (tgt := 698) hx hb d_L_law_140 (by decide) (fun _ => kk H locs ⟨hLS, ⟨_, hla⟩, ⟨_, hco⟩⟩ hS ls hl) (fun c9 => absurd (congrArg iI heq) c9)

set_option maxHeartbeats 4000000 in
set_option maxRecDepth 100000 in
theorem lw_case_1 {p : Program} {l : Launch} {e : Env} {s : State} {m : MethodId} {below : List Frame} {meth : Method} {cd : Code} {b L : Nat} {xs : Nat → Int32} {E : hp_E} {o i : Nat} (hL : L ≤ 2048) (C0 : lw_At p s m meth cd b L xs) (hK : hp_K E s) (ho : s.heap.size ≤ o) (hi : i + 4 ≤ L) (kk : ∀ (H : Heap) (locs : List Loc), lwI E H o → va_S (fun q : Nat => s.heap.size ≤ q) s.heap H locs → ∀ ls : Array Slot, lv_has ls 4 [(0, .ref b), (1, .ref o), (2, .ref (o + 159)), (3, .int (iI (i : Int)))] → W p l e room_1 s m #[Value.ref b] below meth cd H locs 175 32960 (lw_Z below #[Value.ref b] s) (F0 m 698 ls [])) : ∀ (H : Heap) (locs : List Loc), lwI E H o → va_S (fun q : Nat => s.heap.size ≤ q) s.heap H locs → ∀ ls : Array Slot, lv_has ls 4 [(0, .ref b), (1, .ref o), (2, .ref (o + 159)), (3, .int (iI (i : Int)))] → W p l e room_1 s m #[Value.ref b] below meth cd H locs 175 32960 (lw_Z below #[Value.ref b] s) (F0 m 145 ls []) := by
  obtain ⟨hx, hb, hr, hml, hown, hts, hX, hbl, hlocks, hgv⟩ := id C0
  have hown : s.vm.findClass R_L = some m.cls := hown
  have hG : ∀ w ∈ G0, w.before #[Value.ref b] s = true := fun w h => hts w (List.mem_filter.mp h).1
  have hbA : ¬ (fun q : Nat => s.heap.size ≤ q) b := Nat.not_le.mpr hbl
  intro H locs hI hS ls hl
  obtain ⟨⟨w, c, f, g, kz, hB, hM, hbd, hag⟩, ⟨la, hla⟩, ⟨co, hco⟩⟩ := hI
  have hv : ∀ i, i < 4 → 1 ≤ w i ∧ w i ≤ 8 ∧ c i ≤ 32 := fun i hi => ⟨(hB.2.2.2.1 i hi).2.1, (hB.2.2.2.1 i hi).2.2.1, (hB.2.2.2.1 i hi).2.2.2.1⟩
  have hok : ∀ i, i < 4 → okw (w i) (c i) (f i) := fun i hi => (hB.2.2.2.1 i hi).2.2.2.2.2
  have hokg : ∀ i, i < 4 → okw (w i) (c i) (gw g i) := fun i hi => okw_congr (hok i hi) (hag i hi)
  refine lv_aload_n hx hb d_L_law_145 rfl (lv_at hl 1 rfl) ?_
  refine lv_aload_n hx hb d_L_law_146 rfl (lv_at hl 0 rfl) ?_
  refine lv_iload_n hx hb d_L_law_147 rfl (lv_at hl 3 rfl) ?_
  refine hp_iconst (z := 1) hx hb d_L_law_148 (by rfl) ?_
  refine hp_iadd hx hb d_L_law_149 ?_
  refine hp_sld hx hb hX hbl hbA hS (by omega) (i + 1) (by omega) (by omega) d_L_law_150 ?_
  refine lv_aload_n hx hb d_L_law_151 rfl (lv_at hl 0 rfl) ?_
  refine lv_iload_n hx hb d_L_law_152 rfl (lv_at hl 3 rfl) ?_
  refine hp_iconst (z := 2) hx hb d_L_law_153 (by rfl) ?_
  refine hp_iadd hx hb d_L_law_154 ?_
  refine hp_sld hx hb hX hbl hbA hS (by omega) (i + 2) (by omega) (by omega) d_L_law_155 ?_
  refine hp_calli (W.runV (As := [.int (iI (xs (i + 1)).toInt), .int (iI (xs (i + 2)).toInt)]) (rest := []) ⟨hx, hb, hml, hown, hG⟩ (c_B_letter l E o w c f (xs (i + 1)).toInt (xs (i + 2)).toInt (iR_of _) (iR_of _)) (cwV 2 hG (hp_goodV ml_L_18 im_B_letter se_B_letter in_B co_B_letter) rfl rfl rfl hd_B_letter ⟨Nat.le_of_ble_eq_true rfl, Nat.le_of_ble_eq_true rfl⟩) (hp_preV (ci := 2) hp_nsn hK rfl hB.1 hB) rfl rfl hl.1 rfl (lv_room (Nat.le_of_ble_eq_true rfl)) d_L_law_156 ⟨Nat.le_of_ble_eq_true rfl, Nat.le_of_ble_eq_true rfl⟩) hS (fun q h9 => show s.heap.size ≤ q by have h9 : o ≤ q ∧ q ≤ o + 158 := h9; omega) (fun r1 H locs hpB hzB hoB hS => ?_)
  have hM := mG_keep hM (fun q h1 h2 => hoB q (fun h9 => by have h9 : o ≤ q ∧ q ≤ o + 158 := h9; omega))
  have hla := hla.keep (hoB (o + 159 + 14) (fun h9 => by have h9 : o ≤ (o + 159 + 14) ∧ (o + 159 + 14) ≤ o + 158 := h9; omega))
  have hco := hco.keep (hoB (o + 159 + 15) (fun h9 => by have h9 : o ≤ (o + 159 + 15) ∧ (o + 159 + 15) ≤ o + 158 := h9; omega))
  refine lv_aload_n hx hb d_L_law_159 rfl (lv_at hl 2 rfl) ?_
  refine lv_aload_n hx hb d_L_law_160 rfl (lv_at hl 0 rfl) ?_
  refine lv_iload_n hx hb d_L_law_161 rfl (lv_at hl 3 rfl) ?_
  refine hp_iconst (z := 1) hx hb d_L_law_162 (by rfl) ?_
  refine hp_iadd hx hb d_L_law_163 ?_
  refine hp_sld hx hb hX hbl hbA hS (by omega) (i + 1) (by omega) (by omega) d_L_law_164 ?_
  refine lv_aload_n hx hb d_L_law_165 rfl (lv_at hl 0 rfl) ?_
  refine lv_iload_n hx hb d_L_law_166 rfl (lv_at hl 3 rfl) ?_
  refine hp_iconst (z := 2) hx hb d_L_law_167 (by rfl) ?_
  refine hp_iadd hx hb d_L_law_168 ?_
  refine hp_sld hx hb hX hbl hbA hS (by omega) (i + 2) (by omega) (by omega) d_L_law_169 ?_
  obtain ⟨th, md, fe, ps, lf, nx, bf, po, ta, en, tu, si, sm, hA, hks⟩ := id hM
  refine hp_calli (W.runV (As := [.int (iI (xs (i + 1)).toInt), .int (iI (xs (i + 2)).toInt)]) (rest := [.int (iI r1)]) ⟨hx, hb, hml, hown, hG⟩ (c_M_letter l E (o + 159) th (md : Int) (fe : Int) ps w c g kz (xs (i + 1)).toInt (xs (i + 2)).toInt (iR_of _) (iR_of _) hv) (cwV 2 hG (hp_goodV ml_L_22 im_M_letter se_M_letter in_M co_M_letter) rfl rfl rfl hd_M_letter ⟨Nat.le_of_ble_eq_true rfl, Nat.le_of_ble_eq_true rfl⟩) (hp_preV (ci := 3) hp_nsn hK rfl hA.1.1 hA.1) rfl rfl hl.1 rfl (lv_room (Nat.le_of_ble_eq_true rfl)) d_L_law_170 ⟨Nat.le_of_ble_eq_true rfl, Nat.le_of_ble_eq_true rfl⟩) hS (fun q h9 => show s.heap.size ≤ q by have h9 : q = o + 159 ∨ q = o + 159 + 1 ∨ q = o + 159 + 2 ∨ q = o + 159 + 3 ∨ q = o + 159 + 10 := h9; omega) (fun r2 H locs hpM hzM hoM hS => ?_)
  have hla := hla.keep (hoM (o + 159 + 14) (fun h9 => by have h9 : (o + 159 + 14) = o + 159 ∨ (o + 159 + 14) = o + 159 + 1 ∨ (o + 159 + 14) = o + 159 + 2 ∨ (o + 159 + 14) = o + 159 + 3 ∨ (o + 159 + 14) = o + 159 + 10 := h9; omega))
  have hco := hco.keep (hoM (o + 159 + 15) (fun h9 => by have h9 : (o + 159 + 15) = o + 159 ∨ (o + 159 + 15) = o + 159 + 1 ∨ (o + 159 + 15) = o + 159 + 2 ∨ (o + 159 + 15) = o + 159 + 3 ∨ (o + 159 + 15) = o + 159 + 10 := h9; omega))
  obtain ⟨heq, hLS⟩ := lx_letter hv hA hks hbd hag hoM hpB hpM
  refine lv_icmp_eq (tgt := 698) hx hb d_L_law_173 (by decide) (fun _ => kk H locs ⟨hLS, ⟨_, hla⟩, ⟨_, hco⟩⟩ hS ls hl) (fun c9 => absurd (congrArg iI heq) c9)

set_option maxHeartbeats 4000000 in
set_option maxRecDepth 100000 in
theorem lw_case_2 {p : Program} {l : Launch} {e : Env} {s : State} {m : MethodId} {below : List Frame} {meth : Method} {cd : Code} {b L : Nat} {xs : Nat → Int32} {E : hp_E} {o i : Nat} (hL : L ≤ 2048) (C0 : lw_At p s m meth cd b L xs) (hK : hp_K E s) (ho : s.heap.size ≤ o) (hi : i + 4 ≤ L) (kk : ∀ (H : Heap) (locs : List Loc), lwI E H o → va_S (fun q : Nat => s.heap.size ≤ q) s.heap H locs → ∀ ls : Array Slot, lv_has ls 4 [(0, .ref b), (1, .ref o), (2, .ref (o + 159)), (3, .int (iI (i : Int)))] → W p l e room_1 s m #[Value.ref b] below meth cd H locs 175 32960 (lw_Z below #[Value.ref b] s) (F0 m 698 ls [])) : ∀ (H : Heap) (locs : List Loc), lwI E H o → va_S (fun q : Nat => s.heap.size ≤ q) s.heap H locs → ∀ ls : Array Slot, lv_has ls 4 [(0, .ref b), (1, .ref o), (2, .ref (o + 159)), (3, .int (iI (i : Int)))] → W p l e room_1 s m #[Value.ref b] below meth cd H locs 175 32960 (lw_Z below #[Value.ref b] s) (F0 m 178 ls []) := by
  obtain ⟨hx, hb, hr, hml, hown, hts, hX, hbl, hlocks, hgv⟩ := id C0
  have hown : s.vm.findClass R_L = some m.cls := hown
  have hG : ∀ w ∈ G0, w.before #[Value.ref b] s = true := fun w h => hts w (List.mem_filter.mp h).1
  have hbA : ¬ (fun q : Nat => s.heap.size ≤ q) b := Nat.not_le.mpr hbl
  intro H locs hI hS ls hl
  obtain ⟨⟨w, c, f, g, kz, hB, hM, hbd, hag⟩, ⟨la, hla⟩, ⟨co, hco⟩⟩ := hI
  have hv : ∀ i, i < 4 → 1 ≤ w i ∧ w i ≤ 8 ∧ c i ≤ 32 := fun i hi => ⟨(hB.2.2.2.1 i hi).2.1, (hB.2.2.2.1 i hi).2.2.1, (hB.2.2.2.1 i hi).2.2.2.1⟩
  have hok : ∀ i, i < 4 → okw (w i) (c i) (f i) := fun i hi => (hB.2.2.2.1 i hi).2.2.2.2.2
  have hokg : ∀ i, i < 4 → okw (w i) (c i) (gw g i) := fun i hi => okw_congr (hok i hi) (hag i hi)
  refine lv_aload_n hx hb d_L_law_178 rfl (lv_at hl 1 rfl) ?_
  refine lv_aload_n hx hb d_L_law_179 rfl (lv_at hl 0 rfl) ?_
  refine lv_iload_n hx hb d_L_law_180 rfl (lv_at hl 3 rfl) ?_
  refine hp_iconst (z := 1) hx hb d_L_law_181 (by rfl) ?_
  refine hp_iadd hx hb d_L_law_182 ?_
  refine hp_sld hx hb hX hbl hbA hS (by omega) (i + 1) (by omega) (by omega) d_L_law_183 ?_
  refine lv_aload_n hx hb d_L_law_184 rfl (lv_at hl 0 rfl) ?_
  refine lv_iload_n hx hb d_L_law_185 rfl (lv_at hl 3 rfl) ?_
  refine hp_iconst (z := 2) hx hb d_L_law_186 (by rfl) ?_
  refine hp_iadd hx hb d_L_law_187 ?_
  refine hp_sld hx hb hX hbl hbA hS (by omega) (i + 2) (by omega) (by omega) d_L_law_188 ?_
  refine lv_aload_n hx hb d_L_law_189 rfl (lv_at hl 0 rfl) ?_
  refine lv_iload_n hx hb d_L_law_190 rfl (lv_at hl 3 rfl) ?_
  refine hp_iconst (z := 3) hx hb d_L_law_191 (by rfl) ?_
  refine hp_iadd hx hb d_L_law_192 ?_
  refine hp_sld hx hb hX hbl hbA hS (by omega) (i + 3) (by omega) (by omega) d_L_law_193 ?_
  refine hp_if_eq (tgt := 201) hx hb d_L_law_194 (by decide) (iR_of _) (fun c194 => ?_) (fun c194 => ?_)
  · skip
    refine hp_iconst (z := 0) hx hb d_L_law_201 (by rfl) ?_
    refine hp_calli (W.runV (As := [.int (iI (xs (i + 1)).toInt), .int (iI (xs (i + 2)).toInt), .int (iI (bI false))]) (rest := []) ⟨hx, hb, hml, hown, hG⟩ (c_B_copy l E o w c f (xs (i + 1)).toInt (xs (i + 2)).toInt false (iR_of _) (iR_of _)) (cwV 3 hG (hp_goodV ml_L_23 im_B_copy se_B_copy in_B co_B_copy) rfl rfl rfl hd_B_copy ⟨Nat.le_of_ble_eq_true rfl, Nat.le_of_ble_eq_true rfl⟩) (hp_preV (ci := 2) hp_nsn hK rfl hB.1 hB) rfl rfl hl.1 rfl (lv_room (Nat.le_of_ble_eq_true rfl)) d_L_law_202 ⟨Nat.le_of_ble_eq_true rfl, Nat.le_of_ble_eq_true rfl⟩) hS (fun q h9 => show s.heap.size ≤ q by have h9 : o ≤ q ∧ q ≤ o + 158 := h9; omega) (fun r1 H locs hpB hzB hoB hS => ?_)
    have hM := mG_keep hM (fun q h1 h2 => hoB q (fun h9 => by have h9 : o ≤ q ∧ q ≤ o + 158 := h9; omega))
    have hla := hla.keep (hoB (o + 159 + 14) (fun h9 => by have h9 : o ≤ (o + 159 + 14) ∧ (o + 159 + 14) ≤ o + 158 := h9; omega))
    have hco := hco.keep (hoB (o + 159 + 15) (fun h9 => by have h9 : o ≤ (o + 159 + 15) ∧ (o + 159 + 15) ≤ o + 158 := h9; omega))
    refine lv_aload_n hx hb d_L_law_205 rfl (lv_at hl 2 rfl) ?_
    refine lv_aload_n hx hb d_L_law_206 rfl (lv_at hl 0 rfl) ?_
    refine lv_iload_n hx hb d_L_law_207 rfl (lv_at hl 3 rfl) ?_
    refine hp_iconst (z := 1) hx hb d_L_law_208 (by rfl) ?_
    refine hp_iadd hx hb d_L_law_209 ?_
    refine hp_sld hx hb hX hbl hbA hS (by omega) (i + 1) (by omega) (by omega) d_L_law_210 ?_
    refine lv_aload_n hx hb d_L_law_211 rfl (lv_at hl 0 rfl) ?_
    refine lv_iload_n hx hb d_L_law_212 rfl (lv_at hl 3 rfl) ?_
    refine hp_iconst (z := 2) hx hb d_L_law_213 (by rfl) ?_
    refine hp_iadd hx hb d_L_law_214 ?_
    refine hp_sld hx hb hX hbl hbA hS (by omega) (i + 2) (by omega) (by omega) d_L_law_215 ?_
    refine lv_aload_n hx hb d_L_law_216 rfl (lv_at hl 0 rfl) ?_
    refine lv_iload_n hx hb d_L_law_217 rfl (lv_at hl 3 rfl) ?_
    refine hp_iconst (z := 3) hx hb d_L_law_218 (by rfl) ?_
    refine hp_iadd hx hb d_L_law_219 ?_
    refine hp_sld hx hb hX hbl hbA hS (by omega) (i + 3) (by omega) (by omega) d_L_law_220 ?_
    refine hp_if_eq (tgt := 228) hx hb d_L_law_221 (by decide) (iR_of _) (fun c221 => ?_) (fun c221 => ?_)
    · skip
      refine hp_iconst (z := 0) hx hb d_L_law_228 (by rfl) ?_
      obtain ⟨th, md, fe, ps, lf, nx, bf, po, ta, en, tu, si, sm, hA, hks⟩ := id hM
      refine hp_calli (W.runV (As := [.int (iI (xs (i + 1)).toInt), .int (iI (xs (i + 2)).toInt), .int (iI (bI false))]) (rest := [.int (iI r1)]) ⟨hx, hb, hml, hown, hG⟩ (c_M_copy l E (o + 159) th (md : Int) (fe : Int) ps w c g kz po (xs (i + 1)).toInt (xs (i + 2)).toInt false (iR_of _) (iR_of _) hbd hv) (cwV 3 hG (hp_goodV ml_L_27 im_M_copy se_M_copy in_M co_M_copy) rfl rfl rfl hd_M_copy ⟨Nat.le_of_ble_eq_true rfl, Nat.le_of_ble_eq_true rfl⟩) (hp_preV (ci := 3) hp_nsn hK rfl hA.1.1 ⟨hA.1, hA.2.2.2.2.1⟩) rfl rfl hl.1 rfl (lv_room (Nat.le_of_ble_eq_true rfl)) d_L_law_229 ⟨Nat.le_of_ble_eq_true rfl, Nat.le_of_ble_eq_true rfl⟩) hS (fun q h9 => show s.heap.size ≤ q by have h9 : q = o + 159 ∨ q = o + 159 + 1 ∨ q = o + 159 + 2 ∨ q = o + 159 + 3 ∨ q = o + 159 + 7 ∨ q = o + 159 + 10 := h9; omega) (fun r2 H locs hpM hzM hoM hS => ?_)
      have hla := hla.keep (hoM (o + 159 + 14) (fun h9 => by have h9 : (o + 159 + 14) = o + 159 ∨ (o + 159 + 14) = o + 159 + 1 ∨ (o + 159 + 14) = o + 159 + 2 ∨ (o + 159 + 14) = o + 159 + 3 ∨ (o + 159 + 14) = o + 159 + 7 ∨ (o + 159 + 14) = o + 159 + 10 := h9; omega))
      have hco := hco.keep (hoM (o + 159 + 15) (fun h9 => by have h9 : (o + 159 + 15) = o + 159 ∨ (o + 159 + 15) = o + 159 + 1 ∨ (o + 159 + 15) = o + 159 + 2 ∨ (o + 159 + 15) = o + 159 + 3 ∨ (o + 159 + 15) = o + 159 + 7 ∨ (o + 159 + 15) = o + 159 + 10 := h9; omega))
      obtain ⟨heq, hLS⟩ := lx_copy hv hA hks hbd hag hoM hpB hpM
      refine lv_icmp_eq (tgt := 698) hx hb d_L_law_232 (by decide) (fun _ => kk H locs ⟨hLS, ⟨_, hla⟩, ⟨_, hco⟩⟩ hS ls hl) (fun c9 => absurd (congrArg iI heq) c9)
    · skip
      exact absurd c194 c221
  · skip
    refine hp_iconst (z := 1) hx hb d_L_law_197 (by rfl) ?_
    refine lv_goto (tgt := 202) hx hb d_L_law_198 (by decide) ?_
    refine hp_calli (W.runV (As := [.int (iI (xs (i + 1)).toInt), .int (iI (xs (i + 2)).toInt), .int (iI (bI true))]) (rest := []) ⟨hx, hb, hml, hown, hG⟩ (c_B_copy l E o w c f (xs (i + 1)).toInt (xs (i + 2)).toInt true (iR_of _) (iR_of _)) (cwV 3 hG (hp_goodV ml_L_23 im_B_copy se_B_copy in_B co_B_copy) rfl rfl rfl hd_B_copy ⟨Nat.le_of_ble_eq_true rfl, Nat.le_of_ble_eq_true rfl⟩) (hp_preV (ci := 2) hp_nsn hK rfl hB.1 hB) rfl rfl hl.1 rfl (lv_room (Nat.le_of_ble_eq_true rfl)) d_L_law_202 ⟨Nat.le_of_ble_eq_true rfl, Nat.le_of_ble_eq_true rfl⟩) hS (fun q h9 => show s.heap.size ≤ q by have h9 : o ≤ q ∧ q ≤ o + 158 := h9; omega) (fun r1 H locs hpB hzB hoB hS => ?_)
    have hM := mG_keep hM (fun q h1 h2 => hoB q (fun h9 => by have h9 : o ≤ q ∧ q ≤ o + 158 := h9; omega))
    have hla := hla.keep (hoB (o + 159 + 14) (fun h9 => by have h9 : o ≤ (o + 159 + 14) ∧ (o + 159 + 14) ≤ o + 158 := h9; omega))
    have hco := hco.keep (hoB (o + 159 + 15) (fun h9 => by have h9 : o ≤ (o + 159 + 15) ∧ (o + 159 + 15) ≤ o + 158 := h9; omega))
    refine lv_aload_n hx hb d_L_law_205 rfl (lv_at hl 2 rfl) ?_
    refine lv_aload_n hx hb d_L_law_206 rfl (lv_at hl 0 rfl) ?_
    refine lv_iload_n hx hb d_L_law_207 rfl (lv_at hl 3 rfl) ?_
    refine hp_iconst (z := 1) hx hb d_L_law_208 (by rfl) ?_
    refine hp_iadd hx hb d_L_law_209 ?_
    refine hp_sld hx hb hX hbl hbA hS (by omega) (i + 1) (by omega) (by omega) d_L_law_210 ?_
    refine lv_aload_n hx hb d_L_law_211 rfl (lv_at hl 0 rfl) ?_
    refine lv_iload_n hx hb d_L_law_212 rfl (lv_at hl 3 rfl) ?_
    refine hp_iconst (z := 2) hx hb d_L_law_213 (by rfl) ?_
    refine hp_iadd hx hb d_L_law_214 ?_
    refine hp_sld hx hb hX hbl hbA hS (by omega) (i + 2) (by omega) (by omega) d_L_law_215 ?_
    refine lv_aload_n hx hb d_L_law_216 rfl (lv_at hl 0 rfl) ?_
    refine lv_iload_n hx hb d_L_law_217 rfl (lv_at hl 3 rfl) ?_
    refine hp_iconst (z := 3) hx hb d_L_law_218 (by rfl) ?_
    refine hp_iadd hx hb d_L_law_219 ?_
    refine hp_sld hx hb hX hbl hbA hS (by omega) (i + 3) (by omega) (by omega) d_L_law_220 ?_
    refine hp_if_eq (tgt := 228) hx hb d_L_law_221 (by decide) (iR_of _) (fun c221 => ?_) (fun c221 => ?_)
    · skip
      exact absurd c221 c194
    · skip
      refine hp_iconst (z := 1) hx hb d_L_law_224 (by rfl) ?_
      refine lv_goto (tgt := 229) hx hb d_L_law_225 (by decide) ?_
      obtain ⟨th, md, fe, ps, lf, nx, bf, po, ta, en, tu, si, sm, hA, hks⟩ := id hM
      refine hp_calli (W.runV (As := [.int (iI (xs (i + 1)).toInt), .int (iI (xs (i + 2)).toInt), .int (iI (bI true))]) (rest := [.int (iI r1)]) ⟨hx, hb, hml, hown, hG⟩ (c_M_copy l E (o + 159) th (md : Int) (fe : Int) ps w c g kz po (xs (i + 1)).toInt (xs (i + 2)).toInt true (iR_of _) (iR_of _) hbd hv) (cwV 3 hG (hp_goodV ml_L_27 im_M_copy se_M_copy in_M co_M_copy) rfl rfl rfl hd_M_copy ⟨Nat.le_of_ble_eq_true rfl, Nat.le_of_ble_eq_true rfl⟩) (hp_preV (ci := 3) hp_nsn hK rfl hA.1.1 ⟨hA.1, hA.2.2.2.2.1⟩) rfl rfl hl.1 rfl (lv_room (Nat.le_of_ble_eq_true rfl)) d_L_law_229 ⟨Nat.le_of_ble_eq_true rfl, Nat.le_of_ble_eq_true rfl⟩) hS (fun q h9 => show s.heap.size ≤ q by have h9 : q = o + 159 ∨ q = o + 159 + 1 ∨ q = o + 159 + 2 ∨ q = o + 159 + 3 ∨ q = o + 159 + 7 ∨ q = o + 159 + 10 := h9; omega) (fun r2 H locs hpM hzM hoM hS => ?_)
      have hla := hla.keep (hoM (o + 159 + 14) (fun h9 => by have h9 : (o + 159 + 14) = o + 159 ∨ (o + 159 + 14) = o + 159 + 1 ∨ (o + 159 + 14) = o + 159 + 2 ∨ (o + 159 + 14) = o + 159 + 3 ∨ (o + 159 + 14) = o + 159 + 7 ∨ (o + 159 + 14) = o + 159 + 10 := h9; omega))
      have hco := hco.keep (hoM (o + 159 + 15) (fun h9 => by have h9 : (o + 159 + 15) = o + 159 ∨ (o + 159 + 15) = o + 159 + 1 ∨ (o + 159 + 15) = o + 159 + 2 ∨ (o + 159 + 15) = o + 159 + 3 ∨ (o + 159 + 15) = o + 159 + 7 ∨ (o + 159 + 15) = o + 159 + 10 := h9; omega))
      obtain ⟨heq, hLS⟩ := lx_copy hv hA hks hbd hag hoM hpB hpM
      refine lv_icmp_eq (tgt := 698) hx hb d_L_law_232 (by decide) (fun _ => kk H locs ⟨hLS, ⟨_, hla⟩, ⟨_, hco⟩⟩ hS ls hl) (fun c9 => absurd (congrArg iI heq) c9)

set_option maxHeartbeats 4000000 in
set_option maxRecDepth 100000 in
theorem lw_case_3 {p : Program} {l : Launch} {e : Env} {s : State} {m : MethodId} {below : List Frame} {meth : Method} {cd : Code} {b L : Nat} {xs : Nat → Int32} {E : hp_E} {o i : Nat} (hL : L ≤ 2048) (C0 : lw_At p s m meth cd b L xs) (hK : hp_K E s) (ho : s.heap.size ≤ o) (hi : i + 4 ≤ L) (kk : ∀ (H : Heap) (locs : List Loc), lwI E H o → va_S (fun q : Nat => s.heap.size ≤ q) s.heap H locs → ∀ ls : Array Slot, lv_has ls 4 [(0, .ref b), (1, .ref o), (2, .ref (o + 159)), (3, .int (iI (i : Int)))] → W p l e room_1 s m #[Value.ref b] below meth cd H locs 175 32960 (lw_Z below #[Value.ref b] s) (F0 m 698 ls [])) : ∀ (H : Heap) (locs : List Loc), lwI E H o → va_S (fun q : Nat => s.heap.size ≤ q) s.heap H locs → ∀ ls : Array Slot, lv_has ls 4 [(0, .ref b), (1, .ref o), (2, .ref (o + 159)), (3, .int (iI (i : Int)))] → W p l e room_1 s m #[Value.ref b] below meth cd H locs 175 32960 (lw_Z below #[Value.ref b] s) (F0 m 237 ls []) := by
  obtain ⟨hx, hb, hr, hml, hown, hts, hX, hbl, hlocks, hgv⟩ := id C0
  have hown : s.vm.findClass R_L = some m.cls := hown
  have hG : ∀ w ∈ G0, w.before #[Value.ref b] s = true := fun w h => hts w (List.mem_filter.mp h).1
  have hbA : ¬ (fun q : Nat => s.heap.size ≤ q) b := Nat.not_le.mpr hbl
  intro H locs hI hS ls hl
  obtain ⟨⟨w, c, f, g, kz, hB, hM, hbd, hag⟩, ⟨la, hla⟩, ⟨co, hco⟩⟩ := hI
  have hv : ∀ i, i < 4 → 1 ≤ w i ∧ w i ≤ 8 ∧ c i ≤ 32 := fun i hi => ⟨(hB.2.2.2.1 i hi).2.1, (hB.2.2.2.1 i hi).2.2.1, (hB.2.2.2.1 i hi).2.2.2.1⟩
  have hok : ∀ i, i < 4 → okw (w i) (c i) (f i) := fun i hi => (hB.2.2.2.1 i hi).2.2.2.2.2
  have hokg : ∀ i, i < 4 → okw (w i) (c i) (gw g i) := fun i hi => okw_congr (hok i hi) (hag i hi)
  refine lv_aload_n hx hb d_L_law_237 rfl (lv_at hl 1 rfl) ?_
  refine lv_aload_n hx hb d_L_law_238 rfl (lv_at hl 0 rfl) ?_
  refine lv_iload_n hx hb d_L_law_239 rfl (lv_at hl 3 rfl) ?_
  refine hp_iconst (z := 1) hx hb d_L_law_240 (by rfl) ?_
  refine hp_iadd hx hb d_L_law_241 ?_
  refine hp_sld hx hb hX hbl hbA hS (by omega) (i + 1) (by omega) (by omega) d_L_law_242 ?_
  refine lv_aload_n hx hb d_L_law_243 rfl (lv_at hl 0 rfl) ?_
  refine lv_iload_n hx hb d_L_law_244 rfl (lv_at hl 3 rfl) ?_
  refine hp_iconst (z := 2) hx hb d_L_law_245 (by rfl) ?_
  refine hp_iadd hx hb d_L_law_246 ?_
  refine hp_sld hx hb hX hbl hbA hS (by omega) (i + 2) (by omega) (by omega) d_L_law_247 ?_
  refine hp_callS (W.runV (As := [.int (iI (xs (i + 1)).toInt), .int (iI (xs (i + 2)).toInt)]) (rest := []) ⟨hx, hb, hml, hown, hG⟩ (c_B_many l E o w c f (xs (i + 1)).toInt (xs (i + 2)).toInt (iR_of _) (iR_of _)) (cwV 2 hG (hp_goodV ml_L_28 im_B_many se_B_many in_B co_B_many) rfl rfl rfl hd_B_many ⟨Nat.le_of_ble_eq_true rfl, Nat.le_of_ble_eq_true rfl⟩) (hp_preV (ci := 2) hp_nsn hK rfl hB.1 hB) rfl rfl hl.1 rfl (lv_room (Nat.le_of_ble_eq_true rfl)) d_L_law_248 ⟨Nat.le_of_ble_eq_true rfl, Nat.le_of_ble_eq_true rfl⟩) ?_
  refine lv_aload_n hx hb d_L_law_251 rfl (lv_at hl 2 rfl) ?_
  refine lv_aload_n hx hb d_L_law_252 rfl (lv_at hl 0 rfl) ?_
  refine lv_iload_n hx hb d_L_law_253 rfl (lv_at hl 3 rfl) ?_
  refine hp_iconst (z := 1) hx hb d_L_law_254 (by rfl) ?_
  refine hp_iadd hx hb d_L_law_255 ?_
  refine hp_sld hx hb hX hbl hbA hS (by omega) (i + 1) (by omega) (by omega) d_L_law_256 ?_
  refine lv_aload_n hx hb d_L_law_257 rfl (lv_at hl 0 rfl) ?_
  refine lv_iload_n hx hb d_L_law_258 rfl (lv_at hl 3 rfl) ?_
  refine hp_iconst (z := 2) hx hb d_L_law_259 (by rfl) ?_
  refine hp_iadd hx hb d_L_law_260 ?_
  refine hp_sld hx hb hX hbl hbA hS (by omega) (i + 2) (by omega) (by omega) d_L_law_261 ?_
  obtain ⟨th, md, fe, ps, lf, nx, bf, po, ta, en, tu, si, sm, hA, hks⟩ := id hM
  refine hp_callS (W.runV (As := [.int (iI (xs (i + 1)).toInt), .int (iI (xs (i + 2)).toInt)]) (rest := [.int (iI _)]) ⟨hx, hb, hml, hown, hG⟩ (c_M_many l E (o + 159) th (md : Int) (fe : Int) ps w c g kz (xs (i + 1)).toInt (xs (i + 2)).toInt (iR_of _) (iR_of _) hbd hv hokg) (cwV 2 hG (hp_goodV ml_L_31 im_M_many se_M_many in_M co_M_many) rfl rfl rfl hd_M_many ⟨Nat.le_of_ble_eq_true rfl, Nat.le_of_ble_eq_true rfl⟩) (hp_preV (ci := 3) hp_nsn hK rfl hA.1.1 hA.1) rfl rfl hl.1 rfl (lv_room (Nat.le_of_ble_eq_true rfl)) d_L_law_262 ⟨Nat.le_of_ble_eq_true rfl, Nat.le_of_ble_eq_true rfl⟩) ?_
  have hLS : lwS E H o := ⟨w, c, f, g, kz, hB, hM, hbd, hag⟩
  have heq := lx_many (w := w) (s0 := (xs (i + 1)).toInt) (x0 := (xs (i + 2)).toInt) hag
  refine lv_icmp_eq (tgt := 698) hx hb d_L_law_265 (by decide) (fun _ => kk H locs ⟨hLS, ⟨_, hla⟩, ⟨_, hco⟩⟩ hS ls hl) (fun c9 => absurd (congrArg iI heq) c9)

set_option maxHeartbeats 4000000 in
set_option maxRecDepth 100000 in
theorem lw_case_4 {p : Program} {l : Launch} {e : Env} {s : State} {m : MethodId} {below : List Frame} {meth : Method} {cd : Code} {b L : Nat} {xs : Nat → Int32} {E : hp_E} {o i : Nat} (hL : L ≤ 2048) (C0 : lw_At p s m meth cd b L xs) (hK : hp_K E s) (ho : s.heap.size ≤ o) (hi : i + 4 ≤ L) (kk : ∀ (H : Heap) (locs : List Loc), lwI E H o → va_S (fun q : Nat => s.heap.size ≤ q) s.heap H locs → ∀ ls : Array Slot, lv_has ls 4 [(0, .ref b), (1, .ref o), (2, .ref (o + 159)), (3, .int (iI (i : Int)))] → W p l e room_1 s m #[Value.ref b] below meth cd H locs 175 32960 (lw_Z below #[Value.ref b] s) (F0 m 698 ls [])) : ∀ (H : Heap) (locs : List Loc), lwI E H o → va_S (fun q : Nat => s.heap.size ≤ q) s.heap H locs → ∀ ls : Array Slot, lv_has ls 4 [(0, .ref b), (1, .ref o), (2, .ref (o + 159)), (3, .int (iI (i : Int)))] → W p l e room_1 s m #[Value.ref b] below meth cd H locs 175 32960 (lw_Z below #[Value.ref b] s) (F0 m 270 ls []) := by
  obtain ⟨hx, hb, hr, hml, hown, hts, hX, hbl, hlocks, hgv⟩ := id C0
  have hown : s.vm.findClass R_L = some m.cls := hown
  have hG : ∀ w ∈ G0, w.before #[Value.ref b] s = true := fun w h => hts w (List.mem_filter.mp h).1
  have hbA : ¬ (fun q : Nat => s.heap.size ≤ q) b := Nat.not_le.mpr hbl
  intro H locs hI hS ls hl
  obtain ⟨⟨w, c, f, g, kz, hB, hM, hbd, hag⟩, ⟨la, hla⟩, ⟨co, hco⟩⟩ := hI
  have hv : ∀ i, i < 4 → 1 ≤ w i ∧ w i ≤ 8 ∧ c i ≤ 32 := fun i hi => ⟨(hB.2.2.2.1 i hi).2.1, (hB.2.2.2.1 i hi).2.2.1, (hB.2.2.2.1 i hi).2.2.2.1⟩
  have hok : ∀ i, i < 4 → okw (w i) (c i) (f i) := fun i hi => (hB.2.2.2.1 i hi).2.2.2.2.2
  have hokg : ∀ i, i < 4 → okw (w i) (c i) (gw g i) := fun i hi => okw_congr (hok i hi) (hag i hi)
  refine lv_aload_n hx hb d_L_law_270 rfl (lv_at hl 1 rfl) ?_
  refine lv_aload_n hx hb d_L_law_271 rfl (lv_at hl 0 rfl) ?_
  refine lv_iload_n hx hb d_L_law_272 rfl (lv_at hl 3 rfl) ?_
  refine hp_iconst (z := 1) hx hb d_L_law_273 (by rfl) ?_
  refine hp_iadd hx hb d_L_law_274 ?_
  refine hp_sld hx hb hX hbl hbA hS (by omega) (i + 1) (by omega) (by omega) d_L_law_275 ?_
  refine lv_aload_n hx hb d_L_law_276 rfl (lv_at hl 0 rfl) ?_
  refine lv_iload_n hx hb d_L_law_277 rfl (lv_at hl 3 rfl) ?_
  refine hp_iconst (z := 2) hx hb d_L_law_278 (by rfl) ?_
  refine hp_iadd hx hb d_L_law_279 ?_
  refine hp_sld hx hb hX hbl hbA hS (by omega) (i + 2) (by omega) (by omega) d_L_law_280 ?_
  refine hp_callS (W.runV (As := [.int (iI (xs (i + 1)).toInt), .int (iI (xs (i + 2)).toInt)]) (rest := []) ⟨hx, hb, hml, hown, hG⟩ (c_B_at l E o w c f (xs (i + 1)).toInt (xs (i + 2)).toInt (iR_of _) (iR_of _)) (cwV 2 hG (hp_goodV ml_L_32 im_B_at se_B_at in_B co_B_at) rfl rfl rfl hd_B_at ⟨Nat.le_of_ble_eq_true rfl, Nat.le_of_ble_eq_true rfl⟩) (hp_preV (ci := 2) hp_nsn hK rfl hB.1 hB) rfl rfl hl.1 rfl (lv_room (Nat.le_of_ble_eq_true rfl)) d_L_law_281 ⟨Nat.le_of_ble_eq_true rfl, Nat.le_of_ble_eq_true rfl⟩) ?_
  refine lv_aload_n hx hb d_L_law_284 rfl (lv_at hl 2 rfl) ?_
  refine lv_aload_n hx hb d_L_law_285 rfl (lv_at hl 0 rfl) ?_
  refine lv_iload_n hx hb d_L_law_286 rfl (lv_at hl 3 rfl) ?_
  refine hp_iconst (z := 1) hx hb d_L_law_287 (by rfl) ?_
  refine hp_iadd hx hb d_L_law_288 ?_
  refine hp_sld hx hb hX hbl hbA hS (by omega) (i + 1) (by omega) (by omega) d_L_law_289 ?_
  refine lv_aload_n hx hb d_L_law_290 rfl (lv_at hl 0 rfl) ?_
  refine lv_iload_n hx hb d_L_law_291 rfl (lv_at hl 3 rfl) ?_
  refine hp_iconst (z := 2) hx hb d_L_law_292 (by rfl) ?_
  refine hp_iadd hx hb d_L_law_293 ?_
  refine hp_sld hx hb hX hbl hbA hS (by omega) (i + 2) (by omega) (by omega) d_L_law_294 ?_
  obtain ⟨th, md, fe, ps, lf, nx, bf, po, ta, en, tu, si, sm, hA, hks⟩ := id hM
  refine hp_callS (W.runV (As := [.int (iI (xs (i + 1)).toInt), .int (iI (xs (i + 2)).toInt)]) (rest := [.int (iI _)]) ⟨hx, hb, hml, hown, hG⟩ (c_M_at l E (o + 159) th (md : Int) (fe : Int) ps w c g kz (xs (i + 1)).toInt (xs (i + 2)).toInt (iR_of _) (iR_of _) hv) (cwV 2 hG (hp_goodV ml_L_35 im_M_at se_M_at in_M co_M_at) rfl rfl rfl hd_M_at ⟨Nat.le_of_ble_eq_true rfl, Nat.le_of_ble_eq_true rfl⟩) (hp_preV (ci := 3) hp_nsn hK rfl hA.1.1 hA.1) rfl rfl hl.1 rfl (lv_room (Nat.le_of_ble_eq_true rfl)) d_L_law_295 ⟨Nat.le_of_ble_eq_true rfl, Nat.le_of_ble_eq_true rfl⟩) ?_
  have hLS : lwS E H o := ⟨w, c, f, g, kz, hB, hM, hbd, hag⟩
  have heq := lx_at (s0 := (xs (i + 1)).toInt) (k0 := (xs (i + 2)).toInt) hag
  refine lv_icmp_eq (tgt := 698) hx hb d_L_law_298 (by decide) (fun _ => kk H locs ⟨hLS, ⟨_, hla⟩, ⟨_, hco⟩⟩ hS ls hl) (fun c9 => absurd (congrArg iI heq) c9)

set_option maxHeartbeats 4000000 in
set_option maxRecDepth 100000 in
theorem lw_case_5 {p : Program} {l : Launch} {e : Env} {s : State} {m : MethodId} {below : List Frame} {meth : Method} {cd : Code} {b L : Nat} {xs : Nat → Int32} {E : hp_E} {o i : Nat} (hL : L ≤ 2048) (C0 : lw_At p s m meth cd b L xs) (hK : hp_K E s) (ho : s.heap.size ≤ o) (hi : i + 4 ≤ L) (kk : ∀ (H : Heap) (locs : List Loc), lwI E H o → va_S (fun q : Nat => s.heap.size ≤ q) s.heap H locs → ∀ ls : Array Slot, lv_has ls 4 [(0, .ref b), (1, .ref o), (2, .ref (o + 159)), (3, .int (iI (i : Int)))] → W p l e room_1 s m #[Value.ref b] below meth cd H locs 175 32960 (lw_Z below #[Value.ref b] s) (F0 m 698 ls [])) : ∀ (H : Heap) (locs : List Loc), lwI E H o → va_S (fun q : Nat => s.heap.size ≤ q) s.heap H locs → ∀ ls : Array Slot, lv_has ls 4 [(0, .ref b), (1, .ref o), (2, .ref (o + 159)), (3, .int (iI (i : Int)))] → W p l e room_1 s m #[Value.ref b] below meth cd H locs 175 32960 (lw_Z below #[Value.ref b] s) (F0 m 303 ls []) := by
  obtain ⟨hx, hb, hr, hml, hown, hts, hX, hbl, hlocks, hgv⟩ := id C0
  have hown : s.vm.findClass R_L = some m.cls := hown
  have hG : ∀ w ∈ G0, w.before #[Value.ref b] s = true := fun w h => hts w (List.mem_filter.mp h).1
  have hbA : ¬ (fun q : Nat => s.heap.size ≤ q) b := Nat.not_le.mpr hbl
  intro H locs hI hS ls hl
  obtain ⟨⟨w, c, f, g, kz, hB, hM, hbd, hag⟩, ⟨la, hla⟩, ⟨co, hco⟩⟩ := hI
  have hv : ∀ i, i < 4 → 1 ≤ w i ∧ w i ≤ 8 ∧ c i ≤ 32 := fun i hi => ⟨(hB.2.2.2.1 i hi).2.1, (hB.2.2.2.1 i hi).2.2.1, (hB.2.2.2.1 i hi).2.2.2.1⟩
  have hok : ∀ i, i < 4 → okw (w i) (c i) (f i) := fun i hi => (hB.2.2.2.1 i hi).2.2.2.2.2
  have hokg : ∀ i, i < 4 → okw (w i) (c i) (gw g i) := fun i hi => okw_congr (hok i hi) (hag i hi)
  refine lv_aload_n hx hb d_L_law_303 rfl (lv_at hl 1 rfl) ?_
  refine lv_aload_n hx hb d_L_law_304 rfl (lv_at hl 0 rfl) ?_
  refine lv_iload_n hx hb d_L_law_305 rfl (lv_at hl 3 rfl) ?_
  refine hp_iconst (z := 1) hx hb d_L_law_306 (by rfl) ?_
  refine hp_iadd hx hb d_L_law_307 ?_
  refine hp_sld hx hb hX hbl hbA hS (by omega) (i + 1) (by omega) (by omega) d_L_law_308 ?_
  refine lv_aload_n hx hb d_L_law_309 rfl (lv_at hl 0 rfl) ?_
  refine lv_iload_n hx hb d_L_law_310 rfl (lv_at hl 3 rfl) ?_
  refine hp_iconst (z := 2) hx hb d_L_law_311 (by rfl) ?_
  refine hp_iadd hx hb d_L_law_312 ?_
  refine hp_sld hx hb hX hbl hbA hS (by omega) (i + 2) (by omega) (by omega) d_L_law_313 ?_
  refine hp_callS (W.runV (As := [.int (iI (xs (i + 1)).toInt), .int (iI (xs (i + 2)).toInt)]) (rest := []) ⟨hx, hb, hml, hown, hG⟩ (c_B_end l E o w c f (xs (i + 1)).toInt (xs (i + 2)).toInt (iR_of _) (iR_of _)) (cwV 2 hG (hp_goodV ml_L_36 im_B_end se_B_end in_B co_B_end) rfl rfl rfl hd_B_end ⟨Nat.le_of_ble_eq_true rfl, Nat.le_of_ble_eq_true rfl⟩) (hp_preV (ci := 2) hp_nsn hK rfl hB.1 hB) rfl rfl hl.1 rfl (lv_room (Nat.le_of_ble_eq_true rfl)) d_L_law_314 ⟨Nat.le_of_ble_eq_true rfl, Nat.le_of_ble_eq_true rfl⟩) ?_
  refine lv_aload_n hx hb d_L_law_317 rfl (lv_at hl 2 rfl) ?_
  refine lv_aload_n hx hb d_L_law_318 rfl (lv_at hl 0 rfl) ?_
  refine lv_iload_n hx hb d_L_law_319 rfl (lv_at hl 3 rfl) ?_
  refine hp_iconst (z := 1) hx hb d_L_law_320 (by rfl) ?_
  refine hp_iadd hx hb d_L_law_321 ?_
  refine hp_sld hx hb hX hbl hbA hS (by omega) (i + 1) (by omega) (by omega) d_L_law_322 ?_
  refine lv_aload_n hx hb d_L_law_323 rfl (lv_at hl 0 rfl) ?_
  refine lv_iload_n hx hb d_L_law_324 rfl (lv_at hl 3 rfl) ?_
  refine hp_iconst (z := 2) hx hb d_L_law_325 (by rfl) ?_
  refine hp_iadd hx hb d_L_law_326 ?_
  refine hp_sld hx hb hX hbl hbA hS (by omega) (i + 2) (by omega) (by omega) d_L_law_327 ?_
  obtain ⟨th, md, fe, ps, lf, nx, bf, po, ta, en, tu, si, sm, hA, hks⟩ := id hM
  refine hp_callS (W.runV (As := [.int (iI (xs (i + 1)).toInt), .int (iI (xs (i + 2)).toInt)]) (rest := [.int (iI _)]) ⟨hx, hb, hml, hown, hG⟩ (c_M_end l E (o + 159) th (md : Int) (fe : Int) ps w c g kz (xs (i + 1)).toInt (xs (i + 2)).toInt (iR_of _) (iR_of _) hbd hv) (cwV 2 hG (hp_goodV ml_L_39 im_M_end se_M_end in_M co_M_end) rfl rfl rfl hd_M_end ⟨Nat.le_of_ble_eq_true rfl, Nat.le_of_ble_eq_true rfl⟩) (hp_preV (ci := 3) hp_nsn hK rfl hA.1.1 hA.1) rfl rfl hl.1 rfl (lv_room (Nat.le_of_ble_eq_true rfl)) d_L_law_328 ⟨Nat.le_of_ble_eq_true rfl, Nat.le_of_ble_eq_true rfl⟩) ?_
  have hLS : lwS E H o := ⟨w, c, f, g, kz, hB, hM, hbd, hag⟩
  have heq := lx_ends (w := w) (s0 := (xs (i + 1)).toInt) (p0 := (xs (i + 2)).toInt) hag
  refine lv_icmp_eq (tgt := 698) hx hb d_L_law_331 (by decide) (fun _ => kk H locs ⟨hLS, ⟨_, hla⟩, ⟨_, hco⟩⟩ hS ls hl) (fun c9 => absurd (congrArg iI heq) c9)

set_option maxHeartbeats 4000000 in
set_option maxRecDepth 100000 in
theorem lw_case_6 {p : Program} {l : Launch} {e : Env} {s : State} {m : MethodId} {below : List Frame} {meth : Method} {cd : Code} {b L : Nat} {xs : Nat → Int32} {E : hp_E} {o i : Nat} (hL : L ≤ 2048) (C0 : lw_At p s m meth cd b L xs) (hK : hp_K E s) (ho : s.heap.size ≤ o) (hi : i + 4 ≤ L) (kk : ∀ (H : Heap) (locs : List Loc), lwI E H o → va_S (fun q : Nat => s.heap.size ≤ q) s.heap H locs → ∀ ls : Array Slot, lv_has ls 4 [(0, .ref b), (1, .ref o), (2, .ref (o + 159)), (3, .int (iI (i : Int)))] → W p l e room_1 s m #[Value.ref b] below meth cd H locs 175 32960 (lw_Z below #[Value.ref b] s) (F0 m 698 ls [])) : ∀ (H : Heap) (locs : List Loc), lwI E H o → va_S (fun q : Nat => s.heap.size ≤ q) s.heap H locs → ∀ ls : Array Slot, lv_has ls 4 [(0, .ref b), (1, .ref o), (2, .ref (o + 159)), (3, .int (iI (i : Int)))] → W p l e room_1 s m #[Value.ref b] below meth cd H locs 175 32960 (lw_Z below #[Value.ref b] s) (F0 m 336 ls []) := by
  obtain ⟨hx, hb, hr, hml, hown, hts, hX, hbl, hlocks, hgv⟩ := id C0
  have hown : s.vm.findClass R_L = some m.cls := hown
  have hG : ∀ w ∈ G0, w.before #[Value.ref b] s = true := fun w h => hts w (List.mem_filter.mp h).1
  have hbA : ¬ (fun q : Nat => s.heap.size ≤ q) b := Nat.not_le.mpr hbl
  intro H locs hI hS ls hl
  obtain ⟨⟨w, c, f, g, kz, hB, hM, hbd, hag⟩, ⟨la, hla⟩, ⟨co, hco⟩⟩ := hI
  have hv : ∀ i, i < 4 → 1 ≤ w i ∧ w i ≤ 8 ∧ c i ≤ 32 := fun i hi => ⟨(hB.2.2.2.1 i hi).2.1, (hB.2.2.2.1 i hi).2.2.1, (hB.2.2.2.1 i hi).2.2.2.1⟩
  have hok : ∀ i, i < 4 → okw (w i) (c i) (f i) := fun i hi => (hB.2.2.2.1 i hi).2.2.2.2.2
  have hokg : ∀ i, i < 4 → okw (w i) (c i) (gw g i) := fun i hi => okw_congr (hok i hi) (hag i hi)
  refine lv_aload_n hx hb d_L_law_336 rfl (lv_at hl 1 rfl) ?_
  refine lv_aload_n hx hb d_L_law_337 rfl (lv_at hl 0 rfl) ?_
  refine lv_iload_n hx hb d_L_law_338 rfl (lv_at hl 3 rfl) ?_
  refine hp_iconst (z := 1) hx hb d_L_law_339 (by rfl) ?_
  refine hp_iadd hx hb d_L_law_340 ?_
  refine hp_sld hx hb hX hbl hbA hS (by omega) (i + 1) (by omega) (by omega) d_L_law_341 ?_
  refine lv_aload_n hx hb d_L_law_342 rfl (lv_at hl 0 rfl) ?_
  refine lv_iload_n hx hb d_L_law_343 rfl (lv_at hl 3 rfl) ?_
  refine hp_iconst (z := 2) hx hb d_L_law_344 (by rfl) ?_
  refine hp_iadd hx hb d_L_law_345 ?_
  refine hp_sld hx hb hX hbl hbA hS (by omega) (i + 2) (by omega) (by omega) d_L_law_346 ?_
  refine hp_if_eq (tgt := 354) hx hb d_L_law_347 (by decide) (iR_of _) (fun c347 => ?_) (fun c347 => ?_)
  · skip
    refine hp_iconst (z := 0) hx hb d_L_law_354 (by rfl) ?_
    refine hp_calli (W.runV (As := [.int (iI (xs (i + 1)).toInt), .int (iI (bI false))]) (rest := []) ⟨hx, hb, hml, hown, hG⟩ (c_B_reduce l E o w c f (xs (i + 1)).toInt false (iR_of _)) (cwV 2 hG (hp_goodV ml_L_40 im_B_reduce se_B_reduce in_B co_B_reduce) rfl rfl rfl hd_B_reduce ⟨Nat.le_of_ble_eq_true rfl, Nat.le_of_ble_eq_true rfl⟩) (hp_preV (ci := 2) hp_nsn hK rfl hB.1 hB) rfl rfl hl.1 rfl (lv_room (Nat.le_of_ble_eq_true rfl)) d_L_law_355 ⟨Nat.le_of_ble_eq_true rfl, Nat.le_of_ble_eq_true rfl⟩) hS (fun q h9 => show s.heap.size ≤ q by have h9 : o ≤ q ∧ q ≤ o + 158 := h9; omega) (fun r1 H locs hpB hzB hoB hS => ?_)
    have hM := mG_keep hM (fun q h1 h2 => hoB q (fun h9 => by have h9 : o ≤ q ∧ q ≤ o + 158 := h9; omega))
    have hla := hla.keep (hoB (o + 159 + 14) (fun h9 => by have h9 : o ≤ (o + 159 + 14) ∧ (o + 159 + 14) ≤ o + 158 := h9; omega))
    have hco := hco.keep (hoB (o + 159 + 15) (fun h9 => by have h9 : o ≤ (o + 159 + 15) ∧ (o + 159 + 15) ≤ o + 158 := h9; omega))
    refine lv_aload_n hx hb d_L_law_358 rfl (lv_at hl 2 rfl) ?_
    refine lv_aload_n hx hb d_L_law_359 rfl (lv_at hl 0 rfl) ?_
    refine lv_iload_n hx hb d_L_law_360 rfl (lv_at hl 3 rfl) ?_
    refine hp_iconst (z := 1) hx hb d_L_law_361 (by rfl) ?_
    refine hp_iadd hx hb d_L_law_362 ?_
    refine hp_sld hx hb hX hbl hbA hS (by omega) (i + 1) (by omega) (by omega) d_L_law_363 ?_
    refine lv_aload_n hx hb d_L_law_364 rfl (lv_at hl 0 rfl) ?_
    refine lv_iload_n hx hb d_L_law_365 rfl (lv_at hl 3 rfl) ?_
    refine hp_iconst (z := 2) hx hb d_L_law_366 (by rfl) ?_
    refine hp_iadd hx hb d_L_law_367 ?_
    refine hp_sld hx hb hX hbl hbA hS (by omega) (i + 2) (by omega) (by omega) d_L_law_368 ?_
    refine hp_if_eq (tgt := 376) hx hb d_L_law_369 (by decide) (iR_of _) (fun c369 => ?_) (fun c369 => ?_)
    · skip
      refine hp_iconst (z := 0) hx hb d_L_law_376 (by rfl) ?_
      obtain ⟨th, md, fe, ps, lf, nx, bf, po, ta, en, tu, si, sm, hA, hks⟩ := id hM
      refine hp_calli (W.runV (As := [.int (iI (xs (i + 1)).toInt), .int (iI (bI false))]) (rest := [.int (iI r1)]) ⟨hx, hb, hml, hown, hG⟩ (c_M_reduce l E (o + 159) th (md : Int) (fe : Int) ps w c g kz (xs (i + 1)).toInt false (iR_of _) hbd hv) (cwV 2 hG (hp_goodV ml_L_44 im_M_reduce se_M_reduce in_M co_M_reduce) rfl rfl rfl hd_M_reduce ⟨Nat.le_of_ble_eq_true rfl, Nat.le_of_ble_eq_true rfl⟩) (hp_preV (ci := 3) hp_nsn hK rfl hA.1.1 hA.1) rfl rfl hl.1 rfl (lv_room (Nat.le_of_ble_eq_true rfl)) d_L_law_377 ⟨Nat.le_of_ble_eq_true rfl, Nat.le_of_ble_eq_true rfl⟩) hS (fun q h9 => show s.heap.size ≤ q by have h9 : q = o + 159 ∨ q = o + 159 + 1 ∨ q = o + 159 + 2 ∨ q = o + 159 + 3 ∨ q = o + 159 + 10 := h9; omega) (fun r2 H locs hpM hzM hoM hS => ?_)
      have hla := hla.keep (hoM (o + 159 + 14) (fun h9 => by have h9 : (o + 159 + 14) = o + 159 ∨ (o + 159 + 14) = o + 159 + 1 ∨ (o + 159 + 14) = o + 159 + 2 ∨ (o + 159 + 14) = o + 159 + 3 ∨ (o + 159 + 14) = o + 159 + 10 := h9; omega))
      have hco := hco.keep (hoM (o + 159 + 15) (fun h9 => by have h9 : (o + 159 + 15) = o + 159 ∨ (o + 159 + 15) = o + 159 + 1 ∨ (o + 159 + 15) = o + 159 + 2 ∨ (o + 159 + 15) = o + 159 + 3 ∨ (o + 159 + 15) = o + 159 + 10 := h9; omega))
      obtain ⟨heq, hLS⟩ := lx_reduce hv hA hks hbd hag hoM hpB hpM
      refine lv_icmp_eq (tgt := 698) hx hb d_L_law_380 (by decide) (fun _ => kk H locs ⟨hLS, ⟨_, hla⟩, ⟨_, hco⟩⟩ hS ls hl) (fun c9 => absurd (congrArg iI heq) c9)
    · skip
      exact absurd c347 c369
  · skip
    refine hp_iconst (z := 1) hx hb d_L_law_350 (by rfl) ?_
    refine lv_goto (tgt := 355) hx hb d_L_law_351 (by decide) ?_
    refine hp_calli (W.runV (As := [.int (iI (xs (i + 1)).toInt), .int (iI (bI true))]) (rest := []) ⟨hx, hb, hml, hown, hG⟩ (c_B_reduce l E o w c f (xs (i + 1)).toInt true (iR_of _)) (cwV 2 hG (hp_goodV ml_L_40 im_B_reduce se_B_reduce in_B co_B_reduce) rfl rfl rfl hd_B_reduce ⟨Nat.le_of_ble_eq_true rfl, Nat.le_of_ble_eq_true rfl⟩) (hp_preV (ci := 2) hp_nsn hK rfl hB.1 hB) rfl rfl hl.1 rfl (lv_room (Nat.le_of_ble_eq_true rfl)) d_L_law_355 ⟨Nat.le_of_ble_eq_true rfl, Nat.le_of_ble_eq_true rfl⟩) hS (fun q h9 => show s.heap.size ≤ q by have h9 : o ≤ q ∧ q ≤ o + 158 := h9; omega) (fun r1 H locs hpB hzB hoB hS => ?_)
    have hM := mG_keep hM (fun q h1 h2 => hoB q (fun h9 => by have h9 : o ≤ q ∧ q ≤ o + 158 := h9; omega))
    have hla := hla.keep (hoB (o + 159 + 14) (fun h9 => by have h9 : o ≤ (o + 159 + 14) ∧ (o + 159 + 14) ≤ o + 158 := h9; omega))
    have hco := hco.keep (hoB (o + 159 + 15) (fun h9 => by have h9 : o ≤ (o + 159 + 15) ∧ (o + 159 + 15) ≤ o + 158 := h9; omega))
    refine lv_aload_n hx hb d_L_law_358 rfl (lv_at hl 2 rfl) ?_
    refine lv_aload_n hx hb d_L_law_359 rfl (lv_at hl 0 rfl) ?_
    refine lv_iload_n hx hb d_L_law_360 rfl (lv_at hl 3 rfl) ?_
    refine hp_iconst (z := 1) hx hb d_L_law_361 (by rfl) ?_
    refine hp_iadd hx hb d_L_law_362 ?_
    refine hp_sld hx hb hX hbl hbA hS (by omega) (i + 1) (by omega) (by omega) d_L_law_363 ?_
    refine lv_aload_n hx hb d_L_law_364 rfl (lv_at hl 0 rfl) ?_
    refine lv_iload_n hx hb d_L_law_365 rfl (lv_at hl 3 rfl) ?_
    refine hp_iconst (z := 2) hx hb d_L_law_366 (by rfl) ?_
    refine hp_iadd hx hb d_L_law_367 ?_
    refine hp_sld hx hb hX hbl hbA hS (by omega) (i + 2) (by omega) (by omega) d_L_law_368 ?_
    refine hp_if_eq (tgt := 376) hx hb d_L_law_369 (by decide) (iR_of _) (fun c369 => ?_) (fun c369 => ?_)
    · skip
      exact absurd c369 c347
    · skip
      refine hp_iconst (z := 1) hx hb d_L_law_372 (by rfl) ?_
      refine lv_goto (tgt := 377) hx hb d_L_law_373 (by decide) ?_
      obtain ⟨th, md, fe, ps, lf, nx, bf, po, ta, en, tu, si, sm, hA, hks⟩ := id hM
      refine hp_calli (W.runV (As := [.int (iI (xs (i + 1)).toInt), .int (iI (bI true))]) (rest := [.int (iI r1)]) ⟨hx, hb, hml, hown, hG⟩ (c_M_reduce l E (o + 159) th (md : Int) (fe : Int) ps w c g kz (xs (i + 1)).toInt true (iR_of _) hbd hv) (cwV 2 hG (hp_goodV ml_L_44 im_M_reduce se_M_reduce in_M co_M_reduce) rfl rfl rfl hd_M_reduce ⟨Nat.le_of_ble_eq_true rfl, Nat.le_of_ble_eq_true rfl⟩) (hp_preV (ci := 3) hp_nsn hK rfl hA.1.1 hA.1) rfl rfl hl.1 rfl (lv_room (Nat.le_of_ble_eq_true rfl)) d_L_law_377 ⟨Nat.le_of_ble_eq_true rfl, Nat.le_of_ble_eq_true rfl⟩) hS (fun q h9 => show s.heap.size ≤ q by have h9 : q = o + 159 ∨ q = o + 159 + 1 ∨ q = o + 159 + 2 ∨ q = o + 159 + 3 ∨ q = o + 159 + 10 := h9; omega) (fun r2 H locs hpM hzM hoM hS => ?_)
      have hla := hla.keep (hoM (o + 159 + 14) (fun h9 => by have h9 : (o + 159 + 14) = o + 159 ∨ (o + 159 + 14) = o + 159 + 1 ∨ (o + 159 + 14) = o + 159 + 2 ∨ (o + 159 + 14) = o + 159 + 3 ∨ (o + 159 + 14) = o + 159 + 10 := h9; omega))
      have hco := hco.keep (hoM (o + 159 + 15) (fun h9 => by have h9 : (o + 159 + 15) = o + 159 ∨ (o + 159 + 15) = o + 159 + 1 ∨ (o + 159 + 15) = o + 159 + 2 ∨ (o + 159 + 15) = o + 159 + 3 ∨ (o + 159 + 15) = o + 159 + 10 := h9; omega))
      obtain ⟨heq, hLS⟩ := lx_reduce hv hA hks hbd hag hoM hpB hpM
      refine lv_icmp_eq (tgt := 698) hx hb d_L_law_380 (by decide) (fun _ => kk H locs ⟨hLS, ⟨_, hla⟩, ⟨_, hco⟩⟩ hS ls hl) (fun c9 => absurd (congrArg iI heq) c9)

set_option maxHeartbeats 4000000 in
set_option maxRecDepth 100000 in
theorem lw_case_7 {p : Program} {l : Launch} {e : Env} {s : State} {m : MethodId} {below : List Frame} {meth : Method} {cd : Code} {b L : Nat} {xs : Nat → Int32} {E : hp_E} {o i : Nat} (hL : L ≤ 2048) (C0 : lw_At p s m meth cd b L xs) (hK : hp_K E s) (ho : s.heap.size ≤ o) (hi : i + 4 ≤ L) (kk : ∀ (H : Heap) (locs : List Loc), lwI E H o → va_S (fun q : Nat => s.heap.size ≤ q) s.heap H locs → ∀ ls : Array Slot, lv_has ls 4 [(0, .ref b), (1, .ref o), (2, .ref (o + 159)), (3, .int (iI (i : Int)))] → W p l e room_1 s m #[Value.ref b] below meth cd H locs 175 32960 (lw_Z below #[Value.ref b] s) (F0 m 698 ls [])) : ∀ (H : Heap) (locs : List Loc), lwI E H o → va_S (fun q : Nat => s.heap.size ≤ q) s.heap H locs → ∀ ls : Array Slot, lv_has ls 4 [(0, .ref b), (1, .ref o), (2, .ref (o + 159)), (3, .int (iI (i : Int)))] → W p l e room_1 s m #[Value.ref b] below meth cd H locs 175 32960 (lw_Z below #[Value.ref b] s) (F0 m 385 ls []) := by
  obtain ⟨hx, hb, hr, hml, hown, hts, hX, hbl, hlocks, hgv⟩ := id C0
  have hown : s.vm.findClass R_L = some m.cls := hown
  have hG : ∀ w ∈ G0, w.before #[Value.ref b] s = true := fun w h => hts w (List.mem_filter.mp h).1
  have hbA : ¬ (fun q : Nat => s.heap.size ≤ q) b := Nat.not_le.mpr hbl
  intro H locs hI hS ls hl
  obtain ⟨⟨w, c, f, g, kz, hB, hM, hbd, hag⟩, ⟨la, hla⟩, ⟨co, hco⟩⟩ := hI
  have hv : ∀ i, i < 4 → 1 ≤ w i ∧ w i ≤ 8 ∧ c i ≤ 32 := fun i hi => ⟨(hB.2.2.2.1 i hi).2.1, (hB.2.2.2.1 i hi).2.2.1, (hB.2.2.2.1 i hi).2.2.2.1⟩
  have hok : ∀ i, i < 4 → okw (w i) (c i) (f i) := fun i hi => (hB.2.2.2.1 i hi).2.2.2.2.2
  have hokg : ∀ i, i < 4 → okw (w i) (c i) (gw g i) := fun i hi => okw_congr (hok i hi) (hag i hi)
  refine lv_aload_n hx hb d_L_law_385 rfl (lv_at hl 1 rfl) ?_
  refine lv_aload_n hx hb d_L_law_386 rfl (lv_at hl 0 rfl) ?_
  refine lv_iload_n hx hb d_L_law_387 rfl (lv_at hl 3 rfl) ?_
  refine hp_iconst (z := 1) hx hb d_L_law_388 (by rfl) ?_
  refine hp_iadd hx hb d_L_law_389 ?_
  refine hp_sld hx hb hX hbl hbA hS (by omega) (i + 1) (by omega) (by omega) d_L_law_390 ?_
  refine lv_aload_n hx hb d_L_law_391 rfl (lv_at hl 0 rfl) ?_
  refine lv_iload_n hx hb d_L_law_392 rfl (lv_at hl 3 rfl) ?_
  refine hp_iconst (z := 2) hx hb d_L_law_393 (by rfl) ?_
  refine hp_iadd hx hb d_L_law_394 ?_
  refine hp_sld hx hb hX hbl hbA hS (by omega) (i + 2) (by omega) (by omega) d_L_law_395 ?_
  refine hp_if_eq (tgt := 403) hx hb d_L_law_396 (by decide) (iR_of _) (fun c396 => ?_) (fun c396 => ?_)
  · skip
    refine hp_iconst (z := 0) hx hb d_L_law_403 (by rfl) ?_
    refine hp_calli (W.runV (As := [.int (iI (xs (i + 1)).toInt), .int (iI (bI false))]) (rest := []) ⟨hx, hb, hml, hown, hG⟩ (c_B_round l E o w c f (xs (i + 1)).toInt false (iR_of _)) (cwV 2 hG (hp_goodV ml_L_45 im_B_round se_B_round in_B co_B_round) rfl rfl rfl hd_B_round ⟨Nat.le_of_ble_eq_true rfl, Nat.le_of_ble_eq_true rfl⟩) (hp_preV (ci := 2) hp_nsn hK rfl hB.1 hB) rfl rfl hl.1 rfl (lv_room (Nat.le_of_ble_eq_true rfl)) d_L_law_404 ⟨Nat.le_of_ble_eq_true rfl, Nat.le_of_ble_eq_true rfl⟩) hS (fun q h9 => show s.heap.size ≤ q by have h9 : o ≤ q ∧ q ≤ o + 158 := h9; omega) (fun r1 H locs hpB hzB hoB hS => ?_)
    have hM := mG_keep hM (fun q h1 h2 => hoB q (fun h9 => by have h9 : o ≤ q ∧ q ≤ o + 158 := h9; omega))
    have hla := hla.keep (hoB (o + 159 + 14) (fun h9 => by have h9 : o ≤ (o + 159 + 14) ∧ (o + 159 + 14) ≤ o + 158 := h9; omega))
    have hco := hco.keep (hoB (o + 159 + 15) (fun h9 => by have h9 : o ≤ (o + 159 + 15) ∧ (o + 159 + 15) ≤ o + 158 := h9; omega))
    refine lv_aload_n hx hb d_L_law_407 rfl (lv_at hl 2 rfl) ?_
    refine lv_aload_n hx hb d_L_law_408 rfl (lv_at hl 0 rfl) ?_
    refine lv_iload_n hx hb d_L_law_409 rfl (lv_at hl 3 rfl) ?_
    refine hp_iconst (z := 1) hx hb d_L_law_410 (by rfl) ?_
    refine hp_iadd hx hb d_L_law_411 ?_
    refine hp_sld hx hb hX hbl hbA hS (by omega) (i + 1) (by omega) (by omega) d_L_law_412 ?_
    refine lv_aload_n hx hb d_L_law_413 rfl (lv_at hl 0 rfl) ?_
    refine lv_iload_n hx hb d_L_law_414 rfl (lv_at hl 3 rfl) ?_
    refine hp_iconst (z := 2) hx hb d_L_law_415 (by rfl) ?_
    refine hp_iadd hx hb d_L_law_416 ?_
    refine hp_sld hx hb hX hbl hbA hS (by omega) (i + 2) (by omega) (by omega) d_L_law_417 ?_
    refine hp_if_eq (tgt := 425) hx hb d_L_law_418 (by decide) (iR_of _) (fun c418 => ?_) (fun c418 => ?_)
    · skip
      refine hp_iconst (z := 0) hx hb d_L_law_425 (by rfl) ?_
      obtain ⟨th, md, fe, ps, lf, nx, bf, po, ta, en, tu, si, sm, hA, hks⟩ := id hM
      refine hp_calli (W.runV (As := [.int (iI (xs (i + 1)).toInt), .int (iI (bI false))]) (rest := [.int (iI r1)]) ⟨hx, hb, hml, hown, hG⟩ (c_M_round l E (o + 159) th (md : Int) (fe : Int) ps w c g kz (xs (i + 1)).toInt false (iR_of _) hbd hv) (cwV 2 hG (hp_goodV ml_L_49 im_M_round se_M_round in_M co_M_round) rfl rfl rfl hd_M_round ⟨Nat.le_of_ble_eq_true rfl, Nat.le_of_ble_eq_true rfl⟩) (hp_preV (ci := 3) hp_nsn hK rfl hA.1.1 hA.1) rfl rfl hl.1 rfl (lv_room (Nat.le_of_ble_eq_true rfl)) d_L_law_426 ⟨Nat.le_of_ble_eq_true rfl, Nat.le_of_ble_eq_true rfl⟩) hS (fun q h9 => show s.heap.size ≤ q by have h9 : q = o + 159 ∨ q = o + 159 + 1 ∨ q = o + 159 + 2 ∨ q = o + 159 + 3 ∨ q = o + 159 + 10 := h9; omega) (fun r2 H locs hpM hzM hoM hS => ?_)
      have hla := hla.keep (hoM (o + 159 + 14) (fun h9 => by have h9 : (o + 159 + 14) = o + 159 ∨ (o + 159 + 14) = o + 159 + 1 ∨ (o + 159 + 14) = o + 159 + 2 ∨ (o + 159 + 14) = o + 159 + 3 ∨ (o + 159 + 14) = o + 159 + 10 := h9; omega))
      have hco := hco.keep (hoM (o + 159 + 15) (fun h9 => by have h9 : (o + 159 + 15) = o + 159 ∨ (o + 159 + 15) = o + 159 + 1 ∨ (o + 159 + 15) = o + 159 + 2 ∨ (o + 159 + 15) = o + 159 + 3 ∨ (o + 159 + 15) = o + 159 + 10 := h9; omega))
      obtain ⟨heq, hLS⟩ := lx_round hv hA hks hbd hag hoM hpB hpM
      refine lv_icmp_eq (tgt := 698) hx hb d_L_law_429 (by decide) (fun _ => kk H locs ⟨hLS, ⟨_, hla⟩, ⟨_, hco⟩⟩ hS ls hl) (fun c9 => absurd (congrArg iI heq) c9)
    · skip
      exact absurd c396 c418
  · skip
    refine hp_iconst (z := 1) hx hb d_L_law_399 (by rfl) ?_
    refine lv_goto (tgt := 404) hx hb d_L_law_400 (by decide) ?_
    refine hp_calli (W.runV (As := [.int (iI (xs (i + 1)).toInt), .int (iI (bI true))]) (rest := []) ⟨hx, hb, hml, hown, hG⟩ (c_B_round l E o w c f (xs (i + 1)).toInt true (iR_of _)) (cwV 2 hG (hp_goodV ml_L_45 im_B_round se_B_round in_B co_B_round) rfl rfl rfl hd_B_round ⟨Nat.le_of_ble_eq_true rfl, Nat.le_of_ble_eq_true rfl⟩) (hp_preV (ci := 2) hp_nsn hK rfl hB.1 hB) rfl rfl hl.1 rfl (lv_room (Nat.le_of_ble_eq_true rfl)) d_L_law_404 ⟨Nat.le_of_ble_eq_true rfl, Nat.le_of_ble_eq_true rfl⟩) hS (fun q h9 => show s.heap.size ≤ q by have h9 : o ≤ q ∧ q ≤ o + 158 := h9; omega) (fun r1 H locs hpB hzB hoB hS => ?_)
    have hM := mG_keep hM (fun q h1 h2 => hoB q (fun h9 => by have h9 : o ≤ q ∧ q ≤ o + 158 := h9; omega))
    have hla := hla.keep (hoB (o + 159 + 14) (fun h9 => by have h9 : o ≤ (o + 159 + 14) ∧ (o + 159 + 14) ≤ o + 158 := h9; omega))
    have hco := hco.keep (hoB (o + 159 + 15) (fun h9 => by have h9 : o ≤ (o + 159 + 15) ∧ (o + 159 + 15) ≤ o + 158 := h9; omega))
    refine lv_aload_n hx hb d_L_law_407 rfl (lv_at hl 2 rfl) ?_
    refine lv_aload_n hx hb d_L_law_408 rfl (lv_at hl 0 rfl) ?_
    refine lv_iload_n hx hb d_L_law_409 rfl (lv_at hl 3 rfl) ?_
    refine hp_iconst (z := 1) hx hb d_L_law_410 (by rfl) ?_
    refine hp_iadd hx hb d_L_law_411 ?_
    refine hp_sld hx hb hX hbl hbA hS (by omega) (i + 1) (by omega) (by omega) d_L_law_412 ?_
    refine lv_aload_n hx hb d_L_law_413 rfl (lv_at hl 0 rfl) ?_
    refine lv_iload_n hx hb d_L_law_414 rfl (lv_at hl 3 rfl) ?_
    refine hp_iconst (z := 2) hx hb d_L_law_415 (by rfl) ?_
    refine hp_iadd hx hb d_L_law_416 ?_
    refine hp_sld hx hb hX hbl hbA hS (by omega) (i + 2) (by omega) (by omega) d_L_law_417 ?_
    refine hp_if_eq (tgt := 425) hx hb d_L_law_418 (by decide) (iR_of _) (fun c418 => ?_) (fun c418 => ?_)
    · skip
      exact absurd c418 c396
    · skip
      refine hp_iconst (z := 1) hx hb d_L_law_421 (by rfl) ?_
      refine lv_goto (tgt := 426) hx hb d_L_law_422 (by decide) ?_
      obtain ⟨th, md, fe, ps, lf, nx, bf, po, ta, en, tu, si, sm, hA, hks⟩ := id hM
      refine hp_calli (W.runV (As := [.int (iI (xs (i + 1)).toInt), .int (iI (bI true))]) (rest := [.int (iI r1)]) ⟨hx, hb, hml, hown, hG⟩ (c_M_round l E (o + 159) th (md : Int) (fe : Int) ps w c g kz (xs (i + 1)).toInt true (iR_of _) hbd hv) (cwV 2 hG (hp_goodV ml_L_49 im_M_round se_M_round in_M co_M_round) rfl rfl rfl hd_M_round ⟨Nat.le_of_ble_eq_true rfl, Nat.le_of_ble_eq_true rfl⟩) (hp_preV (ci := 3) hp_nsn hK rfl hA.1.1 hA.1) rfl rfl hl.1 rfl (lv_room (Nat.le_of_ble_eq_true rfl)) d_L_law_426 ⟨Nat.le_of_ble_eq_true rfl, Nat.le_of_ble_eq_true rfl⟩) hS (fun q h9 => show s.heap.size ≤ q by have h9 : q = o + 159 ∨ q = o + 159 + 1 ∨ q = o + 159 + 2 ∨ q = o + 159 + 3 ∨ q = o + 159 + 10 := h9; omega) (fun r2 H locs hpM hzM hoM hS => ?_)
      have hla := hla.keep (hoM (o + 159 + 14) (fun h9 => by have h9 : (o + 159 + 14) = o + 159 ∨ (o + 159 + 14) = o + 159 + 1 ∨ (o + 159 + 14) = o + 159 + 2 ∨ (o + 159 + 14) = o + 159 + 3 ∨ (o + 159 + 14) = o + 159 + 10 := h9; omega))
      have hco := hco.keep (hoM (o + 159 + 15) (fun h9 => by have h9 : (o + 159 + 15) = o + 159 ∨ (o + 159 + 15) = o + 159 + 1 ∨ (o + 159 + 15) = o + 159 + 2 ∨ (o + 159 + 15) = o + 159 + 3 ∨ (o + 159 + 15) = o + 159 + 10 := h9; omega))
      obtain ⟨heq, hLS⟩ := lx_round hv hA hks hbd hag hoM hpB hpM
      refine lv_icmp_eq (tgt := 698) hx hb d_L_law_429 (by decide) (fun _ => kk H locs ⟨hLS, ⟨_, hla⟩, ⟨_, hco⟩⟩ hS ls hl) (fun c9 => absurd (congrArg iI heq) c9)

set_option maxHeartbeats 4000000 in
set_option maxRecDepth 100000 in
theorem lw_case_8 {p : Program} {l : Launch} {e : Env} {s : State} {m : MethodId} {below : List Frame} {meth : Method} {cd : Code} {b L : Nat} {xs : Nat → Int32} {E : hp_E} {o i : Nat} (hL : L ≤ 2048) (C0 : lw_At p s m meth cd b L xs) (hK : hp_K E s) (ho : s.heap.size ≤ o) (hi : i + 4 ≤ L) (kk : ∀ (H : Heap) (locs : List Loc), lwI E H o → va_S (fun q : Nat => s.heap.size ≤ q) s.heap H locs → ∀ ls : Array Slot, lv_has ls 4 [(0, .ref b), (1, .ref o), (2, .ref (o + 159)), (3, .int (iI (i : Int)))] → W p l e room_1 s m #[Value.ref b] below meth cd H locs 175 32960 (lw_Z below #[Value.ref b] s) (F0 m 698 ls [])) : ∀ (H : Heap) (locs : List Loc), lwI E H o → va_S (fun q : Nat => s.heap.size ≤ q) s.heap H locs → ∀ ls : Array Slot, lv_has ls 4 [(0, .ref b), (1, .ref o), (2, .ref (o + 159)), (3, .int (iI (i : Int)))] → W p l e room_1 s m #[Value.ref b] below meth cd H locs 175 32960 (lw_Z below #[Value.ref b] s) (F0 m 434 ls []) := by
  obtain ⟨hx, hb, hr, hml, hown, hts, hX, hbl, hlocks, hgv⟩ := id C0
  have hown : s.vm.findClass R_L = some m.cls := hown
  have hG : ∀ w ∈ G0, w.before #[Value.ref b] s = true := fun w h => hts w (List.mem_filter.mp h).1
  have hbA : ¬ (fun q : Nat => s.heap.size ≤ q) b := Nat.not_le.mpr hbl
  intro H locs hI hS ls hl
  obtain ⟨⟨w, c, f, g, kz, hB, hM, hbd, hag⟩, ⟨la, hla⟩, ⟨co, hco⟩⟩ := hI
  have hv : ∀ i, i < 4 → 1 ≤ w i ∧ w i ≤ 8 ∧ c i ≤ 32 := fun i hi => ⟨(hB.2.2.2.1 i hi).2.1, (hB.2.2.2.1 i hi).2.2.1, (hB.2.2.2.1 i hi).2.2.2.1⟩
  have hok : ∀ i, i < 4 → okw (w i) (c i) (f i) := fun i hi => (hB.2.2.2.1 i hi).2.2.2.2.2
  have hokg : ∀ i, i < 4 → okw (w i) (c i) (gw g i) := fun i hi => okw_congr (hok i hi) (hag i hi)
  refine lv_aload_n hx hb d_L_law_434 rfl (lv_at hl 1 rfl) ?_
  refine lv_aload_n hx hb d_L_law_435 rfl (lv_at hl 0 rfl) ?_
  refine lv_iload_n hx hb d_L_law_436 rfl (lv_at hl 3 rfl) ?_
  refine hp_iconst (z := 1) hx hb d_L_law_437 (by rfl) ?_
  refine hp_iadd hx hb d_L_law_438 ?_
  refine hp_sld hx hb hX hbl hbA hS (by omega) (i + 1) (by omega) (by omega) d_L_law_439 ?_
  refine lv_aload_n hx hb d_L_law_440 rfl (lv_at hl 0 rfl) ?_
  refine lv_iload_n hx hb d_L_law_441 rfl (lv_at hl 3 rfl) ?_
  refine hp_iconst (z := 2) hx hb d_L_law_442 (by rfl) ?_
  refine hp_iadd hx hb d_L_law_443 ?_
  refine hp_sld hx hb hX hbl hbA hS (by omega) (i + 2) (by omega) (by omega) d_L_law_444 ?_
  refine hp_calli (W.runV (As := [.int (iI (xs (i + 1)).toInt), .int (iI (xs (i + 2)).toInt)]) (rest := []) ⟨hx, hb, hml, hown, hG⟩ (c_B_exchange l E o w c f (xs (i + 1)).toInt (xs (i + 2)).toInt (iR_of _) (iR_of _)) (cwV 2 hG (hp_goodV ml_L_50 im_B_exchange se_B_exchange in_B co_B_exchange) rfl rfl rfl hd_B_exchange ⟨Nat.le_of_ble_eq_true rfl, Nat.le_of_ble_eq_true rfl⟩) (hp_preV (ci := 2) hp_nsn hK rfl hB.1 hB) rfl rfl hl.1 rfl (lv_room (Nat.le_of_ble_eq_true rfl)) d_L_law_445 ⟨Nat.le_of_ble_eq_true rfl, Nat.le_of_ble_eq_true rfl⟩) hS (fun q h9 => show s.heap.size ≤ q by have h9 : o ≤ q ∧ q ≤ o + 158 := h9; omega) (fun r1 H locs hpB hzB hoB hS => ?_)
  have hM := mG_keep hM (fun q h1 h2 => hoB q (fun h9 => by have h9 : o ≤ q ∧ q ≤ o + 158 := h9; omega))
  have hla := hla.keep (hoB (o + 159 + 14) (fun h9 => by have h9 : o ≤ (o + 159 + 14) ∧ (o + 159 + 14) ≤ o + 158 := h9; omega))
  have hco := hco.keep (hoB (o + 159 + 15) (fun h9 => by have h9 : o ≤ (o + 159 + 15) ∧ (o + 159 + 15) ≤ o + 158 := h9; omega))
  refine lv_aload_n hx hb d_L_law_448 rfl (lv_at hl 2 rfl) ?_
  refine lv_aload_n hx hb d_L_law_449 rfl (lv_at hl 0 rfl) ?_
  refine lv_iload_n hx hb d_L_law_450 rfl (lv_at hl 3 rfl) ?_
  refine hp_iconst (z := 1) hx hb d_L_law_451 (by rfl) ?_
  refine hp_iadd hx hb d_L_law_452 ?_
  refine hp_sld hx hb hX hbl hbA hS (by omega) (i + 1) (by omega) (by omega) d_L_law_453 ?_
  refine lv_aload_n hx hb d_L_law_454 rfl (lv_at hl 0 rfl) ?_
  refine lv_iload_n hx hb d_L_law_455 rfl (lv_at hl 3 rfl) ?_
  refine hp_iconst (z := 2) hx hb d_L_law_456 (by rfl) ?_
  refine hp_iadd hx hb d_L_law_457 ?_
  refine hp_sld hx hb hX hbl hbA hS (by omega) (i + 2) (by omega) (by omega) d_L_law_458 ?_
  obtain ⟨th, md, fe, ps, lf, nx, bf, po, ta, en, tu, si, sm, hA, hks⟩ := id hM
  refine hp_calli (W.runV (As := [.int (iI (xs (i + 1)).toInt), .int (iI (xs (i + 2)).toInt)]) (rest := [.int (iI r1)]) ⟨hx, hb, hml, hown, hG⟩ (c_M_exchange l E (o + 159) th (md : Int) (fe : Int) ps w c g kz (xs (i + 1)).toInt (xs (i + 2)).toInt (iR_of _) (iR_of _) hbd hv) (cwV 2 hG (hp_goodV ml_L_53 im_M_exchange se_M_exchange in_M co_M_exchange) rfl rfl rfl hd_M_exchange ⟨Nat.le_of_ble_eq_true rfl, Nat.le_of_ble_eq_true rfl⟩) (hp_preV (ci := 3) hp_nsn hK rfl hA.1.1 hA.1) rfl rfl hl.1 rfl (lv_room (Nat.le_of_ble_eq_true rfl)) d_L_law_459 ⟨Nat.le_of_ble_eq_true rfl, Nat.le_of_ble_eq_true rfl⟩) hS (fun q h9 => show s.heap.size ≤ q by have h9 : q = o + 159 ∨ q = o + 159 + 1 ∨ q = o + 159 + 2 ∨ q = o + 159 + 3 ∨ q = o + 159 + 10 := h9; omega) (fun r2 H locs hpM hzM hoM hS => ?_)
  have hla := hla.keep (hoM (o + 159 + 14) (fun h9 => by have h9 : (o + 159 + 14) = o + 159 ∨ (o + 159 + 14) = o + 159 + 1 ∨ (o + 159 + 14) = o + 159 + 2 ∨ (o + 159 + 14) = o + 159 + 3 ∨ (o + 159 + 14) = o + 159 + 10 := h9; omega))
  have hco := hco.keep (hoM (o + 159 + 15) (fun h9 => by have h9 : (o + 159 + 15) = o + 159 ∨ (o + 159 + 15) = o + 159 + 1 ∨ (o + 159 + 15) = o + 159 + 2 ∨ (o + 159 + 15) = o + 159 + 3 ∨ (o + 159 + 15) = o + 159 + 10 := h9; omega))
  obtain ⟨heq, hLS⟩ := lx_exchange hv hA hks hbd hag hoM hpB hpM
  refine lv_icmp_eq (tgt := 698) hx hb d_L_law_462 (by decide) (fun _ => kk H locs ⟨hLS, ⟨_, hla⟩, ⟨_, hco⟩⟩ hS ls hl) (fun c9 => absurd (congrArg iI heq) c9)

set_option maxHeartbeats 4000000 in
set_option maxRecDepth 100000 in
theorem lw_case_9 {p : Program} {l : Launch} {e : Env} {s : State} {m : MethodId} {below : List Frame} {meth : Method} {cd : Code} {b L : Nat} {xs : Nat → Int32} {E : hp_E} {o i : Nat} (hL : L ≤ 2048) (C0 : lw_At p s m meth cd b L xs) (hK : hp_K E s) (ho : s.heap.size ≤ o) (hi : i + 4 ≤ L) (kk : ∀ (H : Heap) (locs : List Loc), lwI E H o → va_S (fun q : Nat => s.heap.size ≤ q) s.heap H locs → ∀ ls : Array Slot, lv_has ls 4 [(0, .ref b), (1, .ref o), (2, .ref (o + 159)), (3, .int (iI (i : Int)))] → W p l e room_1 s m #[Value.ref b] below meth cd H locs 175 32960 (lw_Z below #[Value.ref b] s) (F0 m 698 ls [])) : ∀ (H : Heap) (locs : List Loc), lwI E H o → va_S (fun q : Nat => s.heap.size ≤ q) s.heap H locs → ∀ ls : Array Slot, lv_has ls 4 [(0, .ref b), (1, .ref o), (2, .ref (o + 159)), (3, .int (iI (i : Int)))] → W p l e room_1 s m #[Value.ref b] below meth cd H locs 175 32960 (lw_Z below #[Value.ref b] s) (F0 m 467 ls []) := by
  obtain ⟨hx, hb, hr, hml, hown, hts, hX, hbl, hlocks, hgv⟩ := id C0
  have hown : s.vm.findClass R_L = some m.cls := hown
  have hG : ∀ w ∈ G0, w.before #[Value.ref b] s = true := fun w h => hts w (List.mem_filter.mp h).1
  have hbA : ¬ (fun q : Nat => s.heap.size ≤ q) b := Nat.not_le.mpr hbl
  intro H locs hI hS ls hl
  obtain ⟨⟨w, c, f, g, kz, hB, hM, hbd, hag⟩, ⟨la, hla⟩, ⟨co, hco⟩⟩ := hI
  have hv : ∀ i, i < 4 → 1 ≤ w i ∧ w i ≤ 8 ∧ c i ≤ 32 := fun i hi => ⟨(hB.2.2.2.1 i hi).2.1, (hB.2.2.2.1 i hi).2.2.1, (hB.2.2.2.1 i hi).2.2.2.1⟩
  have hok : ∀ i, i < 4 → okw (w i) (c i) (f i) := fun i hi => (hB.2.2.2.1 i hi).2.2.2.2.2
  have hokg : ∀ i, i < 4 → okw (w i) (c i) (gw g i) := fun i hi => okw_congr (hok i hi) (hag i hi)
  refine lv_aload_n hx hb d_L_law_467 rfl (lv_at hl 1 rfl) ?_
  refine lv_aload_n hx hb d_L_law_468 rfl (lv_at hl 0 rfl) ?_
  refine lv_iload_n hx hb d_L_law_469 rfl (lv_at hl 3 rfl) ?_
  refine hp_iconst (z := 1) hx hb d_L_law_470 (by rfl) ?_
  refine hp_iadd hx hb d_L_law_471 ?_
  refine hp_sld hx hb hX hbl hbA hS (by omega) (i + 1) (by omega) (by omega) d_L_law_472 ?_
  refine lv_aload_n hx hb d_L_law_473 rfl (lv_at hl 0 rfl) ?_
  refine lv_iload_n hx hb d_L_law_474 rfl (lv_at hl 3 rfl) ?_
  refine hp_iconst (z := 2) hx hb d_L_law_475 (by rfl) ?_
  refine hp_iadd hx hb d_L_law_476 ?_
  refine hp_sld hx hb hX hbl hbA hS (by omega) (i + 2) (by omega) (by omega) d_L_law_477 ?_
  refine hp_calli (W.runV (As := [.int (iI (xs (i + 1)).toInt), .int (iI (xs (i + 2)).toInt)]) (rest := []) ⟨hx, hb, hml, hown, hG⟩ (c_B_pass l E o w c f (xs (i + 1)).toInt (xs (i + 2)).toInt (iR_of _) (iR_of _)) (cwV 2 hG (hp_goodV ml_L_54 im_B_pass se_B_pass in_B co_B_pass) rfl rfl rfl hd_B_pass ⟨Nat.le_of_ble_eq_true rfl, Nat.le_of_ble_eq_true rfl⟩) (hp_preV (ci := 2) hp_nsn hK rfl hB.1 hB) rfl rfl hl.1 rfl (lv_room (Nat.le_of_ble_eq_true rfl)) d_L_law_478 ⟨Nat.le_of_ble_eq_true rfl, Nat.le_of_ble_eq_true rfl⟩) hS (fun q h9 => show s.heap.size ≤ q by have h9 : o ≤ q ∧ q ≤ o + 158 := h9; omega) (fun r1 H locs hpB hzB hoB hS => ?_)
  have hM := mG_keep hM (fun q h1 h2 => hoB q (fun h9 => by have h9 : o ≤ q ∧ q ≤ o + 158 := h9; omega))
  have hla := hla.keep (hoB (o + 159 + 14) (fun h9 => by have h9 : o ≤ (o + 159 + 14) ∧ (o + 159 + 14) ≤ o + 158 := h9; omega))
  have hco := hco.keep (hoB (o + 159 + 15) (fun h9 => by have h9 : o ≤ (o + 159 + 15) ∧ (o + 159 + 15) ≤ o + 158 := h9; omega))
  refine lv_aload_n hx hb d_L_law_481 rfl (lv_at hl 2 rfl) ?_
  refine lv_aload_n hx hb d_L_law_482 rfl (lv_at hl 0 rfl) ?_
  refine lv_iload_n hx hb d_L_law_483 rfl (lv_at hl 3 rfl) ?_
  refine hp_iconst (z := 1) hx hb d_L_law_484 (by rfl) ?_
  refine hp_iadd hx hb d_L_law_485 ?_
  refine hp_sld hx hb hX hbl hbA hS (by omega) (i + 1) (by omega) (by omega) d_L_law_486 ?_
  refine lv_aload_n hx hb d_L_law_487 rfl (lv_at hl 0 rfl) ?_
  refine lv_iload_n hx hb d_L_law_488 rfl (lv_at hl 3 rfl) ?_
  refine hp_iconst (z := 2) hx hb d_L_law_489 (by rfl) ?_
  refine hp_iadd hx hb d_L_law_490 ?_
  refine hp_sld hx hb hX hbl hbA hS (by omega) (i + 2) (by omega) (by omega) d_L_law_491 ?_
  obtain ⟨th, md, fe, ps, lf, nx, bf, po, ta, en, tu, si, sm, hA, hks⟩ := id hM
  refine hp_calli (W.runV (As := [.int (iI (xs (i + 1)).toInt), .int (iI (xs (i + 2)).toInt)]) (rest := [.int (iI r1)]) ⟨hx, hb, hml, hown, hG⟩ (c_M_pass l E (o + 159) th (md : Int) (fe : Int) ps w c g kz (xs (i + 1)).toInt (xs (i + 2)).toInt (iR_of _) (iR_of _) hbd hv hokg) (cwV 2 hG (hp_goodV ml_L_57 im_M_pass se_M_pass in_M co_M_pass) rfl rfl rfl hd_M_pass ⟨Nat.le_of_ble_eq_true rfl, Nat.le_of_ble_eq_true rfl⟩) (hp_preV (ci := 3) hp_nsn hK rfl hA.1.1 hA.1) rfl rfl hl.1 rfl (lv_room (Nat.le_of_ble_eq_true rfl)) d_L_law_492 ⟨Nat.le_of_ble_eq_true rfl, Nat.le_of_ble_eq_true rfl⟩) hS (fun q h9 => show s.heap.size ≤ q by have h9 : q = o + 159 ∨ q = o + 159 + 1 ∨ q = o + 159 + 2 ∨ q = o + 159 + 3 ∨ q = o + 159 + 10 := h9; omega) (fun r2 H locs hpM hzM hoM hS => ?_)
  have hla := hla.keep (hoM (o + 159 + 14) (fun h9 => by have h9 : (o + 159 + 14) = o + 159 ∨ (o + 159 + 14) = o + 159 + 1 ∨ (o + 159 + 14) = o + 159 + 2 ∨ (o + 159 + 14) = o + 159 + 3 ∨ (o + 159 + 14) = o + 159 + 10 := h9; omega))
  have hco := hco.keep (hoM (o + 159 + 15) (fun h9 => by have h9 : (o + 159 + 15) = o + 159 ∨ (o + 159 + 15) = o + 159 + 1 ∨ (o + 159 + 15) = o + 159 + 2 ∨ (o + 159 + 15) = o + 159 + 3 ∨ (o + 159 + 15) = o + 159 + 10 := h9; omega))
  obtain ⟨heq, hLS⟩ := lx_pass hv hA hks hbd hag hoM hpB hpM
  refine lv_icmp_eq (tgt := 698) hx hb d_L_law_495 (by decide) (fun _ => kk H locs ⟨hLS, ⟨_, hla⟩, ⟨_, hco⟩⟩ hS ls hl) (fun c9 => absurd (congrArg iI heq) c9)

set_option maxHeartbeats 4000000 in
set_option maxRecDepth 100000 in
theorem lw_case_10 {p : Program} {l : Launch} {e : Env} {s : State} {m : MethodId} {below : List Frame} {meth : Method} {cd : Code} {b L : Nat} {xs : Nat → Int32} {E : hp_E} {o i : Nat} (hL : L ≤ 2048) (C0 : lw_At p s m meth cd b L xs) (hK : hp_K E s) (ho : s.heap.size ≤ o) (hi : i + 4 ≤ L) (kk : ∀ (H : Heap) (locs : List Loc), lwI E H o → va_S (fun q : Nat => s.heap.size ≤ q) s.heap H locs → ∀ ls : Array Slot, lv_has ls 4 [(0, .ref b), (1, .ref o), (2, .ref (o + 159)), (3, .int (iI (i : Int)))] → W p l e room_1 s m #[Value.ref b] below meth cd H locs 175 32960 (lw_Z below #[Value.ref b] s) (F0 m 698 ls [])) : ∀ (H : Heap) (locs : List Loc), lwI E H o → va_S (fun q : Nat => s.heap.size ≤ q) s.heap H locs → ∀ ls : Array Slot, lv_has ls 4 [(0, .ref b), (1, .ref o), (2, .ref (o + 159)), (3, .int (iI (i : Int)))] → W p l e room_1 s m #[Value.ref b] below meth cd H locs 175 32960 (lw_Z below #[Value.ref b] s) (F0 m 500 ls []) := by
  obtain ⟨hx, hb, hr, hml, hown, hts, hX, hbl, hlocks, hgv⟩ := id C0
  have hown : s.vm.findClass R_L = some m.cls := hown
  have hG : ∀ w ∈ G0, w.before #[Value.ref b] s = true := fun w h => hts w (List.mem_filter.mp h).1
  have hbA : ¬ (fun q : Nat => s.heap.size ≤ q) b := Nat.not_le.mpr hbl
  intro H locs hI hS ls hl
  obtain ⟨⟨w, c, f, g, kz, hB, hM, hbd, hag⟩, ⟨la, hla⟩, ⟨co, hco⟩⟩ := hI
  have hv : ∀ i, i < 4 → 1 ≤ w i ∧ w i ≤ 8 ∧ c i ≤ 32 := fun i hi => ⟨(hB.2.2.2.1 i hi).2.1, (hB.2.2.2.1 i hi).2.2.1, (hB.2.2.2.1 i hi).2.2.2.1⟩
  have hok : ∀ i, i < 4 → okw (w i) (c i) (f i) := fun i hi => (hB.2.2.2.1 i hi).2.2.2.2.2
  have hokg : ∀ i, i < 4 → okw (w i) (c i) (gw g i) := fun i hi => okw_congr (hok i hi) (hag i hi)
  refine lv_aload_n hx hb d_L_law_500 rfl (lv_at hl 1 rfl) ?_
  refine lv_aload_n hx hb d_L_law_501 rfl (lv_at hl 0 rfl) ?_
  refine lv_iload_n hx hb d_L_law_502 rfl (lv_at hl 3 rfl) ?_
  refine hp_iconst (z := 1) hx hb d_L_law_503 (by rfl) ?_
  refine hp_iadd hx hb d_L_law_504 ?_
  refine hp_sld hx hb hX hbl hbA hS (by omega) (i + 1) (by omega) (by omega) d_L_law_505 ?_
  refine lv_aload_n hx hb d_L_law_506 rfl (lv_at hl 0 rfl) ?_
  refine lv_iload_n hx hb d_L_law_507 rfl (lv_at hl 3 rfl) ?_
  refine hp_iconst (z := 2) hx hb d_L_law_508 (by rfl) ?_
  refine hp_iadd hx hb d_L_law_509 ?_
  refine hp_sld hx hb hX hbl hbA hS (by omega) (i + 2) (by omega) (by omega) d_L_law_510 ?_
  refine hp_calli (W.runV (As := [.int (iI (xs (i + 1)).toInt), .int (iI (xs (i + 2)).toInt)]) (rest := []) ⟨hx, hb, hml, hown, hG⟩ (c_B_grow l E o w c f (xs (i + 1)).toInt (xs (i + 2)).toInt (iR_of _) (iR_of _)) (cwV 2 hG (hp_goodV ml_L_58 im_B_grow se_B_grow in_B co_B_grow) rfl rfl rfl hd_B_grow ⟨Nat.le_of_ble_eq_true rfl, Nat.le_of_ble_eq_true rfl⟩) (hp_preV (ci := 2) hp_nsn hK rfl hB.1 hB) rfl rfl hl.1 rfl (lv_room (Nat.le_of_ble_eq_true rfl)) d_L_law_511 ⟨Nat.le_of_ble_eq_true rfl, Nat.le_of_ble_eq_true rfl⟩) hS (fun q h9 => show s.heap.size ≤ q by have h9 : o ≤ q ∧ q ≤ o + 158 := h9; omega) (fun r1 H locs hpB hzB hoB hS => ?_)
  have hM := mG_keep hM (fun q h1 h2 => hoB q (fun h9 => by have h9 : o ≤ q ∧ q ≤ o + 158 := h9; omega))
  have hla := hla.keep (hoB (o + 159 + 14) (fun h9 => by have h9 : o ≤ (o + 159 + 14) ∧ (o + 159 + 14) ≤ o + 158 := h9; omega))
  have hco := hco.keep (hoB (o + 159 + 15) (fun h9 => by have h9 : o ≤ (o + 159 + 15) ∧ (o + 159 + 15) ≤ o + 158 := h9; omega))
  refine lv_aload_n hx hb d_L_law_514 rfl (lv_at hl 2 rfl) ?_
  refine lv_aload_n hx hb d_L_law_515 rfl (lv_at hl 0 rfl) ?_
  refine lv_iload_n hx hb d_L_law_516 rfl (lv_at hl 3 rfl) ?_
  refine hp_iconst (z := 1) hx hb d_L_law_517 (by rfl) ?_
  refine hp_iadd hx hb d_L_law_518 ?_
  refine hp_sld hx hb hX hbl hbA hS (by omega) (i + 1) (by omega) (by omega) d_L_law_519 ?_
  refine lv_aload_n hx hb d_L_law_520 rfl (lv_at hl 0 rfl) ?_
  refine lv_iload_n hx hb d_L_law_521 rfl (lv_at hl 3 rfl) ?_
  refine hp_iconst (z := 2) hx hb d_L_law_522 (by rfl) ?_
  refine hp_iadd hx hb d_L_law_523 ?_
  refine hp_sld hx hb hX hbl hbA hS (by omega) (i + 2) (by omega) (by omega) d_L_law_524 ?_
  obtain ⟨th, md, fe, ps, lf, nx, bf, po, ta, en, tu, si, sm, hA, hks⟩ := id hM
  refine hp_calli (W.runV (As := [.int (iI (xs (i + 1)).toInt), .int (iI (xs (i + 2)).toInt)]) (rest := [.int (iI r1)]) ⟨hx, hb, hml, hown, hG⟩ (c_M_grow l E (o + 159) th (md : Int) (fe : Int) ps w c g kz (xs (i + 1)).toInt (xs (i + 2)).toInt (iR_of _) (iR_of _) hv) (cwV 2 hG (hp_goodV ml_L_61 im_M_grow se_M_grow in_M co_M_grow) rfl rfl rfl hd_M_grow ⟨Nat.le_of_ble_eq_true rfl, Nat.le_of_ble_eq_true rfl⟩) (hp_preV (ci := 3) hp_nsn hK rfl hA.1.1 hA.1) rfl rfl hl.1 rfl (lv_room (Nat.le_of_ble_eq_true rfl)) d_L_law_525 ⟨Nat.le_of_ble_eq_true rfl, Nat.le_of_ble_eq_true rfl⟩) hS (fun q h9 => show s.heap.size ≤ q by have h9 : q = o + 159 ∨ q = o + 159 + 1 ∨ q = o + 159 + 2 ∨ q = o + 159 + 3 ∨ q = o + 159 + 10 := h9; omega) (fun r2 H locs hpM hzM hoM hS => ?_)
  have hla := hla.keep (hoM (o + 159 + 14) (fun h9 => by have h9 : (o + 159 + 14) = o + 159 ∨ (o + 159 + 14) = o + 159 + 1 ∨ (o + 159 + 14) = o + 159 + 2 ∨ (o + 159 + 14) = o + 159 + 3 ∨ (o + 159 + 14) = o + 159 + 10 := h9; omega))
  have hco := hco.keep (hoM (o + 159 + 15) (fun h9 => by have h9 : (o + 159 + 15) = o + 159 ∨ (o + 159 + 15) = o + 159 + 1 ∨ (o + 159 + 15) = o + 159 + 2 ∨ (o + 159 + 15) = o + 159 + 3 ∨ (o + 159 + 15) = o + 159 + 10 := h9; omega))
  obtain ⟨heq, hLS⟩ := lx_grow hv hA hks hbd hag hoM hpB hpM
  refine lv_icmp_eq (tgt := 698) hx hb d_L_law_528 (by decide) (fun _ => kk H locs ⟨hLS, ⟨_, hla⟩, ⟨_, hco⟩⟩ hS ls hl) (fun c9 => absurd (congrArg iI heq) c9)

set_option maxHeartbeats 4000000 in
set_option maxRecDepth 100000 in
theorem lw_case_11 {p : Program} {l : Launch} {e : Env} {s : State} {m : MethodId} {below : List Frame} {meth : Method} {cd : Code} {b L : Nat} {xs : Nat → Int32} {E : hp_E} {o i : Nat} (hL : L ≤ 2048) (C0 : lw_At p s m meth cd b L xs) (hK : hp_K E s) (ho : s.heap.size ≤ o) (hi : i + 4 ≤ L) (kk : ∀ (H : Heap) (locs : List Loc), lwI E H o → va_S (fun q : Nat => s.heap.size ≤ q) s.heap H locs → ∀ ls : Array Slot, lv_has ls 4 [(0, .ref b), (1, .ref o), (2, .ref (o + 159)), (3, .int (iI (i : Int)))] → W p l e room_1 s m #[Value.ref b] below meth cd H locs 175 32960 (lw_Z below #[Value.ref b] s) (F0 m 698 ls [])) : ∀ (H : Heap) (locs : List Loc), lwI E H o → va_S (fun q : Nat => s.heap.size ≤ q) s.heap H locs → ∀ ls : Array Slot, lv_has ls 4 [(0, .ref b), (1, .ref o), (2, .ref (o + 159)), (3, .int (iI (i : Int)))] → W p l e room_1 s m #[Value.ref b] below meth cd H locs 175 32960 (lw_Z below #[Value.ref b] s) (F0 m 533 ls []) := by
  obtain ⟨hx, hb, hr, hml, hown, hts, hX, hbl, hlocks, hgv⟩ := id C0
  have hown : s.vm.findClass R_L = some m.cls := hown
  have hG : ∀ w ∈ G0, w.before #[Value.ref b] s = true := fun w h => hts w (List.mem_filter.mp h).1
  have hbA : ¬ (fun q : Nat => s.heap.size ≤ q) b := Nat.not_le.mpr hbl
  intro H locs hI hS ls hl
  obtain ⟨⟨w, c, f, g, kz, hB, hM, hbd, hag⟩, ⟨la, hla⟩, ⟨co, hco⟩⟩ := hI
  have hv : ∀ i, i < 4 → 1 ≤ w i ∧ w i ≤ 8 ∧ c i ≤ 32 := fun i hi => ⟨(hB.2.2.2.1 i hi).2.1, (hB.2.2.2.1 i hi).2.2.1, (hB.2.2.2.1 i hi).2.2.2.1⟩
  have hok : ∀ i, i < 4 → okw (w i) (c i) (f i) := fun i hi => (hB.2.2.2.1 i hi).2.2.2.2.2
  have hokg : ∀ i, i < 4 → okw (w i) (c i) (gw g i) := fun i hi => okw_congr (hok i hi) (hag i hi)
  refine lv_aload_n hx hb d_L_law_533 rfl (lv_at hl 1 rfl) ?_
  refine lv_aload_n hx hb d_L_law_534 rfl (lv_at hl 0 rfl) ?_
  refine lv_iload_n hx hb d_L_law_535 rfl (lv_at hl 3 rfl) ?_
  refine hp_iconst (z := 1) hx hb d_L_law_536 (by rfl) ?_
  refine hp_iadd hx hb d_L_law_537 ?_
  refine hp_sld hx hb hX hbl hbA hS (by omega) (i + 1) (by omega) (by omega) d_L_law_538 ?_
  refine hp_calli (W.runV (As := [.int (iI (xs (i + 1)).toInt)]) (rest := []) ⟨hx, hb, hml, hown, hG⟩ (c_B_shrink l E o w c f (xs (i + 1)).toInt (iR_of _)) (cwV 1 hG (hp_goodV ml_L_62 im_B_shrink se_B_shrink in_B co_B_shrink) rfl rfl rfl hd_B_shrink ⟨Nat.le_of_ble_eq_true rfl, Nat.le_of_ble_eq_true rfl⟩) (hp_preV (ci := 2) hp_nsn hK rfl hB.1 hB) rfl rfl hl.1 rfl (lv_room (Nat.le_of_ble_eq_true rfl)) d_L_law_539 ⟨Nat.le_of_ble_eq_true rfl, Nat.le_of_ble_eq_true rfl⟩) hS (fun q h9 => show s.heap.size ≤ q by have h9 : o ≤ q ∧ q ≤ o + 158 := h9; omega) (fun r1 H locs hpB hzB hoB hS => ?_)
  have hM := mG_keep hM (fun q h1 h2 => hoB q (fun h9 => by have h9 : o ≤ q ∧ q ≤ o + 158 := h9; omega))
  have hla := hla.keep (hoB (o + 159 + 14) (fun h9 => by have h9 : o ≤ (o + 159 + 14) ∧ (o + 159 + 14) ≤ o + 158 := h9; omega))
  have hco := hco.keep (hoB (o + 159 + 15) (fun h9 => by have h9 : o ≤ (o + 159 + 15) ∧ (o + 159 + 15) ≤ o + 158 := h9; omega))
  refine lv_aload_n hx hb d_L_law_542 rfl (lv_at hl 2 rfl) ?_
  refine lv_aload_n hx hb d_L_law_543 rfl (lv_at hl 0 rfl) ?_
  refine lv_iload_n hx hb d_L_law_544 rfl (lv_at hl 3 rfl) ?_
  refine hp_iconst (z := 1) hx hb d_L_law_545 (by rfl) ?_
  refine hp_iadd hx hb d_L_law_546 ?_
  refine hp_sld hx hb hX hbl hbA hS (by omega) (i + 1) (by omega) (by omega) d_L_law_547 ?_
  obtain ⟨th, md, fe, ps, lf, nx, bf, po, ta, en, tu, si, sm, hA, hks⟩ := id hM
  refine hp_calli (W.runV (As := [.int (iI (xs (i + 1)).toInt)]) (rest := [.int (iI r1)]) ⟨hx, hb, hml, hown, hG⟩ (c_M_shrink l E (o + 159) th (md : Int) (fe : Int) ps w c g kz (xs (i + 1)).toInt (iR_of _) hbd hv hokg) (cwV 1 hG (hp_goodV ml_L_66 im_M_shrink se_M_shrink in_M co_M_shrink) rfl rfl rfl hd_M_shrink ⟨Nat.le_of_ble_eq_true rfl, Nat.le_of_ble_eq_true rfl⟩) (hp_preV (ci := 3) hp_nsn hK rfl hA.1.1 hA.1) rfl rfl hl.1 rfl (lv_room (Nat.le_of_ble_eq_true rfl)) d_L_law_548 ⟨Nat.le_of_ble_eq_true rfl, Nat.le_of_ble_eq_true rfl⟩) hS (fun q h9 => show s.heap.size ≤ q by have h9 : q = o + 159 ∨ q = o + 159 + 1 ∨ q = o + 159 + 2 ∨ q = o + 159 + 3 ∨ q = o + 159 + 10 := h9; omega) (fun r2 H locs hpM hzM hoM hS => ?_)
  have hla := hla.keep (hoM (o + 159 + 14) (fun h9 => by have h9 : (o + 159 + 14) = o + 159 ∨ (o + 159 + 14) = o + 159 + 1 ∨ (o + 159 + 14) = o + 159 + 2 ∨ (o + 159 + 14) = o + 159 + 3 ∨ (o + 159 + 14) = o + 159 + 10 := h9; omega))
  have hco := hco.keep (hoM (o + 159 + 15) (fun h9 => by have h9 : (o + 159 + 15) = o + 159 ∨ (o + 159 + 15) = o + 159 + 1 ∨ (o + 159 + 15) = o + 159 + 2 ∨ (o + 159 + 15) = o + 159 + 3 ∨ (o + 159 + 15) = o + 159 + 10 := h9; omega))
  obtain ⟨heq, hLS⟩ := lx_shrink hv hA hks hbd hag hoM hpB hpM
  refine lv_icmp_eq (tgt := 698) hx hb d_L_law_551 (by decide) (fun _ => kk H locs ⟨hLS, ⟨_, hla⟩, ⟨_, hco⟩⟩ hS ls hl) (fun c9 => absurd (congrArg iI heq) c9)

set_option maxHeartbeats 4000000 in
set_option maxRecDepth 100000 in
theorem lw_case_12 {p : Program} {l : Launch} {e : Env} {s : State} {m : MethodId} {below : List Frame} {meth : Method} {cd : Code} {b L : Nat} {xs : Nat → Int32} {E : hp_E} {o i : Nat} (hL : L ≤ 2048) (C0 : lw_At p s m meth cd b L xs) (hK : hp_K E s) (ho : s.heap.size ≤ o) (hi : i + 4 ≤ L) (kk : ∀ (H : Heap) (locs : List Loc), lwI E H o → va_S (fun q : Nat => s.heap.size ≤ q) s.heap H locs → ∀ ls : Array Slot, lv_has ls 4 [(0, .ref b), (1, .ref o), (2, .ref (o + 159)), (3, .int (iI (i : Int)))] → W p l e room_1 s m #[Value.ref b] below meth cd H locs 175 32960 (lw_Z below #[Value.ref b] s) (F0 m 698 ls [])) : ∀ (H : Heap) (locs : List Loc), lwI E H o → va_S (fun q : Nat => s.heap.size ≤ q) s.heap H locs → ∀ ls : Array Slot, lv_has ls 4 [(0, .ref b), (1, .ref o), (2, .ref (o + 159)), (3, .int (iI (i : Int)))] → W p l e room_1 s m #[Value.ref b] below meth cd H locs 175 32960 (lw_Z below #[Value.ref b] s) (F0 m 556 ls []) := by
  obtain ⟨hx, hb, hr, hml, hown, hts, hX, hbl, hlocks, hgv⟩ := id C0
  have hown : s.vm.findClass R_L = some m.cls := hown
  have hG : ∀ w ∈ G0, w.before #[Value.ref b] s = true := fun w h => hts w (List.mem_filter.mp h).1
  have hbA : ¬ (fun q : Nat => s.heap.size ≤ q) b := Nat.not_le.mpr hbl
  intro H locs hI hS ls hl
  obtain ⟨⟨w, c, f, g, kz, hB, hM, hbd, hag⟩, ⟨la, hla⟩, ⟨co, hco⟩⟩ := hI
  have hv : ∀ i, i < 4 → 1 ≤ w i ∧ w i ≤ 8 ∧ c i ≤ 32 := fun i hi => ⟨(hB.2.2.2.1 i hi).2.1, (hB.2.2.2.1 i hi).2.2.1, (hB.2.2.2.1 i hi).2.2.2.1⟩
  have hok : ∀ i, i < 4 → okw (w i) (c i) (f i) := fun i hi => (hB.2.2.2.1 i hi).2.2.2.2.2
  have hokg : ∀ i, i < 4 → okw (w i) (c i) (gw g i) := fun i hi => okw_congr (hok i hi) (hag i hi)
  refine lv_aload_n hx hb d_L_law_556 rfl (lv_at hl 1 rfl) ?_
  refine lv_aload_n hx hb d_L_law_557 rfl (lv_at hl 0 rfl) ?_
  refine lv_iload_n hx hb d_L_law_558 rfl (lv_at hl 3 rfl) ?_
  refine hp_iconst (z := 1) hx hb d_L_law_559 (by rfl) ?_
  refine hp_iadd hx hb d_L_law_560 ?_
  refine hp_sld hx hb hX hbl hbA hS (by omega) (i + 1) (by omega) (by omega) d_L_law_561 ?_
  refine lv_aload_n hx hb d_L_law_562 rfl (lv_at hl 0 rfl) ?_
  refine lv_iload_n hx hb d_L_law_563 rfl (lv_at hl 3 rfl) ?_
  refine hp_iconst (z := 2) hx hb d_L_law_564 (by rfl) ?_
  refine hp_iadd hx hb d_L_law_565 ?_
  refine hp_sld hx hb hX hbl hbA hS (by omega) (i + 2) (by omega) (by omega) d_L_law_566 ?_
  refine hp_calli (W.runV (As := [.int (iI (xs (i + 1)).toInt), .int (iI (xs (i + 2)).toInt)]) (rest := []) ⟨hx, hb, hml, hown, hG⟩ (c_B_same l E o w c f (xs (i + 1)).toInt (xs (i + 2)).toInt (iR_of _) (iR_of _)) (cwV 2 hG (hp_goodV ml_L_67 im_B_same se_B_same in_B co_B_same) rfl rfl rfl hd_B_same ⟨Nat.le_of_ble_eq_true rfl, Nat.le_of_ble_eq_true rfl⟩) (hp_preV (ci := 2) hp_nsn hK rfl hB.1 hB) rfl rfl hl.1 rfl (lv_room (Nat.le_of_ble_eq_true rfl)) d_L_law_567 ⟨Nat.le_of_ble_eq_true rfl, Nat.le_of_ble_eq_true rfl⟩) hS (fun q h9 => show s.heap.size ≤ q by have h9 : o ≤ q ∧ q ≤ o + 158 := h9; omega) (fun r1 H locs hpB hzB hoB hS => ?_)
  have hM := mG_keep hM (fun q h1 h2 => hoB q (fun h9 => by have h9 : o ≤ q ∧ q ≤ o + 158 := h9; omega))
  have hla := hla.keep (hoB (o + 159 + 14) (fun h9 => by have h9 : o ≤ (o + 159 + 14) ∧ (o + 159 + 14) ≤ o + 158 := h9; omega))
  have hco := hco.keep (hoB (o + 159 + 15) (fun h9 => by have h9 : o ≤ (o + 159 + 15) ∧ (o + 159 + 15) ≤ o + 158 := h9; omega))
  refine lv_aload_n hx hb d_L_law_570 rfl (lv_at hl 2 rfl) ?_
  refine lv_aload_n hx hb d_L_law_571 rfl (lv_at hl 0 rfl) ?_
  refine lv_iload_n hx hb d_L_law_572 rfl (lv_at hl 3 rfl) ?_
  refine hp_iconst (z := 1) hx hb d_L_law_573 (by rfl) ?_
  refine hp_iadd hx hb d_L_law_574 ?_
  refine hp_sld hx hb hX hbl hbA hS (by omega) (i + 1) (by omega) (by omega) d_L_law_575 ?_
  refine lv_aload_n hx hb d_L_law_576 rfl (lv_at hl 0 rfl) ?_
  refine lv_iload_n hx hb d_L_law_577 rfl (lv_at hl 3 rfl) ?_
  refine hp_iconst (z := 2) hx hb d_L_law_578 (by rfl) ?_
  refine hp_iadd hx hb d_L_law_579 ?_
  refine hp_sld hx hb hX hbl hbA hS (by omega) (i + 2) (by omega) (by omega) d_L_law_580 ?_
  obtain ⟨th, md, fe, ps, lf, nx, bf, po, ta, en, tu, si, sm, hA, hks⟩ := id hM
  refine hp_calli (W.runV (As := [.int (iI (xs (i + 1)).toInt), .int (iI (xs (i + 2)).toInt)]) (rest := [.int (iI r1)]) ⟨hx, hb, hml, hown, hG⟩ (c_M_same l E (o + 159) w c g kz (xs (i + 1)).toInt (xs (i + 2)).toInt (iR_of _) (iR_of _) hv hbd hokg) (cwV 2 hG (hp_goodV ml_L_70 im_M_same se_M_same in_M co_M_same) rfl rfl rfl hd_M_same ⟨Nat.le_of_ble_eq_true rfl, Nat.le_of_ble_eq_true rfl⟩) (hp_preV (ci := 3) hp_nsn hK rfl hA.1.1 hM) rfl rfl hl.1 rfl (lv_room (Nat.le_of_ble_eq_true rfl)) d_L_law_581 ⟨Nat.le_of_ble_eq_true rfl, Nat.le_of_ble_eq_true rfl⟩) hS (fun q h9 => show s.heap.size ≤ q by have h9 : q = o + 159 ∨ (o + 159 + 4 ≤ q ∧ q ≤ o + 159 + 13) := h9; omega) (fun r2 H locs hpM hzM hoM hS => ?_)
  have hla := hla.keep (hoM (o + 159 + 14) (fun h9 => by have h9 : (o + 159 + 14) = o + 159 ∨ (o + 159 + 4 ≤ (o + 159 + 14) ∧ (o + 159 + 14) ≤ o + 159 + 13) := h9; omega))
  have hco := hco.keep (hoM (o + 159 + 15) (fun h9 => by have h9 : (o + 159 + 15) = o + 159 ∨ (o + 159 + 4 ≤ (o + 159 + 15) ∧ (o + 159 + 15) ≤ o + 159 + 13) := h9; omega))
  obtain ⟨heq, hLS⟩ := lx_same hv hM hbd hag hok hoM hpB hpM
  refine lv_icmp_eq (tgt := 698) hx hb d_L_law_584 (by decide) (fun _ => kk H locs ⟨hLS, ⟨_, hla⟩, ⟨_, hco⟩⟩ hS ls hl) (fun c9 => absurd (congrArg iI heq) c9)

set_option maxHeartbeats 4000000 in
set_option maxRecDepth 100000 in
theorem lw_case_13 {p : Program} {l : Launch} {e : Env} {s : State} {m : MethodId} {below : List Frame} {meth : Method} {cd : Code} {b L : Nat} {xs : Nat → Int32} {E : hp_E} {o i : Nat} (hL : L ≤ 2048) (C0 : lw_At p s m meth cd b L xs) (hK : hp_K E s) (ho : s.heap.size ≤ o) (hi : i + 4 ≤ L) (kk : ∀ (H : Heap) (locs : List Loc), lwI E H o → va_S (fun q : Nat => s.heap.size ≤ q) s.heap H locs → ∀ ls : Array Slot, lv_has ls 4 [(0, .ref b), (1, .ref o), (2, .ref (o + 159)), (3, .int (iI (i : Int)))] → W p l e room_1 s m #[Value.ref b] below meth cd H locs 175 32960 (lw_Z below #[Value.ref b] s) (F0 m 698 ls [])) : ∀ (H : Heap) (locs : List Loc), lwI E H o → va_S (fun q : Nat => s.heap.size ≤ q) s.heap H locs → ∀ ls : Array Slot, lv_has ls 4 [(0, .ref b), (1, .ref o), (2, .ref (o + 159)), (3, .int (iI (i : Int)))] → W p l e room_1 s m #[Value.ref b] below meth cd H locs 175 32960 (lw_Z below #[Value.ref b] s) (F0 m 589 ls []) := by
  obtain ⟨hx, hb, hr, hml, hown, hts, hX, hbl, hlocks, hgv⟩ := id C0
  have hown : s.vm.findClass R_L = some m.cls := hown
  have hG : ∀ w ∈ G0, w.before #[Value.ref b] s = true := fun w h => hts w (List.mem_filter.mp h).1
  have hbA : ¬ (fun q : Nat => s.heap.size ≤ q) b := Nat.not_le.mpr hbl
  intro H locs hI hS ls hl
  obtain ⟨⟨w, c, f, g, kz, hB, hM, hbd, hag⟩, ⟨la, hla⟩, ⟨co, hco⟩⟩ := hI
  have hv : ∀ i, i < 4 → 1 ≤ w i ∧ w i ≤ 8 ∧ c i ≤ 32 := fun i hi => ⟨(hB.2.2.2.1 i hi).2.1, (hB.2.2.2.1 i hi).2.2.1, (hB.2.2.2.1 i hi).2.2.2.1⟩
  have hok : ∀ i, i < 4 → okw (w i) (c i) (f i) := fun i hi => (hB.2.2.2.1 i hi).2.2.2.2.2
  have hokg : ∀ i, i < 4 → okw (w i) (c i) (gw g i) := fun i hi => okw_congr (hok i hi) (hag i hi)
  refine lv_aload_n hx hb d_L_law_589 rfl (lv_at hl 1 rfl) ?_
  refine lv_aload_n hx hb d_L_law_590 rfl (lv_at hl 0 rfl) ?_
  refine lv_iload_n hx hb d_L_law_591 rfl (lv_at hl 3 rfl) ?_
  refine hp_iconst (z := 1) hx hb d_L_law_592 (by rfl) ?_
  refine hp_iadd hx hb d_L_law_593 ?_
  refine hp_sld hx hb hX hbl hbA hS (by omega) (i + 1) (by omega) (by omega) d_L_law_594 ?_
  refine lv_aload_n hx hb d_L_law_595 rfl (lv_at hl 0 rfl) ?_
  refine lv_iload_n hx hb d_L_law_596 rfl (lv_at hl 3 rfl) ?_
  refine hp_iconst (z := 2) hx hb d_L_law_597 (by rfl) ?_
  refine hp_iadd hx hb d_L_law_598 ?_
  refine hp_sld hx hb hX hbl hbA hS (by omega) (i + 2) (by omega) (by omega) d_L_law_599 ?_
  refine lv_aload_n hx hb d_L_law_600 rfl (lv_at hl 0 rfl) ?_
  refine lv_iload_n hx hb d_L_law_601 rfl (lv_at hl 3 rfl) ?_
  refine hp_iconst (z := 3) hx hb d_L_law_602 (by rfl) ?_
  refine hp_iadd hx hb d_L_law_603 ?_
  refine hp_sld hx hb hX hbl hbA hS (by omega) (i + 3) (by omega) (by omega) d_L_law_604 ?_
  refine hp_calli (W.runV (As := [.int (iI (xs (i + 1)).toInt), .int (iI (xs (i + 2)).toInt), .int (iI (xs (i + 3)).toInt)]) (rest := []) ⟨hx, hb, hml, hown, hG⟩ (c_B_form l E o w c f (xs (i + 1)).toInt (xs (i + 2)).toInt (xs (i + 3)).toInt (iR_of _) (iR_of _) (iR_of _)) (cwV 3 hG (hp_goodV ml_L_71 im_B_form se_B_form in_B co_B_form) rfl rfl rfl hd_B_form ⟨Nat.le_of_ble_eq_true rfl, Nat.le_of_ble_eq_true rfl⟩) (hp_preV (ci := 2) hp_nsn hK rfl hB.1 hB) rfl rfl hl.1 rfl (lv_room (Nat.le_of_ble_eq_true rfl)) d_L_law_605 ⟨Nat.le_of_ble_eq_true rfl, Nat.le_of_ble_eq_true rfl⟩) hS (fun q h9 => show s.heap.size ≤ q by have h9 : o ≤ q ∧ q ≤ o + 158 := h9; omega) (fun r1 H locs hpB hzB hoB hS => ?_)
  have hM := mG_keep hM (fun q h1 h2 => hoB q (fun h9 => by have h9 : o ≤ q ∧ q ≤ o + 158 := h9; omega))
  have hla := hla.keep (hoB (o + 159 + 14) (fun h9 => by have h9 : o ≤ (o + 159 + 14) ∧ (o + 159 + 14) ≤ o + 158 := h9; omega))
  have hco := hco.keep (hoB (o + 159 + 15) (fun h9 => by have h9 : o ≤ (o + 159 + 15) ∧ (o + 159 + 15) ≤ o + 158 := h9; omega))
  refine lv_aload_n hx hb d_L_law_608 rfl (lv_at hl 2 rfl) ?_
  refine lv_aload_n hx hb d_L_law_609 rfl (lv_at hl 0 rfl) ?_
  refine lv_iload_n hx hb d_L_law_610 rfl (lv_at hl 3 rfl) ?_
  refine hp_iconst (z := 1) hx hb d_L_law_611 (by rfl) ?_
  refine hp_iadd hx hb d_L_law_612 ?_
  refine hp_sld hx hb hX hbl hbA hS (by omega) (i + 1) (by omega) (by omega) d_L_law_613 ?_
  refine lv_aload_n hx hb d_L_law_614 rfl (lv_at hl 0 rfl) ?_
  refine lv_iload_n hx hb d_L_law_615 rfl (lv_at hl 3 rfl) ?_
  refine hp_iconst (z := 2) hx hb d_L_law_616 (by rfl) ?_
  refine hp_iadd hx hb d_L_law_617 ?_
  refine hp_sld hx hb hX hbl hbA hS (by omega) (i + 2) (by omega) (by omega) d_L_law_618 ?_
  refine lv_aload_n hx hb d_L_law_619 rfl (lv_at hl 0 rfl) ?_
  refine lv_iload_n hx hb d_L_law_620 rfl (lv_at hl 3 rfl) ?_
  refine hp_iconst (z := 3) hx hb d_L_law_621 (by rfl) ?_
  refine hp_iadd hx hb d_L_law_622 ?_
  refine hp_sld hx hb hX hbl hbA hS (by omega) (i + 3) (by omega) (by omega) d_L_law_623 ?_
  obtain ⟨th, md, fe, ps, lf, nx, bf, po, ta, en, tu, si, sm, hA, hks⟩ := id hM
  refine hp_calli (W.runV (As := [.int (iI (xs (i + 1)).toInt), .int (iI (xs (i + 2)).toInt), .int (iI (xs (i + 3)).toInt)]) (rest := [.int (iI r1)]) ⟨hx, hb, hml, hown, hG⟩ (c_M_form l E (o + 159) w c g kz (xs (i + 1)).toInt (xs (i + 2)).toInt (xs (i + 3)).toInt (iR_of _) (iR_of _) (iR_of _) hv hbd hokg) (cwV 3 hG (hp_goodV ml_L_75 im_M_form se_M_form in_M co_M_form) rfl rfl rfl hd_M_form ⟨Nat.le_of_ble_eq_true rfl, Nat.le_of_ble_eq_true rfl⟩) (hp_preV (ci := 3) hp_nsn hK rfl hA.1.1 hM) rfl rfl hl.1 rfl (lv_room (Nat.le_of_ble_eq_true rfl)) d_L_law_624 ⟨Nat.le_of_ble_eq_true rfl, Nat.le_of_ble_eq_true rfl⟩) hS (fun q h9 => show s.heap.size ≤ q by have h9 : q = o + 159 ∨ (o + 159 + 4 ≤ q ∧ q ≤ o + 159 + 13) := h9; omega) (fun r2 H locs hpM hzM hoM hS => ?_)
  have hla := hla.keep (hoM (o + 159 + 14) (fun h9 => by have h9 : (o + 159 + 14) = o + 159 ∨ (o + 159 + 4 ≤ (o + 159 + 14) ∧ (o + 159 + 14) ≤ o + 159 + 13) := h9; omega))
  have hco := hco.keep (hoM (o + 159 + 15) (fun h9 => by have h9 : (o + 159 + 15) = o + 159 ∨ (o + 159 + 4 ≤ (o + 159 + 15) ∧ (o + 159 + 15) ≤ o + 159 + 13) := h9; omega))
  obtain ⟨heq, hLS⟩ := lx_form hv hM hbd hag hok hoM hpB hpM
  refine lv_icmp_eq (tgt := 698) hx hb d_L_law_627 (by decide) (fun _ => kk H locs ⟨hLS, ⟨_, hla⟩, ⟨_, hco⟩⟩ hS ls hl) (fun c9 => absurd (congrArg iI heq) c9)

set_option maxHeartbeats 4000000 in
set_option maxRecDepth 100000 in
theorem lw_case_14 {p : Program} {l : Launch} {e : Env} {s : State} {m : MethodId} {below : List Frame} {meth : Method} {cd : Code} {b L : Nat} {xs : Nat → Int32} {E : hp_E} {o i : Nat} (hL : L ≤ 2048) (C0 : lw_At p s m meth cd b L xs) (hK : hp_K E s) (ho : s.heap.size ≤ o) (hi : i + 4 ≤ L) (kk : ∀ (H : Heap) (locs : List Loc), lwI E H o → va_S (fun q : Nat => s.heap.size ≤ q) s.heap H locs → ∀ ls : Array Slot, lv_has ls 4 [(0, .ref b), (1, .ref o), (2, .ref (o + 159)), (3, .int (iI (i : Int)))] → W p l e room_1 s m #[Value.ref b] below meth cd H locs 175 32960 (lw_Z below #[Value.ref b] s) (F0 m 698 ls [])) : ∀ (H : Heap) (locs : List Loc), lwI E H o → va_S (fun q : Nat => s.heap.size ≤ q) s.heap H locs → ∀ ls : Array Slot, lv_has ls 4 [(0, .ref b), (1, .ref o), (2, .ref (o + 159)), (3, .int (iI (i : Int)))] → W p l e room_1 s m #[Value.ref b] below meth cd H locs 175 32960 (lw_Z below #[Value.ref b] s) (F0 m 632 ls []) := by
  obtain ⟨hx, hb, hr, hml, hown, hts, hX, hbl, hlocks, hgv⟩ := id C0
  have hown : s.vm.findClass R_L = some m.cls := hown
  have hG : ∀ w ∈ G0, w.before #[Value.ref b] s = true := fun w h => hts w (List.mem_filter.mp h).1
  have hbA : ¬ (fun q : Nat => s.heap.size ≤ q) b := Nat.not_le.mpr hbl
  intro H locs hI hS ls hl
  obtain ⟨⟨w, c, f, g, kz, hB, hM, hbd, hag⟩, ⟨la, hla⟩, ⟨co, hco⟩⟩ := hI
  have hv : ∀ i, i < 4 → 1 ≤ w i ∧ w i ≤ 8 ∧ c i ≤ 32 := fun i hi => ⟨(hB.2.2.2.1 i hi).2.1, (hB.2.2.2.1 i hi).2.2.1, (hB.2.2.2.1 i hi).2.2.2.1⟩
  have hok : ∀ i, i < 4 → okw (w i) (c i) (f i) := fun i hi => (hB.2.2.2.1 i hi).2.2.2.2.2
  have hokg : ∀ i, i < 4 → okw (w i) (c i) (gw g i) := fun i hi => okw_congr (hok i hi) (hag i hi)
  refine lv_aload_n hx hb d_L_law_632 rfl (lv_at hl 1 rfl) ?_
  refine lv_aload_n hx hb d_L_law_633 rfl (lv_at hl 0 rfl) ?_
  refine lv_iload_n hx hb d_L_law_634 rfl (lv_at hl 3 rfl) ?_
  refine hp_iconst (z := 1) hx hb d_L_law_635 (by rfl) ?_
  refine hp_iadd hx hb d_L_law_636 ?_
  refine hp_sld hx hb hX hbl hbA hS (by omega) (i + 1) (by omega) (by omega) d_L_law_637 ?_
  refine hp_calli (W.runV (As := [.int (iI (xs (i + 1)).toInt)]) (rest := []) ⟨hx, hb, hml, hown, hG⟩ (c_B_length l E o w c f (xs (i + 1)).toInt (iR_of _)) (cwV 1 hG (hp_goodV ml_L_76 im_B_length se_B_length in_B co_B_length) rfl rfl rfl hd_B_length ⟨Nat.le_of_ble_eq_true rfl, Nat.le_of_ble_eq_true rfl⟩) (hp_preV (ci := 2) hp_nsn hK rfl hB.1 hB) rfl rfl hl.1 rfl (lv_room (Nat.le_of_ble_eq_true rfl)) d_L_law_638 ⟨Nat.le_of_ble_eq_true rfl, Nat.le_of_ble_eq_true rfl⟩) hS (fun q h9 => show s.heap.size ≤ q by have h9 : o ≤ q ∧ q ≤ o + 158 := h9; omega) (fun r1 H locs hpB hzB hoB hS => ?_)
  have hM := mG_keep hM (fun q h1 h2 => hoB q (fun h9 => by have h9 : o ≤ q ∧ q ≤ o + 158 := h9; omega))
  have hla := hla.keep (hoB (o + 159 + 14) (fun h9 => by have h9 : o ≤ (o + 159 + 14) ∧ (o + 159 + 14) ≤ o + 158 := h9; omega))
  have hco := hco.keep (hoB (o + 159 + 15) (fun h9 => by have h9 : o ≤ (o + 159 + 15) ∧ (o + 159 + 15) ≤ o + 158 := h9; omega))
  refine lv_aload_n hx hb d_L_law_641 rfl (lv_at hl 2 rfl) ?_
  refine lv_aload_n hx hb d_L_law_642 rfl (lv_at hl 0 rfl) ?_
  refine lv_iload_n hx hb d_L_law_643 rfl (lv_at hl 3 rfl) ?_
  refine hp_iconst (z := 1) hx hb d_L_law_644 (by rfl) ?_
  refine hp_iadd hx hb d_L_law_645 ?_
  refine hp_sld hx hb hX hbl hbA hS (by omega) (i + 1) (by omega) (by omega) d_L_law_646 ?_
  obtain ⟨th, md, fe, ps, lf, nx, bf, po, ta, en, tu, si, sm, hA, hks⟩ := id hM
  refine hp_calli (W.runV (As := [.int (iI (xs (i + 1)).toInt)]) (rest := [.int (iI r1)]) ⟨hx, hb, hml, hown, hG⟩ (c_M_length l E (o + 159) w c g kz (xs (i + 1)).toInt (iR_of _) hv hbd hokg) (cwV 1 hG (hp_goodV ml_L_80 im_M_length se_M_length in_M co_M_length) rfl rfl rfl hd_M_length ⟨Nat.le_of_ble_eq_true rfl, Nat.le_of_ble_eq_true rfl⟩) (hp_preV (ci := 3) hp_nsn hK rfl hA.1.1 hM) rfl rfl hl.1 rfl (lv_room (Nat.le_of_ble_eq_true rfl)) d_L_law_647 ⟨Nat.le_of_ble_eq_true rfl, Nat.le_of_ble_eq_true rfl⟩) hS (fun q h9 => show s.heap.size ≤ q by have h9 : q = o + 159 ∨ (o + 159 + 4 ≤ q ∧ q ≤ o + 159 + 13) := h9; omega) (fun r2 H locs hpM hzM hoM hS => ?_)
  have hla := hla.keep (hoM (o + 159 + 14) (fun h9 => by have h9 : (o + 159 + 14) = o + 159 ∨ (o + 159 + 4 ≤ (o + 159 + 14) ∧ (o + 159 + 14) ≤ o + 159 + 13) := h9; omega))
  have hco := hco.keep (hoM (o + 159 + 15) (fun h9 => by have h9 : (o + 159 + 15) = o + 159 ∨ (o + 159 + 4 ≤ (o + 159 + 15) ∧ (o + 159 + 15) ≤ o + 159 + 13) := h9; omega))
  obtain ⟨heq, hLS⟩ := lx_length hv hM hbd hag hok hoM hpB hpM
  refine lv_icmp_eq (tgt := 698) hx hb d_L_law_650 (by decide) (fun _ => kk H locs ⟨hLS, ⟨_, hla⟩, ⟨_, hco⟩⟩ hS ls hl) (fun c9 => absurd (congrArg iI heq) c9)

set_option maxHeartbeats 4000000 in
set_option maxRecDepth 100000 in
theorem lw_case_15 {p : Program} {l : Launch} {e : Env} {s : State} {m : MethodId} {below : List Frame} {meth : Method} {cd : Code} {b L : Nat} {xs : Nat → Int32} {E : hp_E} {o i : Nat} (hL : L ≤ 2048) (C0 : lw_At p s m meth cd b L xs) (hK : hp_K E s) (ho : s.heap.size ≤ o) (hi : i + 4 ≤ L) (kk : ∀ (H : Heap) (locs : List Loc), lwI E H o → va_S (fun q : Nat => s.heap.size ≤ q) s.heap H locs → ∀ ls : Array Slot, lv_has ls 4 [(0, .ref b), (1, .ref o), (2, .ref (o + 159)), (3, .int (iI (i : Int)))] → W p l e room_1 s m #[Value.ref b] below meth cd H locs 175 32960 (lw_Z below #[Value.ref b] s) (F0 m 698 ls [])) : ∀ (H : Heap) (locs : List Loc), lwI E H o → va_S (fun q : Nat => s.heap.size ≤ q) s.heap H locs → ∀ ls : Array Slot, lv_has ls 4 [(0, .ref b), (1, .ref o), (2, .ref (o + 159)), (3, .int (iI (i : Int)))] → W p l e room_1 s m #[Value.ref b] below meth cd H locs 175 32960 (lw_Z below #[Value.ref b] s) (F0 m 655 ls []) := by
  obtain ⟨hx, hb, hr, hml, hown, hts, hX, hbl, hlocks, hgv⟩ := id C0
  have hown : s.vm.findClass R_L = some m.cls := hown
  have hG : ∀ w ∈ G0, w.before #[Value.ref b] s = true := fun w h => hts w (List.mem_filter.mp h).1
  have hbA : ¬ (fun q : Nat => s.heap.size ≤ q) b := Nat.not_le.mpr hbl
  intro H locs hI hS ls hl
  obtain ⟨⟨w, c, f, g, kz, hB, hM, hbd, hag⟩, ⟨la, hla⟩, ⟨co, hco⟩⟩ := hI
  have hv : ∀ i, i < 4 → 1 ≤ w i ∧ w i ≤ 8 ∧ c i ≤ 32 := fun i hi => ⟨(hB.2.2.2.1 i hi).2.1, (hB.2.2.2.1 i hi).2.2.1, (hB.2.2.2.1 i hi).2.2.2.1⟩
  have hok : ∀ i, i < 4 → okw (w i) (c i) (f i) := fun i hi => (hB.2.2.2.1 i hi).2.2.2.2.2
  have hokg : ∀ i, i < 4 → okw (w i) (c i) (gw g i) := fun i hi => okw_congr (hok i hi) (hag i hi)
  refine lv_aload_n hx hb d_L_law_655 rfl (lv_at hl 1 rfl) ?_
  refine lv_aload_n hx hb d_L_law_656 rfl (lv_at hl 0 rfl) ?_
  refine lv_iload_n hx hb d_L_law_657 rfl (lv_at hl 3 rfl) ?_
  refine hp_iconst (z := 1) hx hb d_L_law_658 (by rfl) ?_
  refine hp_iadd hx hb d_L_law_659 ?_
  refine hp_sld hx hb hX hbl hbA hS (by omega) (i + 1) (by omega) (by omega) d_L_law_660 ?_
  refine lv_aload_n hx hb d_L_law_661 rfl (lv_at hl 0 rfl) ?_
  refine lv_iload_n hx hb d_L_law_662 rfl (lv_at hl 3 rfl) ?_
  refine hp_iconst (z := 2) hx hb d_L_law_663 (by rfl) ?_
  refine hp_iadd hx hb d_L_law_664 ?_
  refine hp_sld hx hb hX hbl hbA hS (by omega) (i + 2) (by omega) (by omega) d_L_law_665 ?_
  refine lv_aload_n hx hb d_L_law_666 rfl (lv_at hl 0 rfl) ?_
  refine lv_iload_n hx hb d_L_law_667 rfl (lv_at hl 3 rfl) ?_
  refine hp_iconst (z := 3) hx hb d_L_law_668 (by rfl) ?_
  refine hp_iadd hx hb d_L_law_669 ?_
  refine hp_sld hx hb hX hbl hbA hS (by omega) (i + 3) (by omega) (by omega) d_L_law_670 ?_
  refine hp_callS (W.runV (As := [.int (iI (xs (i + 1)).toInt), .int (iI (xs (i + 2)).toInt), .int (iI (xs (i + 3)).toInt)]) (rest := []) ⟨hx, hb, hml, hown, hG⟩ (c_B_crossing l E o w c f (xs (i + 1)).toInt (xs (i + 2)).toInt (xs (i + 3)).toInt (iR_of _) (iR_of _) (iR_of _)) (cwV 3 hG (hp_goodV ml_L_81 im_B_crossing se_B_crossing in_B co_B_crossing) rfl rfl rfl hd_B_crossing ⟨Nat.le_of_ble_eq_true rfl, Nat.le_of_ble_eq_true rfl⟩) (hp_preV (ci := 2) hp_nsn hK rfl hB.1 hB) rfl rfl hl.1 rfl (lv_room (Nat.le_of_ble_eq_true rfl)) d_L_law_671 ⟨Nat.le_of_ble_eq_true rfl, Nat.le_of_ble_eq_true rfl⟩) ?_
  refine lv_aload_n hx hb d_L_law_674 rfl (lv_at hl 2 rfl) ?_
  refine lv_aload_n hx hb d_L_law_675 rfl (lv_at hl 0 rfl) ?_
  refine lv_iload_n hx hb d_L_law_676 rfl (lv_at hl 3 rfl) ?_
  refine hp_iconst (z := 1) hx hb d_L_law_677 (by rfl) ?_
  refine hp_iadd hx hb d_L_law_678 ?_
  refine hp_sld hx hb hX hbl hbA hS (by omega) (i + 1) (by omega) (by omega) d_L_law_679 ?_
  refine lv_aload_n hx hb d_L_law_680 rfl (lv_at hl 0 rfl) ?_
  refine lv_iload_n hx hb d_L_law_681 rfl (lv_at hl 3 rfl) ?_
  refine hp_iconst (z := 2) hx hb d_L_law_682 (by rfl) ?_
  refine hp_iadd hx hb d_L_law_683 ?_
  refine hp_sld hx hb hX hbl hbA hS (by omega) (i + 2) (by omega) (by omega) d_L_law_684 ?_
  refine lv_aload_n hx hb d_L_law_685 rfl (lv_at hl 0 rfl) ?_
  refine lv_iload_n hx hb d_L_law_686 rfl (lv_at hl 3 rfl) ?_
  refine hp_iconst (z := 3) hx hb d_L_law_687 (by rfl) ?_
  refine hp_iadd hx hb d_L_law_688 ?_
  refine hp_sld hx hb hX hbl hbA hS (by omega) (i + 3) (by omega) (by omega) d_L_law_689 ?_
  obtain ⟨th, md, fe, ps, lf, nx, bf, po, ta, en, tu, si, sm, hA, hks⟩ := id hM
  refine hp_calli (W.runV (As := [.int (iI (xs (i + 1)).toInt), .int (iI (xs (i + 2)).toInt), .int (iI (xs (i + 3)).toInt)]) (rest := [.int (iI _)]) ⟨hx, hb, hml, hown, hG⟩ (c_M_crossing l E (o + 159) th (md : Int) (fe : Int) ps w c g kz la co (xs (i + 1)).toInt (xs (i + 2)).toInt (xs (i + 3)).toInt (iR_of _) (iR_of _) (iR_of _) hbd hv hokg) (cwV 3 hG (hp_goodV ml_L_84 im_M_crossing se_M_crossing in_M co_M_crossing) rfl rfl rfl hd_M_crossing ⟨Nat.le_of_ble_eq_true rfl, Nat.le_of_ble_eq_true rfl⟩) (hp_preV (ci := 3) hp_nsn hK rfl hA.1.1 ⟨hA.1, hla, hco⟩) rfl rfl hl.1 rfl (lv_room (Nat.le_of_ble_eq_true rfl)) d_L_law_690 ⟨Nat.le_of_ble_eq_true rfl, Nat.le_of_ble_eq_true rfl⟩) hS (fun q h9 => show s.heap.size ≤ q by have h9 : q = o + 159 + 14 ∨ q = o + 159 + 15 := h9; omega) (fun r2 H locs hpM hzM hoM hS => ?_)
  obtain ⟨heq, ⟨la1, hla⟩, ⟨co1, hco⟩⟩ := hpM
  have hLS : lwS E H o := ⟨w, c, f, g, kz, bAt_keep hB (fun q h1 h2 => hoM q (fun h9 => by have h9 : q = o + 159 + 14 ∨ q = o + 159 + 15 := h9; omega)), mG_keep hM (fun q h1 h2 => hoM q (fun h9 => by have h9 : q = o + 159 + 14 ∨ q = o + 159 + 15 := h9; omega)), hbd, hag⟩
  have heq := (lx_cross (w := w) hag).trans heq.symm
  refine lv_icmp_eq (tgt := 698) hx hb d_L_law_693 (by decide) (fun _ => kk H locs ⟨hLS, ⟨_, hla⟩, ⟨_, hco⟩⟩ hS ls hl) (fun c9 => absurd (congrArg iI heq) c9)
