set_option maxHeartbeats 4000000 in
set_option maxRecDepth 100000 in
/-- the law's loop -/
theorem law_loop {p : Program} {l : Launch} {e : Env} {s : State} {m : MethodId} {below : List Frame} {meth : Method} {cd : Code} {b L : Nat} {xs : Nat → Int32} {E : hp_E} {o : Nat} (hL : L ≤ 2048) (C0 : lw_At p s m meth cd b L xs) (hK : hp_K E s) (ho : s.heap.size ≤ o) : ∀ (n i : Nat), L + 4 < i + n → i ≤ L + 4 → ∀ (H : Heap) (locs : List Loc), lwI E H o → va_S (fun q : Nat => s.heap.size ≤ q) s.heap H locs → ∀ ls : Array Slot, lv_has ls 4 [(0, .ref b), (1, .ref o), (2, .ref (o + 159)), (3, .int (iI (i : Int)))] → W p l e room_1 s m #[Value.ref b] below meth cd H locs 175 32960 (lw_Z below #[Value.ref b] s) (F0 m 18 ls []) := by
  obtain ⟨hx, hb, hr, hml, hown, hts, hX, hbl, hlocks, hgv⟩ := id C0
  have hown : s.vm.findClass R_L = some m.cls := hown
  have hG : ∀ w ∈ G0, w.before #[Value.ref b] s = true := fun w h => hts w (List.mem_filter.mp h).1
  have hbA : ¬ (fun q : Nat => s.heap.size ≤ q) b := Nat.not_le.mpr hbl
  intro n
  induction n with
  | zero => intro i h1 h2; exact absurd h1 (by omega)
  | succ n ih =>
    intro i h1 h2 H locs hI hS ls hl
    refine lv_iload_n hx hb d_L_law_18 rfl (lv_at hl 3 rfl) ?_
    refine lv_aload_n hx hb d_L_law_19 rfl (lv_at hl 0 rfl) ?_
    refine va_slen hx hb hX hbl hbA hS d_L_law_20 ?_
    rw [show Int32.ofNat L = iI (L : Int) from (iI_nI L).symm]
    refine hp_iconst (z := 4) hx hb d_L_law_21 (by rfl) ?_
    refine hp_isub hx hb d_L_law_22 ?_
    refine hp_icmp_gt (tgt := 704) hx hb d_L_law_23 (by decide) (by unfold iR; omega) (by unfold iR; omega) (fun c23 => ?_) (fun c23 => ?_)
    · refine lv_iconst (v := 1) hx hb d_L_law_704 (by decide) ?_
      refine va_forget (fun q hq => hS.2.2 q hq) ?_
      refine W.widen (k := 600000) (n := 7302250) (Nat.le_of_ble_eq_true rfl) (Nat.le_of_ble_eq_true rfl) ?_
      exact lw_ret hx hb hr hlocks d_L_law_705
    · refine lv_aload_n hx hb d_L_law_26 rfl (lv_at hl 0 rfl) ?_
      refine lv_iload_n hx hb d_L_law_27 rfl (lv_at hl 3 rfl) ?_
      refine hp_sld hx hb hX hbl hbA hS (by omega) i rfl (by omega) d_L_law_28 ?_
      refine hp_bipush (z := 15) hx hb d_L_law_29 (by rfl) ?_
      refine lv_iand hx hb d_L_law_31 ?_
      refine lv_topi (fun q9 e9 => ?_)
      clear e9
      have kk : ∀ (H : Heap) (locs : List Loc), lwI E H o → va_S (fun q : Nat => s.heap.size ≤ q) s.heap H locs → ∀ ls : Array Slot, lv_has ls 4 [(0, .ref b), (1, .ref o), (2, .ref (o + 159)), (3, .int (iI (i : Int)))] → W p l e room_1 s m #[Value.ref b] below meth cd H locs 175 32960 (lw_Z below #[Value.ref b] s) (F0 m 698 ls []) := fun H locs hI hS ls hl => by
        refine hp_iinc (z := (i : Int) + 4) (lv' := [(3, .int (iI ((i : Int) + 4))), (0, .ref b), (1, .ref o), (2, .ref (o + 159))]) hx hb d_L_law_698 hl (k := 3) rfl (by omega) (by decide) rfl (fun ls hl => ?_)
        refine lv_goto (tgt := 18) hx hb d_L_law_701 (by decide) ?_
        rw [show (i : Int) + 4 = ((i + 4 : Nat) : Int) by omega] at hl
        exact ih (i + 4) (by omega) (by omega) H locs hI hS ls (lv_sub hl [1, 2, 3, 0] rfl)
      rcases (show q9.toInt < 0 ∨ 15 < q9.toInt ∨ q9.toInt = 0 ∨ q9.toInt = 1 ∨ q9.toInt = 2 ∨ q9.toInt = 3 ∨ q9.toInt = 4 ∨ q9.toInt = 5 ∨ q9.toInt = 6 ∨ q9.toInt = 7 ∨ q9.toInt = 8 ∨ q9.toInt = 9 ∨ q9.toInt = 10 ∨ q9.toInt = 11 ∨ q9.toInt = 12 ∨ q9.toInt = 13 ∨ q9.toInt = 14 ∨ q9.toInt = 15 by omega) with c9 | c9 | c9 | c9 | c9 | c9 | c9 | c9 | c9 | c9 | c9 | c9 | c9 | c9 | c9 | c9 | c9 | c9
      · exact lv_tableOut (tgt := 698) hx hb d_L_law_32 (Or.inl c9) (by decide) (kk H locs hI hS ls hl)
      · exact lv_tableOut (tgt := 698) hx hb d_L_law_32 (Or.inr c9) (by decide) (kk H locs hI hS ls hl)
      · exact lv_tableIn (tgt := 112) hx hb d_L_law_32 (by omega) (by omega) (by rw [c9]; rfl) (by decide) (lw_case_0 hL C0 hK ho (by omega) kk H locs hI hS ls hl)
      · exact lv_tableIn (tgt := 145) hx hb d_L_law_32 (by omega) (by omega) (by rw [c9]; rfl) (by decide) (lw_case_1 hL C0 hK ho (by omega) kk H locs hI hS ls hl)
      · exact lv_tableIn (tgt := 178) hx hb d_L_law_32 (by omega) (by omega) (by rw [c9]; rfl) (by decide) (lw_case_2 hL C0 hK ho (by omega) kk H locs hI hS ls hl)
      · exact lv_tableIn (tgt := 237) hx hb d_L_law_32 (by omega) (by omega) (by rw [c9]; rfl) (by decide) (lw_case_3 hL C0 hK ho (by omega) kk H locs hI hS ls hl)
      · exact lv_tableIn (tgt := 270) hx hb d_L_law_32 (by omega) (by omega) (by rw [c9]; rfl) (by decide) (lw_case_4 hL C0 hK ho (by omega) kk H locs hI hS ls hl)
      · exact lv_tableIn (tgt := 303) hx hb d_L_law_32 (by omega) (by omega) (by rw [c9]; rfl) (by decide) (lw_case_5 hL C0 hK ho (by omega) kk H locs hI hS ls hl)
      · exact lv_tableIn (tgt := 336) hx hb d_L_law_32 (by omega) (by omega) (by rw [c9]; rfl) (by decide) (lw_case_6 hL C0 hK ho (by omega) kk H locs hI hS ls hl)
      · exact lv_tableIn (tgt := 385) hx hb d_L_law_32 (by omega) (by omega) (by rw [c9]; rfl) (by decide) (lw_case_7 hL C0 hK ho (by omega) kk H locs hI hS ls hl)
      · exact lv_tableIn (tgt := 434) hx hb d_L_law_32 (by omega) (by omega) (by rw [c9]; rfl) (by decide) (lw_case_8 hL C0 hK ho (by omega) kk H locs hI hS ls hl)
      · exact lv_tableIn (tgt := 467) hx hb d_L_law_32 (by omega) (by omega) (by rw [c9]; rfl) (by decide) (lw_case_9 hL C0 hK ho (by omega) kk H locs hI hS ls hl)
      · exact lv_tableIn (tgt := 500) hx hb d_L_law_32 (by omega) (by omega) (by rw [c9]; rfl) (by decide) (lw_case_10 hL C0 hK ho (by omega) kk H locs hI hS ls hl)
      · exact lv_tableIn (tgt := 533) hx hb d_L_law_32 (by omega) (by omega) (by rw [c9]; rfl) (by decide) (lw_case_11 hL C0 hK ho (by omega) kk H locs hI hS ls hl)
      · exact lv_tableIn (tgt := 556) hx hb d_L_law_32 (by omega) (by omega) (by rw [c9]; rfl) (by decide) (lw_case_12 hL C0 hK ho (by omega) kk H locs hI hS ls hl)
      · exact lv_tableIn (tgt := 589) hx hb d_L_law_32 (by omega) (by omega) (by rw [c9]; rfl) (by decide) (lw_case_13 hL C0 hK ho (by omega) kk H locs hI hS ls hl)
      · exact lv_tableIn (tgt := 632) hx hb d_L_law_32 (by omega) (by omega) (by rw [c9]; rfl) (by decide) (lw_case_14 hL C0 hK ho (by omega) kk H locs hI hS ls hl)
      · exact lv_tableIn (tgt := 655) hx hb d_L_law_32 (by omega) (by omega) (by rw [c9]; rfl) (by decide) (lw_case_15 hL C0 hK ho (by omega) kk H locs hI hS ls hl)
set_option maxHeartbeats 4000000 in
set_option maxRecDepth 100000 in
/-- THE LAW, from its entry -/
theorem whole_start {p : Program} {e : Env} {s : State} {m : MethodId} {below : List Frame} {meth : Method} {c : Code} (l : Launch) {b L : Nat} {xs : Nat → Int32} (hL : L ≤ 2048) (C0 : lw_At p s m meth c b L xs) : W p l e room_1 s m #[Value.ref b] below meth c s.heap [] 0 0 (lw_Z below #[Value.ref b] s) (entryFrame m ([Value.ref b] : List Value).toArray 4) := by
  obtain ⟨hx, hb, hr, hml, hown, hts, hX, hbl, hlocks, hgv⟩ := id C0
  have hown : s.vm.findClass R_L = some m.cls := hown
  have hG : ∀ w ∈ G0, w.before #[Value.ref b] s = true := fun w h => hts w (List.mem_filter.mp h).1
  have hbA : ¬ (fun q : Nat => s.heap.size ≤ q) b := Nat.not_le.mpr hbl
  have hA : ∀ q : Nat, s.heap.size ≤ q → (fun q : Nat => s.heap.size ≤ q) q := fun _ h => h
  obtain ⟨c0, iS0, hKn0⟩ := u_known (C := R_W) (T := F_W) (N := 3) (n := 3) hG la_W (hG _ ia_W)
  obtain ⟨c1, iS1, hKn1⟩ := u_known (C := R_N) (T := F_N) (N := 6) (n := 6) hG la_N (hG _ ia_N)
  obtain ⟨c2, iS2, hKn2⟩ := u_known (C := R_B) (T := F_B) (N := 2) (n := 2) hG la_B (hG _ ia_B)
  obtain ⟨c3, iS3, hKn3⟩ := u_known (C := R_M) (T := F_M) (N := 19) (n := 19) hG la_M (hG _ ia_M)
  obtain ⟨tI, kI, pI, fI1, fI2, fI3⟩ := Cond.arrayClass_spec (hG _ ac_int)
  obtain ⟨tZ, kZ, pZ, fZ1, fZ2, fZ3⟩ := Cond.arrayClass_spec (hG _ ac_boolean)
  have hoW : (Cond.arrayOver (.object R_W)).before #[Value.ref b] s = true := hts _ ao_W
  have hoN : (Cond.arrayOver (.object R_N)).before #[Value.ref b] s = true := hts _ ao_N
  have hoI : (Cond.arrayOver (.array .int)).before #[Value.ref b] s = true := hts _ ao_I
  obtain ⟨pW, tW, kW, fW1, fW2, fW3, fW4, fW5⟩ := Cond.arrayOver_spec hoW
  obtain ⟨pN, tN, kN9, fN1, fN2, fN3, fN4, fN5⟩ := Cond.arrayOver_spec hoN
  obtain ⟨pA, tA, kA, fA1, fA2, fA3, fA4, fA5⟩ := arrayOverA_spec hoI
  obtain ⟨E, hKv⟩ : ∃ E : hp_E, va_K E.1 classes (hp_tys E) s := by
    refine ⟨((fun k => if k = 0 then c0 else if k = 1 then c1 else if k = 2 then c2 else c3, fun k => if k = 0 then iS0 else if k = 1 then iS1 else if k = 2 then iS2 else iS3), fun k => if k = 0 then tI else if k = 1 then tZ else if k = 2 then tW else if k = 3 then tN else tA), ?_, ?_⟩
    · intro k q hq
      match k, hq with
      | 0, hq => cases hq; exact hKn0
      | 1, hq => cases hq; exact hKn1
      | 2, hq => cases hq; exact hKn2
      | 3, hq => cases hq; exact hKn3
      | k + 4, hq => simp [classes] at hq
    · intro k q hq
      match k, hq with
      | 0, hq => cases hq; exact ⟨fun N z => ⟨(fun q hq => by cases hq), kI, fI2, pI, fI3⟩, fI1⟩
      | 1, hq => cases hq; exact ⟨fun N z => ⟨(fun q hq => by cases hq), kZ, fZ2, pZ, fZ3⟩, fZ1⟩
      | 2, hq => cases hq; exact ⟨fun N z => ⟨(fun q hq => by cases hq), kW, fW3, pW, fW4⟩, kW, pW, fW3, fW4, fW1, fW5⟩
      | 3, hq => cases hq; exact ⟨fun N z => ⟨(fun q hq => by cases hq), kN9, fN3, pN, fN4⟩, kN9, pN, fN3, fN4, fN1, fN5⟩
      | 4, hq => cases hq; exact ⟨fun N z => ⟨(fun q hq => by cases hq), kA, fA3, pA, fA4⟩, fA5⟩
      | k + 5, hq => simp [hp_tys] at hq
  have hK : hp_K E s := ⟨hKv, fun w hw => by
    simp only [hp_ns, List.mem_cons, List.not_mem_nil, or_false] at hw
    rcases hw with rfl | rfl | rfl | rfl | rfl
    · exact va_Nw.of (by rfl) (hts _ nl_B_21)
    · exact va_Nw.of (by rfl) (hts _ nl_B_22)
    · exact va_Nw.of (by rfl) (hts _ nl_N_11)
    · exact va_Nw.of (by rfl) (hts _ nl_W_59)
    · exact va_Nw.of (by rfl) (hts _ nl_N_80)⟩
  have hO : hp_AO s := ⟨va_AO.of hoW, va_AO.of hoN, hoI⟩
  have hS : va_S (fun q : Nat => s.heap.size ≤ q) s.heap s.heap [] := va_S.rf
  have hl := lv_entry ([.ref b]) (n := 4) (Nat.le_of_ble_eq_true rfl)
  rw [lg_entry_eq]
  generalize (lg_sl ([.ref b]) ++ List.replicate (4 - (lg_sl ([.ref b])).length) Slot.unset).toArray = ls at hl ⊢
  have hl : lv_has ls 4 [(0, .ref b)] := hl
  obtain ⟨H, hH⟩ : ∃ H, H = s.heap := ⟨_, rfl⟩
  obtain ⟨locs, hlocs⟩ : ∃ locs : List Loc, locs = [] := ⟨_, rfl⟩
  obtain ⟨o, ho⟩ : ∃ o, o = s.heap.size := ⟨_, rfl⟩
  have hZ : H.size = o := by rw [hH, ho]
  rw [show W p l e room_1 s m #[Value.ref b] below meth c s.heap [] 0 0 (lw_Z below #[Value.ref b] s) (F0 m 0 ls []) = W p l e room_1 s m #[Value.ref b] below meth c H locs 0 0 (lw_Z below #[Value.ref b] s) (F0 m 0 ls []) from by rw [hH, hlocs]]
  have hS : va_S (fun q : Nat => s.heap.size ≤ q) s.heap H locs := by rw [hH, hlocs]; exact va_S.rf
  refine hp_new (C := R_B) (T := F_B) (N := 2) (ci := 2) (fs := [.null, .null]) hx hb hG la_B t_B tk_B hown (hG _ cl_L_7) (hG _ ia_B) (hG _ in_B) hK.1 hS rfl (by intro j hj; match j, hj with | 0, _ => rfl | 1, _ => rfl | j + 2, h => exact absurd h (by omega)) (Nat.le_of_ble_eq_true rfl) (Nat.le_of_ble_eq_true rfl) d_L_law_0 (fun H hobj zk ok9 hS => ?_)
  rw [hZ] at hobj zk ok9 ⊢
  have hZ : H.size = o + 1 := by omega
  refine lv_dup hx hb d_L_law_3 rfl ?_
  refine hp_calln (W.runI (As := []) (rest := [.ref (o)]) ⟨hx, hb, hml, hown, hG⟩ (c_B_init l E (o)) (cwI 0 hG (hp_goodC co_B_init) rfl rfl rfl (hG _ in_B) (hG _ ml_L_9) (hG _ im_B_init) rfl hd_B_init.2 ⟨Nat.le_of_ble_eq_true rfl, Nat.le_of_ble_eq_true rfl⟩) (hp_preN hK hO ⟨hZ, hobj⟩) rfl rfl hl.1 rfl (lv_room (Nat.le_of_ble_eq_true rfl)) d_L_law_4 ⟨Nat.le_of_ble_eq_true rfl, Nat.le_of_ble_eq_true rfl⟩) hS (fun q h9 => show s.heap.size ≤ q by have h9 : o ≤ q := h9; omega) (fun q h9 => show s.heap.size ≤ q by have h9 : o ≤ q := h9; omega) (fun H locs h9 zk ok8 hS => ?_)
  rw [hZ] at zk ok8
  have hB := h9
  have hZ : H.size = o + 159 := by omega
  refine lv_astore_n (lv' := [(1, .ref o), (0, .ref b)]) hx hb d_L_law_7 rfl hl (by decide) rfl (fun ls hl => ?_)
  refine hp_new (C := R_M) (T := F_M) (N := 19) (ci := 3) (fs := [.int (iI 0), .null, .null, .null, .null, .null, .null, .int (iI 0), .int (iI 0), .int (iI 0), .null, .null, .null, .null, .null, .null, .null, .null, .null]) hx hb hG la_M t_M tk_M hown (hG _ cl_L_10) (hG _ ia_M) (hG _ in_M) hK.1 hS rfl (by intro j hj; match j, hj with | 0, _ => rfl | 1, _ => rfl | 2, _ => rfl | 3, _ => rfl | 4, _ => rfl | 5, _ => rfl | 6, _ => rfl | 7, _ => rfl | 8, _ => rfl | 9, _ => rfl | 10, _ => rfl | 11, _ => rfl | 12, _ => rfl | 13, _ => rfl | 14, _ => rfl | 15, _ => rfl | 16, _ => rfl | 17, _ => rfl | 18, _ => rfl | j + 19, h => exact absurd h (by omega)) (Nat.le_of_ble_eq_true rfl) (Nat.le_of_ble_eq_true rfl) d_L_law_8 (fun H hobj zk ok9 hS => ?_)
  rw [hZ] at hobj zk ok9 ⊢
  have hB := bAt_keep hB (fun q h1 h2 => ok9 q (by omega))
  have hZ : H.size = o + 159 + 1 := by omega
  refine lv_dup hx hb d_L_law_11 rfl ?_
  refine hp_calln (W.runI (As := []) (rest := [.ref (o + 159)]) ⟨hx, hb, hml, hown, hG⟩ (c_M_init l E (o + 159)) (cwI 0 hG (hp_goodC co_M_init) rfl rfl rfl (hG _ in_M) (hG _ ml_L_12) (hG _ im_M_init) rfl hd_M_init.2 ⟨Nat.le_of_ble_eq_true rfl, Nat.le_of_ble_eq_true rfl⟩) (hp_preN hK hO ⟨hZ, hobj⟩) rfl rfl hl.1 rfl (lv_room (Nat.le_of_ble_eq_true rfl)) d_L_law_12 ⟨Nat.le_of_ble_eq_true rfl, Nat.le_of_ble_eq_true rfl⟩) hS (fun q h9 => show s.heap.size ≤ q by have h9 : o + 159 ≤ q := h9; omega) (fun q h9 => show s.heap.size ≤ q by have h9 : o + 159 ≤ q := h9; omega) (fun H locs h9 zk ok8 hS => ?_)
  rw [hZ] at zk ok8
  have hB := bAt_keep hB (fun q h1 h2 => ok8 q (by omega) (fun h7 => absurd (show o + 159 ≤ q from h7) (by omega)))
  obtain ⟨hM, hla, hco⟩ := h9
  refine lv_astore_n (lv' := [(2, .ref (o + 159)), (1, .ref o), (0, .ref b)]) hx hb d_L_law_15 rfl hl (by decide) rfl (fun ls hl => ?_)
  refine hp_iconst (z := 0) hx hb d_L_law_16 (by rfl) ?_
  refine lv_istore_n (lv' := [(3, .int (iI 0)), (2, .ref (o + 159)), (1, .ref o), (0, .ref b)]) hx hb d_L_law_17 rfl hl (by decide) rfl (fun ls hl => ?_)
  exact law_loop hL C0 hK (by omega) (L + 5) 0 (by omega) (by omega) H locs ⟨⟨wI, fun _ => 0, fun _ _ => 0, fun _ => 0, fun _ => false, hB, hM, bd_0, fun i _ k h => absurd (show k < 0 from h) (Nat.not_lt_zero k)⟩, ⟨_, hla⟩, ⟨_, hco⟩⟩ hS ls (lv_sub hl [3, 2, 1, 0] rfl)
