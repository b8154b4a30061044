set_option maxHeartbeats 4000000 in
set_option maxRecDepth 100000 in
/-- new BraidWords() -/
theorem c_B_init (l : Launch) (E : hp_E) (o : Nat) : Met l y_B_init (Cond.code y_B_init b_B_init 2 (none) :: G0) ({ frames := 3, cells := 158, slots := 1628, locals := 52 }) (hp_PN E [.ref o] (fun H => H.size = o + 1 ∧ ca E H o (.inr (2, [.null, .null])))) (hp_Qn 158 (fun q => o ≤ q) (fun H => bAt E H o wI (fun _ => 0) (fun _ _ => 0))) 158 1628 (fun q => o ≤ q) := by
  refine Met.ofW (cc := b_B_init) (maxL := 2) (ret := none) (by decide) rfl ?_
  intro p e s m args below meth cd s₁ Bd hml hv
  obtain ⟨hargs, ⟨hZ0, hobj⟩, hK, hO⟩ := hv
  have hx := Bd.exec
  have hb := Bd.bytes
  have hrt := Bd.returns
  have hts := atoms_spec (ws := Cond.code y_B_init b_B_init 2 (none) :: G0) Bd.pre
  have hG : ∀ w ∈ G0, w.before args s = true := fun w h => hts w (List.mem_cons_of_mem _ h)
  have hown : s.vm.findClass R_B = some m.cls := findClass_of_methodNamed Bd.named
  have hlocks := Bd.notSynchronized
  have hin : meth.name = "<init>" := (name_of_methodNamed Bd.named Bd.method).1
  have hl := lv_entry ([.ref o]) (n := 2) (Nat.le_of_ble_eq_true rfl)
  rw [show entryFrame m args 2 = entryFrame m ([.ref o] : List Value).toArray 2 from by rw [hargs]]
  rw [lg_entry_eq]
  generalize (lg_sl ([.ref o]) ++ List.replicate (2 - (lg_sl ([.ref o])).length) Slot.unset).toArray = ls at hl ⊢
  have hl : lv_has ls 2 [(0, .ref o)] := hl
  obtain ⟨R, hR⟩ : ∃ R, R = (headSpec (Cond.code y_B_init b_B_init 2 (none) :: G0) { frames := 3, cells := 158, slots := 1628, locals := 52 }).room := ⟨_, rfl⟩
  rw [← hR]
  have hRf : R.frames = 3 := by rw [hR]; rfl
  have hRl : R.locals = 52 := by rw [hR]; rfl
  have hRc : R.cells = 158 := by rw [hR]; rfl
  have hRs : R.slots = 1628 := by rw [hR]; rfl
  obtain ⟨Q, hQ⟩ : ∃ Q, Q = MQ below (hp_Qn 158 (fun q => o ≤ q) (fun H => bAt E H o wI (fun _ => 0) (fun _ _ => 0))) args s 158 1628 (fun q => o ≤ q) := ⟨_, rfl⟩
  rw [← hQ]
  obtain ⟨H, hH⟩ : ∃ H, H = s.heap := ⟨_, rfl⟩
  obtain ⟨locs, hlocs⟩ : ∃ locs : List Loc, locs = [] := ⟨_, rfl⟩
  have hS : va_S (fun q => o ≤ q) s.heap H locs := by rw [hH, hlocs]; exact va_S.rf
  have hA : ∀ q, s.heap.size ≤ q → (fun q => o ≤ q) q := fun q h => show o ≤ q by omega
  have hZ : H.size = o + 1 := by rw [hH]; exact hZ0
  rw [← hH] at hobj
  rw [show W p l e R s m args below meth cd s.heap [] 0 0 Q (F0 m 0 ls []) = W p l e R s m args below meth cd H locs 0 0 Q (F0 m 0 ls []) from by rw [hH, hlocs]]
  refine lv_aload_n hx hb d_B_init_0 rfl (lv_at hl 0 rfl) ?_
  refine W.objInit hx hb hown (hG _ ml_B_3) (hG _ im_JO_init) (hG _ co_JO_init) rfl (by rw [hml]; exact hl.1) rfl d_B_init_1 (by rw [hRf]; exact Nat.le_of_ble_eq_true rfl) (by rw [hRl]; exact Nat.le_of_ble_eq_true rfl) ?_
  show W p l e R s m args below meth cd H locs 0 0 Q (F0 m 4 ls [])
  refine lv_aload_n hx hb d_B_init_4 rfl (lv_at hl 0 rfl) ?_
  refine hp_iconst (z := 4) hx hb d_B_init_5 (by rfl) ?_
  refine hp_newq hx hb hown (hG _ cl_B_9) hO.1 hK.1 2 rfl hS 4 rfl (by omega) (by rw [hRc]; exact Nat.le_of_ble_eq_true rfl) (by rw [hRs]; exact Nat.le_of_ble_eq_true rfl) d_B_init_6 (fun H h1_ zk ok9 hS => ?_)
  rw [hZ] at h1_ zk ok9 ⊢
  replace hZ : H.size = o + 2 := by omega
  clear zk
  replace hobj := ca.keep hobj (ok9 (o) (by omega))
  clear ok9
  refine hp_putF (C := R_B) (T := F_B) (N := 2) (v := .ref (o + 1)) (ty := .array (.object "BraidWords$Word")) hx hb hG la_B t_B tk_B n_B hown hK.1 hobj hS (show o ≤ o by omega) rfl 0 (by decide) (hG _ fl_B_11) (fun _ h9 => h9) rfl hin rfl (by decide +kernel) rfl rfl (Nat.le_of_ble_eq_true rfl) d_B_init_9 (fun H locs h9 hz1 ok9 hS => ?_)
  replace hZ := hz1.trans hZ
  clear hz1
  replace h1_ := ca.keep h1_ (ok9 (o + 1) (by omega))
  replace hobj := h9
  clear h9
  replace hobj : ca E H o (.inr (2, [.ref (o + 1), .null])) := hobj
  clear ok9
  refine lv_aload_n hx hb d_B_init_12 rfl (lv_at hl 0 rfl) ?_
  refine hp_iconst (z := 4) hx hb d_B_init_13 (by rfl) ?_
  refine hp_newq hx hb hown (hG _ cl_B_15) hO.2.1 hK.1 3 rfl hS 4 rfl (by omega) (by rw [hRc]; exact Nat.le_of_ble_eq_true rfl) (by rw [hRs]; exact Nat.le_of_ble_eq_true rfl) d_B_init_14 (fun H h2_ zk ok9 hS => ?_)
  rw [hZ] at h2_ zk ok9 ⊢
  replace hZ : H.size = o + 3 := by omega
  clear zk
  replace hobj := ca.keep hobj (ok9 (o) (by omega))
  replace h1_ := ca.keep h1_ (ok9 (o + 1) (by omega))
  clear ok9
  refine hp_putF (C := R_B) (T := F_B) (N := 2) (v := .ref (o + 2)) (ty := .array (.object "BraidWords$NormalForm")) hx hb hG la_B t_B tk_B n_B hown hK.1 hobj hS (show o ≤ o by omega) rfl 1 (by decide) (hG _ fl_B_17) (fun _ h9 => h9) rfl hin rfl (by decide +kernel) rfl rfl (Nat.le_of_ble_eq_true rfl) d_B_init_17 (fun H locs h9 hz1 ok9 hS => ?_)
  replace hZ := hz1.trans hZ
  clear hz1
  replace h1_ := ca.keep h1_ (ok9 (o + 1) (by omega))
  replace h2_ := ca.keep h2_ (ok9 (o + 2) (by omega))
  replace hobj := h9
  clear h9
  replace hobj : ca E H o (.inr (2, [.ref (o + 1), .ref (o + 2)])) := hobj
  clear ok9
  refine hp_iconst (z := 0) hx hb d_B_init_20 (by rfl) ?_
  refine lv_istore_n (lv' := [(1, .int (iI 0)), (0, .ref o)]) hx hb d_B_init_21 rfl hl (by decide) rfl (fun ls hl => ?_)
  refine lv_iload_n hx hb d_B_init_22 rfl (lv_at hl 0 rfl) ?_
  refine hp_iconst (z := 4) hx hb d_B_init_23 (by rfl) ?_
  refine hp_icmp_ge (tgt := 59) hx hb d_B_init_24 (by decide) (by unfold iR; omega) (by unfold iR; omega) (fun c9 => absurd c9 (by decide)) (fun c9 => ?_)
  refine lv_aload_n hx hb d_B_init_27 rfl (lv_at hl 1 rfl) ?_
  refine hp_get (C := R_B) (T := F_B) (N := 2) (v := .ref (o + 1)) hx hb hG la_B hown hK.1 hobj rfl 0 (by decide) (hG _ fl_B_11) (fun _ h9 => h9) rfl d_B_init_28 ?_
  refine lv_iload_n hx hb d_B_init_31 rfl (lv_at hl 0 rfl) ?_
  refine hp_new (C := R_W) (T := F_W) (N := 3) (ci := 0) (fs := [.null, .int (iI 0), .int (iI 0)]) hx hb hG la_W t_W tk_W hown (hG _ cl_B_9) (hG _ ia_W) (hG _ in_W) hK.1 hS rfl (by intro j hj; match j, hj with | 0, _ => rfl | 1, _ => rfl | 2, _ => rfl | j + 3, h => exact absurd h (by omega)) (by rw [hRc]; exact Nat.le_of_ble_eq_true rfl) (by rw [hRs]; exact Nat.le_of_ble_eq_true rfl) d_B_init_32 (fun H h3_ zk ok9 hS => ?_)
  rw [hZ] at h3_ zk ok9 ⊢
  replace hZ : H.size = o + 4 := by omega
  clear zk
  replace hobj := ca.keep hobj (ok9 (o) (by omega))
  replace h1_ := ca.keep h1_ (ok9 (o + 1) (by omega))
  replace h2_ := ca.keep h2_ (ok9 (o + 2) (by omega))
  clear ok9
  refine lv_dup hx hb d_B_init_35 rfl ?_
  refine hp_calln (va_Run.run (va_runIN (As := []) (rest := [.ref (o + 3), .int (iI 0), .ref (o + 1)]) ⟨hx, hb, hml, hown, hG⟩ (c_W_init l E (o + 3)) ⟨va_cnB 0 hG (hp_goodC co_W_init) rfl rfl rfl (hK.2 _ ns_B_21) (hG _ in_W) hd_W_init.2 ⟨by rw [hRf]; exact Nat.le_of_ble_eq_true rfl, by rw [hRl]; exact Nat.le_of_ble_eq_true rfl⟩, rfl, hG _ im_W_init⟩ (hp_preN hK hO ⟨hZ, h3_⟩) rfl rfl hl.1 rfl (lv_room (Nat.le_of_ble_eq_true rfl)) d_B_init_36 ⟨by rw [hRc]; exact Nat.le_of_ble_eq_true rfl, by rw [hRs]; exact Nat.le_of_ble_eq_true rfl⟩)) hS (fun q h9 => show o ≤ q from Nat.le_trans (show o ≤ o + 3 by omega) h9) (fun q h9 => show o ≤ q from Nat.le_trans (show o ≤ o + 3 by omega) h9) (fun H locs h9 zk ok8 hS => ?_)
  rw [hZ] at zk ok8
  replace hZ : H.size = o + 5 := by omega
  clear zk
  have ok9 := fun (q : Nat) (h8 : q < o + 3) => ok8 q (by omega) (fun h7 => absurd (show o + 3 ≤ q from h7) (by omega))
  clear ok8
  replace hobj := ca.keep hobj (ok9 (o) (by omega))
  replace h1_ := ca.keep h1_ (ok9 (o + 1) (by omega))
  replace h2_ := ca.keep h2_ (ok9 (o + 2) (by omega))
  replace h3_ := h9
  clear h9
  clear ok9
  refine hp_aast (r := (R_W, F_W, 3)) hx hb hK.1 2 0 h1_ h3_.1 hS (show o ≤ o + 1 by omega) rfl rfl d_B_init_39 (by omega) 0 rfl (by omega) (fun H locs h9 hz1 ok9 hS => ?_)
  replace hZ := hz1.trans hZ
  clear hz1
  replace hobj := ca.keep hobj (ok9 (o) (by omega))
  replace h2_ := ca.keep h2_ (ok9 (o + 2) (by omega))
  replace h3_ := wAt.keep h3_ (ok9 (o + 3) (by omega)) (ok9 (o + 3 + 1) (by omega))
  replace h1_ := h9
  clear h9
  clear ok9
  refine lv_aload_n hx hb d_B_init_40 rfl (lv_at hl 1 rfl) ?_
  refine hp_get (C := R_B) (T := F_B) (N := 2) (v := .ref (o + 2)) hx hb hG la_B hown hK.1 hobj rfl 1 (by decide) (hG _ fl_B_17) (fun _ h9 => h9) rfl d_B_init_41 ?_
  refine lv_iload_n hx hb d_B_init_44 rfl (lv_at hl 0 rfl) ?_
  refine hp_new (C := R_N) (T := F_N) (N := 6) (ci := 1) (fs := [.null, .null, .null, .int (iI 0), .int (iI 0), .int (iI 0)]) hx hb hG la_N t_N tk_N hown (hG _ cl_B_15) (hG _ ia_N) (hG _ in_N) hK.1 hS rfl (by intro j hj; match j, hj with | 0, _ => rfl | 1, _ => rfl | 2, _ => rfl | 3, _ => rfl | 4, _ => rfl | 5, _ => rfl | j + 6, h => exact absurd h (by omega)) (by rw [hRc]; exact Nat.le_of_ble_eq_true rfl) (by rw [hRs]; exact Nat.le_of_ble_eq_true rfl) d_B_init_45 (fun H h4_ zk ok9 hS => ?_)
  rw [hZ] at h4_ zk ok9 ⊢
  replace hZ : H.size = o + 6 := by omega
  clear zk
  replace hobj := ca.keep hobj (ok9 (o) (by omega))
  replace h1_ := ca.keep h1_ (ok9 (o + 1) (by omega))
  replace h2_ := ca.keep h2_ (ok9 (o + 2) (by omega))
  replace h3_ := wAt.keep h3_ (ok9 (o + 3) (by omega)) (ok9 (o + 3 + 1) (by omega))
  clear ok9
  refine lv_dup hx hb d_B_init_48 rfl ?_
  refine hp_calln (va_Run.run (va_runIN (As := []) (rest := [.ref (o + 5), .int (iI 0), .ref (o + 2)]) ⟨hx, hb, hml, hown, hG⟩ (c_N_init l E (o + 5)) ⟨va_cnB 0 hG (hp_goodC co_N_init) rfl rfl rfl (hK.2 _ ns_B_22) (hG _ in_N) hd_N_init.2 ⟨by rw [hRf]; exact Nat.le_of_ble_eq_true rfl, by rw [hRl]; exact Nat.le_of_ble_eq_true rfl⟩, rfl, hG _ im_N_init⟩ (hp_preN hK hO ⟨hZ, h4_⟩) rfl rfl hl.1 rfl (lv_room (Nat.le_of_ble_eq_true rfl)) d_B_init_49 ⟨by rw [hRc]; exact Nat.le_of_ble_eq_true rfl, by rw [hRs]; exact Nat.le_of_ble_eq_true rfl⟩)) hS (fun q h9 => show o ≤ q from Nat.le_trans (show o ≤ o + 5 by omega) h9) (fun q h9 => show o ≤ q from Nat.le_trans (show o ≤ o + 5 by omega) h9) (fun H locs h9 zk ok8 hS => ?_)
  rw [hZ] at zk ok8
  replace hZ : H.size = o + 42 := by omega
  clear zk
  have ok9 := fun (q : Nat) (h8 : q < o + 5) => ok8 q (by omega) (fun h7 => absurd (show o + 5 ≤ q from h7) (by omega))
  clear ok8
  replace hobj := ca.keep hobj (ok9 (o) (by omega))
  replace h1_ := ca.keep h1_ (ok9 (o + 1) (by omega))
  replace h2_ := ca.keep h2_ (ok9 (o + 2) (by omega))
  replace h3_ := wAt.keep h3_ (ok9 (o + 3) (by omega)) (ok9 (o + 3 + 1) (by omega))
  replace h4_ := h9
  clear h9
  clear ok9
  refine hp_aast (r := (R_N, F_N, 6)) hx hb hK.1 3 1 h2_ h4_.1 hS (show o ≤ o + 2 by omega) rfl rfl d_B_init_52 (by omega) 0 rfl (by omega) (fun H locs h9 hz1 ok9 hS => ?_)
  replace hZ := hz1.trans hZ
  clear hz1
  replace hobj := ca.keep hobj (ok9 (o) (by omega))
  replace h1_ := ca.keep h1_ (ok9 (o + 1) (by omega))
  replace h3_ := wAt.keep h3_ (ok9 (o + 3) (by omega)) (ok9 (o + 3 + 1) (by omega))
  replace h4_ := nAt.keep h4_ (fun q h1 h2 => ok9 q (by omega))
  replace h2_ := h9
  clear h9
  clear ok9
  refine hp_iinc (z := 1) (lv' := [(1, .int (iI 1)), (0, .ref o)]) hx hb d_B_init_53 hl (k := 0) rfl (by omega) (by decide) rfl (fun ls hl => ?_)
  refine lv_goto (tgt := 22) hx hb d_B_init_56 (by decide) ?_
  refine lv_iload_n hx hb d_B_init_22 rfl (lv_at hl 0 rfl) ?_
  refine hp_iconst (z := 4) hx hb d_B_init_23 (by rfl) ?_
  refine hp_icmp_ge (tgt := 59) hx hb d_B_init_24 (by decide) (by unfold iR; omega) (by unfold iR; omega) (fun c9 => absurd c9 (by decide)) (fun c9 => ?_)
  refine lv_aload_n hx hb d_B_init_27 rfl (lv_at hl 1 rfl) ?_
  refine hp_get (C := R_B) (T := F_B) (N := 2) (v := .ref (o + 1)) hx hb hG la_B hown hK.1 hobj rfl 0 (by decide) (hG _ fl_B_11) (fun _ h9 => h9) rfl d_B_init_28 ?_
  refine lv_iload_n hx hb d_B_init_31 rfl (lv_at hl 0 rfl) ?_
  refine hp_new (C := R_W) (T := F_W) (N := 3) (ci := 0) (fs := [.null, .int (iI 0), .int (iI 0)]) hx hb hG la_W t_W tk_W hown (hG _ cl_B_9) (hG _ ia_W) (hG _ in_W) hK.1 hS rfl (by intro j hj; match j, hj with | 0, _ => rfl | 1, _ => rfl | 2, _ => rfl | j + 3, h => exact absurd h (by omega)) (by rw [hRc]; exact Nat.le_of_ble_eq_true rfl) (by rw [hRs]; exact Nat.le_of_ble_eq_true rfl) d_B_init_32 (fun H h5_ zk ok9 hS => ?_)
  rw [hZ] at h5_ zk ok9 ⊢
  replace hZ : H.size = o + 43 := by omega
  clear zk
  replace hobj := ca.keep hobj (ok9 (o) (by omega))
  replace h1_ := ca.keep h1_ (ok9 (o + 1) (by omega))
  replace h2_ := ca.keep h2_ (ok9 (o + 2) (by omega))
  replace h3_ := wAt.keep h3_ (ok9 (o + 3) (by omega)) (ok9 (o + 3 + 1) (by omega))
  replace h4_ := nAt.keep h4_ (fun q h1 h2 => ok9 q (by omega))
  clear ok9
  refine lv_dup hx hb d_B_init_35 rfl ?_
  refine hp_calln (va_Run.run (va_runIN (As := []) (rest := [.ref (o + 42), .int (iI 1), .ref (o + 1)]) ⟨hx, hb, hml, hown, hG⟩ (c_W_init l E (o + 42)) ⟨va_cnB 0 hG (hp_goodC co_W_init) rfl rfl rfl (hK.2 _ ns_B_21) (hG _ in_W) hd_W_init.2 ⟨by rw [hRf]; exact Nat.le_of_ble_eq_true rfl, by rw [hRl]; exact Nat.le_of_ble_eq_true rfl⟩, rfl, hG _ im_W_init⟩ (hp_preN hK hO ⟨hZ, h5_⟩) rfl rfl hl.1 rfl (lv_room (Nat.le_of_ble_eq_true rfl)) d_B_init_36 ⟨by rw [hRc]; exact Nat.le_of_ble_eq_true rfl, by rw [hRs]; exact Nat.le_of_ble_eq_true rfl⟩)) hS (fun q h9 => show o ≤ q from Nat.le_trans (show o ≤ o + 42 by omega) h9) (fun q h9 => show o ≤ q from Nat.le_trans (show o ≤ o + 42 by omega) h9) (fun H locs h9 zk ok8 hS => ?_)
  rw [hZ] at zk ok8
  replace hZ : H.size = o + 44 := by omega
  clear zk
  have ok9 := fun (q : Nat) (h8 : q < o + 42) => ok8 q (by omega) (fun h7 => absurd (show o + 42 ≤ q from h7) (by omega))
  clear ok8
  replace hobj := ca.keep hobj (ok9 (o) (by omega))
  replace h1_ := ca.keep h1_ (ok9 (o + 1) (by omega))
  replace h2_ := ca.keep h2_ (ok9 (o + 2) (by omega))
  replace h3_ := wAt.keep h3_ (ok9 (o + 3) (by omega)) (ok9 (o + 3 + 1) (by omega))
  replace h4_ := nAt.keep h4_ (fun q h1 h2 => ok9 q (by omega))
  replace h5_ := h9
  clear h9
  clear ok9
  refine hp_aast (r := (R_W, F_W, 3)) hx hb hK.1 2 0 h1_ h5_.1 hS (show o ≤ o + 1 by omega) rfl rfl d_B_init_39 (by omega) 1 rfl (by omega) (fun H locs h9 hz1 ok9 hS => ?_)
  replace hZ := hz1.trans hZ
  clear hz1
  replace hobj := ca.keep hobj (ok9 (o) (by omega))
  replace h2_ := ca.keep h2_ (ok9 (o + 2) (by omega))
  replace h3_ := wAt.keep h3_ (ok9 (o + 3) (by omega)) (ok9 (o + 3 + 1) (by omega))
  replace h4_ := nAt.keep h4_ (fun q h1 h2 => ok9 q (by omega))
  replace h5_ := wAt.keep h5_ (ok9 (o + 42) (by omega)) (ok9 (o + 42 + 1) (by omega))
  replace h1_ := h9
  clear h9
  clear ok9
  refine lv_aload_n hx hb d_B_init_40 rfl (lv_at hl 1 rfl) ?_
  refine hp_get (C := R_B) (T := F_B) (N := 2) (v := .ref (o + 2)) hx hb hG la_B hown hK.1 hobj rfl 1 (by decide) (hG _ fl_B_17) (fun _ h9 => h9) rfl d_B_init_41 ?_
  refine lv_iload_n hx hb d_B_init_44 rfl (lv_at hl 0 rfl) ?_
  refine hp_new (C := R_N) (T := F_N) (N := 6) (ci := 1) (fs := [.null, .null, .null, .int (iI 0), .int (iI 0), .int (iI 0)]) hx hb hG la_N t_N tk_N hown (hG _ cl_B_15) (hG _ ia_N) (hG _ in_N) hK.1 hS rfl (by intro j hj; match j, hj with | 0, _ => rfl | 1, _ => rfl | 2, _ => rfl | 3, _ => rfl | 4, _ => rfl | 5, _ => rfl | j + 6, h => exact absurd h (by omega)) (by rw [hRc]; exact Nat.le_of_ble_eq_true rfl) (by rw [hRs]; exact Nat.le_of_ble_eq_true rfl) d_B_init_45 (fun H h6_ zk ok9 hS => ?_)
  rw [hZ] at h6_ zk ok9 ⊢
  replace hZ : H.size = o + 45 := by omega
  clear zk
  replace hobj := ca.keep hobj (ok9 (o) (by omega))
  replace h1_ := ca.keep h1_ (ok9 (o + 1) (by omega))
  replace h2_ := ca.keep h2_ (ok9 (o + 2) (by omega))
  replace h3_ := wAt.keep h3_ (ok9 (o + 3) (by omega)) (ok9 (o + 3 + 1) (by omega))
  replace h4_ := nAt.keep h4_ (fun q h1 h2 => ok9 q (by omega))
  replace h5_ := wAt.keep h5_ (ok9 (o + 42) (by omega)) (ok9 (o + 42 + 1) (by omega))
  clear ok9
  refine lv_dup hx hb d_B_init_48 rfl ?_
  refine hp_calln (va_Run.run (va_runIN (As := []) (rest := [.ref (o + 44), .int (iI 1), .ref (o + 2)]) ⟨hx, hb, hml, hown, hG⟩ (c_N_init l E (o + 44)) ⟨va_cnB 0 hG (hp_goodC co_N_init) rfl rfl rfl (hK.2 _ ns_B_22) (hG _ in_N) hd_N_init.2 ⟨by rw [hRf]; exact Nat.le_of_ble_eq_true rfl, by rw [hRl]; exact Nat.le_of_ble_eq_true rfl⟩, rfl, hG _ im_N_init⟩ (hp_preN hK hO ⟨hZ, h6_⟩) rfl rfl hl.1 rfl (lv_room (Nat.le_of_ble_eq_true rfl)) d_B_init_49 ⟨by rw [hRc]; exact Nat.le_of_ble_eq_true rfl, by rw [hRs]; exact Nat.le_of_ble_eq_true rfl⟩)) hS (fun q h9 => show o ≤ q from Nat.le_trans (show o ≤ o + 44 by omega) h9) (fun q h9 => show o ≤ q from Nat.le_trans (show o ≤ o + 44 by omega) h9) (fun H locs h9 zk ok8 hS => ?_)
  rw [hZ] at zk ok8
  replace hZ : H.size = o + 81 := by omega
  clear zk
  have ok9 := fun (q : Nat) (h8 : q < o + 44) => ok8 q (by omega) (fun h7 => absurd (show o + 44 ≤ q from h7) (by omega))
  clear ok8
  replace hobj := ca.keep hobj (ok9 (o) (by omega))
  replace h1_ := ca.keep h1_ (ok9 (o + 1) (by omega))
  replace h2_ := ca.keep h2_ (ok9 (o + 2) (by omega))
  replace h3_ := wAt.keep h3_ (ok9 (o + 3) (by omega)) (ok9 (o + 3 + 1) (by omega))
  replace h4_ := nAt.keep h4_ (fun q h1 h2 => ok9 q (by omega))
  replace h5_ := wAt.keep h5_ (ok9 (o + 42) (by omega)) (ok9 (o + 42 + 1) (by omega))
  replace h6_ := h9
  clear h9
  clear ok9
  refine hp_aast (r := (R_N, F_N, 6)) hx hb hK.1 3 1 h2_ h6_.1 hS (show o ≤ o + 2 by omega) rfl rfl d_B_init_52 (by omega) 1 rfl (by omega) (fun H locs h9 hz1 ok9 hS => ?_)
  replace hZ := hz1.trans hZ
  clear hz1
  replace hobj := ca.keep hobj (ok9 (o) (by omega))
  replace h1_ := ca.keep h1_ (ok9 (o + 1) (by omega))
  replace h3_ := wAt.keep h3_ (ok9 (o + 3) (by omega)) (ok9 (o + 3 + 1) (by omega))
  replace h4_ := nAt.keep h4_ (fun q h1 h2 => ok9 q (by omega))
  replace h5_ := wAt.keep h5_ (ok9 (o + 42) (by omega)) (ok9 (o + 42 + 1) (by omega))
  replace h6_ := nAt.keep h6_ (fun q h1 h2 => ok9 q (by omega))
  replace h2_ := h9
  clear h9
  clear ok9
  refine hp_iinc (z := 2) (lv' := [(1, .int (iI 2)), (0, .ref o)]) hx hb d_B_init_53 hl (k := 0) rfl (by omega) (by decide) rfl (fun ls hl => ?_)
  refine lv_goto (tgt := 22) hx hb d_B_init_56 (by decide) ?_
  refine lv_iload_n hx hb d_B_init_22 rfl (lv_at hl 0 rfl) ?_
  refine hp_iconst (z := 4) hx hb d_B_init_23 (by rfl) ?_
  refine hp_icmp_ge (tgt := 59) hx hb d_B_init_24 (by decide) (by unfold iR; omega) (by unfold iR; omega) (fun c9 => absurd c9 (by decide)) (fun c9 => ?_)
  refine lv_aload_n hx hb d_B_init_27 rfl (lv_at hl 1 rfl) ?_
  refine hp_get (C := R_B) (T := F_B) (N := 2) (v := .ref (o + 1)) hx hb hG la_B hown hK.1 hobj rfl 0 (by decide) (hG _ fl_B_11) (fun _ h9 => h9) rfl d_B_init_28 ?_
  refine lv_iload_n hx hb d_B_init_31 rfl (lv_at hl 0 rfl) ?_
  refine hp_new (C := R_W) (T := F_W) (N := 3) (ci := 0) (fs := [.null, .int (iI 0), .int (iI 0)]) hx hb hG la_W t_W tk_W hown (hG _ cl_B_9) (hG _ ia_W) (hG _ in_W) hK.1 hS rfl (by intro j hj; match j, hj with | 0, _ => rfl | 1, _ => rfl | 2, _ => rfl | j + 3, h => exact absurd h (by omega)) (by rw [hRc]; exact Nat.le_of_ble_eq_true rfl) (by rw [hRs]; exact Nat.le_of_ble_eq_true rfl) d_B_init_32 (fun H h7_ zk ok9 hS => ?_)
  rw [hZ] at h7_ zk ok9 ⊢
  replace hZ : H.size = o + 82 := by omega
  clear zk
  replace hobj := ca.keep hobj (ok9 (o) (by omega))
  replace h1_ := ca.keep h1_ (ok9 (o + 1) (by omega))
  replace h2_ := ca.keep h2_ (ok9 (o + 2) (by omega))
  replace h3_ := wAt.keep h3_ (ok9 (o + 3) (by omega)) (ok9 (o + 3 + 1) (by omega))
  replace h4_ := nAt.keep h4_ (fun q h1 h2 => ok9 q (by omega))
  replace h5_ := wAt.keep h5_ (ok9 (o + 42) (by omega)) (ok9 (o + 42 + 1) (by omega))
  replace h6_ := nAt.keep h6_ (fun q h1 h2 => ok9 q (by omega))
  clear ok9
  refine lv_dup hx hb d_B_init_35 rfl ?_
  refine hp_calln (va_Run.run (va_runIN (As := []) (rest := [.ref (o + 81), .int (iI 2), .ref (o + 1)]) ⟨hx, hb, hml, hown, hG⟩ (c_W_init l E (o + 81)) ⟨va_cnB 0 hG (hp_goodC co_W_init) rfl rfl rfl (hK.2 _ ns_B_21) (hG _ in_W) hd_W_init.2 ⟨by rw [hRf]; exact Nat.le_of_ble_eq_true rfl, by rw [hRl]; exact Nat.le_of_ble_eq_true rfl⟩, rfl, hG _ im_W_init⟩ (hp_preN hK hO ⟨hZ, h7_⟩) rfl rfl hl.1 rfl (lv_room (Nat.le_of_ble_eq_true rfl)) d_B_init_36 ⟨by rw [hRc]; exact Nat.le_of_ble_eq_true rfl, by rw [hRs]; exact Nat.le_of_ble_eq_true rfl⟩)) hS (fun q h9 => show o ≤ q from Nat.le_trans (show o ≤ o + 81 by omega) h9) (fun q h9 => show o ≤ q from Nat.le_trans (show o ≤ o + 81 by omega) h9) (fun H locs h9 zk ok8 hS => ?_)
  rw [hZ] at zk ok8
  replace hZ : H.size = o + 83 := by omega
  clear zk
  have ok9 := fun (q : Nat) (h8 : q < o + 81) => ok8 q (by omega) (fun h7 => absurd (show o + 81 ≤ q from h7) (by omega))
  clear ok8
  replace hobj := ca.keep hobj (ok9 (o) (by omega))
  replace h1_ := ca.keep h1_ (ok9 (o + 1) (by omega))
  replace h2_ := ca.keep h2_ (ok9 (o + 2) (by omega))
  replace h3_ := wAt.keep h3_ (ok9 (o + 3) (by omega)) (ok9 (o + 3 + 1) (by omega))
  replace h4_ := nAt.keep h4_ (fun q h1 h2 => ok9 q (by omega))
  replace h5_ := wAt.keep h5_ (ok9 (o + 42) (by omega)) (ok9 (o + 42 + 1) (by omega))
  replace h6_ := nAt.keep h6_ (fun q h1 h2 => ok9 q (by omega))
  replace h7_ := h9
  clear h9
  clear ok9
  refine hp_aast (r := (R_W, F_W, 3)) hx hb hK.1 2 0 h1_ h7_.1 hS (show o ≤ o + 1 by omega) rfl rfl d_B_init_39 (by omega) 2 rfl (by omega) (fun H locs h9 hz1 ok9 hS => ?_)
  replace hZ := hz1.trans hZ
  clear hz1
  replace hobj := ca.keep hobj (ok9 (o) (by omega))
  replace h2_ := ca.keep h2_ (ok9 (o + 2) (by omega))
  replace h3_ := wAt.keep h3_ (ok9 (o + 3) (by omega)) (ok9 (o + 3 + 1) (by omega))
  replace h4_ := nAt.keep h4_ (fun q h1 h2 => ok9 q (by omega))
  replace h5_ := wAt.keep h5_ (ok9 (o + 42) (by omega)) (ok9 (o + 42 + 1) (by omega))
  replace h6_ := nAt.keep h6_ (fun q h1 h2 => ok9 q (by omega))
  replace h7_ := wAt.keep h7_ (ok9 (o + 81) (by omega)) (ok9 (o + 81 + 1) (by omega))
  replace h1_ := h9
  clear h9
  clear ok9
  refine lv_aload_n hx hb d_B_init_40 rfl (lv_at hl 1 rfl) ?_
  refine hp_get (C := R_B) (T := F_B) (N := 2) (v := .ref (o + 2)) hx hb hG la_B hown hK.1 hobj rfl 1 (by decide) (hG _ fl_B_17) (fun _ h9 => h9) rfl d_B_init_41 ?_
  refine lv_iload_n hx hb d_B_init_44 rfl (lv_at hl 0 rfl) ?_
  refine hp_new (C := R_N) (T := F_N) (N := 6) (ci := 1) (fs := [.null, .null, .null, .int (iI 0), .int (iI 0), .int (iI 0)]) hx hb hG la_N t_N tk_N hown (hG _ cl_B_15) (hG _ ia_N) (hG _ in_N) hK.1 hS rfl (by intro j hj; match j, hj with | 0, _ => rfl | 1, _ => rfl | 2, _ => rfl | 3, _ => rfl | 4, _ => rfl | 5, _ => rfl | j + 6, h => exact absurd h (by omega)) (by rw [hRc]; exact Nat.le_of_ble_eq_true rfl) (by rw [hRs]; exact Nat.le_of_ble_eq_true rfl) d_B_init_45 (fun H h8_ zk ok9 hS => ?_)
  rw [hZ] at h8_ zk ok9 ⊢
  replace hZ : H.size = o + 84 := by omega
  clear zk
  replace hobj := ca.keep hobj (ok9 (o) (by omega))
  replace h1_ := ca.keep h1_ (ok9 (o + 1) (by omega))
  replace h2_ := ca.keep h2_ (ok9 (o + 2) (by omega))
  replace h3_ := wAt.keep h3_ (ok9 (o + 3) (by omega)) (ok9 (o + 3 + 1) (by omega))
  replace h4_ := nAt.keep h4_ (fun q h1 h2 => ok9 q (by omega))
  replace h5_ := wAt.keep h5_ (ok9 (o + 42) (by omega)) (ok9 (o + 42 + 1) (by omega))
  replace h6_ := nAt.keep h6_ (fun q h1 h2 => ok9 q (by omega))
  replace h7_ := wAt.keep h7_ (ok9 (o + 81) (by omega)) (ok9 (o + 81 + 1) (by omega))
  clear ok9
  refine lv_dup hx hb d_B_init_48 rfl ?_
  refine hp_calln (va_Run.run (va_runIN (As := []) (rest := [.ref (o + 83), .int (iI 2), .ref (o + 2)]) ⟨hx, hb, hml, hown, hG⟩ (c_N_init l E (o + 83)) ⟨va_cnB 0 hG (hp_goodC co_N_init) rfl rfl rfl (hK.2 _ ns_B_22) (hG _ in_N) hd_N_init.2 ⟨by rw [hRf]; exact Nat.le_of_ble_eq_true rfl, by rw [hRl]; exact Nat.le_of_ble_eq_true rfl⟩, rfl, hG _ im_N_init⟩ (hp_preN hK hO ⟨hZ, h8_⟩) rfl rfl hl.1 rfl (lv_room (Nat.le_of_ble_eq_true rfl)) d_B_init_49 ⟨by rw [hRc]; exact Nat.le_of_ble_eq_true rfl, by rw [hRs]; exact Nat.le_of_ble_eq_true rfl⟩)) hS (fun q h9 => show o ≤ q from Nat.le_trans (show o ≤ o + 83 by omega) h9) (fun q h9 => show o ≤ q from Nat.le_trans (show o ≤ o + 83 by omega) h9) (fun H locs h9 zk ok8 hS => ?_)
  rw [hZ] at zk ok8
  replace hZ : H.size = o + 120 := by omega
  clear zk
  have ok9 := fun (q : Nat) (h8 : q < o + 83) => ok8 q (by omega) (fun h7 => absurd (show o + 83 ≤ q from h7) (by omega))
  clear ok8
  replace hobj := ca.keep hobj (ok9 (o) (by omega))
  replace h1_ := ca.keep h1_ (ok9 (o + 1) (by omega))
  replace h2_ := ca.keep h2_ (ok9 (o + 2) (by omega))
  replace h3_ := wAt.keep h3_ (ok9 (o + 3) (by omega)) (ok9 (o + 3 + 1) (by omega))
  replace h4_ := nAt.keep h4_ (fun q h1 h2 => ok9 q (by omega))
  replace h5_ := wAt.keep h5_ (ok9 (o + 42) (by omega)) (ok9 (o + 42 + 1) (by omega))
  replace h6_ := nAt.keep h6_ (fun q h1 h2 => ok9 q (by omega))
  replace h7_ := wAt.keep h7_ (ok9 (o + 81) (by omega)) (ok9 (o + 81 + 1) (by omega))
  replace h8_ := h9
  clear h9
  clear ok9
  refine hp_aast (r := (R_N, F_N, 6)) hx hb hK.1 3 1 h2_ h8_.1 hS (show o ≤ o + 2 by omega) rfl rfl d_B_init_52 (by omega) 2 rfl (by omega) (fun H locs h9 hz1 ok9 hS => ?_)
  replace hZ := hz1.trans hZ
  clear hz1
  replace hobj := ca.keep hobj (ok9 (o) (by omega))
  replace h1_ := ca.keep h1_ (ok9 (o + 1) (by omega))
  replace h3_ := wAt.keep h3_ (ok9 (o + 3) (by omega)) (ok9 (o + 3 + 1) (by omega))
  replace h4_ := nAt.keep h4_ (fun q h1 h2 => ok9 q (by omega))
  replace h5_ := wAt.keep h5_ (ok9 (o + 42) (by omega)) (ok9 (o + 42 + 1) (by omega))
  replace h6_ := nAt.keep h6_ (fun q h1 h2 => ok9 q (by omega))
  replace h7_ := wAt.keep h7_ (ok9 (o + 81) (by omega)) (ok9 (o + 81 + 1) (by omega))
  replace h8_ := nAt.keep h8_ (fun q h1 h2 => ok9 q (by omega))
  replace h2_ := h9
  clear h9
  clear ok9
  refine hp_iinc (z := 3) (lv' := [(1, .int (iI 3)), (0, .ref o)]) hx hb d_B_init_53 hl (k := 0) rfl (by omega) (by decide) rfl (fun ls hl => ?_)
  refine lv_goto (tgt := 22) hx hb d_B_init_56 (by decide) ?_
  refine lv_iload_n hx hb d_B_init_22 rfl (lv_at hl 0 rfl) ?_
  refine hp_iconst (z := 4) hx hb d_B_init_23 (by rfl) ?_
  refine hp_icmp_ge (tgt := 59) hx hb d_B_init_24 (by decide) (by unfold iR; omega) (by unfold iR; omega) (fun c9 => absurd c9 (by decide)) (fun c9 => ?_)
  refine lv_aload_n hx hb d_B_init_27 rfl (lv_at hl 1 rfl) ?_
  refine hp_get (C := R_B) (T := F_B) (N := 2) (v := .ref (o + 1)) hx hb hG la_B hown hK.1 hobj rfl 0 (by decide) (hG _ fl_B_11) (fun _ h9 => h9) rfl d_B_init_28 ?_
  refine lv_iload_n hx hb d_B_init_31 rfl (lv_at hl 0 rfl) ?_
  refine hp_new (C := R_W) (T := F_W) (N := 3) (ci := 0) (fs := [.null, .int (iI 0), .int (iI 0)]) hx hb hG la_W t_W tk_W hown (hG _ cl_B_9) (hG _ ia_W) (hG _ in_W) hK.1 hS rfl (by intro j hj; match j, hj with | 0, _ => rfl | 1, _ => rfl | 2, _ => rfl | j + 3, h => exact absurd h (by omega)) (by rw [hRc]; exact Nat.le_of_ble_eq_true rfl) (by rw [hRs]; exact Nat.le_of_ble_eq_true rfl) d_B_init_32 (fun H h9_ zk ok9 hS => ?_)
  rw [hZ] at h9_ zk ok9 ⊢
  replace hZ : H.size = o + 121 := by omega
  clear zk
  replace hobj := ca.keep hobj (ok9 (o) (by omega))
  replace h1_ := ca.keep h1_ (ok9 (o + 1) (by omega))
  replace h2_ := ca.keep h2_ (ok9 (o + 2) (by omega))
  replace h3_ := wAt.keep h3_ (ok9 (o + 3) (by omega)) (ok9 (o + 3 + 1) (by omega))
  replace h4_ := nAt.keep h4_ (fun q h1 h2 => ok9 q (by omega))
  replace h5_ := wAt.keep h5_ (ok9 (o + 42) (by omega)) (ok9 (o + 42 + 1) (by omega))
  replace h6_ := nAt.keep h6_ (fun q h1 h2 => ok9 q (by omega))
  replace h7_ := wAt.keep h7_ (ok9 (o + 81) (by omega)) (ok9 (o + 81 + 1) (by omega))
  replace h8_ := nAt.keep h8_ (fun q h1 h2 => ok9 q (by omega))
  clear ok9
  refine lv_dup hx hb d_B_init_35 rfl ?_
  refine hp_calln (va_Run.run (va_runIN (As := []) (rest := [.ref (o + 120), .int (iI 3), .ref (o + 1)]) ⟨hx, hb, hml, hown, hG⟩ (c_W_init l E (o + 120)) ⟨va_cnB 0 hG (hp_goodC co_W_init) rfl rfl rfl (hK.2 _ ns_B_21) (hG _ in_W) hd_W_init.2 ⟨by rw [hRf]; exact Nat.le_of_ble_eq_true rfl, by rw [hRl]; exact Nat.le_of_ble_eq_true rfl⟩, rfl, hG _ im_W_init⟩ (hp_preN hK hO ⟨hZ, h9_⟩) rfl rfl hl.1 rfl (lv_room (Nat.le_of_ble_eq_true rfl)) d_B_init_36 ⟨by rw [hRc]; exact Nat.le_of_ble_eq_true rfl, by rw [hRs]; exact Nat.le_of_ble_eq_true rfl⟩)) hS (fun q h9 => show o ≤ q from Nat.le_trans (show o ≤ o + 120 by omega) h9) (fun q h9 => show o ≤ q from Nat.le_trans (show o ≤ o + 120 by omega) h9) (fun H locs h9 zk ok8 hS => ?_)
  rw [hZ] at zk ok8
  replace hZ : H.size = o + 122 := by omega
  clear zk
  have ok9 := fun (q : Nat) (h8 : q < o + 120) => ok8 q (by omega) (fun h7 => absurd (show o + 120 ≤ q from h7) (by omega))
  clear ok8
  replace hobj := ca.keep hobj (ok9 (o) (by omega))
  replace h1_ := ca.keep h1_ (ok9 (o + 1) (by omega))
  replace h2_ := ca.keep h2_ (ok9 (o + 2) (by omega))
  replace h3_ := wAt.keep h3_ (ok9 (o + 3) (by omega)) (ok9 (o + 3 + 1) (by omega))
  replace h4_ := nAt.keep h4_ (fun q h1 h2 => ok9 q (by omega))
  replace h5_ := wAt.keep h5_ (ok9 (o + 42) (by omega)) (ok9 (o + 42 + 1) (by omega))
  replace h6_ := nAt.keep h6_ (fun q h1 h2 => ok9 q (by omega))
  replace h7_ := wAt.keep h7_ (ok9 (o + 81) (by omega)) (ok9 (o + 81 + 1) (by omega))
  replace h8_ := nAt.keep h8_ (fun q h1 h2 => ok9 q (by omega))
  replace h9_ := h9
  clear h9
  clear ok9
  refine hp_aast (r := (R_W, F_W, 3)) hx hb hK.1 2 0 h1_ h9_.1 hS (show o ≤ o + 1 by omega) rfl rfl d_B_init_39 (by omega) 3 rfl (by omega) (fun H locs h9 hz1 ok9 hS => ?_)
  replace hZ := hz1.trans hZ
  clear hz1
  replace hobj := ca.keep hobj (ok9 (o) (by omega))
  replace h2_ := ca.keep h2_ (ok9 (o + 2) (by omega))
  replace h3_ := wAt.keep h3_ (ok9 (o + 3) (by omega)) (ok9 (o + 3 + 1) (by omega))
  replace h4_ := nAt.keep h4_ (fun q h1 h2 => ok9 q (by omega))
  replace h5_ := wAt.keep h5_ (ok9 (o + 42) (by omega)) (ok9 (o + 42 + 1) (by omega))
  replace h6_ := nAt.keep h6_ (fun q h1 h2 => ok9 q (by omega))
  replace h7_ := wAt.keep h7_ (ok9 (o + 81) (by omega)) (ok9 (o + 81 + 1) (by omega))
  replace h8_ := nAt.keep h8_ (fun q h1 h2 => ok9 q (by omega))
  replace h9_ := wAt.keep h9_ (ok9 (o + 120) (by omega)) (ok9 (o + 120 + 1) (by omega))
  replace h1_ := h9
  clear h9
  clear ok9
  refine lv_aload_n hx hb d_B_init_40 rfl (lv_at hl 1 rfl) ?_
  refine hp_get (C := R_B) (T := F_B) (N := 2) (v := .ref (o + 2)) hx hb hG la_B hown hK.1 hobj rfl 1 (by decide) (hG _ fl_B_17) (fun _ h9 => h9) rfl d_B_init_41 ?_
  refine lv_iload_n hx hb d_B_init_44 rfl (lv_at hl 0 rfl) ?_
  refine hp_new (C := R_N) (T := F_N) (N := 6) (ci := 1) (fs := [.null, .null, .null, .int (iI 0), .int (iI 0), .int (iI 0)]) hx hb hG la_N t_N tk_N hown (hG _ cl_B_15) (hG _ ia_N) (hG _ in_N) hK.1 hS rfl (by intro j hj; match j, hj with | 0, _ => rfl | 1, _ => rfl | 2, _ => rfl | 3, _ => rfl | 4, _ => rfl | 5, _ => rfl | j + 6, h => exact absurd h (by omega)) (by rw [hRc]; exact Nat.le_of_ble_eq_true rfl) (by rw [hRs]; exact Nat.le_of_ble_eq_true rfl) d_B_init_45 (fun H h10_ zk ok9 hS => ?_)
  rw [hZ] at h10_ zk ok9 ⊢
  replace hZ : H.size = o + 123 := by omega
  clear zk
  replace hobj := ca.keep hobj (ok9 (o) (by omega))
  replace h1_ := ca.keep h1_ (ok9 (o + 1) (by omega))
  replace h2_ := ca.keep h2_ (ok9 (o + 2) (by omega))
  replace h3_ := wAt.keep h3_ (ok9 (o + 3) (by omega)) (ok9 (o + 3 + 1) (by omega))
  replace h4_ := nAt.keep h4_ (fun q h1 h2 => ok9 q (by omega))
  replace h5_ := wAt.keep h5_ (ok9 (o + 42) (by omega)) (ok9 (o + 42 + 1) (by omega))
  replace h6_ := nAt.keep h6_ (fun q h1 h2 => ok9 q (by omega))
  replace h7_ := wAt.keep h7_ (ok9 (o + 81) (by omega)) (ok9 (o + 81 + 1) (by omega))
  replace h8_ := nAt.keep h8_ (fun q h1 h2 => ok9 q (by omega))
  replace h9_ := wAt.keep h9_ (ok9 (o + 120) (by omega)) (ok9 (o + 120 + 1) (by omega))
  clear ok9
  refine lv_dup hx hb d_B_init_48 rfl ?_
  refine hp_calln (va_Run.run (va_runIN (As := []) (rest := [.ref (o + 122), .int (iI 3), .ref (o + 2)]) ⟨hx, hb, hml, hown, hG⟩ (c_N_init l E (o + 122)) ⟨va_cnB 0 hG (hp_goodC co_N_init) rfl rfl rfl (hK.2 _ ns_B_22) (hG _ in_N) hd_N_init.2 ⟨by rw [hRf]; exact Nat.le_of_ble_eq_true rfl, by rw [hRl]; exact Nat.le_of_ble_eq_true rfl⟩, rfl, hG _ im_N_init⟩ (hp_preN hK hO ⟨hZ, h10_⟩) rfl rfl hl.1 rfl (lv_room (Nat.le_of_ble_eq_true rfl)) d_B_init_49 ⟨by rw [hRc]; exact Nat.le_of_ble_eq_true rfl, by rw [hRs]; exact Nat.le_of_ble_eq_true rfl⟩)) hS (fun q h9 => show o ≤ q from Nat.le_trans (show o ≤ o + 122 by omega) h9) (fun q h9 => show o ≤ q from Nat.le_trans (show o ≤ o + 122 by omega) h9) (fun H locs h9 zk ok8 hS => ?_)
  rw [hZ] at zk ok8
  replace hZ : H.size = o + 159 := by omega
  clear zk
  have ok9 := fun (q : Nat) (h8 : q < o + 122) => ok8 q (by omega) (fun h7 => absurd (show o + 122 ≤ q from h7) (by omega))
  clear ok8
  replace hobj := ca.keep hobj (ok9 (o) (by omega))
  replace h1_ := ca.keep h1_ (ok9 (o + 1) (by omega))
  replace h2_ := ca.keep h2_ (ok9 (o + 2) (by omega))
  replace h3_ := wAt.keep h3_ (ok9 (o + 3) (by omega)) (ok9 (o + 3 + 1) (by omega))
  replace h4_ := nAt.keep h4_ (fun q h1 h2 => ok9 q (by omega))
  replace h5_ := wAt.keep h5_ (ok9 (o + 42) (by omega)) (ok9 (o + 42 + 1) (by omega))
  replace h6_ := nAt.keep h6_ (fun q h1 h2 => ok9 q (by omega))
  replace h7_ := wAt.keep h7_ (ok9 (o + 81) (by omega)) (ok9 (o + 81 + 1) (by omega))
  replace h8_ := nAt.keep h8_ (fun q h1 h2 => ok9 q (by omega))
  replace h9_ := wAt.keep h9_ (ok9 (o + 120) (by omega)) (ok9 (o + 120 + 1) (by omega))
  replace h10_ := h9
  clear h9
  clear ok9
  refine hp_aast (r := (R_N, F_N, 6)) hx hb hK.1 3 1 h2_ h10_.1 hS (show o ≤ o + 2 by omega) rfl rfl d_B_init_52 (by omega) 3 rfl (by omega) (fun H locs h9 hz1 ok9 hS => ?_)
  replace hZ := hz1.trans hZ
  clear hz1
  replace hobj := ca.keep hobj (ok9 (o) (by omega))
  replace h1_ := ca.keep h1_ (ok9 (o + 1) (by omega))
  replace h3_ := wAt.keep h3_ (ok9 (o + 3) (by omega)) (ok9 (o + 3 + 1) (by omega))
  replace h4_ := nAt.keep h4_ (fun q h1 h2 => ok9 q (by omega))
  replace h5_ := wAt.keep h5_ (ok9 (o + 42) (by omega)) (ok9 (o + 42 + 1) (by omega))
  replace h6_ := nAt.keep h6_ (fun q h1 h2 => ok9 q (by omega))
  replace h7_ := wAt.keep h7_ (ok9 (o + 81) (by omega)) (ok9 (o + 81 + 1) (by omega))
  replace h8_ := nAt.keep h8_ (fun q h1 h2 => ok9 q (by omega))
  replace h9_ := wAt.keep h9_ (ok9 (o + 120) (by omega)) (ok9 (o + 120 + 1) (by omega))
  replace h10_ := nAt.keep h10_ (fun q h1 h2 => ok9 q (by omega))
  replace h2_ := h9
  clear h9
  clear ok9
  refine hp_iinc (z := 4) (lv' := [(1, .int (iI 4)), (0, .ref o)]) hx hb d_B_init_53 hl (k := 0) rfl (by omega) (by decide) rfl (fun ls hl => ?_)
  refine lv_goto (tgt := 22) hx hb d_B_init_56 (by decide) ?_
  refine lv_iload_n hx hb d_B_init_22 rfl (lv_at hl 0 rfl) ?_
  refine hp_iconst (z := 4) hx hb d_B_init_23 (by rfl) ?_
  refine hp_icmp_ge (tgt := 59) hx hb d_B_init_24 (by decide) (by unfold iR; omega) (by unfold iR; omega) (fun c9 => ?_) (fun c9 => absurd c9 (by decide))
  rw [hQ]
  refine hp_vretN hx hb hrt hlocks d_B_init_59 hS (fun q _ h => h) (by omega) ?_
  have hq1 : ca E H (o + 1) (oBw E o) := by have h9 := h1_; rw [hp_four (g := fun i => o + 3 + 39 * i) (by omega) (by omega) (by omega) (by omega)] at h9; exact h9
  have hq2 : ca E H (o + 2) (oBn E o) := by have h9 := h2_; rw [hp_four (g := fun i => o + 5 + 39 * i) (by omega) (by omega) (by omega) (by omega)] at h9; exact h9
  refine ⟨hobj, hq1, hq2, fun i hi => ?_, fun i hi => ?_⟩
  · match i, hi with
    | 0, _ => exact ⟨h3_, vW_0⟩
    | 1, _ => exact ⟨h5_, vW_0⟩
    | 2, _ => exact ⟨h7_, vW_0⟩
    | 3, _ => exact ⟨h9_, vW_0⟩
    | i + 4, h => exact absurd h (by omega)
  · match i, hi with
    | 0, _ => exact nOk_0 h4_
    | 1, _ => exact nOk_0 h6_
    | 2, _ => exact nOk_0 h8_
    | 3, _ => exact nOk_0 h10_
    | i + 4, h => exact absurd h (by omega)
