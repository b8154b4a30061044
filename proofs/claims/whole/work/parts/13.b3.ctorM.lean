set_option maxHeartbeats 4000000 in
set_option maxRecDepth 100000 in
/-- new BraidWordsModel() -/
theorem c_M_init (l : Launch) (E : hp_E) (mo : Nat) : Met l y_M_init (Cond.code y_M_init b_M_init 1 (none) :: G0) ({ frames := 1, cells := 15, slots := 31311, locals := 12 }) (hp_PN E [.ref mo] (fun H => H.size = mo + 1 ∧ ca E H mo (.inr (3, [.int (iI 0), .null, .null, .null, .null, .null, .null, .int (iI 0), .int (iI 0), .int (iI 0), .null, .null, .null, .null, .null, .null, .null, .null, .null])))) (hp_Qn 15 (fun q => mo ≤ q) (fun H => mG E H mo wI (fun _ => 0) (fun _ => 0) (fun _ => false) ∧ ca E H (mo + 14) (ai E 9 (fun _ => 0)) ∧ ca E H (mo + 15) (ai E 160 (fun _ => 0)))) 15 31311 (fun q => mo ≤ q) := by
  refine Met.ofW (cc := b_M_init) (maxL := 1) (ret := none) (by decide) rfl ?_
  intro p e s m args below meth cd s₁ Bd hml hv
  obtain ⟨hargs, ⟨hZ0, hobj⟩, hK, hO⟩ := hv
  have hx := Bd.exec
  have hb := Bd.bytes
  have hrt := Bd.returns
  have hts := atoms_spec (ws := Cond.code y_M_init b_M_init 1 (none) :: G0) Bd.pre
  have hG : ∀ w ∈ G0, w.before args s = true := fun w h => hts w (List.mem_cons_of_mem _ h)
  have hown : s.vm.findClass R_M = some m.cls := findClass_of_methodNamed Bd.named
  have hlocks := Bd.notSynchronized
  have hin : meth.name = "<init>" := (name_of_methodNamed Bd.named Bd.method).1
  have hl := lv_entry ([.ref mo]) (n := 1) (Nat.le_of_ble_eq_true rfl)
  rw [show entryFrame m args 1 = entryFrame m ([.ref mo] : List Value).toArray 1 from by rw [hargs]]
  rw [lg_entry_eq]
  generalize (lg_sl ([.ref mo]) ++ List.replicate (1 - (lg_sl ([.ref mo])).length) Slot.unset).toArray = ls at hl ⊢
  have hl : lv_has ls 1 [(0, .ref mo)] := hl
  obtain ⟨R, hR⟩ : ∃ R, R = (headSpec (Cond.code y_M_init b_M_init 1 (none) :: G0) { frames := 1, cells := 15, slots := 31311, locals := 12 }).room := ⟨_, rfl⟩
  rw [← hR]
  have hRf : R.frames = 1 := by rw [hR]; rfl
  have hRl : R.locals = 12 := by rw [hR]; rfl
  have hRc : R.cells = 15 := by rw [hR]; rfl
  have hRs : R.slots = 31311 := by rw [hR]; rfl
  obtain ⟨Q, hQ⟩ : ∃ Q, Q = MQ below (hp_Qn 15 (fun q => mo ≤ q) (fun H => mG E H mo wI (fun _ => 0) (fun _ => 0) (fun _ => false) ∧ ca E H (mo + 14) (ai E 9 (fun _ => 0)) ∧ ca E H (mo + 15) (ai E 160 (fun _ => 0)))) args s 15 31311 (fun q => mo ≤ q) := ⟨_, rfl⟩
  rw [← hQ]
  obtain ⟨H, hH⟩ : ∃ H, H = s.heap := ⟨_, rfl⟩
  obtain ⟨locs, hlocs⟩ : ∃ locs : List Loc, locs = [] := ⟨_, rfl⟩
  have hS : va_S (fun q => mo ≤ q) s.heap H locs := by rw [hH, hlocs]; exact va_S.rf
  have hA : ∀ q, s.heap.size ≤ q → (fun q => mo ≤ q) q := fun q h => show mo ≤ q by omega
  have hZ : H.size = mo + 1 := by rw [hH]; exact hZ0
  rw [← hH] at hobj
  rw [show W p l e R s m args below meth cd s.heap [] 0 0 Q (F0 m 0 ls []) = W p l e R s m args below meth cd H locs 0 0 Q (F0 m 0 ls []) from by rw [hH, hlocs]]
  refine lv_aload_n hx hb d_M_init_0 rfl (lv_at hl 0 rfl) ?_
  refine W.objInit hx hb hown (hG _ ml_M_1) (hG _ im_JO_init) (hG _ co_JO_init) rfl (by rw [hml]; exact hl.1) rfl d_M_init_1 (by rw [hRf]; exact Nat.le_of_ble_eq_true rfl) (by rw [hRl]; exact Nat.le_of_ble_eq_true rfl) ?_
  show W p l e R s m args below meth cd H locs 0 0 Q (F0 m 4 ls [])
  refine lv_aload_n hx hb d_M_init_4 rfl (lv_at hl 0 rfl) ?_
  refine hp_iconst (z := 4) hx hb d_M_init_5 (by rfl) ?_
  refine hp_newa hx hb (hG _ ac_int) hK.1 0 rfl hS hA 4 rfl (by omega) (by rw [hRc]; exact Nat.le_of_ble_eq_true rfl) (by rw [hRs]; exact Nat.le_of_ble_eq_true rfl) d_M_init_6 (fun H h1_ zk ok9 hS => ?_)
  rw [hZ] at h1_ zk ok9 ⊢
  replace hZ : H.size = mo + 2 := by omega
  clear zk
  replace hobj := ca.keep hobj (ok9 (mo) (by omega))
  clear ok9
  refine lv_dup hx hb d_M_init_8 rfl ?_
  refine hp_iconst (z := 0) hx hb d_M_init_9 (by rfl) ?_
  refine hp_iconst (z := 1) hx hb d_M_init_10 (by rfl) ?_
  refine hp_iast hx hb hK.1 0 h1_ hS (show mo ≤ mo + 1 by omega) rfl d_M_init_11 (by omega) 0 rfl (by omega) (fun H locs h9 hz1 ok9 hS => ?_)
  replace hZ := hz1.trans hZ
  clear hz1
  replace hobj := ca.keep hobj (ok9 (mo) (by omega))
  replace h1_ := h9
  clear h9
  clear ok9
  refine lv_dup hx hb d_M_init_12 rfl ?_
  refine hp_iconst (z := 1) hx hb d_M_init_13 (by rfl) ?_
  refine hp_iconst (z := 1) hx hb d_M_init_14 (by rfl) ?_
  refine hp_iast hx hb hK.1 0 h1_ hS (show mo ≤ mo + 1 by omega) rfl d_M_init_15 (by omega) 1 rfl (by omega) (fun H locs h9 hz1 ok9 hS => ?_)
  replace hZ := hz1.trans hZ
  clear hz1
  replace hobj := ca.keep hobj (ok9 (mo) (by omega))
  replace h1_ := h9
  clear h9
  clear ok9
  refine lv_dup hx hb d_M_init_16 rfl ?_
  refine hp_iconst (z := 2) hx hb d_M_init_17 (by rfl) ?_
  refine hp_iconst (z := 1) hx hb d_M_init_18 (by rfl) ?_
  refine hp_iast hx hb hK.1 0 h1_ hS (show mo ≤ mo + 1 by omega) rfl d_M_init_19 (by omega) 2 rfl (by omega) (fun H locs h9 hz1 ok9 hS => ?_)
  replace hZ := hz1.trans hZ
  clear hz1
  replace hobj := ca.keep hobj (ok9 (mo) (by omega))
  replace h1_ := h9
  clear h9
  clear ok9
  refine lv_dup hx hb d_M_init_20 rfl ?_
  refine hp_iconst (z := 3) hx hb d_M_init_21 (by rfl) ?_
  refine hp_iconst (z := 1) hx hb d_M_init_22 (by rfl) ?_
  refine hp_iast hx hb hK.1 0 h1_ hS (show mo ≤ mo + 1 by omega) rfl d_M_init_23 (by omega) 3 rfl (by omega) (fun H locs h9 hz1 ok9 hS => ?_)
  replace hZ := hz1.trans hZ
  clear hz1
  replace hobj := ca.keep hobj (ok9 (mo) (by omega))
  replace h1_ := h9
  clear h9
  clear ok9
  refine hp_putF (C := R_M) (T := F_M) (N := 19) (v := .ref (mo + 1)) (ty := .array .int) hx hb hG la_M t_M tk_M n_M hown hK.1 hobj hS (show mo ≤ mo by omega) rfl 1 (by decide) (hG _ fl_M_7) (fun _ h9 => h9) rfl hin rfl (by decide +kernel) rfl rfl (Nat.le_of_ble_eq_true rfl) d_M_init_24 (fun H locs h9 hz1 ok9 hS => ?_)
  replace hZ := hz1.trans hZ
  clear hz1
  replace h1_ := ca.keep h1_ (ok9 (mo + 1) (by omega))
  replace hobj := h9
  clear h9
  replace hobj : ca E H mo (.inr (3, [.int (iI 0), .ref (mo + 1), .null, .null, .null, .null, .null, .int (iI 0), .int (iI 0), .int (iI 0), .null, .null, .null, .null, .null, .null, .null, .null, .null])) := hobj
  clear ok9
  refine lv_aload_n hx hb d_M_init_27 rfl (lv_at hl 0 rfl) ?_
  refine hp_iconst (z := 4) hx hb d_M_init_28 (by rfl) ?_
  refine hp_newa hx hb (hG _ ac_int) hK.1 0 rfl hS hA 4 rfl (by omega) (by rw [hRc]; exact Nat.le_of_ble_eq_true rfl) (by rw [hRs]; exact Nat.le_of_ble_eq_true rfl) d_M_init_29 (fun H h2_ zk ok9 hS => ?_)
  rw [hZ] at h2_ zk ok9 ⊢
  replace hZ : H.size = mo + 3 := by omega
  clear zk
  replace hobj := ca.keep hobj (ok9 (mo) (by omega))
  replace h1_ := ca.keep h1_ (ok9 (mo + 1) (by omega))
  clear ok9
  refine hp_putF (C := R_M) (T := F_M) (N := 19) (v := .ref (mo + 2)) (ty := .array .int) hx hb hG la_M t_M tk_M n_M hown hK.1 hobj hS (show mo ≤ mo by omega) rfl 2 (by decide) (hG _ fl_M_13) (fun _ h9 => h9) rfl hin rfl (by decide +kernel) rfl rfl (Nat.le_of_ble_eq_true rfl) d_M_init_31 (fun H locs h9 hz1 ok9 hS => ?_)
  replace hZ := hz1.trans hZ
  clear hz1
  replace h1_ := ca.keep h1_ (ok9 (mo + 1) (by omega))
  replace h2_ := ca.keep h2_ (ok9 (mo + 2) (by omega))
  replace hobj := h9
  clear h9
  replace hobj : ca E H mo (.inr (3, [.int (iI 0), .ref (mo + 1), .ref (mo + 2), .null, .null, .null, .null, .int (iI 0), .int (iI 0), .int (iI 0), .null, .null, .null, .null, .null, .null, .null, .null, .null])) := hobj
  clear ok9
  refine lv_aload_n hx hb d_M_init_34 rfl (lv_at hl 0 rfl) ?_
  refine hp_sipush (z := 128) hx hb d_M_init_35 (by rfl) ?_
  refine hp_newa hx hb (hG _ ac_int) hK.1 0 rfl hS hA 128 rfl (by omega) (by rw [hRc]; exact Nat.le_of_ble_eq_true rfl) (by rw [hRs]; exact Nat.le_of_ble_eq_true rfl) d_M_init_38 (fun H h3_ zk ok9 hS => ?_)
  rw [hZ] at h3_ zk ok9 ⊢
  replace hZ : H.size = mo + 4 := by omega
  clear zk
  replace hobj := ca.keep hobj (ok9 (mo) (by omega))
  replace h1_ := ca.keep h1_ (ok9 (mo + 1) (by omega))
  replace h2_ := ca.keep h2_ (ok9 (mo + 2) (by omega))
  clear ok9
  refine hp_putF (C := R_M) (T := F_M) (N := 19) (v := .ref (mo + 3)) (ty := .array .int) hx hb hG la_M t_M tk_M n_M hown hK.1 hobj hS (show mo ≤ mo by omega) rfl 3 (by decide) (hG _ fl_M_16) (fun _ h9 => h9) rfl hin rfl (by decide +kernel) rfl rfl (Nat.le_of_ble_eq_true rfl) d_M_init_40 (fun H locs h9 hz1 ok9 hS => ?_)
  replace hZ := hz1.trans hZ
  clear hz1
  replace h1_ := ca.keep h1_ (ok9 (mo + 1) (by omega))
  replace h2_ := ca.keep h2_ (ok9 (mo + 2) (by omega))
  replace h3_ := ca.keep h3_ (ok9 (mo + 3) (by omega))
  replace hobj := h9
  clear h9
  replace hobj : ca E H mo (.inr (3, [.int (iI 0), .ref (mo + 1), .ref (mo + 2), .ref (mo + 3), .null, .null, .null, .int (iI 0), .int (iI 0), .int (iI 0), .null, .null, .null, .null, .null, .null, .null, .null, .null])) := hobj
  clear ok9
  refine lv_aload_n hx hb d_M_init_43 rfl (lv_at hl 0 rfl) ?_
  refine hp_sipush (z := 8192) hx hb d_M_init_44 (by rfl) ?_
  refine hp_newa hx hb (hG _ ac_int) hK.1 0 rfl hS hA 8192 rfl (by omega) (by rw [hRc]; exact Nat.le_of_ble_eq_true rfl) (by rw [hRs]; exact Nat.le_of_ble_eq_true rfl) d_M_init_47 (fun H h4_ zk ok9 hS => ?_)
  rw [hZ] at h4_ zk ok9 ⊢
  replace hZ : H.size = mo + 5 := by omega
  clear zk
  replace hobj := ca.keep hobj (ok9 (mo) (by omega))
  replace h1_ := ca.keep h1_ (ok9 (mo + 1) (by omega))
  replace h2_ := ca.keep h2_ (ok9 (mo + 2) (by omega))
  replace h3_ := ca.keep h3_ (ok9 (mo + 3) (by omega))
  clear ok9
  refine hp_putF (C := R_M) (T := F_M) (N := 19) (v := .ref (mo + 4)) (ty := .array .int) hx hb hG la_M t_M tk_M n_M hown hK.1 hobj hS (show mo ≤ mo by omega) rfl 4 (by decide) (hG _ fl_M_19) (fun _ h9 => h9) rfl hin rfl (by decide +kernel) rfl rfl (Nat.le_of_ble_eq_true rfl) d_M_init_49 (fun H locs h9 hz1 ok9 hS => ?_)
  replace hZ := hz1.trans hZ
  clear hz1
  replace h1_ := ca.keep h1_ (ok9 (mo + 1) (by omega))
  replace h2_ := ca.keep h2_ (ok9 (mo + 2) (by omega))
  replace h3_ := ca.keep h3_ (ok9 (mo + 3) (by omega))
  replace h4_ := ca.keep h4_ (ok9 (mo + 4) (by omega))
  replace hobj := h9
  clear h9
  replace hobj : ca E H mo (.inr (3, [.int (iI 0), .ref (mo + 1), .ref (mo + 2), .ref (mo + 3), .ref (mo + 4), .null, .null, .int (iI 0), .int (iI 0), .int (iI 0), .null, .null, .null, .null, .null, .null, .null, .null, .null])) := hobj
  clear ok9
  refine lv_aload_n hx hb d_M_init_52 rfl (lv_at hl 0 rfl) ?_
  refine hp_sipush (z := 8192) hx hb d_M_init_53 (by rfl) ?_
  refine hp_newa hx hb (hG _ ac_int) hK.1 0 rfl hS hA 8192 rfl (by omega) (by rw [hRc]; exact Nat.le_of_ble_eq_true rfl) (by rw [hRs]; exact Nat.le_of_ble_eq_true rfl) d_M_init_56 (fun H h5_ zk ok9 hS => ?_)
  rw [hZ] at h5_ zk ok9 ⊢
  replace hZ : H.size = mo + 6 := by omega
  clear zk
  replace hobj := ca.keep hobj (ok9 (mo) (by omega))
  replace h1_ := ca.keep h1_ (ok9 (mo + 1) (by omega))
  replace h2_ := ca.keep h2_ (ok9 (mo + 2) (by omega))
  replace h3_ := ca.keep h3_ (ok9 (mo + 3) (by omega))
  replace h4_ := ca.keep h4_ (ok9 (mo + 4) (by omega))
  clear ok9
  refine hp_putF (C := R_M) (T := F_M) (N := 19) (v := .ref (mo + 5)) (ty := .array .int) hx hb hG la_M t_M tk_M n_M hown hK.1 hobj hS (show mo ≤ mo by omega) rfl 5 (by decide) (hG _ fl_M_22) (fun _ h9 => h9) rfl hin rfl (by decide +kernel) rfl rfl (Nat.le_of_ble_eq_true rfl) d_M_init_58 (fun H locs h9 hz1 ok9 hS => ?_)
  replace hZ := hz1.trans hZ
  clear hz1
  replace h1_ := ca.keep h1_ (ok9 (mo + 1) (by omega))
  replace h2_ := ca.keep h2_ (ok9 (mo + 2) (by omega))
  replace h3_ := ca.keep h3_ (ok9 (mo + 3) (by omega))
  replace h4_ := ca.keep h4_ (ok9 (mo + 4) (by omega))
  replace h5_ := ca.keep h5_ (ok9 (mo + 5) (by omega))
  replace hobj := h9
  clear h9
  replace hobj : ca E H mo (.inr (3, [.int (iI 0), .ref (mo + 1), .ref (mo + 2), .ref (mo + 3), .ref (mo + 4), .ref (mo + 5), .null, .int (iI 0), .int (iI 0), .int (iI 0), .null, .null, .null, .null, .null, .null, .null, .null, .null])) := hobj
  clear ok9
  refine lv_aload_n hx hb d_M_init_61 rfl (lv_at hl 0 rfl) ?_
  refine hp_sipush (z := 8192) hx hb d_M_init_62 (by rfl) ?_
  refine hp_newa hx hb (hG _ ac_int) hK.1 0 rfl hS hA 8192 rfl (by omega) (by rw [hRc]; exact Nat.le_of_ble_eq_true rfl) (by rw [hRs]; exact Nat.le_of_ble_eq_true rfl) d_M_init_65 (fun H h6_ zk ok9 hS => ?_)
  rw [hZ] at h6_ zk ok9 ⊢
  replace hZ : H.size = mo + 7 := by omega
  clear zk
  replace hobj := ca.keep hobj (ok9 (mo) (by omega))
  replace h1_ := ca.keep h1_ (ok9 (mo + 1) (by omega))
  replace h2_ := ca.keep h2_ (ok9 (mo + 2) (by omega))
  replace h3_ := ca.keep h3_ (ok9 (mo + 3) (by omega))
  replace h4_ := ca.keep h4_ (ok9 (mo + 4) (by omega))
  replace h5_ := ca.keep h5_ (ok9 (mo + 5) (by omega))
  clear ok9
  refine hp_putF (C := R_M) (T := F_M) (N := 19) (v := .ref (mo + 6)) (ty := .array .int) hx hb hG la_M t_M tk_M n_M hown hK.1 hobj hS (show mo ≤ mo by omega) rfl 6 (by decide) (hG _ fl_M_25) (fun _ h9 => h9) rfl hin rfl (by decide +kernel) rfl rfl (Nat.le_of_ble_eq_true rfl) d_M_init_67 (fun H locs h9 hz1 ok9 hS => ?_)
  replace hZ := hz1.trans hZ
  clear hz1
  replace h1_ := ca.keep h1_ (ok9 (mo + 1) (by omega))
  replace h2_ := ca.keep h2_ (ok9 (mo + 2) (by omega))
  replace h3_ := ca.keep h3_ (ok9 (mo + 3) (by omega))
  replace h4_ := ca.keep h4_ (ok9 (mo + 4) (by omega))
  replace h5_ := ca.keep h5_ (ok9 (mo + 5) (by omega))
  replace h6_ := ca.keep h6_ (ok9 (mo + 6) (by omega))
  replace hobj := h9
  clear h9
  replace hobj : ca E H mo (.inr (3, [.int (iI 0), .ref (mo + 1), .ref (mo + 2), .ref (mo + 3), .ref (mo + 4), .ref (mo + 5), .ref (mo + 6), .int (iI 0), .int (iI 0), .int (iI 0), .null, .null, .null, .null, .null, .null, .null, .null, .null])) := hobj
  clear ok9
  refine lv_aload_n hx hb d_M_init_70 rfl (lv_at hl 0 rfl) ?_
  refine hp_sipush (z := 4096) hx hb d_M_init_71 (by rfl) ?_
  refine hp_newa hx hb (hG _ ac_int) hK.1 0 rfl hS hA 4096 rfl (by omega) (by rw [hRc]; exact Nat.le_of_ble_eq_true rfl) (by rw [hRs]; exact Nat.le_of_ble_eq_true rfl) d_M_init_74 (fun H h7_ zk ok9 hS => ?_)
  rw [hZ] at h7_ zk ok9 ⊢
  replace hZ : H.size = mo + 8 := by omega
  clear zk
  replace hobj := ca.keep hobj (ok9 (mo) (by omega))
  replace h1_ := ca.keep h1_ (ok9 (mo + 1) (by omega))
  replace h2_ := ca.keep h2_ (ok9 (mo + 2) (by omega))
  replace h3_ := ca.keep h3_ (ok9 (mo + 3) (by omega))
  replace h4_ := ca.keep h4_ (ok9 (mo + 4) (by omega))
  replace h5_ := ca.keep h5_ (ok9 (mo + 5) (by omega))
  replace h6_ := ca.keep h6_ (ok9 (mo + 6) (by omega))
  clear ok9
  refine hp_putF (C := R_M) (T := F_M) (N := 19) (v := .ref (mo + 7)) (ty := .array .int) hx hb hG la_M t_M tk_M n_M hown hK.1 hobj hS (show mo ≤ mo by omega) rfl 10 (by decide) (hG _ fl_M_28) (fun _ h9 => h9) rfl hin rfl (by decide +kernel) rfl rfl (Nat.le_of_ble_eq_true rfl) d_M_init_76 (fun H locs h9 hz1 ok9 hS => ?_)
  replace hZ := hz1.trans hZ
  clear hz1
  replace h1_ := ca.keep h1_ (ok9 (mo + 1) (by omega))
  replace h2_ := ca.keep h2_ (ok9 (mo + 2) (by omega))
  replace h3_ := ca.keep h3_ (ok9 (mo + 3) (by omega))
  replace h4_ := ca.keep h4_ (ok9 (mo + 4) (by omega))
  replace h5_ := ca.keep h5_ (ok9 (mo + 5) (by omega))
  replace h6_ := ca.keep h6_ (ok9 (mo + 6) (by omega))
  replace h7_ := ca.keep h7_ (ok9 (mo + 7) (by omega))
  replace hobj := h9
  clear h9
  replace hobj : ca E H mo (.inr (3, [.int (iI 0), .ref (mo + 1), .ref (mo + 2), .ref (mo + 3), .ref (mo + 4), .ref (mo + 5), .ref (mo + 6), .int (iI 0), .int (iI 0), .int (iI 0), .ref (mo + 7), .null, .null, .null, .null, .null, .null, .null, .null])) := hobj
  clear ok9
  refine lv_aload_n hx hb d_M_init_79 rfl (lv_at hl 0 rfl) ?_
  refine hp_bipush (z := 9) hx hb d_M_init_80 (by rfl) ?_
  refine hp_newa hx hb (hG _ ac_int) hK.1 0 rfl hS hA 9 rfl (by omega) (by rw [hRc]; exact Nat.le_of_ble_eq_true rfl) (by rw [hRs]; exact Nat.le_of_ble_eq_true rfl) d_M_init_82 (fun H h8_ zk ok9 hS => ?_)
  rw [hZ] at h8_ zk ok9 ⊢
  replace hZ : H.size = mo + 9 := by omega
  clear zk
  replace hobj := ca.keep hobj (ok9 (mo) (by omega))
  replace h1_ := ca.keep h1_ (ok9 (mo + 1) (by omega))
  replace h2_ := ca.keep h2_ (ok9 (mo + 2) (by omega))
  replace h3_ := ca.keep h3_ (ok9 (mo + 3) (by omega))
  replace h4_ := ca.keep h4_ (ok9 (mo + 4) (by omega))
  replace h5_ := ca.keep h5_ (ok9 (mo + 5) (by omega))
  replace h6_ := ca.keep h6_ (ok9 (mo + 6) (by omega))
  replace h7_ := ca.keep h7_ (ok9 (mo + 7) (by omega))
  clear ok9
  refine hp_putF (C := R_M) (T := F_M) (N := 19) (v := .ref (mo + 8)) (ty := .array .int) hx hb hG la_M t_M tk_M n_M hown hK.1 hobj hS (show mo ≤ mo by omega) rfl 11 (by decide) (hG _ fl_M_31) (fun _ h9 => h9) rfl hin rfl (by decide +kernel) rfl rfl (Nat.le_of_ble_eq_true rfl) d_M_init_84 (fun H locs h9 hz1 ok9 hS => ?_)
  replace hZ := hz1.trans hZ
  clear hz1
  replace h1_ := ca.keep h1_ (ok9 (mo + 1) (by omega))
  replace h2_ := ca.keep h2_ (ok9 (mo + 2) (by omega))
  replace h3_ := ca.keep h3_ (ok9 (mo + 3) (by omega))
  replace h4_ := ca.keep h4_ (ok9 (mo + 4) (by omega))
  replace h5_ := ca.keep h5_ (ok9 (mo + 5) (by omega))
  replace h6_ := ca.keep h6_ (ok9 (mo + 6) (by omega))
  replace h7_ := ca.keep h7_ (ok9 (mo + 7) (by omega))
  replace h8_ := ca.keep h8_ (ok9 (mo + 8) (by omega))
  replace hobj := h9
  clear h9
  replace hobj : ca E H mo (.inr (3, [.int (iI 0), .ref (mo + 1), .ref (mo + 2), .ref (mo + 3), .ref (mo + 4), .ref (mo + 5), .ref (mo + 6), .int (iI 0), .int (iI 0), .int (iI 0), .ref (mo + 7), .ref (mo + 8), .null, .null, .null, .null, .null, .null, .null])) := hobj
  clear ok9
  refine lv_aload_n hx hb d_M_init_87 rfl (lv_at hl 0 rfl) ?_
  refine hp_bipush (z := 9) hx hb d_M_init_88 (by rfl) ?_
  refine hp_newa hx hb (hG _ ac_int) hK.1 0 rfl hS hA 9 rfl (by omega) (by rw [hRc]; exact Nat.le_of_ble_eq_true rfl) (by rw [hRs]; exact Nat.le_of_ble_eq_true rfl) d_M_init_90 (fun H h9_ zk ok9 hS => ?_)
  rw [hZ] at h9_ zk ok9 ⊢
  replace hZ : H.size = mo + 10 := by omega
  clear zk
  replace hobj := ca.keep hobj (ok9 (mo) (by omega))
  replace h1_ := ca.keep h1_ (ok9 (mo + 1) (by omega))
  replace h2_ := ca.keep h2_ (ok9 (mo + 2) (by omega))
  replace h3_ := ca.keep h3_ (ok9 (mo + 3) (by omega))
  replace h4_ := ca.keep h4_ (ok9 (mo + 4) (by omega))
  replace h5_ := ca.keep h5_ (ok9 (mo + 5) (by omega))
  replace h6_ := ca.keep h6_ (ok9 (mo + 6) (by omega))
  replace h7_ := ca.keep h7_ (ok9 (mo + 7) (by omega))
  replace h8_ := ca.keep h8_ (ok9 (mo + 8) (by omega))
  clear ok9
  refine hp_putF (C := R_M) (T := F_M) (N := 19) (v := .ref (mo + 9)) (ty := .array .int) hx hb hG la_M t_M tk_M n_M hown hK.1 hobj hS (show mo ≤ mo by omega) rfl 12 (by decide) (hG _ fl_M_34) (fun _ h9 => h9) rfl hin rfl (by decide +kernel) rfl rfl (Nat.le_of_ble_eq_true rfl) d_M_init_92 (fun H locs h9 hz1 ok9 hS => ?_)
  replace hZ := hz1.trans hZ
  clear hz1
  replace h1_ := ca.keep h1_ (ok9 (mo + 1) (by omega))
  replace h2_ := ca.keep h2_ (ok9 (mo + 2) (by omega))
  replace h3_ := ca.keep h3_ (ok9 (mo + 3) (by omega))
  replace h4_ := ca.keep h4_ (ok9 (mo + 4) (by omega))
  replace h5_ := ca.keep h5_ (ok9 (mo + 5) (by omega))
  replace h6_ := ca.keep h6_ (ok9 (mo + 6) (by omega))
  replace h7_ := ca.keep h7_ (ok9 (mo + 7) (by omega))
  replace h8_ := ca.keep h8_ (ok9 (mo + 8) (by omega))
  replace h9_ := ca.keep h9_ (ok9 (mo + 9) (by omega))
  replace hobj := h9
  clear h9
  replace hobj : ca E H mo (.inr (3, [.int (iI 0), .ref (mo + 1), .ref (mo + 2), .ref (mo + 3), .ref (mo + 4), .ref (mo + 5), .ref (mo + 6), .int (iI 0), .int (iI 0), .int (iI 0), .ref (mo + 7), .ref (mo + 8), .ref (mo + 9), .null, .null, .null, .null, .null, .null])) := hobj
  clear ok9
  refine lv_aload_n hx hb d_M_init_95 rfl (lv_at hl 0 rfl) ?_
  refine hp_iconst (z := 4) hx hb d_M_init_96 (by rfl) ?_
  refine hp_newz hx hb (hG _ ac_boolean) hK.1 1 rfl hS hA 4 rfl (by omega) (by rw [hRc]; exact Nat.le_of_ble_eq_true rfl) (by rw [hRs]; exact Nat.le_of_ble_eq_true rfl) d_M_init_97 (fun H h10_ zk ok9 hS => ?_)
  rw [hZ] at h10_ zk ok9 ⊢
  replace hZ : H.size = mo + 11 := by omega
  clear zk
  replace hobj := ca.keep hobj (ok9 (mo) (by omega))
  replace h1_ := ca.keep h1_ (ok9 (mo + 1) (by omega))
  replace h2_ := ca.keep h2_ (ok9 (mo + 2) (by omega))
  replace h3_ := ca.keep h3_ (ok9 (mo + 3) (by omega))
  replace h4_ := ca.keep h4_ (ok9 (mo + 4) (by omega))
  replace h5_ := ca.keep h5_ (ok9 (mo + 5) (by omega))
  replace h6_ := ca.keep h6_ (ok9 (mo + 6) (by omega))
  replace h7_ := ca.keep h7_ (ok9 (mo + 7) (by omega))
  replace h8_ := ca.keep h8_ (ok9 (mo + 8) (by omega))
  replace h9_ := ca.keep h9_ (ok9 (mo + 9) (by omega))
  clear ok9
  refine hp_putF (C := R_M) (T := F_M) (N := 19) (v := .ref (mo + 10)) (ty := .array .boolean) hx hb hG la_M t_M tk_M n_M hown hK.1 hobj hS (show mo ≤ mo by omega) rfl 13 (by decide) (hG _ fl_M_37) (fun _ h9 => h9) rfl hin rfl (by decide +kernel) rfl rfl (Nat.le_of_ble_eq_true rfl) d_M_init_99 (fun H locs h9 hz1 ok9 hS => ?_)
  replace hZ := hz1.trans hZ
  clear hz1
  replace h1_ := ca.keep h1_ (ok9 (mo + 1) (by omega))
  replace h2_ := ca.keep h2_ (ok9 (mo + 2) (by omega))
  replace h3_ := ca.keep h3_ (ok9 (mo + 3) (by omega))
  replace h4_ := ca.keep h4_ (ok9 (mo + 4) (by omega))
  replace h5_ := ca.keep h5_ (ok9 (mo + 5) (by omega))
  replace h6_ := ca.keep h6_ (ok9 (mo + 6) (by omega))
  replace h7_ := ca.keep h7_ (ok9 (mo + 7) (by omega))
  replace h8_ := ca.keep h8_ (ok9 (mo + 8) (by omega))
  replace h9_ := ca.keep h9_ (ok9 (mo + 9) (by omega))
  replace h10_ := ca.keep h10_ (ok9 (mo + 10) (by omega))
  replace hobj := h9
  clear h9
  replace hobj : ca E H mo (.inr (3, [.int (iI 0), .ref (mo + 1), .ref (mo + 2), .ref (mo + 3), .ref (mo + 4), .ref (mo + 5), .ref (mo + 6), .int (iI 0), .int (iI 0), .int (iI 0), .ref (mo + 7), .ref (mo + 8), .ref (mo + 9), .ref (mo + 10), .null, .null, .null, .null, .null])) := hobj
  clear ok9
  refine lv_aload_n hx hb d_M_init_102 rfl (lv_at hl 0 rfl) ?_
  refine hp_iconst (z := 4) hx hb d_M_init_103 (by rfl) ?_
  refine hp_newa hx hb (hG _ ac_int) hK.1 0 rfl hS hA 4 rfl (by omega) (by rw [hRc]; exact Nat.le_of_ble_eq_true rfl) (by rw [hRs]; exact Nat.le_of_ble_eq_true rfl) d_M_init_104 (fun H h11_ zk ok9 hS => ?_)
  rw [hZ] at h11_ zk ok9 ⊢
  replace hZ : H.size = mo + 12 := by omega
  clear zk
  replace hobj := ca.keep hobj (ok9 (mo) (by omega))
  replace h1_ := ca.keep h1_ (ok9 (mo + 1) (by omega))
  replace h2_ := ca.keep h2_ (ok9 (mo + 2) (by omega))
  replace h3_ := ca.keep h3_ (ok9 (mo + 3) (by omega))
  replace h4_ := ca.keep h4_ (ok9 (mo + 4) (by omega))
  replace h5_ := ca.keep h5_ (ok9 (mo + 5) (by omega))
  replace h6_ := ca.keep h6_ (ok9 (mo + 6) (by omega))
  replace h7_ := ca.keep h7_ (ok9 (mo + 7) (by omega))
  replace h8_ := ca.keep h8_ (ok9 (mo + 8) (by omega))
  replace h9_ := ca.keep h9_ (ok9 (mo + 9) (by omega))
  replace h10_ := ca.keep h10_ (ok9 (mo + 10) (by omega))
  clear ok9
  refine hp_putF (C := R_M) (T := F_M) (N := 19) (v := .ref (mo + 11)) (ty := .array .int) hx hb hG la_M t_M tk_M n_M hown hK.1 hobj hS (show mo ≤ mo by omega) rfl 14 (by decide) (hG _ fl_M_41) (fun _ h9 => h9) rfl hin rfl (by decide +kernel) rfl rfl (Nat.le_of_ble_eq_true rfl) d_M_init_106 (fun H locs h9 hz1 ok9 hS => ?_)
  replace hZ := hz1.trans hZ
  clear hz1
  replace h1_ := ca.keep h1_ (ok9 (mo + 1) (by omega))
  replace h2_ := ca.keep h2_ (ok9 (mo + 2) (by omega))
  replace h3_ := ca.keep h3_ (ok9 (mo + 3) (by omega))
  replace h4_ := ca.keep h4_ (ok9 (mo + 4) (by omega))
  replace h5_ := ca.keep h5_ (ok9 (mo + 5) (by omega))
  replace h6_ := ca.keep h6_ (ok9 (mo + 6) (by omega))
  replace h7_ := ca.keep h7_ (ok9 (mo + 7) (by omega))
  replace h8_ := ca.keep h8_ (ok9 (mo + 8) (by omega))
  replace h9_ := ca.keep h9_ (ok9 (mo + 9) (by omega))
  replace h10_ := ca.keep h10_ (ok9 (mo + 10) (by omega))
  replace h11_ := ca.keep h11_ (ok9 (mo + 11) (by omega))
  replace hobj := h9
  clear h9
  replace hobj : ca E H mo (.inr (3, [.int (iI 0), .ref (mo + 1), .ref (mo + 2), .ref (mo + 3), .ref (mo + 4), .ref (mo + 5), .ref (mo + 6), .int (iI 0), .int (iI 0), .int (iI 0), .ref (mo + 7), .ref (mo + 8), .ref (mo + 9), .ref (mo + 10), .ref (mo + 11), .null, .null, .null, .null])) := hobj
  clear ok9
  refine lv_aload_n hx hb d_M_init_109 rfl (lv_at hl 0 rfl) ?_
  refine hp_iconst (z := 4) hx hb d_M_init_110 (by rfl) ?_
  refine hp_newa hx hb (hG _ ac_int) hK.1 0 rfl hS hA 4 rfl (by omega) (by rw [hRc]; exact Nat.le_of_ble_eq_true rfl) (by rw [hRs]; exact Nat.le_of_ble_eq_true rfl) d_M_init_111 (fun H h12_ zk ok9 hS => ?_)
  rw [hZ] at h12_ zk ok9 ⊢
  replace hZ : H.size = mo + 13 := by omega
  clear zk
  replace hobj := ca.keep hobj (ok9 (mo) (by omega))
  replace h1_ := ca.keep h1_ (ok9 (mo + 1) (by omega))
  replace h2_ := ca.keep h2_ (ok9 (mo + 2) (by omega))
  replace h3_ := ca.keep h3_ (ok9 (mo + 3) (by omega))
  replace h4_ := ca.keep h4_ (ok9 (mo + 4) (by omega))
  replace h5_ := ca.keep h5_ (ok9 (mo + 5) (by omega))
  replace h6_ := ca.keep h6_ (ok9 (mo + 6) (by omega))
  replace h7_ := ca.keep h7_ (ok9 (mo + 7) (by omega))
  replace h8_ := ca.keep h8_ (ok9 (mo + 8) (by omega))
  replace h9_ := ca.keep h9_ (ok9 (mo + 9) (by omega))
  replace h10_ := ca.keep h10_ (ok9 (mo + 10) (by omega))
  replace h11_ := ca.keep h11_ (ok9 (mo + 11) (by omega))
  clear ok9
  refine hp_putF (C := R_M) (T := F_M) (N := 19) (v := .ref (mo + 12)) (ty := .array .int) hx hb hG la_M t_M tk_M n_M hown hK.1 hobj hS (show mo ≤ mo by omega) rfl 15 (by decide) (hG _ fl_M_44) (fun _ h9 => h9) rfl hin rfl (by decide +kernel) rfl rfl (Nat.le_of_ble_eq_true rfl) d_M_init_113 (fun H locs h9 hz1 ok9 hS => ?_)
  replace hZ := hz1.trans hZ
  clear hz1
  replace h1_ := ca.keep h1_ (ok9 (mo + 1) (by omega))
  replace h2_ := ca.keep h2_ (ok9 (mo + 2) (by omega))
  replace h3_ := ca.keep h3_ (ok9 (mo + 3) (by omega))
  replace h4_ := ca.keep h4_ (ok9 (mo + 4) (by omega))
  replace h5_ := ca.keep h5_ (ok9 (mo + 5) (by omega))
  replace h6_ := ca.keep h6_ (ok9 (mo + 6) (by omega))
  replace h7_ := ca.keep h7_ (ok9 (mo + 7) (by omega))
  replace h8_ := ca.keep h8_ (ok9 (mo + 8) (by omega))
  replace h9_ := ca.keep h9_ (ok9 (mo + 9) (by omega))
  replace h10_ := ca.keep h10_ (ok9 (mo + 10) (by omega))
  replace h11_ := ca.keep h11_ (ok9 (mo + 11) (by omega))
  replace h12_ := ca.keep h12_ (ok9 (mo + 12) (by omega))
  replace hobj := h9
  clear h9
  replace hobj : ca E H mo (.inr (3, [.int (iI 0), .ref (mo + 1), .ref (mo + 2), .ref (mo + 3), .ref (mo + 4), .ref (mo + 5), .ref (mo + 6), .int (iI 0), .int (iI 0), .int (iI 0), .ref (mo + 7), .ref (mo + 8), .ref (mo + 9), .ref (mo + 10), .ref (mo + 11), .ref (mo + 12), .null, .null, .null])) := hobj
  clear ok9
  refine lv_aload_n hx hb d_M_init_116 rfl (lv_at hl 0 rfl) ?_
  refine hp_sipush (z := 2304) hx hb d_M_init_117 (by rfl) ?_
  refine hp_newa hx hb (hG _ ac_int) hK.1 0 rfl hS hA 2304 rfl (by omega) (by rw [hRc]; exact Nat.le_of_ble_eq_true rfl) (by rw [hRs]; exact Nat.le_of_ble_eq_true rfl) d_M_init_120 (fun H h13_ zk ok9 hS => ?_)
  rw [hZ] at h13_ zk ok9 ⊢
  replace hZ : H.size = mo + 14 := by omega
  clear zk
  replace hobj := ca.keep hobj (ok9 (mo) (by omega))
  replace h1_ := ca.keep h1_ (ok9 (mo + 1) (by omega))
  replace h2_ := ca.keep h2_ (ok9 (mo + 2) (by omega))
  replace h3_ := ca.keep h3_ (ok9 (mo + 3) (by omega))
  replace h4_ := ca.keep h4_ (ok9 (mo + 4) (by omega))
  replace h5_ := ca.keep h5_ (ok9 (mo + 5) (by omega))
  replace h6_ := ca.keep h6_ (ok9 (mo + 6) (by omega))
  replace h7_ := ca.keep h7_ (ok9 (mo + 7) (by omega))
  replace h8_ := ca.keep h8_ (ok9 (mo + 8) (by omega))
  replace h9_ := ca.keep h9_ (ok9 (mo + 9) (by omega))
  replace h10_ := ca.keep h10_ (ok9 (mo + 10) (by omega))
  replace h11_ := ca.keep h11_ (ok9 (mo + 11) (by omega))
  replace h12_ := ca.keep h12_ (ok9 (mo + 12) (by omega))
  clear ok9
  refine hp_putF (C := R_M) (T := F_M) (N := 19) (v := .ref (mo + 13)) (ty := .array .int) hx hb hG la_M t_M tk_M n_M hown hK.1 hobj hS (show mo ≤ mo by omega) rfl 16 (by decide) (hG _ fl_M_47) (fun _ h9 => h9) rfl hin rfl (by decide +kernel) rfl rfl (Nat.le_of_ble_eq_true rfl) d_M_init_122 (fun H locs h9 hz1 ok9 hS => ?_)
  replace hZ := hz1.trans hZ
  clear hz1
  replace h1_ := ca.keep h1_ (ok9 (mo + 1) (by omega))
  replace h2_ := ca.keep h2_ (ok9 (mo + 2) (by omega))
  replace h3_ := ca.keep h3_ (ok9 (mo + 3) (by omega))
  replace h4_ := ca.keep h4_ (ok9 (mo + 4) (by omega))
  replace h5_ := ca.keep h5_ (ok9 (mo + 5) (by omega))
  replace h6_ := ca.keep h6_ (ok9 (mo + 6) (by omega))
  replace h7_ := ca.keep h7_ (ok9 (mo + 7) (by omega))
  replace h8_ := ca.keep h8_ (ok9 (mo + 8) (by omega))
  replace h9_ := ca.keep h9_ (ok9 (mo + 9) (by omega))
  replace h10_ := ca.keep h10_ (ok9 (mo + 10) (by omega))
  replace h11_ := ca.keep h11_ (ok9 (mo + 11) (by omega))
  replace h12_ := ca.keep h12_ (ok9 (mo + 12) (by omega))
  replace h13_ := ca.keep h13_ (ok9 (mo + 13) (by omega))
  replace hobj := h9
  clear h9
  replace hobj : ca E H mo (.inr (3, [.int (iI 0), .ref (mo + 1), .ref (mo + 2), .ref (mo + 3), .ref (mo + 4), .ref (mo + 5), .ref (mo + 6), .int (iI 0), .int (iI 0), .int (iI 0), .ref (mo + 7), .ref (mo + 8), .ref (mo + 9), .ref (mo + 10), .ref (mo + 11), .ref (mo + 12), .ref (mo + 13), .null, .null])) := hobj
  clear ok9
  refine lv_aload_n hx hb d_M_init_125 rfl (lv_at hl 0 rfl) ?_
  refine hp_bipush (z := 9) hx hb d_M_init_126 (by rfl) ?_
  refine hp_newa hx hb (hG _ ac_int) hK.1 0 rfl hS hA 9 rfl (by omega) (by rw [hRc]; exact Nat.le_of_ble_eq_true rfl) (by rw [hRs]; exact Nat.le_of_ble_eq_true rfl) d_M_init_128 (fun H h14_ zk ok9 hS => ?_)
  rw [hZ] at h14_ zk ok9 ⊢
  replace hZ : H.size = mo + 15 := by omega
  clear zk
  replace hobj := ca.keep hobj (ok9 (mo) (by omega))
  replace h1_ := ca.keep h1_ (ok9 (mo + 1) (by omega))
  replace h2_ := ca.keep h2_ (ok9 (mo + 2) (by omega))
  replace h3_ := ca.keep h3_ (ok9 (mo + 3) (by omega))
  replace h4_ := ca.keep h4_ (ok9 (mo + 4) (by omega))
  replace h5_ := ca.keep h5_ (ok9 (mo + 5) (by omega))
  replace h6_ := ca.keep h6_ (ok9 (mo + 6) (by omega))
  replace h7_ := ca.keep h7_ (ok9 (mo + 7) (by omega))
  replace h8_ := ca.keep h8_ (ok9 (mo + 8) (by omega))
  replace h9_ := ca.keep h9_ (ok9 (mo + 9) (by omega))
  replace h10_ := ca.keep h10_ (ok9 (mo + 10) (by omega))
  replace h11_ := ca.keep h11_ (ok9 (mo + 11) (by omega))
  replace h12_ := ca.keep h12_ (ok9 (mo + 12) (by omega))
  replace h13_ := ca.keep h13_ (ok9 (mo + 13) (by omega))
  clear ok9
  refine hp_putF (C := R_M) (T := F_M) (N := 19) (v := .ref (mo + 14)) (ty := .array .int) hx hb hG la_M t_M tk_M n_M hown hK.1 hobj hS (show mo ≤ mo by omega) rfl 17 (by decide) (hG _ fl_M_50) (fun _ h9 => h9) rfl hin rfl (by decide +kernel) rfl rfl (Nat.le_of_ble_eq_true rfl) d_M_init_130 (fun H locs h9 hz1 ok9 hS => ?_)
  replace hZ := hz1.trans hZ
  clear hz1
  replace h1_ := ca.keep h1_ (ok9 (mo + 1) (by omega))
  replace h2_ := ca.keep h2_ (ok9 (mo + 2) (by omega))
  replace h3_ := ca.keep h3_ (ok9 (mo + 3) (by omega))
  replace h4_ := ca.keep h4_ (ok9 (mo + 4) (by omega))
  replace h5_ := ca.keep h5_ (ok9 (mo + 5) (by omega))
  replace h6_ := ca.keep h6_ (ok9 (mo + 6) (by omega))
  replace h7_ := ca.keep h7_ (ok9 (mo + 7) (by omega))
  replace h8_ := ca.keep h8_ (ok9 (mo + 8) (by omega))
  replace h9_ := ca.keep h9_ (ok9 (mo + 9) (by omega))
  replace h10_ := ca.keep h10_ (ok9 (mo + 10) (by omega))
  replace h11_ := ca.keep h11_ (ok9 (mo + 11) (by omega))
  replace h12_ := ca.keep h12_ (ok9 (mo + 12) (by omega))
  replace h13_ := ca.keep h13_ (ok9 (mo + 13) (by omega))
  replace h14_ := ca.keep h14_ (ok9 (mo + 14) (by omega))
  replace hobj := h9
  clear h9
  replace hobj : ca E H mo (.inr (3, [.int (iI 0), .ref (mo + 1), .ref (mo + 2), .ref (mo + 3), .ref (mo + 4), .ref (mo + 5), .ref (mo + 6), .int (iI 0), .int (iI 0), .int (iI 0), .ref (mo + 7), .ref (mo + 8), .ref (mo + 9), .ref (mo + 10), .ref (mo + 11), .ref (mo + 12), .ref (mo + 13), .ref (mo + 14), .null])) := hobj
  clear ok9
  refine lv_aload_n hx hb d_M_init_133 rfl (lv_at hl 0 rfl) ?_
  refine hp_sipush (z := 160) hx hb d_M_init_134 (by rfl) ?_
  refine hp_newa hx hb (hG _ ac_int) hK.1 0 rfl hS hA 160 rfl (by omega) (by rw [hRc]; exact Nat.le_of_ble_eq_true rfl) (by rw [hRs]; exact Nat.le_of_ble_eq_true rfl) d_M_init_137 (fun H h15_ zk ok9 hS => ?_)
  rw [hZ] at h15_ zk ok9 ⊢
  replace hZ : H.size = mo + 16 := by omega
  clear zk
  replace hobj := ca.keep hobj (ok9 (mo) (by omega))
  replace h1_ := ca.keep h1_ (ok9 (mo + 1) (by omega))
  replace h2_ := ca.keep h2_ (ok9 (mo + 2) (by omega))
  replace h3_ := ca.keep h3_ (ok9 (mo + 3) (by omega))
  replace h4_ := ca.keep h4_ (ok9 (mo + 4) (by omega))
  replace h5_ := ca.keep h5_ (ok9 (mo + 5) (by omega))
  replace h6_ := ca.keep h6_ (ok9 (mo + 6) (by omega))
  replace h7_ := ca.keep h7_ (ok9 (mo + 7) (by omega))
  replace h8_ := ca.keep h8_ (ok9 (mo + 8) (by omega))
  replace h9_ := ca.keep h9_ (ok9 (mo + 9) (by omega))
  replace h10_ := ca.keep h10_ (ok9 (mo + 10) (by omega))
  replace h11_ := ca.keep h11_ (ok9 (mo + 11) (by omega))
  replace h12_ := ca.keep h12_ (ok9 (mo + 12) (by omega))
  replace h13_ := ca.keep h13_ (ok9 (mo + 13) (by omega))
  replace h14_ := ca.keep h14_ (ok9 (mo + 14) (by omega))
  clear ok9
  refine hp_putF (C := R_M) (T := F_M) (N := 19) (v := .ref (mo + 15)) (ty := .array .int) hx hb hG la_M t_M tk_M n_M hown hK.1 hobj hS (show mo ≤ mo by omega) rfl 18 (by decide) (hG _ fl_M_53) (fun _ h9 => h9) rfl hin rfl (by decide +kernel) rfl rfl (Nat.le_of_ble_eq_true rfl) d_M_init_139 (fun H locs h9 hz1 ok9 hS => ?_)
  replace hZ := hz1.trans hZ
  clear hz1
  replace h1_ := ca.keep h1_ (ok9 (mo + 1) (by omega))
  replace h2_ := ca.keep h2_ (ok9 (mo + 2) (by omega))
  replace h3_ := ca.keep h3_ (ok9 (mo + 3) (by omega))
  replace h4_ := ca.keep h4_ (ok9 (mo + 4) (by omega))
  replace h5_ := ca.keep h5_ (ok9 (mo + 5) (by omega))
  replace h6_ := ca.keep h6_ (ok9 (mo + 6) (by omega))
  replace h7_ := ca.keep h7_ (ok9 (mo + 7) (by omega))
  replace h8_ := ca.keep h8_ (ok9 (mo + 8) (by omega))
  replace h9_ := ca.keep h9_ (ok9 (mo + 9) (by omega))
  replace h10_ := ca.keep h10_ (ok9 (mo + 10) (by omega))
  replace h11_ := ca.keep h11_ (ok9 (mo + 11) (by omega))
  replace h12_ := ca.keep h12_ (ok9 (mo + 12) (by omega))
  replace h13_ := ca.keep h13_ (ok9 (mo + 13) (by omega))
  replace h14_ := ca.keep h14_ (ok9 (mo + 14) (by omega))
  replace h15_ := ca.keep h15_ (ok9 (mo + 15) (by omega))
  replace hobj := h9
  clear h9
  replace hobj : ca E H mo (.inr (3, [.int (iI 0), .ref (mo + 1), .ref (mo + 2), .ref (mo + 3), .ref (mo + 4), .ref (mo + 5), .ref (mo + 6), .int (iI 0), .int (iI 0), .int (iI 0), .ref (mo + 7), .ref (mo + 8), .ref (mo + 9), .ref (mo + 10), .ref (mo + 11), .ref (mo + 12), .ref (mo + 13), .ref (mo + 14), .ref (mo + 15)])) := hobj
  clear ok9
  rw [hQ]
  refine hp_vretN hx hb hrt hlocks d_M_init_142 hS (fun q _ h => h) (by omega) ?_
  have hs1 : ca E H (mo + 1) (ai E 4 (fun k => ((wI k : Nat) : Int))) := by have h9 := h1_; rw [hp_ones] at h9; exact h9
  exact ⟨⟨0, 0, 0, 0, fun _ => 0, fun _ => 0, fun _ => 0, fun _ => 0, fun _ => 0, fun _ => 0, fun _ => 0, fun _ => 0, fun _ => 0, ⟨⟨hobj, hs1, h2_, h3_, h10_⟩, h4_, h5_, h6_, h7_, h8_, h9_, h11_, h12_, h13_⟩, fun i _ h9 => absurd h9 Bool.false_ne_true⟩, h14_, h15_⟩
