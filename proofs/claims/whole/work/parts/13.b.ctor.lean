def wI (k : Nat) : Nat := if k < 4 then 1 else 0
theorem hp_ones : hp_up (hp_up (hp_up (hp_up (fun _ => (0 : Int)) 0 1) 1 1) 2 1) 3 1 = fun k => ((wI k : Nat) : Int) := by
  funext k
  unfold hp_up wI
  by_cases h3 : k = 3
  · subst h3; rfl
  · by_cases h2 : k = 2
    · subst h2; rfl
    · by_cases h1 : k = 1
      · subst h1; rfl
      · by_cases h0 : k = 0
        · subst h0; rfl
        · rw [if_neg h3, if_neg h2, if_neg h1, if_neg h0, if_neg (by omega)]; rfl
theorem hp_four {g : Nat → Nat} {x0 x1 x2 x3 : Nat} (e0 : x0 = g 0) (e1 : x1 = g 1) (e2 : x2 = g 2) (e3 : x3 = g 3) : hp_up (hp_up (hp_up (hp_up (fun _ => (none : Option Nat)) 0 (some x0)) 1 (some x1)) 2 (some x2)) 3 (some x3) = fun i => if i < 4 then some (g i) else none := by
  funext k
  unfold hp_up
  by_cases h3 : k = 3
  · subst h3; rw [if_pos rfl, e3]; rfl
  · by_cases h2 : k = 2
    · subst h2; rw [if_neg (by decide), if_pos rfl, e2]; rfl
    · by_cases h1 : k = 1
      · subst h1; rw [if_neg (by decide), if_neg (by decide), if_pos rfl, e1]; rfl
      · by_cases h0 : k = 0
        · subst h0; rw [if_neg (by decide), if_neg (by decide), if_neg (by decide), if_pos rfl, e0]; rfl
        · rw [if_neg h3, if_neg h2, if_neg h1, if_neg h0, if_neg (by omega)]
theorem nfS_0 (w : Nat) (f : Nat → Int) (X : Nat → Nat → Int) : nfS w 0 f 0 0 0 X := ⟨bn_X w 0 f, ⟨⟨0, rfl⟩, fun j i h => absurd h (by omega), fun i h => absurd h (by omega), fun i _ h => absurd h (by omega), fun h => absurd h (by omega), Nat.le_refl _, Nat.le_refl _⟩, fun i h => absurd h (by omega), rfl⟩
theorem bd_0 : bd (fun _ => 0) := fun k => ⟨show (-8 : Int) < 0 by decide, show (0 : Int) < 8 by decide⟩
theorem vW_0 : vW 1 0 (fun _ => 0) := ⟨Nat.le_refl _, by decide, by decide, bd_0, fun k h => absurd h (by omega)⟩
theorem nOk_0 {E : hp_E} {H : Heap} {b : Nat} (h : nAt E H b 1 0 (fun _ => 0) 0 0 0 (fun _ _ => 0) (fun _ => 0)) : nOk E H b := ⟨_, _, _, _, _, _, _, _, h, by decide, by decide, bd_0, nfS_0 _ _ _⟩

set_option maxHeartbeats 4000000 in
set_option maxRecDepth 100000 in
/-- new Word() -/
theorem c_W_init (l : Launch) (E : hp_E) (a : Nat) : Met l y_W_init (Cond.code y_W_init b_W_init 1 (none) :: G0) ({ frames := 1, cells := 1, slots := 32, locals := 12 }) (hp_PN E [.ref a] (fun H => H.size = a + 1 ∧ ca E H a (.inr (0, [.null, .int (iI 0), .int (iI 0)])))) (hp_Qn 1 (fun q => a ≤ q) (fun H => wAt E H a 1 0 (fun _ => 0))) 1 32 (fun q => a ≤ q) := by
  refine Met.ofW (cc := b_W_init) (maxL := 1) (ret := none) (by decide) rfl ?_
  intro p e s m args below meth cd s₁ Bd hml hv
  obtain ⟨hargs, ⟨hZ0, hobj⟩, hK, hO⟩ := hv
  have hx := Bd.exec
  have hb := Bd.bytes
  have hrt := Bd.returns
  have hts := atoms_spec (ws := Cond.code y_W_init b_W_init 1 (none) :: G0) Bd.pre
  have hG : ∀ w ∈ G0, w.before args s = true := fun w h => hts w (List.mem_cons_of_mem _ h)
  have hown : s.vm.findClass R_W = some m.cls := findClass_of_methodNamed Bd.named
  have hlocks := Bd.notSynchronized
  have hin : meth.name = "<init>" := (name_of_methodNamed Bd.named Bd.method).1
  have hl := lv_entry ([.ref a]) (n := 1) (Nat.le_of_ble_eq_true rfl)
  rw [show entryFrame m args 1 = entryFrame m ([.ref a] : List Value).toArray 1 from by rw [hargs]]
  rw [lg_entry_eq]
  generalize (lg_sl ([.ref a]) ++ List.replicate (1 - (lg_sl ([.ref a])).length) Slot.unset).toArray = ls at hl ⊢
  have hl : lv_has ls 1 [(0, .ref a)] := hl
  obtain ⟨R, hR⟩ : ∃ R, R = (headSpec (Cond.code y_W_init b_W_init 1 (none) :: G0) { frames := 1, cells := 1, slots := 32, locals := 12 }).room := ⟨_, rfl⟩
  rw [← hR]
  have hRf : R.frames = 1 := by rw [hR]; rfl
  have hRl : R.locals = 12 := by rw [hR]; rfl
  have hRc : R.cells = 1 := by rw [hR]; rfl
  have hRs : R.slots = 32 := by rw [hR]; rfl
  obtain ⟨Q, hQ⟩ : ∃ Q, Q = MQ below (hp_Qn 1 (fun q => a ≤ q) (fun H => wAt E H a 1 0 (fun _ => 0))) args s 1 32 (fun q => a ≤ q) := ⟨_, rfl⟩
  rw [← hQ]
  obtain ⟨H, hH⟩ : ∃ H, H = s.heap := ⟨_, rfl⟩
  obtain ⟨locs, hlocs⟩ : ∃ locs : List Loc, locs = [] := ⟨_, rfl⟩
  have hS : va_S (fun q => a ≤ q) s.heap H locs := by rw [hH, hlocs]; exact va_S.rf
  have hA : ∀ q, s.heap.size ≤ q → (fun q => a ≤ q) q := fun q h => show a ≤ q by omega
  have hZ : H.size = a + 1 := by rw [hH]; exact hZ0
  rw [← hH] at hobj
  rw [show W p l e R s m args below meth cd s.heap [] 0 0 Q (F0 m 0 ls []) = W p l e R s m args below meth cd H locs 0 0 Q (F0 m 0 ls []) from by rw [hH, hlocs]]
  refine lv_aload_n hx hb d_W_init_0 rfl (lv_at hl 0 rfl) ?_
  refine W.objInit hx hb hown (hG _ ml_W_3) (hG _ im_JO_init) (hG _ co_JO_init) rfl (by rw [hml]; exact hl.1) rfl d_W_init_1 (by rw [hRf]; exact Nat.le_of_ble_eq_true rfl) (by rw [hRl]; exact Nat.le_of_ble_eq_true rfl) ?_
  show W p l e R s m args below meth cd H locs 0 0 Q (F0 m 4 ls [])
  refine lv_aload_n hx hb d_W_init_4 rfl (lv_at hl 0 rfl) ?_
  refine hp_bipush (z := 32) hx hb d_W_init_5 (by rfl) ?_
  refine hp_newa hx hb (hG _ ac_int) hK.1 0 rfl hS hA 32 rfl (by omega) (by rw [hRc]; exact Nat.le_of_ble_eq_true rfl) (by rw [hRs]; exact Nat.le_of_ble_eq_true rfl) d_W_init_7 (fun H h1_ zk ok9 hS => ?_)
  rw [hZ] at h1_ zk ok9 ⊢
  replace hZ : H.size = a + 2 := by omega
  clear zk
  replace hobj := ca.keep hobj (ok9 (a) (by omega))
  clear ok9
  refine hp_putF (C := R_W) (T := F_W) (N := 3) (v := .ref (a + 1)) (ty := .array .int) hx hb hG la_W t_W tk_W n_W hown hK.1 hobj hS (show a ≤ a by omega) rfl 0 (by decide) (hG _ fl_W_9) (fun _ h9 => h9) rfl hin rfl (by decide +kernel) rfl rfl (Nat.le_of_ble_eq_true rfl) d_W_init_9 (fun H locs h9 hz1 ok9 hS => ?_)
  replace hZ := hz1.trans hZ
  clear hz1
  replace h1_ := ca.keep h1_ (ok9 (a + 1) (by omega))
  replace hobj := h9
  clear h9
  replace hobj : ca E H a (.inr (0, [.ref (a + 1), .int (iI 0), .int (iI 0)])) := hobj
  clear ok9
  refine lv_aload_n hx hb d_W_init_12 rfl (lv_at hl 0 rfl) ?_
  refine hp_iconst (z := 1) hx hb d_W_init_13 (by rfl) ?_
  refine hp_put (C := R_W) (T := F_W) (N := 3) (v := .int (iI 1)) (ty := .int) hx hb hG la_W t_W tk_W n_W hown hK.1 hobj hS (show a ≤ a by omega) rfl 1 (by decide) (hG _ fl_W_15) (fun _ h9 => h9) rfl (by decide +kernel) rfl rfl (Nat.le_of_ble_eq_true rfl) d_W_init_14 (fun H locs h9 hz1 ok9 hS => ?_)
  replace hZ := hz1.trans hZ
  clear hz1
  replace h1_ := ca.keep h1_ (ok9 (a + 1) (by omega))
  replace hobj := h9
  clear h9
  replace hobj : ca E H a (.inr (0, [.ref (a + 1), .int (iI 1), .int (iI 0)])) := hobj
  clear ok9
  refine lv_aload_n hx hb d_W_init_17 rfl (lv_at hl 0 rfl) ?_
  refine hp_iconst (z := 0) hx hb d_W_init_18 (by rfl) ?_
  refine hp_put (C := R_W) (T := F_W) (N := 3) (v := .int (iI 0)) (ty := .int) hx hb hG la_W t_W tk_W n_W hown hK.1 hobj hS (show a ≤ a by omega) rfl 2 (by decide) (hG _ fl_W_19) (fun _ h9 => h9) rfl (by decide +kernel) rfl rfl (Nat.le_of_ble_eq_true rfl) d_W_init_19 (fun H locs h9 hz1 ok9 hS => ?_)
  replace hZ := hz1.trans hZ
  clear hz1
  replace h1_ := ca.keep h1_ (ok9 (a + 1) (by omega))
  replace hobj := h9
  clear h9
  replace hobj : ca E H a (.inr (0, [.ref (a + 1), .int (iI 1), .int (iI 0)])) := hobj
  clear ok9
  rw [hQ]
  refine hp_vretN hx hb hrt hlocks d_W_init_22 hS (fun q _ h => h) (by omega) ?_
  exact ⟨hobj, h1_⟩

set_option maxHeartbeats 4000000 in
set_option maxRecDepth 100000 in
/-- new NormalForm() -/
theorem c_N_init (l : Launch) (E : hp_E) (b : Nat) : Met l y_N_init (Cond.code y_N_init b_N_init 1 (none) :: G0) ({ frames := 2, cells := 36, slots := 364, locals := 32 }) (hp_PN E [.ref b] (fun H => H.size = b + 1 ∧ ca E H b (.inr (1, [.null, .null, .null, .int (iI 0), .int (iI 0), .int (iI 0)])))) (hp_Qn 36 (fun q => b ≤ q) (fun H => nAt E H b 1 0 (fun _ => 0) 0 0 0 (fun _ _ => 0) (fun _ => 0))) 36 364 (fun q => b ≤ q) := by
  refine Met.ofW (cc := b_N_init) (maxL := 1) (ret := none) (by decide) rfl ?_
  intro p e s m args below meth cd s₁ Bd hml hv
  obtain ⟨hargs, ⟨hZ0, hobj⟩, hK, hO⟩ := hv
  have hx := Bd.exec
  have hb := Bd.bytes
  have hrt := Bd.returns
  have hts := atoms_spec (ws := Cond.code y_N_init b_N_init 1 (none) :: G0) Bd.pre
  have hG : ∀ w ∈ G0, w.before args s = true := fun w h => hts w (List.mem_cons_of_mem _ h)
  have hown : s.vm.findClass R_N = some m.cls := findClass_of_methodNamed Bd.named
  have hlocks := Bd.notSynchronized
  have hin : meth.name = "<init>" := (name_of_methodNamed Bd.named Bd.method).1
  have hl := lv_entry ([.ref b]) (n := 1) (Nat.le_of_ble_eq_true rfl)
  rw [show entryFrame m args 1 = entryFrame m ([.ref b] : List Value).toArray 1 from by rw [hargs]]
  rw [lg_entry_eq]
  generalize (lg_sl ([.ref b]) ++ List.replicate (1 - (lg_sl ([.ref b])).length) Slot.unset).toArray = ls at hl ⊢
  have hl : lv_has ls 1 [(0, .ref b)] := hl
  obtain ⟨R, hR⟩ : ∃ R, R = (headSpec (Cond.code y_N_init b_N_init 1 (none) :: G0) { frames := 2, cells := 36, slots := 364, locals := 32 }).room := ⟨_, rfl⟩
  rw [← hR]
  have hRf : R.frames = 2 := by rw [hR]; rfl
  have hRl : R.locals = 32 := by rw [hR]; rfl
  have hRc : R.cells = 36 := by rw [hR]; rfl
  have hRs : R.slots = 364 := by rw [hR]; rfl
  obtain ⟨Q, hQ⟩ : ∃ Q, Q = MQ below (hp_Qn 36 (fun q => b ≤ q) (fun H => nAt E H b 1 0 (fun _ => 0) 0 0 0 (fun _ _ => 0) (fun _ => 0))) args s 36 364 (fun q => b ≤ q) := ⟨_, rfl⟩
  rw [← hQ]
  obtain ⟨H, hH⟩ : ∃ H, H = s.heap := ⟨_, rfl⟩
  obtain ⟨locs, hlocs⟩ : ∃ locs : List Loc, locs = [] := ⟨_, rfl⟩
  have hS : va_S (fun q => b ≤ q) s.heap H locs := by rw [hH, hlocs]; exact va_S.rf
  have hA : ∀ q, s.heap.size ≤ q → (fun q => b ≤ q) q := fun q h => show b ≤ q by omega
  have hZ : H.size = b + 1 := by rw [hH]; exact hZ0
  rw [← hH] at hobj
  rw [show W p l e R s m args below meth cd s.heap [] 0 0 Q (F0 m 0 ls []) = W p l e R s m args below meth cd H locs 0 0 Q (F0 m 0 ls []) from by rw [hH, hlocs]]
  refine lv_aload_n hx hb d_N_init_0 rfl (lv_at hl 0 rfl) ?_
  refine W.objInit hx hb hown (hG _ ml_N_3) (hG _ im_JO_init) (hG _ co_JO_init) rfl (by rw [hml]; exact hl.1) rfl d_N_init_1 (by rw [hRf]; exact Nat.le_of_ble_eq_true rfl) (by rw [hRl]; exact Nat.le_of_ble_eq_true rfl) ?_
  show W p l e R s m args below meth cd H locs 0 0 Q (F0 m 4 ls [])
  refine lv_aload_n hx hb d_N_init_4 rfl (lv_at hl 0 rfl) ?_
  refine hp_new (C := R_W) (T := F_W) (N := 3) (ci := 0) (fs := [.null, .int (iI 0), .int (iI 0)]) hx hb hG la_W t_W tk_W hown (hG _ cl_N_9) (hG _ ia_W) (hG _ in_W) hK.1 hS rfl (by intro j hj; match j, hj with | 0, _ => rfl | 1, _ => rfl | 2, _ => rfl | j + 3, h => exact absurd h (by omega)) (by rw [hRc]; exact Nat.le_of_ble_eq_true rfl) (by rw [hRs]; exact Nat.le_of_ble_eq_true rfl) d_N_init_5 (fun H h1_ zk ok9 hS => ?_)
  rw [hZ] at h1_ zk ok9 ⊢
  replace hZ : H.size = b + 2 := by omega
  clear zk
  replace hobj := ca.keep hobj (ok9 (b) (by omega))
  clear ok9
  refine lv_dup hx hb d_N_init_8 rfl ?_
  refine hp_calln (va_Run.run (va_runIN (As := []) (rest := [.ref (b + 1), .ref b]) ⟨hx, hb, hml, hown, hG⟩ (c_W_init l E (b + 1)) ⟨va_cnB 0 hG (hp_goodC co_W_init) rfl rfl rfl (hK.2 _ ns_N_11) (hG _ in_W) hd_W_init.2 ⟨by rw [hRf]; exact Nat.le_of_ble_eq_true rfl, by rw [hRl]; exact Nat.le_of_ble_eq_true rfl⟩, rfl, hG _ im_W_init⟩ (hp_preN hK hO ⟨hZ, h1_⟩) rfl rfl hl.1 rfl (lv_room (Nat.le_of_ble_eq_true rfl)) d_N_init_9 ⟨by rw [hRc]; exact Nat.le_of_ble_eq_true rfl, by rw [hRs]; exact Nat.le_of_ble_eq_true rfl⟩)) hS (fun q h9 => show b ≤ q from Nat.le_trans (show b ≤ b + 1 by omega) h9) (fun q h9 => show b ≤ q from Nat.le_trans (show b ≤ b + 1 by omega) h9) (fun H locs h9 zk ok8 hS => ?_)
  rw [hZ] at zk ok8
  replace hZ : H.size = b + 3 := by omega
  clear zk
  have ok9 := fun (q : Nat) (h8 : q < b + 1) => ok8 q (by omega) (fun h7 => absurd (show b + 1 ≤ q from h7) (by omega))
  clear ok8
  replace hobj := ca.keep hobj (ok9 (b) (by omega))
  replace h1_ := h9
  clear h9
  clear ok9
  refine hp_putF (C := R_N) (T := F_N) (N := 6) (v := .ref (b + 1)) (ty := .object "BraidWords$Word") hx hb hG la_N t_N tk_N n_N hown hK.1 hobj hS (show b ≤ b by omega) rfl 0 (by decide) (hG _ fl_N_12) (fun _ h9 => h9) rfl hin rfl (by decide +kernel) rfl rfl (Nat.le_of_ble_eq_true rfl) d_N_init_12 (fun H locs h9 hz1 ok9 hS => ?_)
  replace hZ := hz1.trans hZ
  clear hz1
  replace h1_ := wAt.keep h1_ (ok9 (b + 1) (by omega)) (ok9 (b + 1 + 1) (by omega))
  replace hobj := h9
  clear h9
  replace hobj : ca E H b (.inr (1, [.ref (b + 1), .null, .null, .int (iI 0), .int (iI 0), .int (iI 0)])) := hobj
  clear ok9
  refine lv_aload_n hx hb d_N_init_15 rfl (lv_at hl 0 rfl) ?_
  refine hp_bipush (z := 32) hx hb d_N_init_16 (by rfl) ?_
  refine hp_bipush (z := 9) hx hb d_N_init_18 (by rfl) ?_
  refine hp_mna hx hb hown (by rw [show "[" ++ (FieldType.array .int).toString = "[[I" from by decide +kernel]; exact hG _ cl_N_18) (show (Cond.arrayOver (.array .int)).before args s = true from hO.2.2) (hG _ ac_int) hK.1 0 4 rfl rfl hS 32 9 rfl rfl (by omega) (by omega) (by rw [hRc]; exact Nat.le_of_ble_eq_true rfl) (by rw [hRs]; exact Nat.le_of_ble_eq_true rfl) d_N_init_20 (fun H h2_ hrw zk ok9 hS => ?_)
  rw [hZ] at h2_ zk ok9 ⊢
  rw [hZ] at hrw
  replace hZ : H.size = b + 36 := by omega
  clear zk
  replace hobj := ca.keep hobj (ok9 (b) (by omega))
  replace h1_ := wAt.keep h1_ (ok9 (b + 1) (by omega)) (ok9 (b + 1 + 1) (by omega))
  replace hrw : ∀ j, j < 32 → ca E H (b + 4 + j) (ai E 9 (fun _ => 0)) := hrw
  clear ok9
  refine hp_putF (C := R_N) (T := F_N) (N := 6) (v := .ref (b + 3)) (ty := .array (.array .int)) hx hb hG la_N t_N tk_N n_N hown hK.1 hobj hS (show b ≤ b by omega) rfl 1 (by decide) (hG _ fl_N_20) (fun _ h9 => h9) rfl hin rfl (by decide +kernel) rfl rfl (Nat.le_of_ble_eq_true rfl) d_N_init_24 (fun H locs h9 hz1 ok9 hS => ?_)
  replace hZ := hz1.trans hZ
  clear hz1
  replace h1_ := wAt.keep h1_ (ok9 (b + 1) (by omega)) (ok9 (b + 1 + 1) (by omega))
  replace h2_ := ca.keep h2_ (ok9 (b + 3) (by omega))
  replace hrw : ∀ j, j < 32 → ca E H (b + 4 + j) (ai E 9 (fun _ => 0)) := fun j hj => ca.keep (hrw j hj) (ok9 _ (by omega))
  replace hobj := h9
  clear h9
  replace hobj : ca E H b (.inr (1, [.ref (b + 1), .ref (b + 3), .null, .int (iI 0), .int (iI 0), .int (iI 0)])) := hobj
  clear ok9
  refine lv_aload_n hx hb d_N_init_27 rfl (lv_at hl 0 rfl) ?_
  refine hp_bipush (z := 9) hx hb d_N_init_28 (by rfl) ?_
  refine hp_newa hx hb (hG _ ac_int) hK.1 0 rfl hS hA 9 rfl (by omega) (by rw [hRc]; exact Nat.le_of_ble_eq_true rfl) (by rw [hRs]; exact Nat.le_of_ble_eq_true rfl) d_N_init_30 (fun H h3_ zk ok9 hS => ?_)
  rw [hZ] at h3_ zk ok9 ⊢
  replace hZ : H.size = b + 37 := by omega
  clear zk
  replace hobj := ca.keep hobj (ok9 (b) (by omega))
  replace h1_ := wAt.keep h1_ (ok9 (b + 1) (by omega)) (ok9 (b + 1 + 1) (by omega))
  replace h2_ := ca.keep h2_ (ok9 (b + 3) (by omega))
  replace hrw : ∀ j, j < 32 → ca E H (b + 4 + j) (ai E 9 (fun _ => 0)) := fun j hj => ca.keep (hrw j hj) (ok9 _ (by omega))
  clear ok9
  refine hp_putF (C := R_N) (T := F_N) (N := 6) (v := .ref (b + 36)) (ty := .array .int) hx hb hG la_N t_N tk_N n_N hown hK.1 hobj hS (show b ≤ b by omega) rfl 2 (by decide) (hG _ fl_N_23) (fun _ h9 => h9) rfl hin rfl (by decide +kernel) rfl rfl (Nat.le_of_ble_eq_true rfl) d_N_init_32 (fun H locs h9 hz1 ok9 hS => ?_)
  replace hZ := hz1.trans hZ
  clear hz1
  replace h1_ := wAt.keep h1_ (ok9 (b + 1) (by omega)) (ok9 (b + 1 + 1) (by omega))
  replace h2_ := ca.keep h2_ (ok9 (b + 3) (by omega))
  replace hrw : ∀ j, j < 32 → ca E H (b + 4 + j) (ai E 9 (fun _ => 0)) := fun j hj => ca.keep (hrw j hj) (ok9 _ (by omega))
  replace h3_ := ca.keep h3_ (ok9 (b + 36) (by omega))
  replace hobj := h9
  clear h9
  replace hobj : ca E H b (.inr (1, [.ref (b + 1), .ref (b + 3), .ref (b + 36), .int (iI 0), .int (iI 0), .int (iI 0)])) := hobj
  clear ok9
  refine lv_aload_n hx hb d_N_init_35 rfl (lv_at hl 0 rfl) ?_
  refine hp_iconst (z := 0) hx hb d_N_init_36 (by rfl) ?_
  refine hp_put (C := R_N) (T := F_N) (N := 6) (v := .int (iI 0)) (ty := .int) hx hb hG la_N t_N tk_N n_N hown hK.1 hobj hS (show b ≤ b by omega) rfl 3 (by decide) (hG _ fl_N_27) (fun _ h9 => h9) rfl (by decide +kernel) rfl rfl (Nat.le_of_ble_eq_true rfl) d_N_init_37 (fun H locs h9 hz1 ok9 hS => ?_)
  replace hZ := hz1.trans hZ
  clear hz1
  replace h1_ := wAt.keep h1_ (ok9 (b + 1) (by omega)) (ok9 (b + 1 + 1) (by omega))
  replace h2_ := ca.keep h2_ (ok9 (b + 3) (by omega))
  replace hrw : ∀ j, j < 32 → ca E H (b + 4 + j) (ai E 9 (fun _ => 0)) := fun j hj => ca.keep (hrw j hj) (ok9 _ (by omega))
  replace h3_ := ca.keep h3_ (ok9 (b + 36) (by omega))
  replace hobj := h9
  clear h9
  replace hobj : ca E H b (.inr (1, [.ref (b + 1), .ref (b + 3), .ref (b + 36), .int (iI 0), .int (iI 0), .int (iI 0)])) := hobj
  clear ok9
  refine lv_aload_n hx hb d_N_init_40 rfl (lv_at hl 0 rfl) ?_
  refine hp_iconst (z := 0) hx hb d_N_init_41 (by rfl) ?_
  refine hp_put (C := R_N) (T := F_N) (N := 6) (v := .int (iI 0)) (ty := .int) hx hb hG la_N t_N tk_N n_N hown hK.1 hobj hS (show b ≤ b by omega) rfl 4 (by decide) (hG _ fl_N_31) (fun _ h9 => h9) rfl (by decide +kernel) rfl rfl (Nat.le_of_ble_eq_true rfl) d_N_init_42 (fun H locs h9 hz1 ok9 hS => ?_)
  replace hZ := hz1.trans hZ
  clear hz1
  replace h1_ := wAt.keep h1_ (ok9 (b + 1) (by omega)) (ok9 (b + 1 + 1) (by omega))
  replace h2_ := ca.keep h2_ (ok9 (b + 3) (by omega))
  replace hrw : ∀ j, j < 32 → ca E H (b + 4 + j) (ai E 9 (fun _ => 0)) := fun j hj => ca.keep (hrw j hj) (ok9 _ (by omega))
  replace h3_ := ca.keep h3_ (ok9 (b + 36) (by omega))
  replace hobj := h9
  clear h9
  replace hobj : ca E H b (.inr (1, [.ref (b + 1), .ref (b + 3), .ref (b + 36), .int (iI 0), .int (iI 0), .int (iI 0)])) := hobj
  clear ok9
  refine lv_aload_n hx hb d_N_init_45 rfl (lv_at hl 0 rfl) ?_
  refine hp_iconst (z := 0) hx hb d_N_init_46 (by rfl) ?_
  refine hp_put (C := R_N) (T := F_N) (N := 6) (v := .int (iI 0)) (ty := .int) hx hb hG la_N t_N tk_N n_N hown hK.1 hobj hS (show b ≤ b by omega) rfl 5 (by decide) (hG _ fl_N_34) (fun _ h9 => h9) rfl (by decide +kernel) rfl rfl (Nat.le_of_ble_eq_true rfl) d_N_init_47 (fun H locs h9 hz1 ok9 hS => ?_)
  replace hZ := hz1.trans hZ
  clear hz1
  replace h1_ := wAt.keep h1_ (ok9 (b + 1) (by omega)) (ok9 (b + 1 + 1) (by omega))
  replace h2_ := ca.keep h2_ (ok9 (b + 3) (by omega))
  replace hrw : ∀ j, j < 32 → ca E H (b + 4 + j) (ai E 9 (fun _ => 0)) := fun j hj => ca.keep (hrw j hj) (ok9 _ (by omega))
  replace h3_ := ca.keep h3_ (ok9 (b + 36) (by omega))
  replace hobj := h9
  clear h9
  replace hobj : ca E H b (.inr (1, [.ref (b + 1), .ref (b + 3), .ref (b + 36), .int (iI 0), .int (iI 0), .int (iI 0)])) := hobj
  clear ok9
  rw [hQ]
  refine hp_vretN hx hb hrt hlocks d_N_init_50 hS (fun q _ h => h) (by omega) ?_
  exact ⟨hobj, h1_, h2_, h3_, hrw⟩
