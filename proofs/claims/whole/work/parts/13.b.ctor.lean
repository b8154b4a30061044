def wI (k : Nat) : Nat := if k < 4 then 1 else 0
theorem hp_ones : hp_up (hp_up (hp_up (hp_up (fun _ => (0 : Int)) 0 1) 1 1) 2 1) 3 1 = fun k => ((wI k : Nat) : Int) := by
  funext k
  unfold hp_up wI
  by_cases h3 : k = 3
  · subst h3; rfl
  · by_cases h2 : k = 2
    · subst h2; rfl
    · by_cases h1 : k = 1
      · subst h1; rfl
      · by_cases h0 : k = 0
        · subst h0; rfl
        · rw [if_neg h3, if_neg h2, if_neg h1, if_neg h0, if_neg (by omega)]; rfl
theorem hp_four {g : Nat → Nat} {x0 x1 x2 x3 : Nat} (e0 : x0 = g 0) (e1 : x1 = g 1) (e2 : x2 = g 2) (e3 : x3 = g 3) : hp_up (hp_up (hp_up (hp_up (fun _ => (none : Option Nat)) 0 (some x0)) 1 (some x1)) 2 (some x2)) 3 (some x3) = fun i => if i < 4 then some (g i) else none := by
  funext k
  unfold hp_up
  by_cases h3 : k = 3
  · subst h3; rw [if_pos rfl, e3]; rfl
  · by_cases h2 : k = 2
    · subst h2; rw [if_neg (by decide), if_pos rfl, e2]; rfl
    · by_cases h1 : k = 1
      · subst h1; rw [if_neg (by decide), if_neg (by decide), if_pos rfl, e1]; rfl
      · by_cases h0 : k = 0
        · subst h0; rw [if_neg (by decide), if_neg (by decide), if_neg (by decide), if_pos rfl, e0]; rfl
        · rw [if_neg h3, if_neg h2, if_neg h1, if_neg h0, if_neg (by omega)]
theorem nfS_0 (w : Nat) (f : Nat → Int) (X : Nat → Nat → Int) : nfS w 0 f 0 0 0 X := ⟨bn_X w 0 f, ⟨⟨0, rfl⟩, fun j i h => absurd h (by omega), fun i h => absurd h (by omega), fun i _ h => absurd h (by omega), fun h => absurd h (by omega), Nat.le_refl _, Nat.le_refl _⟩, fun i h => absurd h (by omega), rfl⟩
theorem bd_0 : bd (fun _ => 0) := fun k => ⟨show (-8 : Int) < 0 by decide, show (0 : Int) < 8 by decide⟩
theorem vW_0 : vW 1 0 (fun _ => 0) := ⟨Nat.le_refl _, by decide, by decide, bd_0, fun k h => absurd h (by omega)⟩
theorem nOk_0 {E : hp_E} {H : Heap} {b : Nat} (h : nAt E H b 1 0 (fun _ => 0) 0 0 0 (fun _ _ => 0) (fun _ => 0)) : nOk E H b := ⟨_, _, _, _, _, _, _, _, h, by decide, by decide, bd_0, nfS_0 _ _ _⟩

set_option maxHeartbeats 4000000 in
set_option maxRecDepth 100000 in
/-- new Word() -/
theorem c_W_init (l : Launch) (E : hp_E) (a : Nat) : Met l y_W_init (Cond.code y_W_init b_W_init 1 (none) :: G0) ({ frames := 1, cells := 1, slots := 32, locals := 12 }) (hp_PN E [.ref a] (fun H => H.size = a + 1 ∧ ca E H a (.inr (0, [.null, .int (iI 0), .int (iI 0)])))) (hp_Qn 1 (fun q => a ≤ q) (fun H => wAt E H a 1 0 (fun _ => 0))) 1 32 (fun q => a ≤ q) := by
  refine Met.ofW (cc := b_W_init) (maxL := 1) (ret := none) (by decide) rfl ?_
  intro p e s m args below meth cd s₁ Bd hml hv
  obtain ⟨hargs, ⟨hZ0, hobj⟩, hK, hO⟩ := hv
  have hx := Bd.exec
  have hb := Bd.bytes
  have hrt := Bd.returns
  have hts := atoms_spec (ws := Cond.code y_W_init b_W_init 1 (none) :: G0) Bd.pre
  have hG : ∀ w ∈ G0, w.before args s = true := fun w h => hts w (List.mem_cons_of_mem _ h)
  have hown : s.vm.findClass R_W = some m.cls := findClass_of_methodNamed Bd.named
  have hlocks := Bd.notSynchronized
  have hin : meth.name = "<init>" := (name_of_methodNamed Bd.named Bd.method).1
  have hl := lv_entry ([.ref a]) (n := 1) (Nat.le_of_ble_eq_true rfl)
  rw [show entryFrame m args 1 = entryFrame m ([.ref a] : List Value).toArray 1 from by rw [hargs]]
  rw [lg_entry_eq]
  generalize (lg_sl ([.ref a]) ++ List.replicate (1 - (lg_sl ([.ref a])).length) Slot.unset).toArray = ls at hl ⊢
  have hl : lv_has ls 1 [(0, .ref a)] := hl
  obtain ⟨R, hR⟩ : ∃ R, R = (headSpec (Cond.code y_W_init b_W_init 1 (none) :: G0) { frames := 1, cells := 1, slots := 32, locals := 12 }).room := ⟨_, rfl⟩
  rw [← hR]
  have hRf : R.frames = 1 := by rw [hR]; rfl
  have hRl : R.locals = 12 := by rw [hR]; rfl
  have hRc : R.cells = 1 := by rw [hR]; rfl
  have hRs : R.slots = 32 := by rw [hR]; rfl
  obtain ⟨Q, hQ⟩ : ∃ Q, Q = MQ below (hp_Qn 1 (fun q => a ≤ q) (fun H => wAt E H a 1 0 (fun _ => 0))) args s 1 32 (fun q => a ≤ q) := ⟨_, rfl⟩
  rw [← hQ]
  obtain ⟨H, hH⟩ : ∃ H, H = s.heap := ⟨_, rfl⟩
  obtain ⟨locs, hlocs⟩ : ∃ locs : List Loc, locs = [] := ⟨_, rfl⟩
  have hS : va_S (fun q => a ≤ q) s.heap H locs := by rw [hH, hlocs]; exact va_S.rf
  have hA : ∀ q, s.heap.size ≤ q → (fun q => a ≤ q) q := fun q h => show a ≤ q by omega
  have hZ : H.size = a + 1 := by rw [hH]; exact hZ0
  rw [← hH] at hobj
  rw [show W p l e R s m args below meth cd s.heap [] 0 0 Q (F0 m 0 ls []) = W p l e R s m args below meth cd H locs 0 0 Q (F0 m 0 ls []) from by rw [hH, hlocs]]
  refine lv_aload_n hx hb d_W_init_0 rfl (lv_at hl 0 rfl) ?_
  refine W.objInit hx hb hown (hG _ ml_W_3) (hG _ im_JO_init) (hG _ co_JO_init) rfl (by rw [hml]; exact hl.1) rfl d_W_init_1 (by rw [hRf]; exact Nat.le_of_ble_eq_true rfl) (by rw [hRl]; exact Nat.le_of_ble_eq_true rfl) ?_
  refine lv_aload_n hx hb d_W_init_4 rfl (lv_at hl 0 rfl) ?_
  refine hp_bipush (z := 32) hx hb d_W_init_5 (by rfl) ?_
  refine hp_newa hx hb (hG _ ac_int) hK.1 0 rfl hS hA 32 rfl (by omega) (by rw [hRc]; exact Nat.le_of_ble_eq_true rfl) (by rw [hRs]; exact Nat.le_of_ble_eq_true rfl) d_W_init_7 (fun H h1_ zk ok9 hS => ?_)
  rw [hZ] at h1_ zk ok9 ⊢
  have hZ : H.size = a + 2 := by omega
  clear zk
  have hobj := ca.keep hobj (ok9 (a) (by omega))
  clear ok9
  refine hp_putF (C := R_W) (T := F_W) (N := 3) (v := .ref (a + 1)) (ty := .array .int) hx hb hG la_W t_W tk_W n_W hown hK.1 hobj hS (show a ≤ a by omega) rfl 0 (by decide) (hG _ fl_W_9) (fun _ h9 => h9) rfl hin rfl (by decide +kernel) rfl rfl (Nat.le_of_ble_eq_true rfl) d_W_init_9 (fun H locs h9 hz1 ok9 hS => ?_)
  have hZ := hz1.trans hZ
  clear hz1
  have h1_ := ca.keep h1_ (ok9 (a + 1) (by omega))
  have hobj := h9
  clear h9
  have hobj : ca E H a (.inr (0, [.ref (a + 1), .int (iI 0), .int (iI 0)])) := hobj
  clear ok9
  refine lv_aload_n hx hb d_W_init_12 rfl (lv_at hl 0 rfl) ?_
  refine hp_iconst (z := 1) hx hb d_W_init_13 (by rfl) ?_
  refine hp_put (C := R_W) (T := F_W) (N := 3) (v := .int (iI 1)) (ty := .int) hx hb hG la_W t_W tk_W n_W hown hK.1 hobj hS (show a ≤ a by omega) rfl 1 (by decide) (hG _ fl_W_15) (fun _ h9 => h9) rfl (by decide +kernel) rfl rfl (Nat.le_of_ble_eq_true rfl) d_W_init_14 (fun H locs h9 hz1 ok9 hS => ?_)
  have hZ := hz1.trans hZ
  clear hz1
  have h1_ := ca.keep h1_ (ok9 (a + 1) (by omega))
  have hobj := h9
  clear h9
  have hobj : ca E H a (.inr (0, [.ref (a + 1), .int (iI 1), .int (iI 0)])) := hobj
  clear ok9
  refine lv_aload_n hx hb d_W_init_17 rfl (lv_at hl 0 rfl) ?_
  refine hp_iconst (z := 0) hx hb d_W_init_18 (by rfl) ?_
  refine hp_put (C := R_W) (T := F_W) (N := 3) (v := .int (iI 0)) (ty := .int) hx hb hG la_W t_W tk_W n_W hown hK.1 hobj hS (show a ≤ a by omega) rfl 2 (by decide) (hG _ fl_W_19) (fun _ h9 => h9) rfl (by decide +kernel) rfl rfl (Nat.le_of_ble_eq_true rfl) d_W_init_19 (fun H locs h9 hz1 ok9 hS => ?_)
  have hZ := hz1.trans hZ
  clear hz1
  have h1_ := ca.keep h1_ (ok9 (a + 1) (by omega))
  have hobj := h9
  clear h9
  have hobj : ca E H a (.inr (0, [.ref (a + 1), .int (iI 1), .int (iI 0)])) := hobj
  clear ok9
  rw [hQ]
  refine hp_vretN hx hb hrt hlocks d_W_init_22 hS (fun q _ h => h) (by omega) ?_
  exact ⟨hobj, h1_⟩

set_option maxHeartbeats 4000000 in
set_option maxRecDepth 100000 in
/-- new NormalForm() -/
theorem c_N_init (l : Launch) (E : hp_E) (b : Nat) : Met l y_N_init (Cond.code y_N_init b_N_init 1 (none) :: G0) ({ frames := 2, cells := 36, slots := 364, locals := 32 }) (hp_PN E [.ref b] (fun H => H.size = b + 1 ∧ ca E H b (.inr (1, [.null, .null, .null, .int (iI 0), .int (iI 0), .int (iI 0)])))) (hp_Qn 36 (fun q => b ≤ q) (fun H => nAt E H b 1 0 (fun _ => 0) 0 0 0 (fun _ _ => 0) (fun _ => 0))) 36 364 (fun q => b ≤ q) := by
  refine Met.ofW (cc := b_N_init) (maxL := 1) (ret := none) (by decide) rfl ?_
  intro p e s m args below meth cd s₁ Bd hml hv
  obtain ⟨hargs, ⟨hZ0, hobj⟩, hK, hO⟩ := hv
  have hx := Bd.exec
  have hb := Bd.bytes
  have hrt := Bd.returns
  have hts := atoms_spec (ws := Cond.code y_N_init b_N_init 1 (none) :: G0) Bd.pre
  have hG : ∀ w ∈ G0, w.before args s = true := fun w h => hts w (List.mem_cons_of_mem _ h)
  have hown : s.vm.findClass R_N = some m.cls := findClass_of_methodNamed Bd.named
  have hlocks := Bd.notSynchronized
  have hin : meth.name = "<init>" := (name_of_methodNamed Bd.named Bd.method).1
  have hl := lv_entry ([.ref b]) (n := 1) (Nat.le_of_ble_eq_true rfl)
  rw [show entryFrame m args 1 = entryFrame m ([.ref b] : List Value).toArray 1 from by rw [hargs]]
  rw [lg_entry_eq]
  generalize (lg_sl ([.ref b]) ++ List.replicate (1 - (lg_sl ([.ref b])).length) Slot.unset).toArray = ls at hl ⊢
  have hl : lv_has ls 1 [(0, .ref b)] := hl
  obtain ⟨R, hR⟩ : ∃ R, R = (headSpec (Cond.code y_N_init b_N_init 1 (none) :: G0) { frames := 2, cells := 36, slots := 364, locals := 32 }).room := ⟨_, rfl⟩
  rw [← hR]
  have hRf : R.frames = 2 := by rw [hR]; rfl
  have hRl : R.locals = 32 := by rw [hR]; rfl
  have hRc : R.cells = 36 := by rw [hR]; rfl
  have hRs : R.slots = 364 := by rw [hR]; rfl
  obtain ⟨Q, hQ⟩ : ∃ Q, Q = MQ below (hp_Qn 36 (fun q => b ≤ q) (fun H => nAt E H b 1 0 (fun _ => 0) 0 0 0 (fun _ _ => 0) (fun _ => 0))) args s 36 364 (fun q => b ≤ q) := ⟨_, rfl⟩
  rw [← hQ]
  obtain ⟨H, hH⟩ : ∃ H, H = s.heap := ⟨_, rfl⟩
  obtain ⟨locs, hlocs⟩ : ∃ locs : List Loc, locs = [] := ⟨_, rfl⟩
  have hS : va_S (fun q => b ≤ q) s.heap H locs := by rw [hH, hlocs]; exact va_S.rf
  have hA : ∀ q, s.heap.size ≤ q → (fun q => b ≤ q) q := fun q h => show b ≤ q by omega
  have hZ : H.size = b + 1 := by rw [hH]; exact hZ0
  rw [← hH] at hobj
  rw [show W p l e R s m args below meth cd s.heap [] 0 0 Q (F0 m 0 ls []) = W p l e R s m args below meth cd H locs 0 0 Q (F0 m 0 ls []) from by rw [hH, hlocs]]
  refine lv_aload_n hx hb d_N_init_0 rfl (lv_at hl 0 rfl) ?_
  refine W.objInit hx hb hown (hG _ ml_N_3) (hG _ im_JO_init) (hG _ co_JO_init) rfl (by rw [hml]; exact hl.1) rfl d_N_init_1 (by rw [hRf]; exact Nat.le_of_ble_eq_true rfl) (by rw [hRl]; exact Nat.le_of_ble_eq_true rfl) ?_
  refine lv_aload_n hx hb d_N_init_4 rfl (lv_at hl 0 rfl) ?_
  refine hp_new (C := R_W) (T := F_W) (N := 3) (ci := 0) (fs := [.null, .int (iI 0), .int (iI 0)]) hx hb hG la_W t_W tk_W hown (hG _ cl_N_9) (hG _ ia_W) (hG _ in_W) hK.1 hS rfl (by intro j hj; match j, hj with | 0, _ => rfl | 1, _ => rfl | 2, _ => rfl | j + 3, h => exact absurd h (by omega)) (by rw [hRc]; exact Nat.le_of_ble_eq_true rfl) (by rw [hRs]; exact Nat.le_of_ble_eq_true rfl) d_N_init_5 (fun H h1_ zk ok9 hS => ?_)
  rw [hZ] at h1_ zk ok9 ⊢
  have hZ : H.size = b + 2 := by omega
  clear zk
  have hobj := ca.keep hobj (ok9 (b) (by omega))
  clear ok9
  refine lv_dup hx hb d_N_init_8 rfl ?_
  refine hp_calln (va_Run.run (va_runIN (As := []) (rest := [.ref (b + 1), .ref b]) ⟨hx, hb, hml, hown, hG⟩ (c_W_init l E (b + 1)) ⟨va_cnB 0 hG (hp_goodC co_W_init) rfl rfl rfl (hK.2 _ ns_N_11) (hG _ in_W) hd_W_init.2 ⟨by rw [hRf]; exact Nat.le_of_ble_eq_true rfl, by rw [hRl]; exact Nat.le_of_ble_eq_true rfl⟩, rfl, hG _ im_W_init⟩ (hp_preN hK hO ⟨hZ, h1_⟩) rfl rfl hl.1 rfl (lv_room (Nat.le_of_ble_eq_true rfl)) d_N_init_9 ⟨by rw [hRc]; exact Nat.le_of_ble_eq_true rfl, by rw [hRs]; exact Nat.le_of_ble_eq_true rfl⟩)) hS (fun q h9 => show b ≤ q from Nat.le_trans (show b ≤ b + 1 by omega) h9) (fun q h9 => show b ≤ q from Nat.le_trans (show b ≤ b + 1 by omega) h9) (fun H locs h9 zk ok8 hS => ?_)
  rw [hZ] at zk ok8
  have hZ : H.size = b + 3 := by omega
  clear zk
  have ok9 := fun (q : Nat) (h8 : q < b + 1) => ok8 q (by omega) (fun h7 => absurd (show b + 1 ≤ q from h7) (by omega))
  clear ok8
  have hobj := ca.keep hobj (ok9 (b) (by omega))
  have h1_ := h9
  clear h9
  clear ok9
  refine hp_putF (C := R_N) (T := F_N) (N := 6) (v := .ref (b + 1)) (ty := .object "BraidWords$Word") hx hb hG la_N t_N tk_N n_N hown hK.1 hobj hS (show b ≤ b by omega) rfl 0 (by decide) (hG _ fl_N_12) (fun _ h9 => h9) rfl hin rfl (by decide +kernel) rfl rfl (Nat.le_of_ble_eq_true rfl) d_N_init_12 (fun H locs h9 hz1 ok9 hS => ?_)
  have hZ := hz1.trans hZ
  clear hz1
  have h1_ := wAt.keep h1_ (ok9 (b + 1) (by omega)) (ok9 (b + 1 + 1) (by omega))
  have hobj := h9
  clear h9
  have hobj : ca E H b (.inr (1, [.ref (b + 1), .null, .null, .int (iI 0), .int (iI 0), .int (iI 0)])) := hobj
  clear ok9
  refine lv_aload_n hx hb d_N_init_15 rfl (lv_at hl 0 rfl) ?_
  refine hp_bipush (z := 32) hx hb d_N_init_16 (by rfl) ?_
  refine hp_bipush (z := 9) hx hb d_N_init_18 (by rfl) ?_
  refine hp_mna hx hb hown (by rw [show "[" ++ (FieldType.array .int).toString = "[[I" from by decide +kernel]; exact hG _ cl_N_18) (show (Cond.arrayOver (.array .int)).before args s = true from hO.2.2) (hG _ ac_int) hK.1 0 4 rfl rfl hS 32 9 rfl rfl (by omega) (by omega) (by rw [hRc]; exact Nat.le_of_ble_eq_true rfl) (by rw [hRs]; exact Nat.le_of_ble_eq_true rfl) d_N_init_20 (fun H h2_ hrw zk ok9 hS => ?_)
  rw [hZ] at h2_ zk ok9 ⊢
  rw [hZ] at hrw
  have hZ : H.size = b + 36 := by omega
  clear zk
  have hobj := ca.keep hobj (ok9 (b) (by omega))
  have h1_ := wAt.keep h1_ (ok9 (b + 1) (by omega)) (ok9 (b + 1 + 1) (by omega))
  have hrw : ∀ j, j < 32 → ca E H (b + 4 + j) (ai E 9 (fun _ => 0)) := hrw
  clear ok9
  refine hp_putF (C := R_N) (T := F_N) (N := 6) (v := .ref (b + 3)) (ty := .array (.array .int)) hx hb hG la_N t_N tk_N n_N hown hK.1 hobj hS (show b ≤ b by omega) rfl 1 (by decide) (hG _ fl_N_20) (fun _ h9 => h9) rfl hin rfl (by decide +kernel) rfl rfl (Nat.le_of_ble_eq_true rfl) d_N_init_24 (fun H locs h9 hz1 ok9 hS => ?_)
  have hZ := hz1.trans hZ
  clear hz1
  have h1_ := wAt.keep h1_ (ok9 (b + 1) (by omega)) (ok9 (b + 1 + 1) (by omega))
  have h2_ := ca.keep h2_ (ok9 (b + 3) (by omega))
  have hrw : ∀ j, j < 32 → ca E H (b + 4 + j) (ai E 9 (fun _ => 0)) := fun j hj => ca.keep (hrw j hj) (ok9 _ (by omega))
  have hobj := h9
  clear h9
  have hobj : ca E H b (.inr (1, [.ref (b + 1), .ref (b + 3), .null, .int (iI 0), .int (iI 0), .int (iI 0)])) := hobj
  clear ok9
  refine lv_aload_n hx hb d_N_init_27 rfl (lv_at hl 0 rfl) ?_
  refine hp_bipush (z := 9) hx hb d_N_init_28 (by rfl) ?_
  refine hp_newa hx hb (hG _ ac_int) hK.1 0 rfl hS hA 9 rfl (by omega) (by rw [hRc]; exact Nat.le_of_ble_eq_true rfl) (by rw [hRs]; exact Nat.le_of_ble_eq_true rfl) d_N_init_30 (fun H h3_ zk ok9 hS => ?_)
  rw [hZ] at h3_ zk ok9 ⊢
  have hZ : H.size = b + 37 := by omega
  clear zk
  have hobj := ca.keep hobj (ok9 (b) (by omega))
  have h1_ := wAt.keep h1_ (ok9 (b + 1) (by omega)) (ok9 (b + 1 + 1) (by omega))
  have h2_ := ca.keep h2_ (ok9 (b + 3) (by omega))
  have hrw : ∀ j, j < 32 → ca E H (b + 4 + j) (ai E 9 (fun _ => 0)) := fun j hj => ca.keep (hrw j hj) (ok9 _ (by omega))
  clear ok9
  refine hp_putF (C := R_N) (T := F_N) (N := 6) (v := .ref (b + 36)) (ty := .array .int) hx hb hG la_N t_N tk_N n_N hown hK.1 hobj hS (show b ≤ b by omega) rfl 2 (by decide) (hG _ fl_N_23) (fun _ h9 => h9) rfl hin rfl (by decide +kernel) rfl rfl (Nat.le_of_ble_eq_true rfl) d_N_init_32 (fun H locs h9 hz1 ok9 hS => ?_)
  have hZ := hz1.trans hZ
  clear hz1
  have h1_ := wAt.keep h1_ (ok9 (b + 1) (by omega)) (ok9 (b + 1 + 1) (by omega))
  have h2_ := ca.keep h2_ (ok9 (b + 3) (by omega))
  have hrw : ∀ j, j < 32 → ca E H (b + 4 + j) (ai E 9 (fun _ => 0)) := fun j hj => ca.keep (hrw j hj) (ok9 _ (by omega))
  have h3_ := ca.keep h3_ (ok9 (b + 36) (by omega))
  have hobj := h9
  clear h9
  have hobj : ca E H b (.inr (1, [.ref (b + 1), .ref (b + 3), .ref (b + 36), .int (iI 0), .int (iI 0), .int (iI 0)])) := hobj
  clear ok9
  refine lv_aload_n hx hb d_N_init_35 rfl (lv_at hl 0 rfl) ?_
  refine hp_iconst (z := 0) hx hb d_N_init_36 (by rfl) ?_
  refine hp_put (C := R_N) (T := F_N) (N := 6) (v := .int (iI 0)) (ty := .int) hx hb hG la_N t_N tk_N n_N hown hK.1 hobj hS (show b ≤ b by omega) rfl 3 (by decide) (hG _ fl_N_27) (fun _ h9 => h9) rfl (by decide +kernel) rfl rfl (Nat.le_of_ble_eq_true rfl) d_N_init_37 (fun H locs h9 hz1 ok9 hS => ?_)
  have hZ := hz1.trans hZ
  clear hz1
  have h1_ := wAt.keep h1_ (ok9 (b + 1) (by omega)) (ok9 (b + 1 + 1) (by omega))
  have h2_ := ca.keep h2_ (ok9 (b + 3) (by omega))
  have hrw : ∀ j, j < 32 → ca E H (b + 4 + j) (ai E 9 (fun _ => 0)) := fun j hj => ca.keep (hrw j hj) (ok9 _ (by omega))
  have h3_ := ca.keep h3_ (ok9 (b + 36) (by omega))
  have hobj := h9
  clear h9
  have hobj : ca E H b (.inr (1, [.ref (b + 1), .ref (b + 3), .ref (b + 36), .int (iI 0), .int (iI 0), .int (iI 0)])) := hobj
  clear ok9
  refine lv_aload_n hx hb d_N_init_40 rfl (lv_at hl 0 rfl) ?_
  refine hp_iconst (z := 0) hx hb d_N_init_41 (by rfl) ?_
  refine hp_put (C := R_N) (T := F_N) (N := 6) (v := .int (iI 0)) (ty := .int) hx hb hG la_N t_N tk_N n_N hown hK.1 hobj hS (show b ≤ b by omega) rfl 4 (by decide) (hG _ fl_N_31) (fun _ h9 => h9) rfl (by decide +kernel) rfl rfl (Nat.le_of_ble_eq_true rfl) d_N_init_42 (fun H locs h9 hz1 ok9 hS => ?_)
  have hZ := hz1.trans hZ
  clear hz1
  have h1_ := wAt.keep h1_ (ok9 (b + 1) (by omega)) (ok9 (b + 1 + 1) (by omega))
  have h2_ := ca.keep h2_ (ok9 (b + 3) (by omega))
  have hrw : ∀ j, j < 32 → ca E H (b + 4 + j) (ai E 9 (fun _ => 0)) := fun j hj => ca.keep (hrw j hj) (ok9 _ (by omega))
  have h3_ := ca.keep h3_ (ok9 (b + 36) (by omega))
  have hobj := h9
  clear h9
  have hobj : ca E H b (.inr (1, [.ref (b + 1), .ref (b + 3), .ref (b + 36), .int (iI 0), .int (iI 0), .int (iI 0)])) := hobj
  clear ok9
  refine lv_aload_n hx hb d_N_init_45 rfl (lv_at hl 0 rfl) ?_
  refine hp_iconst (z := 0) hx hb d_N_init_46 (by rfl) ?_
  refine hp_put (C := R_N) (T := F_N) (N := 6) (v := .int (iI 0)) (ty := .int) hx hb hG la_N t_N tk_N n_N hown hK.1 hobj hS (show b ≤ b by omega) rfl 5 (by decide) (hG _ fl_N_34) (fun _ h9 => h9) rfl (by decide +kernel) rfl rfl (Nat.le_of_ble_eq_true rfl) d_N_init_47 (fun H locs h9 hz1 ok9 hS => ?_)
  have hZ := hz1.trans hZ
  clear hz1
  have h1_ := wAt.keep h1_ (ok9 (b + 1) (by omega)) (ok9 (b + 1 + 1) (by omega))
  have h2_ := ca.keep h2_ (ok9 (b + 3) (by omega))
  have hrw : ∀ j, j < 32 → ca E H (b + 4 + j) (ai E 9 (fun _ => 0)) := fun j hj => ca.keep (hrw j hj) (ok9 _ (by omega))
  have h3_ := ca.keep h3_ (ok9 (b + 36) (by omega))
  have hobj := h9
  clear h9
  have hobj : ca E H b (.inr (1, [.ref (b + 1), .ref (b + 3), .ref (b + 36), .int (iI 0), .int (iI 0), .int (iI 0)])) := hobj
  clear ok9
  rw [hQ]
  refine hp_vretN hx hb hrt hlocks d_N_init_50 hS (fun q _ h => h) (by omega) ?_
  exact ⟨hobj, h1_, h2_, h3_, hrw⟩

set_option maxHeartbeats 4000000 in
set_option maxRecDepth 100000 in
/-- new BraidWords() -/
theorem c_B_init (l : Launch) (E : hp_E) (o : Nat) : Met l y_B_init (Cond.code y_B_init b_B_init 2 (none) :: G0) ({ frames := 3, cells := 158, slots := 1628, locals := 52 }) (hp_PN E [.ref o] (fun H => H.size = o + 1 ∧ ca E H o (.inr (2, [.null, .null])))) (hp_Qn 158 (fun q => o ≤ q) (fun H => bAt E H o wI (fun _ => 0) (fun _ _ => 0))) 158 1628 (fun q => o ≤ q) := by
  refine Met.ofW (cc := b_B_init) (maxL := 2) (ret := none) (by decide) rfl ?_
  intro p e s m args below meth cd s₁ Bd hml hv
  obtain ⟨hargs, ⟨hZ0, hobj⟩, hK, hO⟩ := hv
  have hx := Bd.exec
  have hb := Bd.bytes
  have hrt := Bd.returns
  have hts := atoms_spec (ws := Cond.code y_B_init b_B_init 2 (none) :: G0) Bd.pre
  have hG : ∀ w ∈ G0, w.before args s = true := fun w h => hts w (List.mem_cons_of_mem _ h)
  have hown : s.vm.findClass R_B = some m.cls := findClass_of_methodNamed Bd.named
  have hlocks := Bd.notSynchronized
  have hin : meth.name = "<init>" := (name_of_methodNamed Bd.named Bd.method).1
  have hl := lv_entry ([.ref o]) (n := 2) (Nat.le_of_ble_eq_true rfl)
  rw [show entryFrame m args 2 = entryFrame m ([.ref o] : List Value).toArray 2 from by rw [hargs]]
  rw [lg_entry_eq]
  generalize (lg_sl ([.ref o]) ++ List.replicate (2 - (lg_sl ([.ref o])).length) Slot.unset).toArray = ls at hl ⊢
  have hl : lv_has ls 2 [(0, .ref o)] := hl
  obtain ⟨R, hR⟩ : ∃ R, R = (headSpec (Cond.code y_B_init b_B_init 2 (none) :: G0) { frames := 3, cells := 158, slots := 1628, locals := 52 }).room := ⟨_, rfl⟩
  rw [← hR]
  have hRf : R.frames = 3 := by rw [hR]; rfl
  have hRl : R.locals = 52 := by rw [hR]; rfl
  have hRc : R.cells = 158 := by rw [hR]; rfl
  have hRs : R.slots = 1628 := by rw [hR]; rfl
  obtain ⟨Q, hQ⟩ : ∃ Q, Q = MQ below (hp_Qn 158 (fun q => o ≤ q) (fun H => bAt E H o wI (fun _ => 0) (fun _ _ => 0))) args s 158 1628 (fun q => o ≤ q) := ⟨_, rfl⟩
  rw [← hQ]
  obtain ⟨H, hH⟩ : ∃ H, H = s.heap := ⟨_, rfl⟩
  obtain ⟨locs, hlocs⟩ : ∃ locs : List Loc, locs = [] := ⟨_, rfl⟩
  have hS : va_S (fun q => o ≤ q) s.heap H locs := by rw [hH, hlocs]; exact va_S.rf
  have hA : ∀ q, s.heap.size ≤ q → (fun q => o ≤ q) q := fun q h => show o ≤ q by omega
  have hZ : H.size = o + 1 := by rw [hH]; exact hZ0
  rw [← hH] at hobj
  rw [show W p l e R s m args below meth cd s.heap [] 0 0 Q (F0 m 0 ls []) = W p l e R s m args below meth cd H locs 0 0 Q (F0 m 0 ls []) from by rw [hH, hlocs]]
  refine lv_aload_n hx hb d_B_init_0 rfl (lv_at hl 0 rfl) ?_
  refine W.objInit hx hb hown (hG _ ml_B_3) (hG _ im_JO_init) (hG _ co_JO_init) rfl (by rw [hml]; exact hl.1) rfl d_B_init_1 (by rw [hRf]; exact Nat.le_of_ble_eq_true rfl) (by rw [hRl]; exact Nat.le_of_ble_eq_true rfl) ?_
  refine lv_aload_n hx hb d_B_init_4 rfl (lv_at hl 0 rfl) ?_
  refine hp_iconst (z := 4) hx hb d_B_init_5 (by rfl) ?_
  refine hp_newq hx hb hown (hG _ cl_B_9) hO.1 hK.1 2 rfl hS 4 rfl (by omega) (by rw [hRc]; exact Nat.le_of_ble_eq_true rfl) (by rw [hRs]; exact Nat.le_of_ble_eq_true rfl) d_B_init_6 (fun H h1_ zk ok9 hS => ?_)
  rw [hZ] at h1_ zk ok9 ⊢
  have hZ : H.size = o + 2 := by omega
  clear zk
  have hobj := ca.keep hobj (ok9 (o) (by omega))
  clear ok9
  refine hp_putF (C := R_B) (T := F_B) (N := 2) (v := .ref (o + 1)) (ty := .array (.object "BraidWords$Word")) hx hb hG la_B t_B tk_B n_B hown hK.1 hobj hS (show o ≤ o by omega) rfl 0 (by decide) (hG _ fl_B_11) (fun _ h9 => h9) rfl hin rfl (by decide +kernel) rfl rfl (Nat.le_of_ble_eq_true rfl) d_B_init_9 (fun H locs h9 hz1 ok9 hS => ?_)
  have hZ := hz1.trans hZ
  clear hz1
  have h1_ := ca.keep h1_ (ok9 (o + 1) (by omega))
  have hobj := h9
  clear h9
  have hobj : ca E H o (.inr (2, [.ref (o + 1), .null])) := hobj
  clear ok9
  refine lv_aload_n hx hb d_B_init_12 rfl (lv_at hl 0 rfl) ?_
  refine hp_iconst (z := 4) hx hb d_B_init_13 (by rfl) ?_
  refine hp_newq hx hb hown (hG _ cl_B_15) hO.2.1 hK.1 3 rfl hS 4 rfl (by omega) (by rw [hRc]; exact Nat.le_of_ble_eq_true rfl) (by rw [hRs]; exact Nat.le_of_ble_eq_true rfl) d_B_init_14 (fun H h2_ zk ok9 hS => ?_)
  rw [hZ] at h2_ zk ok9 ⊢
  have hZ : H.size = o + 3 := by omega
  clear zk
  have hobj := ca.keep hobj (ok9 (o) (by omega))
  have h1_ := ca.keep h1_ (ok9 (o + 1) (by omega))
  clear ok9
  refine hp_putF (C := R_B) (T := F_B) (N := 2) (v := .ref (o + 2)) (ty := .array (.object "BraidWords$NormalForm")) hx hb hG la_B t_B tk_B n_B hown hK.1 hobj hS (show o ≤ o by omega) rfl 1 (by decide) (hG _ fl_B_17) (fun _ h9 => h9) rfl hin rfl (by decide +kernel) rfl rfl (Nat.le_of_ble_eq_true rfl) d_B_init_17 (fun H locs h9 hz1 ok9 hS => ?_)
  have hZ := hz1.trans hZ
  clear hz1
  have h1_ := ca.keep h1_ (ok9 (o + 1) (by omega))
  have h2_ := ca.keep h2_ (ok9 (o + 2) (by omega))
  have hobj := h9
  clear h9
  have hobj : ca E H o (.inr (2, [.ref (o + 1), .ref (o + 2)])) := hobj
  clear ok9
  refine hp_iconst (z := 0) hx hb d_B_init_20 (by rfl) ?_
  refine lv_istore_n (lv' := [(1, .int (iI 0)), (0, .ref o)]) hx hb d_B_init_21 rfl hl (by decide) rfl (fun ls hl => ?_)
  refine lv_iload_n hx hb d_B_init_22 rfl (lv_at hl 0 rfl) ?_
  refine hp_iconst (z := 4) hx hb d_B_init_23 (by rfl) ?_
  refine hp_icmp_ge (tgt := 59) hx hb d_B_init_24 (by decide) (by unfold iR; omega) (by unfold iR; omega) (fun c9 => absurd c9 (by decide)) (fun c9 => ?_)
  refine lv_aload_n hx hb d_B_init_27 rfl (lv_at hl 1 rfl) ?_
  refine hp_get (C := R_B) (T := F_B) (N := 2) (v := .ref (o + 1)) hx hb hG la_B hown hK.1 hobj rfl 0 (by decide) (hG _ fl_B_11) (fun _ h9 => h9) rfl d_B_init_28 ?_
  refine lv_iload_n hx hb d_B_init_31 rfl (lv_at hl 0 rfl) ?_
  refine hp_new (C := R_W) (T := F_W) (N := 3) (ci := 0) (fs := [.null, .int (iI 0), .int (iI 0)]) hx hb hG la_W t_W tk_W hown (hG _ cl_B_9) (hG _ ia_W) (hG _ in_W) hK.1 hS rfl (by intro j hj; match j, hj with | 0, _ => rfl | 1, _ => rfl | 2, _ => rfl | j + 3, h => exact absurd h (by omega)) (by rw [hRc]; exact Nat.le_of_ble_eq_true rfl) (by rw [hRs]; exact Nat.le_of_ble_eq_true rfl) d_B_init_32 (fun H h3_ zk ok9 hS => ?_)
  rw [hZ] at h3_ zk ok9 ⊢
  have hZ : H.size = o + 4 := by omega
  clear zk
  have hobj := ca.keep hobj (ok9 (o) (by omega))
  have h1_ := ca.keep h1_ (ok9 (o + 1) (by omega))
  have h2_ := ca.keep h2_ (ok9 (o + 2) (by omega))
  clear ok9
  refine lv_dup hx hb d_B_init_35 rfl ?_
  refine hp_calln (va_Run.run (va_runIN (As := []) (rest := [.ref (o + 3), .int (iI 0), .ref (o + 1)]) ⟨hx, hb, hml, hown, hG⟩ (c_W_init l E (o + 3)) ⟨va_cnB 0 hG (hp_goodC co_W_init) rfl rfl rfl (hK.2 _ ns_B_21) (hG _ in_W) hd_W_init.2 ⟨by rw [hRf]; exact Nat.le_of_ble_eq_true rfl, by rw [hRl]; exact Nat.le_of_ble_eq_true rfl⟩, rfl, hG _ im_W_init⟩ (hp_preN hK hO ⟨hZ, h3_⟩) rfl rfl hl.1 rfl (lv_room (Nat.le_of_ble_eq_true rfl)) d_B_init_36 ⟨by rw [hRc]; exact Nat.le_of_ble_eq_true rfl, by rw [hRs]; exact Nat.le_of_ble_eq_true rfl⟩)) hS (fun q h9 => show o ≤ q from Nat.le_trans (show o ≤ o + 3 by omega) h9) (fun q h9 => show o ≤ q from Nat.le_trans (show o ≤ o + 3 by omega) h9) (fun H locs h9 zk ok8 hS => ?_)
  rw [hZ] at zk ok8
  have hZ : H.size = o + 5 := by omega
  clear zk
  have ok9 := fun (q : Nat) (h8 : q < o + 3) => ok8 q (by omega) (fun h7 => absurd (show o + 3 ≤ q from h7) (by omega))
  clear ok8
  have hobj := ca.keep hobj (ok9 (o) (by omega))
  have h1_ := ca.keep h1_ (ok9 (o + 1) (by omega))
  have h2_ := ca.keep h2_ (ok9 (o + 2) (by omega))
  have h3_ := h9
  clear h9
  clear ok9
  refine hp_aast (r := (R_W, F_W, 3)) hx hb hK.1 2 0 h1_ h3_.1 hS (show o ≤ o + 1 by omega) rfl rfl d_B_init_39 (by omega) 0 rfl (by omega) (fun H locs h9 hz1 ok9 hS => ?_)
  have hZ := hz1.trans hZ
  clear hz1
  have hobj := ca.keep hobj (ok9 (o) (by omega))
  have h2_ := ca.keep h2_ (ok9 (o + 2) (by omega))
  have h3_ := wAt.keep h3_ (ok9 (o + 3) (by omega)) (ok9 (o + 3 + 1) (by omega))
  have h1_ := h9
  clear h9
  clear ok9
  refine lv_aload_n hx hb d_B_init_40 rfl (lv_at hl 1 rfl) ?_
  refine hp_get (C := R_B) (T := F_B) (N := 2) (v := .ref (o + 2)) hx hb hG la_B hown hK.1 hobj rfl 1 (by decide) (hG _ fl_B_17) (fun _ h9 => h9) rfl d_B_init_41 ?_
  refine lv_iload_n hx hb d_B_init_44 rfl (lv_at hl 0 rfl) ?_
  refine hp_new (C := R_N) (T := F_N) (N := 6) (ci := 1) (fs := [.null, .null, .null, .int (iI 0), .int (iI 0), .int (iI 0)]) hx hb hG la_N t_N tk_N hown (hG _ cl_B_15) (hG _ ia_N) (hG _ in_N) hK.1 hS rfl (by intro j hj; match j, hj with | 0, _ => rfl | 1, _ => rfl | 2, _ => rfl | 3, _ => rfl | 4, _ => rfl | 5, _ => rfl | j + 6, h => exact absurd h (by omega)) (by rw [hRc]; exact Nat.le_of_ble_eq_true rfl) (by rw [hRs]; exact Nat.le_of_ble_eq_true rfl) d_B_init_45 (fun H h4_ zk ok9 hS => ?_)
  rw [hZ] at h4_ zk ok9 ⊢
  have hZ : H.size = o + 6 := by omega
  clear zk
  have hobj := ca.keep hobj (ok9 (o) (by omega))
  have h1_ := ca.keep h1_ (ok9 (o + 1) (by omega))
  have h2_ := ca.keep h2_ (ok9 (o + 2) (by omega))
  have h3_ := wAt.keep h3_ (ok9 (o + 3) (by omega)) (ok9 (o + 3 + 1) (by omega))
  clear ok9
  refine lv_dup hx hb d_B_init_48 rfl ?_
  refine hp_calln (va_Run.run (va_runIN (As := []) (rest := [.ref (o + 5), .int (iI 0), .ref (o + 2)]) ⟨hx, hb, hml, hown, hG⟩ (c_N_init l E (o + 5)) ⟨va_cnB 0 hG (hp_goodC co_N_init) rfl rfl rfl (hK.2 _ ns_B_22) (hG _ in_N) hd_N_init.2 ⟨by rw [hRf]; exact Nat.le_of_ble_eq_true rfl, by rw [hRl]; exact Nat.le_of_ble_eq_true rfl⟩, rfl, hG _ im_N_init⟩ (hp_preN hK hO ⟨hZ, h4_⟩) rfl rfl hl.1 rfl (lv_room (Nat.le_of_ble_eq_true rfl)) d_B_init_49 ⟨by rw [hRc]; exact Nat.le_of_ble_eq_true rfl, by rw [hRs]; exact Nat.le_of_ble_eq_true rfl⟩)) hS (fun q h9 => show o ≤ q from Nat.le_trans (show o ≤ o + 5 by omega) h9) (fun q h9 => show o ≤ q from Nat.le_trans (show o ≤ o + 5 by omega) h9) (fun H locs h9 zk ok8 hS => ?_)
  rw [hZ] at zk ok8
  have hZ : H.size = o + 42 := by omega
  clear zk
  have ok9 := fun (q : Nat) (h8 : q < o + 5) => ok8 q (by omega) (fun h7 => absurd (show o + 5 ≤ q from h7) (by omega))
  clear ok8
  have hobj := ca.keep hobj (ok9 (o) (by omega))
  have h1_ := ca.keep h1_ (ok9 (o + 1) (by omega))
  have h2_ := ca.keep h2_ (ok9 (o + 2) (by omega))
  have h3_ := wAt.keep h3_ (ok9 (o + 3) (by omega)) (ok9 (o + 3 + 1) (by omega))
  have h4_ := h9
  clear h9
  clear ok9
  refine hp_aast (r := (R_N, F_N, 6)) hx hb hK.1 3 1 h2_ h4_.1 hS (show o ≤ o + 2 by omega) rfl rfl d_B_init_52 (by omega) 0 rfl (by omega) (fun H locs h9 hz1 ok9 hS => ?_)
  have hZ := hz1.trans hZ
  clear hz1
  have hobj := ca.keep hobj (ok9 (o) (by omega))
  have h1_ := ca.keep h1_ (ok9 (o + 1) (by omega))
  have h3_ := wAt.keep h3_ (ok9 (o + 3) (by omega)) (ok9 (o + 3 + 1) (by omega))
  have h4_ := nAt.keep h4_ (fun q h1 h2 => ok9 q (by omega))
  have h2_ := h9
  clear h9
  clear ok9
  refine hp_iinc (z := 1) (lv' := [(1, .int (iI 1)), (0, .ref o)]) hx hb d_B_init_53 hl (k := 0) rfl (by omega) (by decide) rfl (fun ls hl => ?_)
  refine lv_goto (tgt := 22) hx hb d_B_init_56 (by decide) ?_
  refine lv_iload_n hx hb d_B_init_22 rfl (lv_at hl 0 rfl) ?_
  refine hp_iconst (z := 4) hx hb d_B_init_23 (by rfl) ?_
  refine hp_icmp_ge (tgt := 59) hx hb d_B_init_24 (by decide) (by unfold iR; omega) (by unfold iR; omega) (fun c9 => absurd c9 (by decide)) (fun c9 => ?_)
  refine lv_aload_n hx hb d_B_init_27 rfl (lv_at hl 1 rfl) ?_
  refine hp_get (C := R_B) (T := F_B) (N := 2) (v := .ref (o + 1)) hx hb hG la_B hown hK.1 hobj rfl 0 (by decide) (hG _ fl_B_11) (fun _ h9 => h9) rfl d_B_init_28 ?_
  refine lv_iload_n hx hb d_B_init_31 rfl (lv_at hl 0 rfl) ?_
  refine hp_new (C := R_W) (T := F_W) (N := 3) (ci := 0) (fs := [.null, .int (iI 0), .int (iI 0)]) hx hb hG la_W t_W tk_W hown (hG _ cl_B_9) (hG _ ia_W) (hG _ in_W) hK.1 hS rfl (by intro j hj; match j, hj with | 0, _ => rfl | 1, _ => rfl | 2, _ => rfl | j + 3, h => exact absurd h (by omega)) (by rw [hRc]; exact Nat.le_of_ble_eq_true rfl) (by rw [hRs]; exact Nat.le_of_ble_eq_true rfl) d_B_init_32 (fun H h5_ zk ok9 hS => ?_)
  rw [hZ] at h5_ zk ok9 ⊢
  have hZ : H.size = o + 43 := by omega
  clear zk
  have hobj := ca.keep hobj (ok9 (o) (by omega))
  have h1_ := ca.keep h1_ (ok9 (o + 1) (by omega))
  have h2_ := ca.keep h2_ (ok9 (o + 2) (by omega))
  have h3_ := wAt.keep h3_ (ok9 (o + 3) (by omega)) (ok9 (o + 3 + 1) (by omega))
  have h4_ := nAt.keep h4_ (fun q h1 h2 => ok9 q (by omega))
  clear ok9
  refine lv_dup hx hb d_B_init_35 rfl ?_
  refine hp_calln (va_Run.run (va_runIN (As := []) (rest := [.ref (o + 42), .int (iI 1), .ref (o + 1)]) ⟨hx, hb, hml, hown, hG⟩ (c_W_init l E (o + 42)) ⟨va_cnB 0 hG (hp_goodC co_W_init) rfl rfl rfl (hK.2 _ ns_B_21) (hG _ in_W) hd_W_init.2 ⟨by rw [hRf]; exact Nat.le_of_ble_eq_true rfl, by rw [hRl]; exact Nat.le_of_ble_eq_true rfl⟩, rfl, hG _ im_W_init⟩ (hp_preN hK hO ⟨hZ, h5_⟩) rfl rfl hl.1 rfl (lv_room (Nat.le_of_ble_eq_true rfl)) d_B_init_36 ⟨by rw [hRc]; exact Nat.le_of_ble_eq_true rfl, by rw [hRs]; exact Nat.le_of_ble_eq_true rfl⟩)) hS (fun q h9 => show o ≤ q from Nat.le_trans (show o ≤ o + 42 by omega) h9) (fun q h9 => show o ≤ q from Nat.le_trans (show o ≤ o + 42 by omega) h9) (fun H locs h9 zk ok8 hS => ?_)
  rw [hZ] at zk ok8
  have hZ : H.size = o + 44 := by omega
  clear zk
  have ok9 := fun (q : Nat) (h8 : q < o + 42) => ok8 q (by omega) (fun h7 => absurd (show o + 42 ≤ q from h7) (by omega))
  clear ok8
  have hobj := ca.keep hobj (ok9 (o) (by omega))
  have h1_ := ca.keep h1_ (ok9 (o + 1) (by omega))
  have h2_ := ca.keep h2_ (ok9 (o + 2) (by omega))
  have h3_ := wAt.keep h3_ (ok9 (o + 3) (by omega)) (ok9 (o + 3 + 1) (by omega))
  have h4_ := nAt.keep h4_ (fun q h1 h2 => ok9 q (by omega))
  have h5_ := h9
  clear h9
  clear ok9
  refine hp_aast (r := (R_W, F_W, 3)) hx hb hK.1 2 0 h1_ h5_.1 hS (show o ≤ o + 1 by omega) rfl rfl d_B_init_39 (by omega) 1 rfl (by omega) (fun H locs h9 hz1 ok9 hS => ?_)
  have hZ := hz1.trans hZ
  clear hz1
  have hobj := ca.keep hobj (ok9 (o) (by omega))
  have h2_ := ca.keep h2_ (ok9 (o + 2) (by omega))
  have h3_ := wAt.keep h3_ (ok9 (o + 3) (by omega)) (ok9 (o + 3 + 1) (by omega))
  have h4_ := nAt.keep h4_ (fun q h1 h2 => ok9 q (by omega))
  have h5_ := wAt.keep h5_ (ok9 (o + 42) (by omega)) (ok9 (o + 42 + 1) (by omega))
  have h1_ := h9
  clear h9
  clear ok9
  refine lv_aload_n hx hb d_B_init_40 rfl (lv_at hl 1 rfl) ?_
  refine hp_get (C := R_B) (T := F_B) (N := 2) (v := .ref (o + 2)) hx hb hG la_B hown hK.1 hobj rfl 1 (by decide) (hG _ fl_B_17) (fun _ h9 => h9) rfl d_B_init_41 ?_
  refine lv_iload_n hx hb d_B_init_44 rfl (lv_at hl 0 rfl) ?_
  refine hp_new (C := R_N) (T := F_N) (N := 6) (ci := 1) (fs := [.null, .null, .null, .int (iI 0), .int (iI 0), .int (iI 0)]) hx hb hG la_N t_N tk_N hown (hG _ cl_B_15) (hG _ ia_N) (hG _ in_N) hK.1 hS rfl (by intro j hj; match j, hj with | 0, _ => rfl | 1, _ => rfl | 2, _ => rfl | 3, _ => rfl | 4, _ => rfl | 5, _ => rfl | j + 6, h => exact absurd h (by omega)) (by rw [hRc]; exact Nat.le_of_ble_eq_true rfl) (by rw [hRs]; exact Nat.le_of_ble_eq_true rfl) d_B_init_45 (fun H h6_ zk ok9 hS => ?_)
  rw [hZ] at h6_ zk ok9 ⊢
  have hZ : H.size = o + 45 := by omega
  clear zk
  have hobj := ca.keep hobj (ok9 (o) (by omega))
  have h1_ := ca.keep h1_ (ok9 (o + 1) (by omega))
  have h2_ := ca.keep h2_ (ok9 (o + 2) (by omega))
  have h3_ := wAt.keep h3_ (ok9 (o + 3) (by omega)) (ok9 (o + 3 + 1) (by omega))
  have h4_ := nAt.keep h4_ (fun q h1 h2 => ok9 q (by omega))
  have h5_ := wAt.keep h5_ (ok9 (o + 42) (by omega)) (ok9 (o + 42 + 1) (by omega))
  clear ok9
  refine lv_dup hx hb d_B_init_48 rfl ?_
  refine hp_calln (va_Run.run (va_runIN (As := []) (rest := [.ref (o + 44), .int (iI 1), .ref (o + 2)]) ⟨hx, hb, hml, hown, hG⟩ (c_N_init l E (o + 44)) ⟨va_cnB 0 hG (hp_goodC co_N_init) rfl rfl rfl (hK.2 _ ns_B_22) (hG _ in_N) hd_N_init.2 ⟨by rw [hRf]; exact Nat.le_of_ble_eq_true rfl, by rw [hRl]; exact Nat.le_of_ble_eq_true rfl⟩, rfl, hG _ im_N_init⟩ (hp_preN hK hO ⟨hZ, h6_⟩) rfl rfl hl.1 rfl (lv_room (Nat.le_of_ble_eq_true rfl)) d_B_init_49 ⟨by rw [hRc]; exact Nat.le_of_ble_eq_true rfl, by rw [hRs]; exact Nat.le_of_ble_eq_true rfl⟩)) hS (fun q h9 => show o ≤ q from Nat.le_trans (show o ≤ o + 44 by omega) h9) (fun q h9 => show o ≤ q from Nat.le_trans (show o ≤ o + 44 by omega) h9) (fun H locs h9 zk ok8 hS => ?_)
  rw [hZ] at zk ok8
  have hZ : H.size = o + 81 := by omega
  clear zk
  have ok9 := fun (q : Nat) (h8 : q < o + 44) => ok8 q (by omega) (fun h7 => absurd (show o + 44 ≤ q from h7) (by omega))
  clear ok8
  have hobj := ca.keep hobj (ok9 (o) (by omega))
  have h1_ := ca.keep h1_ (ok9 (o + 1) (by omega))
  have h2_ := ca.keep h2_ (ok9 (o + 2) (by omega))
  have h3_ := wAt.keep h3_ (ok9 (o + 3) (by omega)) (ok9 (o + 3 + 1) (by omega))
  have h4_ := nAt.keep h4_ (fun q h1 h2 => ok9 q (by omega))
  have h5_ := wAt.keep h5_ (ok9 (o + 42) (by omega)) (ok9 (o + 42 + 1) (by omega))
  have h6_ := h9
  clear h9
  clear ok9
  refine hp_aast (r := (R_N, F_N, 6)) hx hb hK.1 3 1 h2_ h6_.1 hS (show o ≤ o + 2 by omega) rfl rfl d_B_init_52 (by omega) 1 rfl (by omega) (fun H locs h9 hz1 ok9 hS => ?_)
  have hZ := hz1.trans hZ
  clear hz1
  have hobj := ca.keep hobj (ok9 (o) (by omega))
  have h1_ := ca.keep h1_ (ok9 (o + 1) (by omega))
  have h3_ := wAt.keep h3_ (ok9 (o + 3) (by omega)) (ok9 (o + 3 + 1) (by omega))
  have h4_ := nAt.keep h4_ (fun q h1 h2 => ok9 q (by omega))
  have h5_ := wAt.keep h5_ (ok9 (o + 42) (by omega)) (ok9 (o + 42 + 1) (by omega))
  have h6_ := nAt.keep h6_ (fun q h1 h2 => ok9 q (by omega))
  have h2_ := h9
  clear h9
  clear ok9
  refine hp_iinc (z := 2) (lv' := [(1, .int (iI 2)), (0, .ref o)]) hx hb d_B_init_53 hl (k := 0) rfl (by omega) (by decide) rfl (fun ls hl => ?_)
  refine lv_goto (tgt := 22) hx hb d_B_init_56 (by decide) ?_
  refine lv_iload_n hx hb d_B_init_22 rfl (lv_at hl 0 rfl) ?_
  refine hp_iconst (z := 4) hx hb d_B_init_23 (by rfl) ?_
  refine hp_icmp_ge (tgt := 59) hx hb d_B_init_24 (by decide) (by unfold iR; omega) (by unfold iR; omega) (fun c9 => absurd c9 (by decide)) (fun c9 => ?_)
  refine lv_aload_n hx hb d_B_init_27 rfl (lv_at hl 1 rfl) ?_
  refine hp_get (C := R_B) (T := F_B) (N := 2) (v := .ref (o + 1)) hx hb hG la_B hown hK.1 hobj rfl 0 (by decide) (hG _ fl_B_11) (fun _ h9 => h9) rfl d_B_init_28 ?_
  refine lv_iload_n hx hb d_B_init_31 rfl (lv_at hl 0 rfl) ?_
  refine hp_new (C := R_W) (T := F_W) (N := 3) (ci := 0) (fs := [.null, .int (iI 0), .int (iI 0)]) hx hb hG la_W t_W tk_W hown (hG _ cl_B_9) (hG _ ia_W) (hG _ in_W) hK.1 hS rfl (by intro j hj; match j, hj with | 0, _ => rfl | 1, _ => rfl | 2, _ => rfl | j + 3, h => exact absurd h (by omega)) (by rw [hRc]; exact Nat.le_of_ble_eq_true rfl) (by rw [hRs]; exact Nat.le_of_ble_eq_true rfl) d_B_init_32 (fun H h7_ zk ok9 hS => ?_)
  rw [hZ] at h7_ zk ok9 ⊢
  have hZ : H.size = o + 82 := by omega
  clear zk
  have hobj := ca.keep hobj (ok9 (o) (by omega))
  have h1_ := ca.keep h1_ (ok9 (o + 1) (by omega))
  have h2_ := ca.keep h2_ (ok9 (o + 2) (by omega))
  have h3_ := wAt.keep h3_ (ok9 (o + 3) (by omega)) (ok9 (o + 3 + 1) (by omega))
  have h4_ := nAt.keep h4_ (fun q h1 h2 => ok9 q (by omega))
  have h5_ := wAt.keep h5_ (ok9 (o + 42) (by omega)) (ok9 (o + 42 + 1) (by omega))
  have h6_ := nAt.keep h6_ (fun q h1 h2 => ok9 q (by omega))
  clear ok9
  refine lv_dup hx hb d_B_init_35 rfl ?_
  refine hp_calln (va_Run.run (va_runIN (As := []) (rest := [.ref (o + 81), .int (iI 2), .ref (o + 1)]) ⟨hx, hb, hml, hown, hG⟩ (c_W_init l E (o + 81)) ⟨va_cnB 0 hG (hp_goodC co_W_init) rfl rfl rfl (hK.2 _ ns_B_21) (hG _ in_W) hd_W_init.2 ⟨by rw [hRf]; exact Nat.le_of_ble_eq_true rfl, by rw [hRl]; exact Nat.le_of_ble_eq_true rfl⟩, rfl, hG _ im_W_init⟩ (hp_preN hK hO ⟨hZ, h7_⟩) rfl rfl hl.1 rfl (lv_room (Nat.le_of_ble_eq_true rfl)) d_B_init_36 ⟨by rw [hRc]; exact Nat.le_of_ble_eq_true rfl, by rw [hRs]; exact Nat.le_of_ble_eq_true rfl⟩)) hS (fun q h9 => show o ≤ q from Nat.le_trans (show o ≤ o + 81 by omega) h9) (fun q h9 => show o ≤ q from Nat.le_trans (show o ≤ o + 81 by omega) h9) (fun H locs h9 zk ok8 hS => ?_)
  rw [hZ] at zk ok8
  have hZ : H.size = o + 83 := by omega
  clear zk
  have ok9 := fun (q : Nat) (h8 : q < o + 81) => ok8 q (by omega) (fun h7 => absurd (show o + 81 ≤ q from h7) (by omega))
  clear ok8
  have hobj := ca.keep hobj (ok9 (o) (by omega))
  have h1_ := ca.keep h1_ (ok9 (o + 1) (by omega))
  have h2_ := ca.keep h2_ (ok9 (o + 2) (by omega))
  have h3_ := wAt.keep h3_ (ok9 (o + 3) (by omega)) (ok9 (o + 3 + 1) (by omega))
  have h4_ := nAt.keep h4_ (fun q h1 h2 => ok9 q (by omega))
  have h5_ := wAt.keep h5_ (ok9 (o + 42) (by omega)) (ok9 (o + 42 + 1) (by omega))
  have h6_ := nAt.keep h6_ (fun q h1 h2 => ok9 q (by omega))
  have h7_ := h9
  clear h9
  clear ok9
  refine hp_aast (r := (R_W, F_W, 3)) hx hb hK.1 2 0 h1_ h7_.1 hS (show o ≤ o + 1 by omega) rfl rfl d_B_init_39 (by omega) 2 rfl (by omega) (fun H locs h9 hz1 ok9 hS => ?_)
  have hZ := hz1.trans hZ
  clear hz1
  have hobj := ca.keep hobj (ok9 (o) (by omega))
  have h2_ := ca.keep h2_ (ok9 (o + 2) (by omega))
  have h3_ := wAt.keep h3_ (ok9 (o + 3) (by omega)) (ok9 (o + 3 + 1) (by omega))
  have h4_ := nAt.keep h4_ (fun q h1 h2 => ok9 q (by omega))
  have h5_ := wAt.keep h5_ (ok9 (o + 42) (by omega)) (ok9 (o + 42 + 1) (by omega))
  have h6_ := nAt.keep h6_ (fun q h1 h2 => ok9 q (by omega))
  have h7_ := wAt.keep h7_ (ok9 (o + 81) (by omega)) (ok9 (o + 81 + 1) (by omega))
  have h1_ := h9
  clear h9
  clear ok9
  refine lv_aload_n hx hb d_B_init_40 rfl (lv_at hl 1 rfl) ?_
  refine hp_get (C := R_B) (T := F_B) (N := 2) (v := .ref (o + 2)) hx hb hG la_B hown hK.1 hobj rfl 1 (by decide) (hG _ fl_B_17) (fun _ h9 => h9) rfl d_B_init_41 ?_
  refine lv_iload_n hx hb d_B_init_44 rfl (lv_at hl 0 rfl) ?_
  refine hp_new (C := R_N) (T := F_N) (N := 6) (ci := 1) (fs := [.null, .null, .null, .int (iI 0), .int (iI 0), .int (iI 0)]) hx hb hG la_N t_N tk_N hown (hG _ cl_B_15) (hG _ ia_N) (hG _ in_N) hK.1 hS rfl (by intro j hj; match j, hj with | 0, _ => rfl | 1, _ => rfl | 2, _ => rfl | 3, _ => rfl | 4, _ => rfl | 5, _ => rfl | j + 6, h => exact absurd h (by omega)) (by rw [hRc]; exact Nat.le_of_ble_eq_true rfl) (by rw [hRs]; exact Nat.le_of_ble_eq_true rfl) d_B_init_45 (fun H h8_ zk ok9 hS => ?_)
  rw [hZ] at h8_ zk ok9 ⊢
  have hZ : H.size = o + 84 := by omega
  clear zk
  have hobj := ca.keep hobj (ok9 (o) (by omega))
  have h1_ := ca.keep h1_ (ok9 (o + 1) (by omega))
  have h2_ := ca.keep h2_ (ok9 (o + 2) (by omega))
  have h3_ := wAt.keep h3_ (ok9 (o + 3) (by omega)) (ok9 (o + 3 + 1) (by omega))
  have h4_ := nAt.keep h4_ (fun q h1 h2 => ok9 q (by omega))
  have h5_ := wAt.keep h5_ (ok9 (o + 42) (by omega)) (ok9 (o + 42 + 1) (by omega))
  have h6_ := nAt.keep h6_ (fun q h1 h2 => ok9 q (by omega))
  have h7_ := wAt.keep h7_ (ok9 (o + 81) (by omega)) (ok9 (o + 81 + 1) (by omega))
  clear ok9
  refine lv_dup hx hb d_B_init_48 rfl ?_
  refine hp_calln (va_Run.run (va_runIN (As := []) (rest := [.ref (o + 83), .int (iI 2), .ref (o + 2)]) ⟨hx, hb, hml, hown, hG⟩ (c_N_init l E (o + 83)) ⟨va_cnB 0 hG (hp_goodC co_N_init) rfl rfl rfl (hK.2 _ ns_B_22) (hG _ in_N) hd_N_init.2 ⟨by rw [hRf]; exact Nat.le_of_ble_eq_true rfl, by rw [hRl]; exact Nat.le_of_ble_eq_true rfl⟩, rfl, hG _ im_N_init⟩ (hp_preN hK hO ⟨hZ, h8_⟩) rfl rfl hl.1 rfl (lv_room (Nat.le_of_ble_eq_true rfl)) d_B_init_49 ⟨by rw [hRc]; exact Nat.le_of_ble_eq_true rfl, by rw [hRs]; exact Nat.le_of_ble_eq_true rfl⟩)) hS (fun q h9 => show o ≤ q from Nat.le_trans (show o ≤ o + 83 by omega) h9) (fun q h9 => show o ≤ q from Nat.le_trans (show o ≤ o + 83 by omega) h9) (fun H locs h9 zk ok8 hS => ?_)
  rw [hZ] at zk ok8
  have hZ : H.size = o + 120 := by omega
  clear zk
  have ok9 := fun (q : Nat) (h8 : q < o + 83) => ok8 q (by omega) (fun h7 => absurd (show o + 83 ≤ q from h7) (by omega))
  clear ok8
  have hobj := ca.keep hobj (ok9 (o) (by omega))
  have h1_ := ca.keep h1_ (ok9 (o + 1) (by omega))
  have h2_ := ca.keep h2_ (ok9 (o + 2) (by omega))
  have h3_ := wAt.keep h3_ (ok9 (o + 3) (by omega)) (ok9 (o + 3 + 1) (by omega))
  have h4_ := nAt.keep h4_ (fun q h1 h2 => ok9 q (by omega))
  have h5_ := wAt.keep h5_ (ok9 (o + 42) (by omega)) (ok9 (o + 42 + 1) (by omega))
  have h6_ := nAt.keep h6_ (fun q h1 h2 => ok9 q (by omega))
  have h7_ := wAt.keep h7_ (ok9 (o + 81) (by omega)) (ok9 (o + 81 + 1) (by omega))
  have h8_ := h9
  clear h9
  clear ok9
  refine hp_aast (r := (R_N, F_N, 6)) hx hb hK.1 3 1 h2_ h8_.1 hS (show o ≤ o + 2 by omega) rfl rfl d_B_init_52 (by omega) 2 rfl (by omega) (fun H locs h9 hz1 ok9 hS => ?_)
  have hZ := hz1.trans hZ
  clear hz1
  have hobj := ca.keep hobj (ok9 (o) (by omega))
  have h1_ := ca.keep h1_ (ok9 (o + 1) (by omega))
  have h3_ := wAt.keep h3_ (ok9 (o + 3) (by omega)) (ok9 (o + 3 + 1) (by omega))
  have h4_ := nAt.keep h4_ (fun q h1 h2 => ok9 q (by omega))
  have h5_ := wAt.keep h5_ (ok9 (o + 42) (by omega)) (ok9 (o + 42 + 1) (by omega))
  have h6_ := nAt.keep h6_ (fun q h1 h2 => ok9 q (by omega))
  have h7_ := wAt.keep h7_ (ok9 (o + 81) (by omega)) (ok9 (o + 81 + 1) (by omega))
  have h8_ := nAt.keep h8_ (fun q h1 h2 => ok9 q (by omega))
  have h2_ := h9
  clear h9
  clear ok9
  refine hp_iinc (z := 3) (lv' := [(1, .int (iI 3)), (0, .ref o)]) hx hb d_B_init_53 hl (k := 0) rfl (by omega) (by decide) rfl (fun ls hl => ?_)
  refine lv_goto (tgt := 22) hx hb d_B_init_56 (by decide) ?_
  refine lv_iload_n hx hb d_B_init_22 rfl (lv_at hl 0 rfl) ?_
  refine hp_iconst (z := 4) hx hb d_B_init_23 (by rfl) ?_
  refine hp_icmp_ge (tgt := 59) hx hb d_B_init_24 (by decide) (by unfold iR; omega) (by unfold iR; omega) (fun c9 => absurd c9 (by decide)) (fun c9 => ?_)
  refine lv_aload_n hx hb d_B_init_27 rfl (lv_at hl 1 rfl) ?_
  refine hp_get (C := R_B) (T := F_B) (N := 2) (v := .ref (o + 1)) hx hb hG la_B hown hK.1 hobj rfl 0 (by decide) (hG _ fl_B_11) (fun _ h9 => h9) rfl d_B_init_28 ?_
  refine lv_iload_n hx hb d_B_init_31 rfl (lv_at hl 0 rfl) ?_
  refine hp_new (C := R_W) (T := F_W) (N := 3) (ci := 0) (fs := [.null, .int (iI 0), .int (iI 0)]) hx hb hG la_W t_W tk_W hown (hG _ cl_B_9) (hG _ ia_W) (hG _ in_W) hK.1 hS rfl (by intro j hj; match j, hj with | 0, _ => rfl | 1, _ => rfl | 2, _ => rfl | j + 3, h => exact absurd h (by omega)) (by rw [hRc]; exact Nat.le_of_ble_eq_true rfl) (by rw [hRs]; exact Nat.le_of_ble_eq_true rfl) d_B_init_32 (fun H h9_ zk ok9 hS => ?_)
  rw [hZ] at h9_ zk ok9 ⊢
  have hZ : H.size = o + 121 := by omega
  clear zk
  have hobj := ca.keep hobj (ok9 (o) (by omega))
  have h1_ := ca.keep h1_ (ok9 (o + 1) (by omega))
  have h2_ := ca.keep h2_ (ok9 (o + 2) (by omega))
  have h3_ := wAt.keep h3_ (ok9 (o + 3) (by omega)) (ok9 (o + 3 + 1) (by omega))
  have h4_ := nAt.keep h4_ (fun q h1 h2 => ok9 q (by omega))
  have h5_ := wAt.keep h5_ (ok9 (o + 42) (by omega)) (ok9 (o + 42 + 1) (by omega))
  have h6_ := nAt.keep h6_ (fun q h1 h2 => ok9 q (by omega))
  have h7_ := wAt.keep h7_ (ok9 (o + 81) (by omega)) (ok9 (o + 81 + 1) (by omega))
  have h8_ := nAt.keep h8_ (fun q h1 h2 => ok9 q (by omega))
  clear ok9
  refine lv_dup hx hb d_B_init_35 rfl ?_
  refine hp_calln (va_Run.run (va_runIN (As := []) (rest := [.ref (o + 120), .int (iI 3), .ref (o + 1)]) ⟨hx, hb, hml, hown, hG⟩ (c_W_init l E (o + 120)) ⟨va_cnB 0 hG (hp_goodC co_W_init) rfl rfl rfl (hK.2 _ ns_B_21) (hG _ in_W) hd_W_init.2 ⟨by rw [hRf]; exact Nat.le_of_ble_eq_true rfl, by rw [hRl]; exact Nat.le_of_ble_eq_true rfl⟩, rfl, hG _ im_W_init⟩ (hp_preN hK hO ⟨hZ, h9_⟩) rfl rfl hl.1 rfl (lv_room (Nat.le_of_ble_eq_true rfl)) d_B_init_36 ⟨by rw [hRc]; exact Nat.le_of_ble_eq_true rfl, by rw [hRs]; exact Nat.le_of_ble_eq_true rfl⟩)) hS (fun q h9 => show o ≤ q from Nat.le_trans (show o ≤ o + 120 by omega) h9) (fun q h9 => show o ≤ q from Nat.le_trans (show o ≤ o + 120 by omega) h9) (fun H locs h9 zk ok8 hS => ?_)
  rw [hZ] at zk ok8
  have hZ : H.size = o + 122 := by omega
  clear zk
  have ok9 := fun (q : Nat) (h8 : q < o + 120) => ok8 q (by omega) (fun h7 => absurd (show o + 120 ≤ q from h7) (by omega))
  clear ok8
  have hobj := ca.keep hobj (ok9 (o) (by omega))
  have h1_ := ca.keep h1_ (ok9 (o + 1) (by omega))
  have h2_ := ca.keep h2_ (ok9 (o + 2) (by omega))
  have h3_ := wAt.keep h3_ (ok9 (o + 3) (by omega)) (ok9 (o + 3 + 1) (by omega))
  have h4_ := nAt.keep h4_ (fun q h1 h2 => ok9 q (by omega))
  have h5_ := wAt.keep h5_ (ok9 (o + 42) (by omega)) (ok9 (o + 42 + 1) (by omega))
  have h6_ := nAt.keep h6_ (fun q h1 h2 => ok9 q (by omega))
  have h7_ := wAt.keep h7_ (ok9 (o + 81) (by omega)) (ok9 (o + 81 + 1) (by omega))
  have h8_ := nAt.keep h8_ (fun q h1 h2 => ok9 q (by omega))
  have h9_ := h9
  clear h9
  clear ok9
  refine hp_aast (r := (R_W, F_W, 3)) hx hb hK.1 2 0 h1_ h9_.1 hS (show o ≤ o + 1 by omega) rfl rfl d_B_init_39 (by omega) 3 rfl (by omega) (fun H locs h9 hz1 ok9 hS => ?_)
  have hZ := hz1.trans hZ
  clear hz1
  have hobj := ca.keep hobj (ok9 (o) (by omega))
  have h2_ := ca.keep h2_ (ok9 (o + 2) (by omega))
  have h3_ := wAt.keep h3_ (ok9 (o + 3) (by omega)) (ok9 (o + 3 + 1) (by omega))
  have h4_ := nAt.keep h4_ (fun q h1 h2 => ok9 q (by omega))
  have h5_ := wAt.keep h5_ (ok9 (o + 42) (by omega)) (ok9 (o + 42 + 1) (by omega))
  have h6_ := nAt.keep h6_ (fun q h1 h2 => ok9 q (by omega))
  have h7_ := wAt.keep h7_ (ok9 (o + 81) (by omega)) (ok9 (o + 81 + 1) (by omega))
  have h8_ := nAt.keep h8_ (fun q h1 h2 => ok9 q (by omega))
  have h9_ := wAt.keep h9_ (ok9 (o + 120) (by omega)) (ok9 (o + 120 + 1) (by omega))
  have h1_ := h9
  clear h9
  clear ok9
  refine lv_aload_n hx hb d_B_init_40 rfl (lv_at hl 1 rfl) ?_
  refine hp_get (C := R_B) (T := F_B) (N := 2) (v := .ref (o + 2)) hx hb hG la_B hown hK.1 hobj rfl 1 (by decide) (hG _ fl_B_17) (fun _ h9 => h9) rfl d_B_init_41 ?_
  refine lv_iload_n hx hb d_B_init_44 rfl (lv_at hl 0 rfl) ?_
  refine hp_new (C := R_N) (T := F_N) (N := 6) (ci := 1) (fs := [.null, .null, .null, .int (iI 0), .int (iI 0), .int (iI 0)]) hx hb hG la_N t_N tk_N hown (hG _ cl_B_15) (hG _ ia_N) (hG _ in_N) hK.1 hS rfl (by intro j hj; match j, hj with | 0, _ => rfl | 1, _ => rfl | 2, _ => rfl | 3, _ => rfl | 4, _ => rfl | 5, _ => rfl | j + 6, h => exact absurd h (by omega)) (by rw [hRc]; exact Nat.le_of_ble_eq_true rfl) (by rw [hRs]; exact Nat.le_of_ble_eq_true rfl) d_B_init_45 (fun H h10_ zk ok9 hS => ?_)
  rw [hZ] at h10_ zk ok9 ⊢
  have hZ : H.size = o + 123 := by omega
  clear zk
  have hobj := ca.keep hobj (ok9 (o) (by omega))
  have h1_ := ca.keep h1_ (ok9 (o + 1) (by omega))
  have h2_ := ca.keep h2_ (ok9 (o + 2) (by omega))
  have h3_ := wAt.keep h3_ (ok9 (o + 3) (by omega)) (ok9 (o + 3 + 1) (by omega))
  have h4_ := nAt.keep h4_ (fun q h1 h2 => ok9 q (by omega))
  have h5_ := wAt.keep h5_ (ok9 (o + 42) (by omega)) (ok9 (o + 42 + 1) (by omega))
  have h6_ := nAt.keep h6_ (fun q h1 h2 => ok9 q (by omega))
  have h7_ := wAt.keep h7_ (ok9 (o + 81) (by omega)) (ok9 (o + 81 + 1) (by omega))
  have h8_ := nAt.keep h8_ (fun q h1 h2 => ok9 q (by omega))
  have h9_ := wAt.keep h9_ (ok9 (o + 120) (by omega)) (ok9 (o + 120 + 1) (by omega))
  clear ok9
  refine lv_dup hx hb d_B_init_48 rfl ?_
  refine hp_calln (va_Run.run (va_runIN (As := []) (rest := [.ref (o + 122), .int (iI 3), .ref (o + 2)]) ⟨hx, hb, hml, hown, hG⟩ (c_N_init l E (o + 122)) ⟨va_cnB 0 hG (hp_goodC co_N_init) rfl rfl rfl (hK.2 _ ns_B_22) (hG _ in_N) hd_N_init.2 ⟨by rw [hRf]; exact Nat.le_of_ble_eq_true rfl, by rw [hRl]; exact Nat.le_of_ble_eq_true rfl⟩, rfl, hG _ im_N_init⟩ (hp_preN hK hO ⟨hZ, h10_⟩) rfl rfl hl.1 rfl (lv_room (Nat.le_of_ble_eq_true rfl)) d_B_init_49 ⟨by rw [hRc]; exact Nat.le_of_ble_eq_true rfl, by rw [hRs]; exact Nat.le_of_ble_eq_true rfl⟩)) hS (fun q h9 => show o ≤ q from Nat.le_trans (show o ≤ o + 122 by omega) h9) (fun q h9 => show o ≤ q from Nat.le_trans (show o ≤ o + 122 by omega) h9) (fun H locs h9 zk ok8 hS => ?_)
  rw [hZ] at zk ok8
  have hZ : H.size = o + 159 := by omega
  clear zk
  have ok9 := fun (q : Nat) (h8 : q < o + 122) => ok8 q (by omega) (fun h7 => absurd (show o + 122 ≤ q from h7) (by omega))
  clear ok8
  have hobj := ca.keep hobj (ok9 (o) (by omega))
  have h1_ := ca.keep h1_ (ok9 (o + 1) (by omega))
  have h2_ := ca.keep h2_ (ok9 (o + 2) (by omega))
  have h3_ := wAt.keep h3_ (ok9 (o + 3) (by omega)) (ok9 (o + 3 + 1) (by omega))
  have h4_ := nAt.keep h4_ (fun q h1 h2 => ok9 q (by omega))
  have h5_ := wAt.keep h5_ (ok9 (o + 42) (by omega)) (ok9 (o + 42 + 1) (by omega))
  have h6_ := nAt.keep h6_ (fun q h1 h2 => ok9 q (by omega))
  have h7_ := wAt.keep h7_ (ok9 (o + 81) (by omega)) (ok9 (o + 81 + 1) (by omega))
  have h8_ := nAt.keep h8_ (fun q h1 h2 => ok9 q (by omega))
  have h9_ := wAt.keep h9_ (ok9 (o + 120) (by omega)) (ok9 (o + 120 + 1) (by omega))
  have h10_ := h9
  clear h9
  clear ok9
  refine hp_aast (r := (R_N, F_N, 6)) hx hb hK.1 3 1 h2_ h10_.1 hS (show o ≤ o + 2 by omega) rfl rfl d_B_init_52 (by omega) 3 rfl (by omega) (fun H locs h9 hz1 ok9 hS => ?_)
  have hZ := hz1.trans hZ
  clear hz1
  have hobj := ca.keep hobj (ok9 (o) (by omega))
  have h1_ := ca.keep h1_ (ok9 (o + 1) (by omega))
  have h3_ := wAt.keep h3_ (ok9 (o + 3) (by omega)) (ok9 (o + 3 + 1) (by omega))
  have h4_ := nAt.keep h4_ (fun q h1 h2 => ok9 q (by omega))
  have h5_ := wAt.keep h5_ (ok9 (o + 42) (by omega)) (ok9 (o + 42 + 1) (by omega))
  have h6_ := nAt.keep h6_ (fun q h1 h2 => ok9 q (by omega))
  have h7_ := wAt.keep h7_ (ok9 (o + 81) (by omega)) (ok9 (o + 81 + 1) (by omega))
  have h8_ := nAt.keep h8_ (fun q h1 h2 => ok9 q (by omega))
  have h9_ := wAt.keep h9_ (ok9 (o + 120) (by omega)) (ok9 (o + 120 + 1) (by omega))
  have h10_ := nAt.keep h10_ (fun q h1 h2 => ok9 q (by omega))
  have h2_ := h9
  clear h9
  clear ok9
  refine hp_iinc (z := 4) (lv' := [(1, .int (iI 4)), (0, .ref o)]) hx hb d_B_init_53 hl (k := 0) rfl (by omega) (by decide) rfl (fun ls hl => ?_)
  refine lv_goto (tgt := 22) hx hb d_B_init_56 (by decide) ?_
  refine lv_iload_n hx hb d_B_init_22 rfl (lv_at hl 0 rfl) ?_
  refine hp_iconst (z := 4) hx hb d_B_init_23 (by rfl) ?_
  refine hp_icmp_ge (tgt := 59) hx hb d_B_init_24 (by decide) (by unfold iR; omega) (by unfold iR; omega) (fun c9 => ?_) (fun c9 => absurd c9 (by decide))
  rw [hQ]
  refine hp_vretN hx hb hrt hlocks d_B_init_59 hS (fun q _ h => h) (by omega) ?_
  have hq1 : ca E H (o + 1) (oBw E o) := by have h9 := h1_; rw [hp_four (g := fun i => o + 3 + 39 * i) rfl rfl rfl rfl] at h9; exact h9
  have hq2 : ca E H (o + 2) (oBn E o) := by have h9 := h2_; rw [hp_four (g := fun i => o + 5 + 39 * i) rfl rfl rfl rfl] at h9; exact h9
  refine ⟨hobj, hq1, hq2, fun i hi => ?_, fun i hi => ?_⟩
  · match i, hi with
    | 0, _ => exact ⟨h3_, vW_0⟩
    | 1, _ => exact ⟨h5_, vW_0⟩
    | 2, _ => exact ⟨h7_, vW_0⟩
    | 3, _ => exact ⟨h9_, vW_0⟩
    | i + 4, h => exact absurd h (by omega)
  · match i, hi with
    | 0, _ => exact nOk_0 h4_
    | 1, _ => exact nOk_0 h6_
    | 2, _ => exact nOk_0 h8_
    | 3, _ => exact nOk_0 h10_
    | i + 4, h => exact absurd h (by omega)

set_option maxHeartbeats 4000000 in
set_option maxRecDepth 100000 in
/-- new BraidWordsModel() -/
theorem c_M_init (l : Launch) (E : hp_E) (mo : Nat) : Met l y_M_init (Cond.code y_M_init b_M_init 1 (none) :: G0) ({ frames := 1, cells := 15, slots := 31311, locals := 12 }) (hp_PN E [.ref mo] (fun H => H.size = mo + 1 ∧ ca E H mo (.inr (3, [.int (iI 0), .null, .null, .null, .null, .null, .null, .int (iI 0), .int (iI 0), .int (iI 0), .null, .null, .null, .null, .null, .null, .null, .null, .null])))) (hp_Qn 15 (fun q => mo ≤ q) (fun H => mG E H mo wI (fun _ => 0) (fun _ => 0) (fun _ => false) ∧ ca E H (mo + 14) (ai E 9 (fun _ => 0)) ∧ ca E H (mo + 15) (ai E 160 (fun _ => 0)))) 15 31311 (fun q => mo ≤ q) := by
  refine Met.ofW (cc := b_M_init) (maxL := 1) (ret := none) (by decide) rfl ?_
  intro p e s m args below meth cd s₁ Bd hml hv
  obtain ⟨hargs, ⟨hZ0, hobj⟩, hK, hO⟩ := hv
  have hx := Bd.exec
  have hb := Bd.bytes
  have hrt := Bd.returns
  have hts := atoms_spec (ws := Cond.code y_M_init b_M_init 1 (none) :: G0) Bd.pre
  have hG : ∀ w ∈ G0, w.before args s = true := fun w h => hts w (List.mem_cons_of_mem _ h)
  have hown : s.vm.findClass R_M = some m.cls := findClass_of_methodNamed Bd.named
  have hlocks := Bd.notSynchronized
  have hin : meth.name = "<init>" := (name_of_methodNamed Bd.named Bd.method).1
  have hl := lv_entry ([.ref mo]) (n := 1) (Nat.le_of_ble_eq_true rfl)
  rw [show entryFrame m args 1 = entryFrame m ([.ref mo] : List Value).toArray 1 from by rw [hargs]]
  rw [lg_entry_eq]
  generalize (lg_sl ([.ref mo]) ++ List.replicate (1 - (lg_sl ([.ref mo])).length) Slot.unset).toArray = ls at hl ⊢
  have hl : lv_has ls 1 [(0, .ref mo)] := hl
  obtain ⟨R, hR⟩ : ∃ R, R = (headSpec (Cond.code y_M_init b_M_init 1 (none) :: G0) { frames := 1, cells := 15, slots := 31311, locals := 12 }).room := ⟨_, rfl⟩
  rw [← hR]
  have hRf : R.frames = 1 := by rw [hR]; rfl
  have hRl : R.locals = 12 := by rw [hR]; rfl
  have hRc : R.cells = 15 := by rw [hR]; rfl
  have hRs : R.slots = 31311 := by rw [hR]; rfl
  obtain ⟨Q, hQ⟩ : ∃ Q, Q = MQ below (hp_Qn 15 (fun q => mo ≤ q) (fun H => mG E H mo wI (fun _ => 0) (fun _ => 0) (fun _ => false) ∧ ca E H (mo + 14) (ai E 9 (fun _ => 0)) ∧ ca E H (mo + 15) (ai E 160 (fun _ => 0)))) args s 15 31311 (fun q => mo ≤ q) := ⟨_, rfl⟩
  rw [← hQ]
  obtain ⟨H, hH⟩ : ∃ H, H = s.heap := ⟨_, rfl⟩
  obtain ⟨locs, hlocs⟩ : ∃ locs : List Loc, locs = [] := ⟨_, rfl⟩
  have hS : va_S (fun q => mo ≤ q) s.heap H locs := by rw [hH, hlocs]; exact va_S.rf
  have hA : ∀ q, s.heap.size ≤ q → (fun q => mo ≤ q) q := fun q h => show mo ≤ q by omega
  have hZ : H.size = mo + 1 := by rw [hH]; exact hZ0
  rw [← hH] at hobj
  rw [show W p l e R s m args below meth cd s.heap [] 0 0 Q (F0 m 0 ls []) = W p l e R s m args below meth cd H locs 0 0 Q (F0 m 0 ls []) from by rw [hH, hlocs]]
  refine lv_aload_n hx hb d_M_init_0 rfl (lv_at hl 0 rfl) ?_
  refine W.objInit hx hb hown (hG _ ml_M_1) (hG _ im_JO_init) (hG _ co_JO_init) rfl (by rw [hml]; exact hl.1) rfl d_M_init_1 (by rw [hRf]; exact Nat.le_of_ble_eq_true rfl) (by rw [hRl]; exact Nat.le_of_ble_eq_true rfl) ?_
  refine lv_aload_n hx hb d_M_init_4 rfl (lv_at hl 0 rfl) ?_
  refine hp_iconst (z := 4) hx hb d_M_init_5 (by rfl) ?_
  refine hp_newa hx hb (hG _ ac_int) hK.1 0 rfl hS hA 4 rfl (by omega) (by rw [hRc]; exact Nat.le_of_ble_eq_true rfl) (by rw [hRs]; exact Nat.le_of_ble_eq_true rfl) d_M_init_6 (fun H h1_ zk ok9 hS => ?_)
  rw [hZ] at h1_ zk ok9 ⊢
  have hZ : H.size = mo + 2 := by omega
  clear zk
  have hobj := ca.keep hobj (ok9 (mo) (by omega))
  clear ok9
  refine lv_dup hx hb d_M_init_8 rfl ?_
  refine hp_iconst (z := 0) hx hb d_M_init_9 (by rfl) ?_
  refine hp_iconst (z := 1) hx hb d_M_init_10 (by rfl) ?_
  refine hp_iast hx hb hK.1 0 h1_ hS (show mo ≤ mo + 1 by omega) rfl d_M_init_11 (by omega) 0 rfl (by omega) (fun H locs h9 hz1 ok9 hS => ?_)
  have hZ := hz1.trans hZ
  clear hz1
  have hobj := ca.keep hobj (ok9 (mo) (by omega))
  have h1_ := h9
  clear h9
  clear ok9
  refine lv_dup hx hb d_M_init_12 rfl ?_
  refine hp_iconst (z := 1) hx hb d_M_init_13 (by rfl) ?_
  refine hp_iconst (z := 1) hx hb d_M_init_14 (by rfl) ?_
  refine hp_iast hx hb hK.1 0 h1_ hS (show mo ≤ mo + 1 by omega) rfl d_M_init_15 (by omega) 1 rfl (by omega) (fun H locs h9 hz1 ok9 hS => ?_)
  have hZ := hz1.trans hZ
  clear hz1
  have hobj := ca.keep hobj (ok9 (mo) (by omega))
  have h1_ := h9
  clear h9
  clear ok9
  refine lv_dup hx hb d_M_init_16 rfl ?_
  refine hp_iconst (z := 2) hx hb d_M_init_17 (by rfl) ?_
  refine hp_iconst (z := 1) hx hb d_M_init_18 (by rfl) ?_
  refine hp_iast hx hb hK.1 0 h1_ hS (show mo ≤ mo + 1 by omega) rfl d_M_init_19 (by omega) 2 rfl (by omega) (fun H locs h9 hz1 ok9 hS => ?_)
  have hZ := hz1.trans hZ
  clear hz1
  have hobj := ca.keep hobj (ok9 (mo) (by omega))
  have h1_ := h9
  clear h9
  clear ok9
  refine lv_dup hx hb d_M_init_20 rfl ?_
  refine hp_iconst (z := 3) hx hb d_M_init_21 (by rfl) ?_
  refine hp_iconst (z := 1) hx hb d_M_init_22 (by rfl) ?_
  refine hp_iast hx hb hK.1 0 h1_ hS (show mo ≤ mo + 1 by omega) rfl d_M_init_23 (by omega) 3 rfl (by omega) (fun H locs h9 hz1 ok9 hS => ?_)
  have hZ := hz1.trans hZ
  clear hz1
  have hobj := ca.keep hobj (ok9 (mo) (by omega))
  have h1_ := h9
  clear h9
  clear ok9
  refine hp_putF (C := R_M) (T := F_M) (N := 19) (v := .ref (mo + 1)) (ty := .array .int) hx hb hG la_M t_M tk_M n_M hown hK.1 hobj hS (show mo ≤ mo by omega) rfl 1 (by decide) (hG _ fl_M_7) (fun _ h9 => h9) rfl hin rfl (by decide +kernel) rfl rfl (Nat.le_of_ble_eq_true rfl) d_M_init_24 (fun H locs h9 hz1 ok9 hS => ?_)
  have hZ := hz1.trans hZ
  clear hz1
  have h1_ := ca.keep h1_ (ok9 (mo + 1) (by omega))
  have hobj := h9
  clear h9
  have hobj : ca E H mo (.inr (3, [.int (iI 0), .ref (mo + 1), .null, .null, .null, .null, .null, .int (iI 0), .int (iI 0), .int (iI 0), .null, .null, .null, .null, .null, .null, .null, .null, .null])) := hobj
  clear ok9
  refine lv_aload_n hx hb d_M_init_27 rfl (lv_at hl 0 rfl) ?_
  refine hp_iconst (z := 4) hx hb d_M_init_28 (by rfl) ?_
  refine hp_newa hx hb (hG _ ac_int) hK.1 0 rfl hS hA 4 rfl (by omega) (by rw [hRc]; exact Nat.le_of_ble_eq_true rfl) (by rw [hRs]; exact Nat.le_of_ble_eq_true rfl) d_M_init_29 (fun H h2_ zk ok9 hS => ?_)
  rw [hZ] at h2_ zk ok9 ⊢
  have hZ : H.size = mo + 3 := by omega
  clear zk
  have hobj := ca.keep hobj (ok9 (mo) (by omega))
  have h1_ := ca.keep h1_ (ok9 (mo + 1) (by omega))
  clear ok9
  refine hp_putF (C := R_M) (T := F_M) (N := 19) (v := .ref (mo + 2)) (ty := .array .int) hx hb hG la_M t_M tk_M n_M hown hK.1 hobj hS (show mo ≤ mo by omega) rfl 2 (by decide) (hG _ fl_M_13) (fun _ h9 => h9) rfl hin rfl (by decide +kernel) rfl rfl (Nat.le_of_ble_eq_true rfl) d_M_init_31 (fun H locs h9 hz1 ok9 hS => ?_)
  have hZ := hz1.trans hZ
  clear hz1
  have h1_ := ca.keep h1_ (ok9 (mo + 1) (by omega))
  have h2_ := ca.keep h2_ (ok9 (mo + 2) (by omega))
  have hobj := h9
  clear h9
  have hobj : ca E H mo (.inr (3, [.int (iI 0), .ref (mo + 1), .ref (mo + 2), .null, .null, .null, .null, .int (iI 0), .int (iI 0), .int (iI 0), .null, .null, .null, .null, .null, .null, .null, .null, .null])) := hobj
  clear ok9
  refine lv_aload_n hx hb d_M_init_34 rfl (lv_at hl 0 rfl) ?_
  refine hp_sipush (z := 128) hx hb d_M_init_35 (by rfl) ?_
  refine hp_newa hx hb (hG _ ac_int) hK.1 0 rfl hS hA 128 rfl (by omega) (by rw [hRc]; exact Nat.le_of_ble_eq_true rfl) (by rw [hRs]; exact Nat.le_of_ble_eq_true rfl) d_M_init_38 (fun H h3_ zk ok9 hS => ?_)
  rw [hZ] at h3_ zk ok9 ⊢
  have hZ : H.size = mo + 4 := by omega
  clear zk
  have hobj := ca.keep hobj (ok9 (mo) (by omega))
  have h1_ := ca.keep h1_ (ok9 (mo + 1) (by omega))
  have h2_ := ca.keep h2_ (ok9 (mo + 2) (by omega))
  clear ok9
  refine hp_putF (C := R_M) (T := F_M) (N := 19) (v := .ref (mo + 3)) (ty := .array .int) hx hb hG la_M t_M tk_M n_M hown hK.1 hobj hS (show mo ≤ mo by omega) rfl 3 (by decide) (hG _ fl_M_16) (fun _ h9 => h9) rfl hin rfl (by decide +kernel) rfl rfl (Nat.le_of_ble_eq_true rfl) d_M_init_40 (fun H locs h9 hz1 ok9 hS => ?_)
  have hZ := hz1.trans hZ
  clear hz1
  have h1_ := ca.keep h1_ (ok9 (mo + 1) (by omega))
  have h2_ := ca.keep h2_ (ok9 (mo + 2) (by omega))
  have h3_ := ca.keep h3_ (ok9 (mo + 3) (by omega))
  have hobj := h9
  clear h9
  have hobj : ca E H mo (.inr (3, [.int (iI 0), .ref (mo + 1), .ref (mo + 2), .ref (mo + 3), .null, .null, .null, .int (iI 0), .int (iI 0), .int (iI 0), .null, .null, .null, .null, .null, .null, .null, .null, .null])) := hobj
  clear ok9
  refine lv_aload_n hx hb d_M_init_43 rfl (lv_at hl 0 rfl) ?_
  refine hp_sipush (z := 8192) hx hb d_M_init_44 (by rfl) ?_
  refine hp_newa hx hb (hG _ ac_int) hK.1 0 rfl hS hA 8192 rfl (by omega) (by rw [hRc]; exact Nat.le_of_ble_eq_true rfl) (by rw [hRs]; exact Nat.le_of_ble_eq_true rfl) d_M_init_47 (fun H h4_ zk ok9 hS => ?_)
  rw [hZ] at h4_ zk ok9 ⊢
  have hZ : H.size = mo + 5 := by omega
  clear zk
  have hobj := ca.keep hobj (ok9 (mo) (by omega))
  have h1_ := ca.keep h1_ (ok9 (mo + 1) (by omega))
  have h2_ := ca.keep h2_ (ok9 (mo + 2) (by omega))
  have h3_ := ca.keep h3_ (ok9 (mo + 3) (by omega))
  clear ok9
  refine hp_putF (C := R_M) (T := F_M) (N := 19) (v := .ref (mo + 4)) (ty := .array .int) hx hb hG la_M t_M tk_M n_M hown hK.1 hobj hS (show mo ≤ mo by omega) rfl 4 (by decide) (hG _ fl_M_19) (fun _ h9 => h9) rfl hin rfl (by decide +kernel) rfl rfl (Nat.le_of_ble_eq_true rfl) d_M_init_49 (fun H locs h9 hz1 ok9 hS => ?_)
  have hZ := hz1.trans hZ
  clear hz1
  have h1_ := ca.keep h1_ (ok9 (mo + 1) (by omega))
  have h2_ := ca.keep h2_ (ok9 (mo + 2) (by omega))
  have h3_ := ca.keep h3_ (ok9 (mo + 3) (by omega))
  have h4_ := ca.keep h4_ (ok9 (mo + 4) (by omega))
  have hobj := h9
  clear h9
  have hobj : ca E H mo (.inr (3, [.int (iI 0), .ref (mo + 1), .ref (mo + 2), .ref (mo + 3), .ref (mo + 4), .null, .null, .int (iI 0), .int (iI 0), .int (iI 0), .null, .null, .null, .null, .null, .null, .null, .null, .null])) := hobj
  clear ok9
  refine lv_aload_n hx hb d_M_init_52 rfl (lv_at hl 0 rfl) ?_
  refine hp_sipush (z := 8192) hx hb d_M_init_53 (by rfl) ?_
  refine hp_newa hx hb (hG _ ac_int) hK.1 0 rfl hS hA 8192 rfl (by omega) (by rw [hRc]; exact Nat.le_of_ble_eq_true rfl) (by rw [hRs]; exact Nat.le_of_ble_eq_true rfl) d_M_init_56 (fun H h5_ zk ok9 hS => ?_)
  rw [hZ] at h5_ zk ok9 ⊢
  have hZ : H.size = mo + 6 := by omega
  clear zk
  have hobj := ca.keep hobj (ok9 (mo) (by omega))
  have h1_ := ca.keep h1_ (ok9 (mo + 1) (by omega))
  have h2_ := ca.keep h2_ (ok9 (mo + 2) (by omega))
  have h3_ := ca.keep h3_ (ok9 (mo + 3) (by omega))
  have h4_ := ca.keep h4_ (ok9 (mo + 4) (by omega))
  clear ok9
  refine hp_putF (C := R_M) (T := F_M) (N := 19) (v := .ref (mo + 5)) (ty := .array .int) hx hb hG la_M t_M tk_M n_M hown hK.1 hobj hS (show mo ≤ mo by omega) rfl 5 (by decide) (hG _ fl_M_22) (fun _ h9 => h9) rfl hin rfl (by decide +kernel) rfl rfl (Nat.le_of_ble_eq_true rfl) d_M_init_58 (fun H locs h9 hz1 ok9 hS => ?_)
  have hZ := hz1.trans hZ
  clear hz1
  have h1_ := ca.keep h1_ (ok9 (mo + 1) (by omega))
  have h2_ := ca.keep h2_ (ok9 (mo + 2) (by omega))
  have h3_ := ca.keep h3_ (ok9 (mo + 3) (by omega))
  have h4_ := ca.keep h4_ (ok9 (mo + 4) (by omega))
  have h5_ := ca.keep h5_ (ok9 (mo + 5) (by omega))
  have hobj := h9
  clear h9
  have hobj : ca E H mo (.inr (3, [.int (iI 0), .ref (mo + 1), .ref (mo + 2), .ref (mo + 3), .ref (mo + 4), .ref (mo + 5), .null, .int (iI 0), .int (iI 0), .int (iI 0), .null, .null, .null, .null, .null, .null, .null, .null, .null])) := hobj
  clear ok9
  refine lv_aload_n hx hb d_M_init_61 rfl (lv_at hl 0 rfl) ?_
  refine hp_sipush (z := 8192) hx hb d_M_init_62 (by rfl) ?_
  refine hp_newa hx hb (hG _ ac_int) hK.1 0 rfl hS hA 8192 rfl (by omega) (by rw [hRc]; exact Nat.le_of_ble_eq_true rfl) (by rw [hRs]; exact Nat.le_of_ble_eq_true rfl) d_M_init_65 (fun H h6_ zk ok9 hS => ?_)
  rw [hZ] at h6_ zk ok9 ⊢
  have hZ : H.size = mo + 7 := by omega
  clear zk
  have hobj := ca.keep hobj (ok9 (mo) (by omega))
  have h1_ := ca.keep h1_ (ok9 (mo + 1) (by omega))
  have h2_ := ca.keep h2_ (ok9 (mo + 2) (by omega))
  have h3_ := ca.keep h3_ (ok9 (mo + 3) (by omega))
  have h4_ := ca.keep h4_ (ok9 (mo + 4) (by omega))
  have h5_ := ca.keep h5_ (ok9 (mo + 5) (by omega))
  clear ok9
  refine hp_putF (C := R_M) (T := F_M) (N := 19) (v := .ref (mo + 6)) (ty := .array .int) hx hb hG la_M t_M tk_M n_M hown hK.1 hobj hS (show mo ≤ mo by omega) rfl 6 (by decide) (hG _ fl_M_25) (fun _ h9 => h9) rfl hin rfl (by decide +kernel) rfl rfl (Nat.le_of_ble_eq_true rfl) d_M_init_67 (fun H locs h9 hz1 ok9 hS => ?_)
  have hZ := hz1.trans hZ
  clear hz1
  have h1_ := ca.keep h1_ (ok9 (mo + 1) (by omega))
  have h2_ := ca.keep h2_ (ok9 (mo + 2) (by omega))
  have h3_ := ca.keep h3_ (ok9 (mo + 3) (by omega))
  have h4_ := ca.keep h4_ (ok9 (mo + 4) (by omega))
  have h5_ := ca.keep h5_ (ok9 (mo + 5) (by omega))
  have h6_ := ca.keep h6_ (ok9 (mo + 6) (by omega))
  have hobj := h9
  clear h9
  have hobj : ca E H mo (.inr (3, [.int (iI 0), .ref (mo + 1), .ref (mo + 2), .ref (mo + 3), .ref (mo + 4), .ref (mo + 5), .ref (mo + 6), .int (iI 0), .int (iI 0), .int (iI 0), .null, .null, .null, .null, .null, .null, .null, .null, .null])) := hobj
  clear ok9
  refine lv_aload_n hx hb d_M_init_70 rfl (lv_at hl 0 rfl) ?_
  refine hp_sipush (z := 4096) hx hb d_M_init_71 (by rfl) ?_
  refine hp_newa hx hb (hG _ ac_int) hK.1 0 rfl hS hA 4096 rfl (by omega) (by rw [hRc]; exact Nat.le_of_ble_eq_true rfl) (by rw [hRs]; exact Nat.le_of_ble_eq_true rfl) d_M_init_74 (fun H h7_ zk ok9 hS => ?_)
  rw [hZ] at h7_ zk ok9 ⊢
  have hZ : H.size = mo + 8 := by omega
  clear zk
  have hobj := ca.keep hobj (ok9 (mo) (by omega))
  have h1_ := ca.keep h1_ (ok9 (mo + 1) (by omega))
  have h2_ := ca.keep h2_ (ok9 (mo + 2) (by omega))
  have h3_ := ca.keep h3_ (ok9 (mo + 3) (by omega))
  have h4_ := ca.keep h4_ (ok9 (mo + 4) (by omega))
  have h5_ := ca.keep h5_ (ok9 (mo + 5) (by omega))
  have h6_ := ca.keep h6_ (ok9 (mo + 6) (by omega))
  clear ok9
  refine hp_putF (C := R_M) (T := F_M) (N := 19) (v := .ref (mo + 7)) (ty := .array .int) hx hb hG la_M t_M tk_M n_M hown hK.1 hobj hS (show mo ≤ mo by omega) rfl 10 (by decide) (hG _ fl_M_28) (fun _ h9 => h9) rfl hin rfl (by decide +kernel) rfl rfl (Nat.le_of_ble_eq_true rfl) d_M_init_76 (fun H locs h9 hz1 ok9 hS => ?_)
  have hZ := hz1.trans hZ
  clear hz1
  have h1_ := ca.keep h1_ (ok9 (mo + 1) (by omega))
  have h2_ := ca.keep h2_ (ok9 (mo + 2) (by omega))
  have h3_ := ca.keep h3_ (ok9 (mo + 3) (by omega))
  have h4_ := ca.keep h4_ (ok9 (mo + 4) (by omega))
  have h5_ := ca.keep h5_ (ok9 (mo + 5) (by omega))
  have h6_ := ca.keep h6_ (ok9 (mo + 6) (by omega))
  have h7_ := ca.keep h7_ (ok9 (mo + 7) (by omega))
  have hobj := h9
  clear h9
  have hobj : ca E H mo (.inr (3, [.int (iI 0), .ref (mo + 1), .ref (mo + 2), .ref (mo + 3), .ref (mo + 4), .ref (mo + 5), .ref (mo + 6), .int (iI 0), .int (iI 0), .int (iI 0), .ref (mo + 7), .null, .null, .null, .null, .null, .null, .null, .null])) := hobj
  clear ok9
  refine lv_aload_n hx hb d_M_init_79 rfl (lv_at hl 0 rfl) ?_
  refine hp_bipush (z := 9) hx hb d_M_init_80 (by rfl) ?_
  refine hp_newa hx hb (hG _ ac_int) hK.1 0 rfl hS hA 9 rfl (by omega) (by rw [hRc]; exact Nat.le_of_ble_eq_true rfl) (by rw [hRs]; exact Nat.le_of_ble_eq_true rfl) d_M_init_82 (fun H h8_ zk ok9 hS => ?_)
  rw [hZ] at h8_ zk ok9 ⊢
  have hZ : H.size = mo + 9 := by omega
  clear zk
  have hobj := ca.keep hobj (ok9 (mo) (by omega))
  have h1_ := ca.keep h1_ (ok9 (mo + 1) (by omega))
  have h2_ := ca.keep h2_ (ok9 (mo + 2) (by omega))
  have h3_ := ca.keep h3_ (ok9 (mo + 3) (by omega))
  have h4_ := ca.keep h4_ (ok9 (mo + 4) (by omega))
  have h5_ := ca.keep h5_ (ok9 (mo + 5) (by omega))
  have h6_ := ca.keep h6_ (ok9 (mo + 6) (by omega))
  have h7_ := ca.keep h7_ (ok9 (mo + 7) (by omega))
  clear ok9
  refine hp_putF (C := R_M) (T := F_M) (N := 19) (v := .ref (mo + 8)) (ty := .array .int) hx hb hG la_M t_M tk_M n_M hown hK.1 hobj hS (show mo ≤ mo by omega) rfl 11 (by decide) (hG _ fl_M_31) (fun _ h9 => h9) rfl hin rfl (by decide +kernel) rfl rfl (Nat.le_of_ble_eq_true rfl) d_M_init_84 (fun H locs h9 hz1 ok9 hS => ?_)
  have hZ := hz1.trans hZ
  clear hz1
  have h1_ := ca.keep h1_ (ok9 (mo + 1) (by omega))
  have h2_ := ca.keep h2_ (ok9 (mo + 2) (by omega))
  have h3_ := ca.keep h3_ (ok9 (mo + 3) (by omega))
  have h4_ := ca.keep h4_ (ok9 (mo + 4) (by omega))
  have h5_ := ca.keep h5_ (ok9 (mo + 5) (by omega))
  have h6_ := ca.keep h6_ (ok9 (mo + 6) (by omega))
  have h7_ := ca.keep h7_ (ok9 (mo + 7) (by omega))
  have h8_ := ca.keep h8_ (ok9 (mo + 8) (by omega))
  have hobj := h9
  clear h9
  have hobj : ca E H mo (.inr (3, [.int (iI 0), .ref (mo + 1), .ref (mo + 2), .ref (mo + 3), .ref (mo + 4), .ref (mo + 5), .ref (mo + 6), .int (iI 0), .int (iI 0), .int (iI 0), .ref (mo + 7), .ref (mo + 8), .null, .null, .null, .null, .null, .null, .null])) := hobj
  clear ok9
  refine lv_aload_n hx hb d_M_init_87 rfl (lv_at hl 0 rfl) ?_
  refine hp_bipush (z := 9) hx hb d_M_init_88 (by rfl) ?_
  refine hp_newa hx hb (hG _ ac_int) hK.1 0 rfl hS hA 9 rfl (by omega) (by rw [hRc]; exact Nat.le_of_ble_eq_true rfl) (by rw [hRs]; exact Nat.le_of_ble_eq_true rfl) d_M_init_90 (fun H h9_ zk ok9 hS => ?_)
  rw [hZ] at h9_ zk ok9 ⊢
  have hZ : H.size = mo + 10 := by omega
  clear zk
  have hobj := ca.keep hobj (ok9 (mo) (by omega))
  have h1_ := ca.keep h1_ (ok9 (mo + 1) (by omega))
  have h2_ := ca.keep h2_ (ok9 (mo + 2) (by omega))
  have h3_ := ca.keep h3_ (ok9 (mo + 3) (by omega))
  have h4_ := ca.keep h4_ (ok9 (mo + 4) (by omega))
  have h5_ := ca.keep h5_ (ok9 (mo + 5) (by omega))
  have h6_ := ca.keep h6_ (ok9 (mo + 6) (by omega))
  have h7_ := ca.keep h7_ (ok9 (mo + 7) (by omega))
  have h8_ := ca.keep h8_ (ok9 (mo + 8) (by omega))
  clear ok9
  refine hp_putF (C := R_M) (T := F_M) (N := 19) (v := .ref (mo + 9)) (ty := .array .int) hx hb hG la_M t_M tk_M n_M hown hK.1 hobj hS (show mo ≤ mo by omega) rfl 12 (by decide) (hG _ fl_M_34) (fun _ h9 => h9) rfl hin rfl (by decide +kernel) rfl rfl (Nat.le_of_ble_eq_true rfl) d_M_init_92 (fun H locs h9 hz1 ok9 hS => ?_)
  have hZ := hz1.trans hZ
  clear hz1
  have h1_ := ca.keep h1_ (ok9 (mo + 1) (by omega))
  have h2_ := ca.keep h2_ (ok9 (mo + 2) (by omega))
  have h3_ := ca.keep h3_ (ok9 (mo + 3) (by omega))
  have h4_ := ca.keep h4_ (ok9 (mo + 4) (by omega))
  have h5_ := ca.keep h5_ (ok9 (mo + 5) (by omega))
  have h6_ := ca.keep h6_ (ok9 (mo + 6) (by omega))
  have h7_ := ca.keep h7_ (ok9 (mo + 7) (by omega))
  have h8_ := ca.keep h8_ (ok9 (mo + 8) (by omega))
  have h9_ := ca.keep h9_ (ok9 (mo + 9) (by omega))
  have hobj := h9
  clear h9
  have hobj : ca E H mo (.inr (3, [.int (iI 0), .ref (mo + 1), .ref (mo + 2), .ref (mo + 3), .ref (mo + 4), .ref (mo + 5), .ref (mo + 6), .int (iI 0), .int (iI 0), .int (iI 0), .ref (mo + 7), .ref (mo + 8), .ref (mo + 9), .null, .null, .null, .null, .null, .null])) := hobj
  clear ok9
  refine lv_aload_n hx hb d_M_init_95 rfl (lv_at hl 0 rfl) ?_
  refine hp_iconst (z := 4) hx hb d_M_init_96 (by rfl) ?_
  refine hp_newz hx hb (hG _ ac_boolean) hK.1 1 rfl hS hA 4 rfl (by omega) (by rw [hRc]; exact Nat.le_of_ble_eq_true rfl) (by rw [hRs]; exact Nat.le_of_ble_eq_true rfl) d_M_init_97 (fun H h10_ zk ok9 hS => ?_)
  rw [hZ] at h10_ zk ok9 ⊢
  have hZ : H.size = mo + 11 := by omega
  clear zk
  have hobj := ca.keep hobj (ok9 (mo) (by omega))
  have h1_ := ca.keep h1_ (ok9 (mo + 1) (by omega))
  have h2_ := ca.keep h2_ (ok9 (mo + 2) (by omega))
  have h3_ := ca.keep h3_ (ok9 (mo + 3) (by omega))
  have h4_ := ca.keep h4_ (ok9 (mo + 4) (by omega))
  have h5_ := ca.keep h5_ (ok9 (mo + 5) (by omega))
  have h6_ := ca.keep h6_ (ok9 (mo + 6) (by omega))
  have h7_ := ca.keep h7_ (ok9 (mo + 7) (by omega))
  have h8_ := ca.keep h8_ (ok9 (mo + 8) (by omega))
  have h9_ := ca.keep h9_ (ok9 (mo + 9) (by omega))
  clear ok9
  refine hp_putF (C := R_M) (T := F_M) (N := 19) (v := .ref (mo + 10)) (ty := .array .boolean) hx hb hG la_M t_M tk_M n_M hown hK.1 hobj hS (show mo ≤ mo by omega) rfl 13 (by decide) (hG _ fl_M_37) (fun _ h9 => h9) rfl hin rfl (by decide +kernel) rfl rfl (Nat.le_of_ble_eq_true rfl) d_M_init_99 (fun H locs h9 hz1 ok9 hS => ?_)
  have hZ := hz1.trans hZ
  clear hz1
  have h1_ := ca.keep h1_ (ok9 (mo + 1) (by omega))
  have h2_ := ca.keep h2_ (ok9 (mo + 2) (by omega))
  have h3_ := ca.keep h3_ (ok9 (mo + 3) (by omega))
  have h4_ := ca.keep h4_ (ok9 (mo + 4) (by omega))
  have h5_ := ca.keep h5_ (ok9 (mo + 5) (by omega))
  have h6_ := ca.keep h6_ (ok9 (mo + 6) (by omega))
  have h7_ := ca.keep h7_ (ok9 (mo + 7) (by omega))
  have h8_ := ca.keep h8_ (ok9 (mo + 8) (by omega))
  have h9_ := ca.keep h9_ (ok9 (mo + 9) (by omega))
  have h10_ := ca.keep h10_ (ok9 (mo + 10) (by omega))
  have hobj := h9
  clear h9
  have hobj : ca E H mo (.inr (3, [.int (iI 0), .ref (mo + 1), .ref (mo + 2), .ref (mo + 3), .ref (mo + 4), .ref (mo + 5), .ref (mo + 6), .int (iI 0), .int (iI 0), .int (iI 0), .ref (mo + 7), .ref (mo + 8), .ref (mo + 9), .ref (mo + 10), .null, .null, .null, .null, .null])) := hobj
  clear ok9
  refine lv_aload_n hx hb d_M_init_102 rfl (lv_at hl 0 rfl) ?_
  refine hp_iconst (z := 4) hx hb d_M_init_103 (by rfl) ?_
  refine hp_newa hx hb (hG _ ac_int) hK.1 0 rfl hS hA 4 rfl (by omega) (by rw [hRc]; exact Nat.le_of_ble_eq_true rfl) (by rw [hRs]; exact Nat.le_of_ble_eq_true rfl) d_M_init_104 (fun H h11_ zk ok9 hS => ?_)
  rw [hZ] at h11_ zk ok9 ⊢
  have hZ : H.size = mo + 12 := by omega
  clear zk
  have hobj := ca.keep hobj (ok9 (mo) (by omega))
  have h1_ := ca.keep h1_ (ok9 (mo + 1) (by omega))
  have h2_ := ca.keep h2_ (ok9 (mo + 2) (by omega))
  have h3_ := ca.keep h3_ (ok9 (mo + 3) (by omega))
  have h4_ := ca.keep h4_ (ok9 (mo + 4) (by omega))
  have h5_ := ca.keep h5_ (ok9 (mo + 5) (by omega))
  have h6_ := ca.keep h6_ (ok9 (mo + 6) (by omega))
  have h7_ := ca.keep h7_ (ok9 (mo + 7) (by omega))
  have h8_ := ca.keep h8_ (ok9 (mo + 8) (by omega))
  have h9_ := ca.keep h9_ (ok9 (mo + 9) (by omega))
  have h10_ := ca.keep h10_ (ok9 (mo + 10) (by omega))
  clear ok9
  refine hp_putF (C := R_M) (T := F_M) (N := 19) (v := .ref (mo + 11)) (ty := .array .int) hx hb hG la_M t_M tk_M n_M hown hK.1 hobj hS (show mo ≤ mo by omega) rfl 14 (by decide) (hG _ fl_M_41) (fun _ h9 => h9) rfl hin rfl (by decide +kernel) rfl rfl (Nat.le_of_ble_eq_true rfl) d_M_init_106 (fun H locs h9 hz1 ok9 hS => ?_)
  have hZ := hz1.trans hZ
  clear hz1
  have h1_ := ca.keep h1_ (ok9 (mo + 1) (by omega))
  have h2_ := ca.keep h2_ (ok9 (mo + 2) (by omega))
  have h3_ := ca.keep h3_ (ok9 (mo + 3) (by omega))
  have h4_ := ca.keep h4_ (ok9 (mo + 4) (by omega))
  have h5_ := ca.keep h5_ (ok9 (mo + 5) (by omega))
  have h6_ := ca.keep h6_ (ok9 (mo + 6) (by omega))
  have h7_ := ca.keep h7_ (ok9 (mo + 7) (by omega))
  have h8_ := ca.keep h8_ (ok9 (mo + 8) (by omega))
  have h9_ := ca.keep h9_ (ok9 (mo + 9) (by omega))
  have h10_ := ca.keep h10_ (ok9 (mo + 10) (by omega))
  have h11_ := ca.keep h11_ (ok9 (mo + 11) (by omega))
  have hobj := h9
  clear h9
  have hobj : ca E H mo (.inr (3, [.int (iI 0), .ref (mo + 1), .ref (mo + 2), .ref (mo + 3), .ref (mo + 4), .ref (mo + 5), .ref (mo + 6), .int (iI 0), .int (iI 0), .int (iI 0), .ref (mo + 7), .ref (mo + 8), .ref (mo + 9), .ref (mo + 10), .ref (mo + 11), .null, .null, .null, .null])) := hobj
  clear ok9
  refine lv_aload_n hx hb d_M_init_109 rfl (lv_at hl 0 rfl) ?_
  refine hp_iconst (z := 4) hx hb d_M_init_110 (by rfl) ?_
  refine hp_newa hx hb (hG _ ac_int) hK.1 0 rfl hS hA 4 rfl (by omega) (by rw [hRc]; exact Nat.le_of_ble_eq_true rfl) (by rw [hRs]; exact Nat.le_of_ble_eq_true rfl) d_M_init_111 (fun H h12_ zk ok9 hS => ?_)
  rw [hZ] at h12_ zk ok9 ⊢
  have hZ : H.size = mo + 13 := by omega
  clear zk
  have hobj := ca.keep hobj (ok9 (mo) (by omega))
  have h1_ := ca.keep h1_ (ok9 (mo + 1) (by omega))
  have h2_ := ca.keep h2_ (ok9 (mo + 2) (by omega))
  have h3_ := ca.keep h3_ (ok9 (mo + 3) (by omega))
  have h4_ := ca.keep h4_ (ok9 (mo + 4) (by omega))
  have h5_ := ca.keep h5_ (ok9 (mo + 5) (by omega))
  have h6_ := ca.keep h6_ (ok9 (mo + 6) (by omega))
  have h7_ := ca.keep h7_ (ok9 (mo + 7) (by omega))
  have h8_ := ca.keep h8_ (ok9 (mo + 8) (by omega))
  have h9_ := ca.keep h9_ (ok9 (mo + 9) (by omega))
  have h10_ := ca.keep h10_ (ok9 (mo + 10) (by omega))
  have h11_ := ca.keep h11_ (ok9 (mo + 11) (by omega))
  clear ok9
  refine hp_putF (C := R_M) (T := F_M) (N := 19) (v := .ref (mo + 12)) (ty := .array .int) hx hb hG la_M t_M tk_M n_M hown hK.1 hobj hS (show mo ≤ mo by omega) rfl 15 (by decide) (hG _ fl_M_44) (fun _ h9 => h9) rfl hin rfl (by decide +kernel) rfl rfl (Nat.le_of_ble_eq_true rfl) d_M_init_113 (fun H locs h9 hz1 ok9 hS => ?_)
  have hZ := hz1.trans hZ
  clear hz1
  have h1_ := ca.keep h1_ (ok9 (mo + 1) (by omega))
  have h2_ := ca.keep h2_ (ok9 (mo + 2) (by omega))
  have h3_ := ca.keep h3_ (ok9 (mo + 3) (by omega))
  have h4_ := ca.keep h4_ (ok9 (mo + 4) (by omega))
  have h5_ := ca.keep h5_ (ok9 (mo + 5) (by omega))
  have h6_ := ca.keep h6_ (ok9 (mo + 6) (by omega))
  have h7_ := ca.keep h7_ (ok9 (mo + 7) (by omega))
  have h8_ := ca.keep h8_ (ok9 (mo + 8) (by omega))
  have h9_ := ca.keep h9_ (ok9 (mo + 9) (by omega))
  have h10_ := ca.keep h10_ (ok9 (mo + 10) (by omega))
  have h11_ := ca.keep h11_ (ok9 (mo + 11) (by omega))
  have h12_ := ca.keep h12_ (ok9 (mo + 12) (by omega))
  have hobj := h9
  clear h9
  have hobj : ca E H mo (.inr (3, [.int (iI 0), .ref (mo + 1), .ref (mo + 2), .ref (mo + 3), .ref (mo + 4), .ref (mo + 5), .ref (mo + 6), .int (iI 0), .int (iI 0), .int (iI 0), .ref (mo + 7), .ref (mo + 8), .ref (mo + 9), .ref (mo + 10), .ref (mo + 11), .ref (mo + 12), .null, .null, .null])) := hobj
  clear ok9
  refine lv_aload_n hx hb d_M_init_116 rfl (lv_at hl 0 rfl) ?_
  refine hp_sipush (z := 2304) hx hb d_M_init_117 (by rfl) ?_
  refine hp_newa hx hb (hG _ ac_int) hK.1 0 rfl hS hA 2304 rfl (by omega) (by rw [hRc]; exact Nat.le_of_ble_eq_true rfl) (by rw [hRs]; exact Nat.le_of_ble_eq_true rfl) d_M_init_120 (fun H h13_ zk ok9 hS => ?_)
  rw [hZ] at h13_ zk ok9 ⊢
  have hZ : H.size = mo + 14 := by omega
  clear zk
  have hobj := ca.keep hobj (ok9 (mo) (by omega))
  have h1_ := ca.keep h1_ (ok9 (mo + 1) (by omega))
  have h2_ := ca.keep h2_ (ok9 (mo + 2) (by omega))
  have h3_ := ca.keep h3_ (ok9 (mo + 3) (by omega))
  have h4_ := ca.keep h4_ (ok9 (mo + 4) (by omega))
  have h5_ := ca.keep h5_ (ok9 (mo + 5) (by omega))
  have h6_ := ca.keep h6_ (ok9 (mo + 6) (by omega))
  have h7_ := ca.keep h7_ (ok9 (mo + 7) (by omega))
  have h8_ := ca.keep h8_ (ok9 (mo + 8) (by omega))
  have h9_ := ca.keep h9_ (ok9 (mo + 9) (by omega))
  have h10_ := ca.keep h10_ (ok9 (mo + 10) (by omega))
  have h11_ := ca.keep h11_ (ok9 (mo + 11) (by omega))
  have h12_ := ca.keep h12_ (ok9 (mo + 12) (by omega))
  clear ok9
  refine hp_putF (C := R_M) (T := F_M) (N := 19) (v := .ref (mo + 13)) (ty := .array .int) hx hb hG la_M t_M tk_M n_M hown hK.1 hobj hS (show mo ≤ mo by omega) rfl 16 (by decide) (hG _ fl_M_47) (fun _ h9 => h9) rfl hin rfl (by decide +kernel) rfl rfl (Nat.le_of_ble_eq_true rfl) d_M_init_122 (fun H locs h9 hz1 ok9 hS => ?_)
  have hZ := hz1.trans hZ
  clear hz1
  have h1_ := ca.keep h1_ (ok9 (mo + 1) (by omega))
  have h2_ := ca.keep h2_ (ok9 (mo + 2) (by omega))
  have h3_ := ca.keep h3_ (ok9 (mo + 3) (by omega))
  have h4_ := ca.keep h4_ (ok9 (mo + 4) (by omega))
  have h5_ := ca.keep h5_ (ok9 (mo + 5) (by omega))
  have h6_ := ca.keep h6_ (ok9 (mo + 6) (by omega))
  have h7_ := ca.keep h7_ (ok9 (mo + 7) (by omega))
  have h8_ := ca.keep h8_ (ok9 (mo + 8) (by omega))
  have h9_ := ca.keep h9_ (ok9 (mo + 9) (by omega))
  have h10_ := ca.keep h10_ (ok9 (mo + 10) (by omega))
  have h11_ := ca.keep h11_ (ok9 (mo + 11) (by omega))
  have h12_ := ca.keep h12_ (ok9 (mo + 12) (by omega))
  have h13_ := ca.keep h13_ (ok9 (mo + 13) (by omega))
  have hobj := h9
  clear h9
  have hobj : ca E H mo (.inr (3, [.int (iI 0), .ref (mo + 1), .ref (mo + 2), .ref (mo + 3), .ref (mo + 4), .ref (mo + 5), .ref (mo + 6), .int (iI 0), .int (iI 0), .int (iI 0), .ref (mo + 7), .ref (mo + 8), .ref (mo + 9), .ref (mo + 10), .ref (mo + 11), .ref (mo + 12), .ref (mo + 13), .null, .null])) := hobj
  clear ok9
  refine lv_aload_n hx hb d_M_init_125 rfl (lv_at hl 0 rfl) ?_
  refine hp_bipush (z := 9) hx hb d_M_init_126 (by rfl) ?_
  refine hp_newa hx hb (hG _ ac_int) hK.1 0 rfl hS hA 9 rfl (by omega) (by rw [hRc]; exact Nat.le_of_ble_eq_true rfl) (by rw [hRs]; exact Nat.le_of_ble_eq_true rfl) d_M_init_128 (fun H h14_ zk ok9 hS => ?_)
  rw [hZ] at h14_ zk ok9 ⊢
  have hZ : H.size = mo + 15 := by omega
  clear zk
  have hobj := ca.keep hobj (ok9 (mo) (by omega))
  have h1_ := ca.keep h1_ (ok9 (mo + 1) (by omega))
  have h2_ := ca.keep h2_ (ok9 (mo + 2) (by omega))
  have h3_ := ca.keep h3_ (ok9 (mo + 3) (by omega))
  have h4_ := ca.keep h4_ (ok9 (mo + 4) (by omega))
  have h5_ := ca.keep h5_ (ok9 (mo + 5) (by omega))
  have h6_ := ca.keep h6_ (ok9 (mo + 6) (by omega))
  have h7_ := ca.keep h7_ (ok9 (mo + 7) (by omega))
  have h8_ := ca.keep h8_ (ok9 (mo + 8) (by omega))
  have h9_ := ca.keep h9_ (ok9 (mo + 9) (by omega))
  have h10_ := ca.keep h10_ (ok9 (mo + 10) (by omega))
  have h11_ := ca.keep h11_ (ok9 (mo + 11) (by omega))
  have h12_ := ca.keep h12_ (ok9 (mo + 12) (by omega))
  have h13_ := ca.keep h13_ (ok9 (mo + 13) (by omega))
  clear ok9
  refine hp_putF (C := R_M) (T := F_M) (N := 19) (v := .ref (mo + 14)) (ty := .array .int) hx hb hG la_M t_M tk_M n_M hown hK.1 hobj hS (show mo ≤ mo by omega) rfl 17 (by decide) (hG _ fl_M_50) (fun _ h9 => h9) rfl hin rfl (by decide +kernel) rfl rfl (Nat.le_of_ble_eq_true rfl) d_M_init_130 (fun H locs h9 hz1 ok9 hS => ?_)
  have hZ := hz1.trans hZ
  clear hz1
  have h1_ := ca.keep h1_ (ok9 (mo + 1) (by omega))
  have h2_ := ca.keep h2_ (ok9 (mo + 2) (by omega))
  have h3_ := ca.keep h3_ (ok9 (mo + 3) (by omega))
  have h4_ := ca.keep h4_ (ok9 (mo + 4) (by omega))
  have h5_ := ca.keep h5_ (ok9 (mo + 5) (by omega))
  have h6_ := ca.keep h6_ (ok9 (mo + 6) (by omega))
  have h7_ := ca.keep h7_ (ok9 (mo + 7) (by omega))
  have h8_ := ca.keep h8_ (ok9 (mo + 8) (by omega))
  have h9_ := ca.keep h9_ (ok9 (mo + 9) (by omega))
  have h10_ := ca.keep h10_ (ok9 (mo + 10) (by omega))
  have h11_ := ca.keep h11_ (ok9 (mo + 11) (by omega))
  have h12_ := ca.keep h12_ (ok9 (mo + 12) (by omega))
  have h13_ := ca.keep h13_ (ok9 (mo + 13) (by omega))
  have h14_ := ca.keep h14_ (ok9 (mo + 14) (by omega))
  have hobj := h9
  clear h9
  have hobj : ca E H mo (.inr (3, [.int (iI 0), .ref (mo + 1), .ref (mo + 2), .ref (mo + 3), .ref (mo + 4), .ref (mo + 5), .ref (mo + 6), .int (iI 0), .int (iI 0), .int (iI 0), .ref (mo + 7), .ref (mo + 8), .ref (mo + 9), .ref (mo + 10), .ref (mo + 11), .ref (mo + 12), .ref (mo + 13), .ref (mo + 14), .null])) := hobj
  clear ok9
  refine lv_aload_n hx hb d_M_init_133 rfl (lv_at hl 0 rfl) ?_
  refine hp_sipush (z := 160) hx hb d_M_init_134 (by rfl) ?_
  refine hp_newa hx hb (hG _ ac_int) hK.1 0 rfl hS hA 160 rfl (by omega) (by rw [hRc]; exact Nat.le_of_ble_eq_true rfl) (by rw [hRs]; exact Nat.le_of_ble_eq_true rfl) d_M_init_137 (fun H h15_ zk ok9 hS => ?_)
  rw [hZ] at h15_ zk ok9 ⊢
  have hZ : H.size = mo + 16 := by omega
  clear zk
  have hobj := ca.keep hobj (ok9 (mo) (by omega))
  have h1_ := ca.keep h1_ (ok9 (mo + 1) (by omega))
  have h2_ := ca.keep h2_ (ok9 (mo + 2) (by omega))
  have h3_ := ca.keep h3_ (ok9 (mo + 3) (by omega))
  have h4_ := ca.keep h4_ (ok9 (mo + 4) (by omega))
  have h5_ := ca.keep h5_ (ok9 (mo + 5) (by omega))
  have h6_ := ca.keep h6_ (ok9 (mo + 6) (by omega))
  have h7_ := ca.keep h7_ (ok9 (mo + 7) (by omega))
  have h8_ := ca.keep h8_ (ok9 (mo + 8) (by omega))
  have h9_ := ca.keep h9_ (ok9 (mo + 9) (by omega))
  have h10_ := ca.keep h10_ (ok9 (mo + 10) (by omega))
  have h11_ := ca.keep h11_ (ok9 (mo + 11) (by omega))
  have h12_ := ca.keep h12_ (ok9 (mo + 12) (by omega))
  have h13_ := ca.keep h13_ (ok9 (mo + 13) (by omega))
  have h14_ := ca.keep h14_ (ok9 (mo + 14) (by omega))
  clear ok9
  refine hp_putF (C := R_M) (T := F_M) (N := 19) (v := .ref (mo + 15)) (ty := .array .int) hx hb hG la_M t_M tk_M n_M hown hK.1 hobj hS (show mo ≤ mo by omega) rfl 18 (by decide) (hG _ fl_M_53) (fun _ h9 => h9) rfl hin rfl (by decide +kernel) rfl rfl (Nat.le_of_ble_eq_true rfl) d_M_init_139 (fun H locs h9 hz1 ok9 hS => ?_)
  have hZ := hz1.trans hZ
  clear hz1
  have h1_ := ca.keep h1_ (ok9 (mo + 1) (by omega))
  have h2_ := ca.keep h2_ (ok9 (mo + 2) (by omega))
  have h3_ := ca.keep h3_ (ok9 (mo + 3) (by omega))
  have h4_ := ca.keep h4_ (ok9 (mo + 4) (by omega))
  have h5_ := ca.keep h5_ (ok9 (mo + 5) (by omega))
  have h6_ := ca.keep h6_ (ok9 (mo + 6) (by omega))
  have h7_ := ca.keep h7_ (ok9 (mo + 7) (by omega))
  have h8_ := ca.keep h8_ (ok9 (mo + 8) (by omega))
  have h9_ := ca.keep h9_ (ok9 (mo + 9) (by omega))
  have h10_ := ca.keep h10_ (ok9 (mo + 10) (by omega))
  have h11_ := ca.keep h11_ (ok9 (mo + 11) (by omega))
  have h12_ := ca.keep h12_ (ok9 (mo + 12) (by omega))
  have h13_ := ca.keep h13_ (ok9 (mo + 13) (by omega))
  have h14_ := ca.keep h14_ (ok9 (mo + 14) (by omega))
  have h15_ := ca.keep h15_ (ok9 (mo + 15) (by omega))
  have hobj := h9
  clear h9
  have hobj : ca E H mo (.inr (3, [.int (iI 0), .ref (mo + 1), .ref (mo + 2), .ref (mo + 3), .ref (mo + 4), .ref (mo + 5), .ref (mo + 6), .int (iI 0), .int (iI 0), .int (iI 0), .ref (mo + 7), .ref (mo + 8), .ref (mo + 9), .ref (mo + 10), .ref (mo + 11), .ref (mo + 12), .ref (mo + 13), .ref (mo + 14), .ref (mo + 15)])) := hobj
  clear ok9
  rw [hQ]
  refine hp_vretN hx hb hrt hlocks d_M_init_142 hS (fun q _ h => h) (by omega) ?_
  have hs1 : ca E H (mo + 1) (ai E 4 (fun k => ((wI k : Nat) : Int))) := by have h9 := h1_; rw [hp_ones] at h9; exact h9
  exact ⟨⟨0, 0, 0, 0, fun _ => 0, fun _ => 0, fun _ => 0, fun _ => 0, fun _ => 0, fun _ => 0, fun _ => 0, fun _ => 0, fun _ => 0, ⟨⟨hobj, hs1, h2_, h3_, h10_⟩, h4_, h5_, h6_, h7_, h8_, h9_, h11_, h12_, h13_⟩, fun i _ h9 => absurd h9 (by decide)⟩, h14_, h15_⟩
