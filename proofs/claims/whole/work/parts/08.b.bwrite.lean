set_option maxHeartbeats 4000000 in
set_option maxRecDepth 100000 in
/-- letter(s, l) -/
theorem c_B_letter (l : Launch) (E : hp_E) (o : Nat) (w c : Nat → Nat) (f : Nat → Nat → Int) (s0 l0 : Int) (hs0 : iR s0) (hl0 : iR l0) : Met l y_B_letter (Cond.code y_B_letter b_B_letter 3 (some .int) :: G0) ({ frames := 1, cells := 0, slots := 0, locals := 21 }) (hp_P E [.ref o, .int (iI s0), .int (iI l0)] (fun H => bAt E H o w c f)) (hp_Qi (fun q => o ≤ q ∧ q ≤ o + 158) (fun r H => (r = (c s0.toNat : Int) + 1 ∧ (0 ≤ s0 ∧ s0 < 4 ∧ l0 ≠ 0 ∧ -(w s0.toNat : Int) < l0 ∧ l0 < (w s0.toNat : Int) ∧ c s0.toNat < 32) ∧ bAt E H o (hp_up w s0.toNat (w s0.toNat)) (hp_up c s0.toNat (c s0.toNat + 1)) (hp_up f s0.toNat (hp_up (f s0.toNat) (c s0.toNat) l0))) ∨ (r = -1 ∧ ¬ (0 ≤ s0 ∧ s0 < 4 ∧ l0 ≠ 0 ∧ -(w s0.toNat : Int) < l0 ∧ l0 < (w s0.toNat : Int) ∧ c s0.toNat < 32) ∧ bAt E H o w c f))) 0 0 (fun q => o ≤ q ∧ q ≤ o + 158) := by
  refine Met.ofW (cc := b_B_letter) (maxL := 3) (ret := some .int) (by decide) rfl ?_
  intro p e s m args below meth cd s₁ Bd hml hv
  obtain ⟨hargs, hB, hK⟩ := hv
  have hx := Bd.exec
  have hb := Bd.bytes
  have hrt := Bd.returns
  have hts := atoms_spec (ws := Cond.code y_B_letter b_B_letter 3 (some .int) :: G0) Bd.pre
  have hG : ∀ w ∈ G0, w.before args s = true := fun w h => hts w (List.mem_cons_of_mem _ h)
  have hown : s.vm.findClass R_B = some m.cls := findClass_of_methodNamed Bd.named
  have hlocks := Bd.notSynchronized
  have hl := lv_entry ([.ref o, .int (iI s0), .int (iI l0)]) (n := 3) (Nat.le_of_ble_eq_true rfl)
  rw [show entryFrame m args 3 = entryFrame m ([.ref o, .int (iI s0), .int (iI l0)] : List Value).toArray 3 from by rw [hargs]]
  rw [lg_entry_eq]
  generalize (lg_sl ([.ref o, .int (iI s0), .int (iI l0)]) ++ List.replicate (3 - (lg_sl ([.ref o, .int (iI s0), .int (iI l0)])).length) Slot.unset).toArray = ls at hl ⊢
  have hl : lv_has ls 3 [(0, .ref o), (1, .int (iI s0)), (2, .int (iI l0))] := hl
  obtain ⟨R, hR⟩ : ∃ R, R = (headSpec (Cond.code y_B_letter b_B_letter 3 (some .int) :: G0) { frames := 1, cells := 0, slots := 0, locals := 21 }).room := ⟨_, rfl⟩
  rw [← hR]
  have hRf : R.frames = 1 := by rw [hR]; rfl
  have hRl : R.locals = 21 := by rw [hR]; rfl
  have hRc : R.cells = 0 := by rw [hR]; rfl
  have hRs : R.slots = 0 := by rw [hR]; rfl
  obtain ⟨Q, hQ⟩ : ∃ Q, Q = MQ below (hp_Qi (fun q => o ≤ q ∧ q ≤ o + 158) (fun r H => (r = (c s0.toNat : Int) + 1 ∧ (0 ≤ s0 ∧ s0 < 4 ∧ l0 ≠ 0 ∧ -(w s0.toNat : Int) < l0 ∧ l0 < (w s0.toNat : Int) ∧ c s0.toNat < 32) ∧ bAt E H o (hp_up w s0.toNat (w s0.toNat)) (hp_up c s0.toNat (c s0.toNat + 1)) (hp_up f s0.toNat (hp_up (f s0.toNat) (c s0.toNat) l0))) ∨ (r = -1 ∧ ¬ (0 ≤ s0 ∧ s0 < 4 ∧ l0 ≠ 0 ∧ -(w s0.toNat : Int) < l0 ∧ l0 < (w s0.toNat : Int) ∧ c s0.toNat < 32) ∧ bAt E H o w c f))) args s 0 0 (fun q => o ≤ q ∧ q ≤ o + 158) := ⟨_, rfl⟩
  rw [← hQ]
  obtain ⟨H, hH⟩ : ∃ H, H = s.heap := ⟨_, rfl⟩
  obtain ⟨locs, hlocs⟩ : ∃ locs : List Loc, locs = [] := ⟨_, rfl⟩
  have hS : va_S (fun q => o ≤ q ∧ q ≤ o + 158) s.heap H locs := by rw [hH, hlocs]; exact va_S.rf
  have hZ : H.size = s.heap.size := by rw [hH]
  rw [← hH] at hB
  rw [show W p l e R s m args below meth cd s.heap [] 0 0 Q (F0 m 0 ls []) = W p l e R s m args below meth cd H locs 0 0 Q (F0 m 0 ls []) from by rw [hH, hlocs]]
  have hbt := hB
  obtain ⟨hb0, hb1, hb2, hWs, hNs⟩ := id hbt
  refine lv_iload_n hx hb d_B_letter_0 rfl (lv_at hl 1 rfl) ?_
  refine hp_callS (W.runS (As := [.int (iI s0)]) (rest := []) ⟨hx, hb, hml, hown, hG⟩ (c_B_isSlot l E s0 (by unfold iR at *; omega)) (cwS 1 hG (hp_goodS ml_B_23 st_B_isSlot in_B co_B_isSlot) rfl rfl rfl hd_B_isSlot ⟨by rw [hRf]; exact Nat.le_of_ble_eq_true rfl, by rw [hRl]; exact Nat.le_of_ble_eq_true rfl⟩) (hp_preS hp_nsn hK trivial) rfl rfl hl.1 rfl (lv_room (Nat.le_of_ble_eq_true rfl)) d_B_letter_1 ⟨by rw [hRc]; exact Nat.le_of_ble_eq_true rfl, by rw [hRs]; exact Nat.le_of_ble_eq_true rfl⟩) ?_
  refine hp_ifb_eq (tgt := 20) hx hb d_B_letter_4 (by decide) (fun c4 => ?_) (fun c4 => ?_)
  · skip
    have c4 := of_decide_eq_false c4
    refine hp_iconst (z := (-1)) hx hb d_B_letter_20 (by rfl) ?_
    rw [hQ]
    refine hp_iretQ hx hb hrt hlocks d_B_letter_21 hS hZ ?_
    exact Or.inr ⟨rfl, by omega, hbt⟩
  · skip
    have c4 := of_decide_eq_true c4
    obtain ⟨t, rfl⟩ : ∃ q : Nat, s0 = (q : Int) := ⟨s0.toNat, by omega⟩
    obtain ⟨⟨hw, hf1⟩, hv⟩ := hWs t (by omega)
    have hv1 := hv.1
    have hv2 := hv.2.1
    have hv3 := hv.2.2.1
    have hbd := hv.2.2.2.1
    have hok := hv.2.2.2.2
    refine lv_aload_n hx hb d_B_letter_7 rfl (lv_at hl 0 rfl) ?_
    refine hp_get (C := R_B) (T := F_B) (N := 2) (v := .ref (o + 1)) hx hb hG la_B hown hK.1 hb0 rfl 0 (by decide) (hG _ fl_B_11) (fun _ h9 => h9) rfl d_B_letter_8 ?_
    refine lv_iload_n hx hb d_B_letter_11 rfl (lv_at hl 1 rfl) ?_
    refine hp_aald hx hb hK.1 2 hb1 rfl rfl d_B_letter_12 (by omega) t (by omega) (by omega) (v := .ref (o + 3 + 39 * t)) (by rw [if_pos (by omega)]; rfl) ?_
    refine lv_iload_n hx hb d_B_letter_13 rfl (lv_at hl 2 rfl) ?_
    refine hp_calli (W.runV (As := [.int (iI l0)]) (rest := []) ⟨hx, hb, hml, hown, hG⟩ (c_W_append l E (o + 3 + 39 * t) (w t) (c t) (f t) l0 hl0 hv2 hv3) (cwV 1 hG (hp_goodV ml_B_31 im_W_append se_W_append in_W co_W_append) rfl rfl rfl hd_W_append ⟨by rw [hRf]; exact Nat.le_of_ble_eq_true rfl, by rw [hRl]; exact Nat.le_of_ble_eq_true rfl⟩) (hp_preV (ci := 0) hp_nsn hK rfl hw ⟨hw, hf1⟩) rfl rfl hl.1 rfl (lv_room (Nat.le_of_ble_eq_true rfl)) d_B_letter_14 ⟨by rw [hRc]; exact Nat.le_of_ble_eq_true rfl, by rw [hRs]; exact Nat.le_of_ble_eq_true rfl⟩) hS (fun q h => by show _ ∧ _; rcases h with h | h <;> omega) (fun r1 H locs hpost hz1 ho1 hS => ?_)
    have hZ := hz1.trans hZ
    have hb0 := hb0.keep (ho1 (o) (by omega))
    have hb1 := hb1.keep (ho1 (o + 1) (by omega))
    have hb2 := hb2.keep (ho1 (o + 2) (by omega))
    have hrr : r1 = 0 ∨ r1 = 1 := by rcases hpost with h9 | h9 <;> omega
    refine hp_if_ne (tgt := 22) hx hb d_B_letter_17 (by decide) (by unfold iR at *; omega) (fun c17 => ?_) (fun c17 => ?_)
    · skip
      obtain ⟨e9, hc9, hw, hf1⟩ : r1 = 1 ∧ (l0 ≠ 0 ∧ -(w t : Int) < l0 ∧ l0 < (w t : Int) ∧ c t < 32) ∧ wAt E H (o + 3 + 39 * t) (w t) (c t + 1) (hp_up (f t) (c t) l0) := by rcases hpost with h9 | h9; exact h9; omega
      refine lv_aload_n hx hb d_B_letter_22 rfl (lv_at hl 0 rfl) ?_
      refine hp_get (C := R_B) (T := F_B) (N := 2) (v := .ref (o + 1)) hx hb hG la_B hown hK.1 hb0 rfl 0 (by decide) (hG _ fl_B_11) (fun _ h9 => h9) rfl d_B_letter_23 ?_
      refine lv_iload_n hx hb d_B_letter_26 rfl (lv_at hl 1 rfl) ?_
      refine hp_aald hx hb hK.1 2 hb1 rfl rfl d_B_letter_27 (by omega) t (by omega) (by omega) (v := .ref (o + 3 + 39 * t)) (by rw [if_pos (by omega)]; rfl) ?_
      refine hp_get (C := R_W) (T := F_W) (N := 3) (v := .int (iI ((c t + 1 : Nat) : Int))) hx hb hG la_W hown hK.1 hw rfl 2 (by decide) (hG _ fl_B_34) (fun _ h9 => h9) rfl d_B_letter_28 ?_
      rw [hQ]
      refine hp_iretQ hx hb hrt hlocks d_B_letter_31 hS hZ ?_
      rw [Int.toNat_natCast]
      exact Or.inl ⟨rfl, by omega, hbt.word (by omega) ho1 ⟨hw, hf1⟩ (vW_app hv hc9.1 hc9.2.1 hc9.2.2.1 hc9.2.2.2)⟩
    · skip
      refine hp_iconst (z := (-1)) hx hb d_B_letter_20 (by rfl) ?_
      rw [hQ]
      refine hp_iretQ hx hb hrt hlocks d_B_letter_21 hS hZ ?_
      rw [Int.toNat_natCast]
      rcases hpost with ⟨e9, hc9, hw9⟩ | ⟨e9, hc9, hw9⟩
      · omega
      · exact Or.inr ⟨rfl, by omega, hbt.word0 (by omega) ho1 hw9⟩

set_option maxHeartbeats 4000000 in
set_option maxRecDepth 100000 in
/-- exchange(s, k) -/
theorem c_B_exchange (l : Launch) (E : hp_E) (o : Nat) (w c : Nat → Nat) (f : Nat → Nat → Int) (s0 k0 : Int) (hs0 : iR s0) (hk0 : iR k0) : Met l y_B_exchange (Cond.code y_B_exchange b_B_exchange 3 (some .boolean) :: G0) ({ frames := 3, cells := 0, slots := 0, locals := 63 }) (hp_P E [.ref o, .int (iI s0), .int (iI k0)] (fun H => bAt E H o w c f)) (hp_Qi (fun q => o ≤ q ∧ q ≤ o + 158) (fun r H => (r = 1 ∧ (0 ≤ s0 ∧ s0 < 4 ∧ bw_far (f s0.toNat) (c s0.toNat) k0) ∧ bAt E H o (hp_up w s0.toNat (w s0.toNat)) (hp_up c s0.toNat (c s0.toNat)) (hp_up f s0.toNat (bw_sw (f s0.toNat) k0.toNat))) ∨ (r = 0 ∧ ¬ (0 ≤ s0 ∧ s0 < 4 ∧ bw_far (f s0.toNat) (c s0.toNat) k0) ∧ bAt E H o w c f))) 0 0 (fun q => o ≤ q ∧ q ≤ o + 158) := by
  refine Met.ofW (cc := b_B_exchange) (maxL := 3) (ret := some .boolean) (by decide) rfl ?_
  intro p e s m args below meth cd s₁ Bd hml hv
  obtain ⟨hargs, hB, hK⟩ := hv
  have hx := Bd.exec
  have hb := Bd.bytes
  have hrt := Bd.returns
  have hts := atoms_spec (ws := Cond.code y_B_exchange b_B_exchange 3 (some .boolean) :: G0) Bd.pre
  have hG : ∀ w ∈ G0, w.before args s = true := fun w h => hts w (List.mem_cons_of_mem _ h)
  have hown : s.vm.findClass R_B = some m.cls := findClass_of_methodNamed Bd.named
  have hlocks := Bd.notSynchronized
  have hl := lv_entry ([.ref o, .int (iI s0), .int (iI k0)]) (n := 3) (Nat.le_of_ble_eq_true rfl)
  rw [show entryFrame m args 3 = entryFrame m ([.ref o, .int (iI s0), .int (iI k0)] : List Value).toArray 3 from by rw [hargs]]
  rw [lg_entry_eq]
  generalize (lg_sl ([.ref o, .int (iI s0), .int (iI k0)]) ++ List.replicate (3 - (lg_sl ([.ref o, .int (iI s0), .int (iI k0)])).length) Slot.unset).toArray = ls at hl ⊢
  have hl : lv_has ls 3 [(0, .ref o), (1, .int (iI s0)), (2, .int (iI k0))] := hl
  obtain ⟨R, hR⟩ : ∃ R, R = (headSpec (Cond.code y_B_exchange b_B_exchange 3 (some .boolean) :: G0) { frames := 3, cells := 0, slots := 0, locals := 63 }).room := ⟨_, rfl⟩
  rw [← hR]
  have hRf : R.frames = 3 := by rw [hR]; rfl
  have hRl : R.locals = 63 := by rw [hR]; rfl
  have hRc : R.cells = 0 := by rw [hR]; rfl
  have hRs : R.slots = 0 := by rw [hR]; rfl
  obtain ⟨Q, hQ⟩ : ∃ Q, Q = MQ below (hp_Qi (fun q => o ≤ q ∧ q ≤ o + 158) (fun r H => (r = 1 ∧ (0 ≤ s0 ∧ s0 < 4 ∧ bw_far (f s0.toNat) (c s0.toNat) k0) ∧ bAt E H o (hp_up w s0.toNat (w s0.toNat)) (hp_up c s0.toNat (c s0.toNat)) (hp_up f s0.toNat (bw_sw (f s0.toNat) k0.toNat))) ∨ (r = 0 ∧ ¬ (0 ≤ s0 ∧ s0 < 4 ∧ bw_far (f s0.toNat) (c s0.toNat) k0) ∧ bAt E H o w c f))) args s 0 0 (fun q => o ≤ q ∧ q ≤ o + 158) := ⟨_, rfl⟩
  rw [← hQ]
  obtain ⟨H, hH⟩ : ∃ H, H = s.heap := ⟨_, rfl⟩
  obtain ⟨locs, hlocs⟩ : ∃ locs : List Loc, locs = [] := ⟨_, rfl⟩
  have hS : va_S (fun q => o ≤ q ∧ q ≤ o + 158) s.heap H locs := by rw [hH, hlocs]; exact va_S.rf
  have hZ : H.size = s.heap.size := by rw [hH]
  rw [← hH] at hB
  rw [show W p l e R s m args below meth cd s.heap [] 0 0 Q (F0 m 0 ls []) = W p l e R s m args below meth cd H locs 0 0 Q (F0 m 0 ls []) from by rw [hH, hlocs]]
  have hbt := hB
  obtain ⟨hb0, hb1, hb2, hWs, hNs⟩ := id hbt
  refine lv_iload_n hx hb d_B_exchange_0 rfl (lv_at hl 1 rfl) ?_
  refine hp_callS (W.runS (As := [.int (iI s0)]) (rest := []) ⟨hx, hb, hml, hown, hG⟩ (c_B_isSlot l E s0 (by unfold iR at *; omega)) (cwS 1 hG (hp_goodS ml_B_23 st_B_isSlot in_B co_B_isSlot) rfl rfl rfl hd_B_isSlot ⟨by rw [hRf]; exact Nat.le_of_ble_eq_true rfl, by rw [hRl]; exact Nat.le_of_ble_eq_true rfl⟩) (hp_preS hp_nsn hK trivial) rfl rfl hl.1 rfl (lv_room (Nat.le_of_ble_eq_true rfl)) d_B_exchange_1 ⟨by rw [hRc]; exact Nat.le_of_ble_eq_true rfl, by rw [hRs]; exact Nat.le_of_ble_eq_true rfl⟩) ?_
  refine hp_ifb_eq (tgt := 24) hx hb d_B_exchange_4 (by decide) (fun c4 => ?_) (fun c4 => ?_)
  · skip
    have c4 := of_decide_eq_false c4
    refine hp_iconst (z := 0) hx hb d_B_exchange_24 (by rfl) ?_
    rw [hQ]
    refine hp_zretQ hx hb hrt hlocks d_B_exchange_25 false (by first | rfl | assumption | simp [bI]) hS hZ ?_
    exact Or.inr ⟨rfl, fun h => c4 ⟨h.1, h.2.1⟩, hbt⟩
  · skip
    have c4 := of_decide_eq_true c4
    obtain ⟨t, rfl⟩ : ∃ q : Nat, s0 = (q : Int) := ⟨s0.toNat, by omega⟩
    obtain ⟨⟨hw, hf1⟩, hv⟩ := hWs t (by omega)
    have hv1 := hv.1
    have hv2 := hv.2.1
    have hv3 := hv.2.2.1
    have hbd := hv.2.2.2.1
    have hok := hv.2.2.2.2
    refine lv_aload_n hx hb d_B_exchange_7 rfl (lv_at hl 0 rfl) ?_
    refine hp_get (C := R_B) (T := F_B) (N := 2) (v := .ref (o + 1)) hx hb hG la_B hown hK.1 hb0 rfl 0 (by decide) (hG _ fl_B_11) (fun _ h9 => h9) rfl d_B_exchange_8 ?_
    refine lv_iload_n hx hb d_B_exchange_11 rfl (lv_at hl 1 rfl) ?_
    refine hp_aald hx hb hK.1 2 hb1 rfl rfl d_B_exchange_12 (by omega) t (by omega) (by omega) (v := .ref (o + 3 + 39 * t)) (by rw [if_pos (by omega)]; rfl) ?_
    refine lv_iload_n hx hb d_B_exchange_13 rfl (lv_at hl 2 rfl) ?_
    refine hp_calli (W.runV (As := [.int (iI k0)]) (rest := []) ⟨hx, hb, hml, hown, hG⟩ (c_W_swapFar l E (o + 3 + 39 * t) (w t) (c t) (f t) k0 hk0 hv3 hbd) (cwV 1 hG (hp_goodV ml_B_86 im_W_swapFar se_W_swapFar in_W co_W_swapFar) rfl rfl rfl hd_W_swapFar ⟨by rw [hRf]; exact Nat.le_of_ble_eq_true rfl, by rw [hRl]; exact Nat.le_of_ble_eq_true rfl⟩) (hp_preV (ci := 0) hp_nsn hK rfl hw ⟨hw, hf1⟩) rfl rfl hl.1 rfl (lv_room (Nat.le_of_ble_eq_true rfl)) d_B_exchange_14 ⟨by rw [hRc]; exact Nat.le_of_ble_eq_true rfl, by rw [hRs]; exact Nat.le_of_ble_eq_true rfl⟩) hS (fun q h => by show _ ∧ _; rcases h with h | h <;> omega) (fun r1 H locs hpost hz1 ho1 hS => ?_)
    have hZ := hz1.trans hZ
    have hb0 := hb0.keep (ho1 (o) (by omega))
    have hb1 := hb1.keep (ho1 (o + 1) (by omega))
    have hb2 := hb2.keep (ho1 (o + 2) (by omega))
    have hrr : r1 = 0 ∨ r1 = 1 := by rcases hpost with h9 | h9 <;> omega
    refine hp_if_eq (tgt := 24) hx hb d_B_exchange_17 (by decide) (by unfold iR at *; omega) (fun c17 => ?_) (fun c17 => ?_)
    · skip
      refine hp_iconst (z := 0) hx hb d_B_exchange_24 (by rfl) ?_
      rw [hQ]
      refine hp_zretQ hx hb hrt hlocks d_B_exchange_25 false (by first | rfl | assumption | simp [bI]) hS hZ ?_
      first | rw [Int.toNat_natCast] | skip
      rcases hpost with ⟨e9, hc9, hw9⟩ | ⟨e9, hc9, hw9⟩
      · omega
      · exact Or.inr ⟨rfl, fun h => hc9 h.2.2, hbt.word0 (by omega) ho1 hw9⟩
    · skip
      refine hp_iconst (z := 1) hx hb d_B_exchange_20 (by rfl) ?_
      refine lv_goto (tgt := 25) hx hb d_B_exchange_21 (by decide) ?_
      rw [hQ]
      refine hp_zretQ hx hb hrt hlocks d_B_exchange_25 true (by first | rfl | assumption | simp [bI]) hS hZ ?_
      rw [Int.toNat_natCast]
      rcases hpost with ⟨e9, hc9, hw9⟩ | ⟨e9, hc9, hw9⟩
      · exact Or.inl ⟨rfl, ⟨by omega, by omega, hc9⟩, hbt.word (by omega) ho1 hw9 (vW_sw hv (by have := hc9.1; have := hc9.2.1; omega))⟩
      · omega

set_option maxHeartbeats 4000000 in
set_option maxRecDepth 100000 in
/-- pass(s, k) -/
theorem c_B_pass (l : Launch) (E : hp_E) (o : Nat) (w c : Nat → Nat) (f : Nat → Nat → Int) (s0 k0 : Int) (hs0 : iR s0) (hk0 : iR k0) : Met l y_B_pass (Cond.code y_B_pass b_B_pass 3 (some .boolean) :: G0) ({ frames := 4, cells := 0, slots := 0, locals := 91 }) (hp_P E [.ref o, .int (iI s0), .int (iI k0)] (fun H => bAt E H o w c f)) (hp_Qi (fun q => o ≤ q ∧ q ≤ o + 158) (fun r H => (r = 1 ∧ (0 ≤ s0 ∧ s0 < 4 ∧ 0 ≤ k0 ∧ k0 ≤ (c s0.toNat : Int) - 3 ∧ bw_can (f s0.toNat) k0.toNat = true) ∧ bAt E H o (hp_up w s0.toNat (w s0.toNat)) (hp_up c s0.toNat (c s0.toNat)) (hp_up f s0.toNat (bw_pas (f s0.toNat) k0.toNat))) ∨ (r = 0 ∧ ¬ (0 ≤ s0 ∧ s0 < 4 ∧ 0 ≤ k0 ∧ k0 ≤ (c s0.toNat : Int) - 3 ∧ bw_can (f s0.toNat) k0.toNat = true) ∧ bAt E H o w c f))) 0 0 (fun q => o ≤ q ∧ q ≤ o + 158) := by
  refine Met.ofW (cc := b_B_pass) (maxL := 3) (ret := some .boolean) (by decide) rfl ?_
  intro p e s m args below meth cd s₁ Bd hml hv
  obtain ⟨hargs, hB, hK⟩ := hv
  have hx := Bd.exec
  have hb := Bd.bytes
  have hrt := Bd.returns
  have hts := atoms_spec (ws := Cond.code y_B_pass b_B_pass 3 (some .boolean) :: G0) Bd.pre
  have hG : ∀ w ∈ G0, w.before args s = true := fun w h => hts w (List.mem_cons_of_mem _ h)
  have hown : s.vm.findClass R_B = some m.cls := findClass_of_methodNamed Bd.named
  have hlocks := Bd.notSynchronized
  have hl := lv_entry ([.ref o, .int (iI s0), .int (iI k0)]) (n := 3) (Nat.le_of_ble_eq_true rfl)
  rw [show entryFrame m args 3 = entryFrame m ([.ref o, .int (iI s0), .int (iI k0)] : List Value).toArray 3 from by rw [hargs]]
  rw [lg_entry_eq]
  generalize (lg_sl ([.ref o, .int (iI s0), .int (iI k0)]) ++ List.replicate (3 - (lg_sl ([.ref o, .int (iI s0), .int (iI k0)])).length) Slot.unset).toArray = ls at hl ⊢
  have hl : lv_has ls 3 [(0, .ref o), (1, .int (iI s0)), (2, .int (iI k0))] := hl
  obtain ⟨R, hR⟩ : ∃ R, R = (headSpec (Cond.code y_B_pass b_B_pass 3 (some .boolean) :: G0) { frames := 4, cells := 0, slots := 0, locals := 91 }).room := ⟨_, rfl⟩
  rw [← hR]
  have hRf : R.frames = 4 := by rw [hR]; rfl
  have hRl : R.locals = 91 := by rw [hR]; rfl
  have hRc : R.cells = 0 := by rw [hR]; rfl
  have hRs : R.slots = 0 := by rw [hR]; rfl
  obtain ⟨Q, hQ⟩ : ∃ Q, Q = MQ below (hp_Qi (fun q => o ≤ q ∧ q ≤ o + 158) (fun r H => (r = 1 ∧ (0 ≤ s0 ∧ s0 < 4 ∧ 0 ≤ k0 ∧ k0 ≤ (c s0.toNat : Int) - 3 ∧ bw_can (f s0.toNat) k0.toNat = true) ∧ bAt E H o (hp_up w s0.toNat (w s0.toNat)) (hp_up c s0.toNat (c s0.toNat)) (hp_up f s0.toNat (bw_pas (f s0.toNat) k0.toNat))) ∨ (r = 0 ∧ ¬ (0 ≤ s0 ∧ s0 < 4 ∧ 0 ≤ k0 ∧ k0 ≤ (c s0.toNat : Int) - 3 ∧ bw_can (f s0.toNat) k0.toNat = true) ∧ bAt E H o w c f))) args s 0 0 (fun q => o ≤ q ∧ q ≤ o + 158) := ⟨_, rfl⟩
  rw [← hQ]
  obtain ⟨H, hH⟩ : ∃ H, H = s.heap := ⟨_, rfl⟩
  obtain ⟨locs, hlocs⟩ : ∃ locs : List Loc, locs = [] := ⟨_, rfl⟩
  have hS : va_S (fun q => o ≤ q ∧ q ≤ o + 158) s.heap H locs := by rw [hH, hlocs]; exact va_S.rf
  have hZ : H.size = s.heap.size := by rw [hH]
  rw [← hH] at hB
  rw [show W p l e R s m args below meth cd s.heap [] 0 0 Q (F0 m 0 ls []) = W p l e R s m args below meth cd H locs 0 0 Q (F0 m 0 ls []) from by rw [hH, hlocs]]
  have hbt := hB
  obtain ⟨hb0, hb1, hb2, hWs, hNs⟩ := id hbt
  refine lv_iload_n hx hb d_B_pass_0 rfl (lv_at hl 1 rfl) ?_
  refine hp_callS (W.runS (As := [.int (iI s0)]) (rest := []) ⟨hx, hb, hml, hown, hG⟩ (c_B_isSlot l E s0 (by unfold iR at *; omega)) (cwS 1 hG (hp_goodS ml_B_23 st_B_isSlot in_B co_B_isSlot) rfl rfl rfl hd_B_isSlot ⟨by rw [hRf]; exact Nat.le_of_ble_eq_true rfl, by rw [hRl]; exact Nat.le_of_ble_eq_true rfl⟩) (hp_preS hp_nsn hK trivial) rfl rfl hl.1 rfl (lv_room (Nat.le_of_ble_eq_true rfl)) d_B_pass_1 ⟨by rw [hRc]; exact Nat.le_of_ble_eq_true rfl, by rw [hRs]; exact Nat.le_of_ble_eq_true rfl⟩) ?_
  refine hp_ifb_eq (tgt := 24) hx hb d_B_pass_4 (by decide) (fun c4 => ?_) (fun c4 => ?_)
  · skip
    have c4 := of_decide_eq_false c4
    refine hp_iconst (z := 0) hx hb d_B_pass_24 (by rfl) ?_
    rw [hQ]
    refine hp_zretQ hx hb hrt hlocks d_B_pass_25 false (by first | rfl | assumption | simp [bI]) hS hZ ?_
    exact Or.inr ⟨rfl, fun h => c4 ⟨h.1, h.2.1⟩, hbt⟩
  · skip
    have c4 := of_decide_eq_true c4
    obtain ⟨t, rfl⟩ : ∃ q : Nat, s0 = (q : Int) := ⟨s0.toNat, by omega⟩
    obtain ⟨⟨hw, hf1⟩, hv⟩ := hWs t (by omega)
    have hv1 := hv.1
    have hv2 := hv.2.1
    have hv3 := hv.2.2.1
    have hbd := hv.2.2.2.1
    have hok := hv.2.2.2.2
    refine lv_aload_n hx hb d_B_pass_7 rfl (lv_at hl 0 rfl) ?_
    refine hp_get (C := R_B) (T := F_B) (N := 2) (v := .ref (o + 1)) hx hb hG la_B hown hK.1 hb0 rfl 0 (by decide) (hG _ fl_B_11) (fun _ h9 => h9) rfl d_B_pass_8 ?_
    refine lv_iload_n hx hb d_B_pass_11 rfl (lv_at hl 1 rfl) ?_
    refine hp_aald hx hb hK.1 2 hb1 rfl rfl d_B_pass_12 (by omega) t (by omega) (by omega) (v := .ref (o + 3 + 39 * t)) (by rw [if_pos (by omega)]; rfl) ?_
    refine lv_iload_n hx hb d_B_pass_13 rfl (lv_at hl 2 rfl) ?_
    refine hp_calli (W.runV (As := [.int (iI k0)]) (rest := []) ⟨hx, hb, hml, hown, hG⟩ (c_W_passOver l E (o + 3 + 39 * t) (w t) (c t) (f t) k0 hk0 hv3 hbd) (cwV 1 hG (hp_goodV ml_B_89 im_W_passOver se_W_passOver in_W co_W_passOver) rfl rfl rfl hd_W_passOver ⟨by rw [hRf]; exact Nat.le_of_ble_eq_true rfl, by rw [hRl]; exact Nat.le_of_ble_eq_true rfl⟩) (hp_preV (ci := 0) hp_nsn hK rfl hw ⟨hw, hf1⟩) rfl rfl hl.1 rfl (lv_room (Nat.le_of_ble_eq_true rfl)) d_B_pass_14 ⟨by rw [hRc]; exact Nat.le_of_ble_eq_true rfl, by rw [hRs]; exact Nat.le_of_ble_eq_true rfl⟩) hS (fun q h => by show _ ∧ _; rcases h with h | h <;> omega) (fun r1 H locs hpost hz1 ho1 hS => ?_)
    have hZ := hz1.trans hZ
    have hb0 := hb0.keep (ho1 (o) (by omega))
    have hb1 := hb1.keep (ho1 (o + 1) (by omega))
    have hb2 := hb2.keep (ho1 (o + 2) (by omega))
    have hrr : r1 = 0 ∨ r1 = 1 := by rcases hpost with h9 | h9 <;> omega
    refine hp_if_eq (tgt := 24) hx hb d_B_pass_17 (by decide) (by unfold iR at *; omega) (fun c17 => ?_) (fun c17 => ?_)
    · skip
      refine hp_iconst (z := 0) hx hb d_B_pass_24 (by rfl) ?_
      rw [hQ]
      refine hp_zretQ hx hb hrt hlocks d_B_pass_25 false (by first | rfl | assumption | simp [bI]) hS hZ ?_
      first | rw [Int.toNat_natCast] | skip
      rcases hpost with ⟨e9, hc9, hw9⟩ | ⟨e9, hc9, hw9⟩
      · omega
      · exact Or.inr ⟨rfl, fun h => hc9 h.2.2, hbt.word0 (by omega) ho1 hw9⟩
    · skip
      refine hp_iconst (z := 1) hx hb d_B_pass_20 (by rfl) ?_
      refine lv_goto (tgt := 25) hx hb d_B_pass_21 (by decide) ?_
      rw [hQ]
      refine hp_zretQ hx hb hrt hlocks d_B_pass_25 true (by first | rfl | assumption | simp [bI]) hS hZ ?_
      rw [Int.toNat_natCast]
      rcases hpost with ⟨e9, hc9, hw9⟩ | ⟨e9, hc9, hw9⟩
      · exact Or.inl ⟨rfl, ⟨by omega, by omega, hc9⟩, hbt.word (by omega) ho1 hw9 (vW_pas hv (by have := hc9.1; have := hc9.2.1; omega))⟩
      · omega

set_option maxHeartbeats 4000000 in
set_option maxRecDepth 100000 in
/-- grow(s, sign) -/
theorem c_B_grow (l : Launch) (E : hp_E) (o : Nat) (w c : Nat → Nat) (f : Nat → Nat → Int) (s0 g0 : Int) (hs0 : iR s0) (hg0 : iR g0) : Met l y_B_grow (Cond.code y_B_grow b_B_grow 3 (some .boolean) :: G0) ({ frames := 1, cells := 0, slots := 0, locals := 21 }) (hp_P E [.ref o, .int (iI s0), .int (iI g0)] (fun H => bAt E H o w c f)) (hp_Qi (fun q => o ≤ q ∧ q ≤ o + 158) (fun r H => (r = 1 ∧ (0 ≤ s0 ∧ s0 < 4 ∧ (g0 = 1 ∨ g0 = -1) ∧ w s0.toNat < 8 ∧ c s0.toNat < 32) ∧ bAt E H o (hp_up w s0.toNat (w s0.toNat + 1)) (hp_up c s0.toNat (c s0.toNat + 1)) (hp_up f s0.toNat (hp_up (f s0.toNat) (c s0.toNat) (g0 * (w s0.toNat : Int))))) ∨ (r = 0 ∧ ¬ (0 ≤ s0 ∧ s0 < 4 ∧ (g0 = 1 ∨ g0 = -1) ∧ w s0.toNat < 8 ∧ c s0.toNat < 32) ∧ bAt E H o w c f))) 0 0 (fun q => o ≤ q ∧ q ≤ o + 158) := by
  refine Met.ofW (cc := b_B_grow) (maxL := 3) (ret := some .boolean) (by decide) rfl ?_
  intro p e s m args below meth cd s₁ Bd hml hv
  obtain ⟨hargs, hB, hK⟩ := hv
  have hx := Bd.exec
  have hb := Bd.bytes
  have hrt := Bd.returns
  have hts := atoms_spec (ws := Cond.code y_B_grow b_B_grow 3 (some .boolean) :: G0) Bd.pre
  have hG : ∀ w ∈ G0, w.before args s = true := fun w h => hts w (List.mem_cons_of_mem _ h)
  have hown : s.vm.findClass R_B = some m.cls := findClass_of_methodNamed Bd.named
  have hlocks := Bd.notSynchronized
  have hl := lv_entry ([.ref o, .int (iI s0), .int (iI g0)]) (n := 3) (Nat.le_of_ble_eq_true rfl)
  rw [show entryFrame m args 3 = entryFrame m ([.ref o, .int (iI s0), .int (iI g0)] : List Value).toArray 3 from by rw [hargs]]
  rw [lg_entry_eq]
  generalize (lg_sl ([.ref o, .int (iI s0), .int (iI g0)]) ++ List.replicate (3 - (lg_sl ([.ref o, .int (iI s0), .int (iI g0)])).length) Slot.unset).toArray = ls at hl ⊢
  have hl : lv_has ls 3 [(0, .ref o), (1, .int (iI s0)), (2, .int (iI g0))] := hl
  obtain ⟨R, hR⟩ : ∃ R, R = (headSpec (Cond.code y_B_grow b_B_grow 3 (some .boolean) :: G0) { frames := 1, cells := 0, slots := 0, locals := 21 }).room := ⟨_, rfl⟩
  rw [← hR]
  have hRf : R.frames = 1 := by rw [hR]; rfl
  have hRl : R.locals = 21 := by rw [hR]; rfl
  have hRc : R.cells = 0 := by rw [hR]; rfl
  have hRs : R.slots = 0 := by rw [hR]; rfl
  obtain ⟨Q, hQ⟩ : ∃ Q, Q = MQ below (hp_Qi (fun q => o ≤ q ∧ q ≤ o + 158) (fun r H => (r = 1 ∧ (0 ≤ s0 ∧ s0 < 4 ∧ (g0 = 1 ∨ g0 = -1) ∧ w s0.toNat < 8 ∧ c s0.toNat < 32) ∧ bAt E H o (hp_up w s0.toNat (w s0.toNat + 1)) (hp_up c s0.toNat (c s0.toNat + 1)) (hp_up f s0.toNat (hp_up (f s0.toNat) (c s0.toNat) (g0 * (w s0.toNat : Int))))) ∨ (r = 0 ∧ ¬ (0 ≤ s0 ∧ s0 < 4 ∧ (g0 = 1 ∨ g0 = -1) ∧ w s0.toNat < 8 ∧ c s0.toNat < 32) ∧ bAt E H o w c f))) args s 0 0 (fun q => o ≤ q ∧ q ≤ o + 158) := ⟨_, rfl⟩
  rw [← hQ]
  obtain ⟨H, hH⟩ : ∃ H, H = s.heap := ⟨_, rfl⟩
  obtain ⟨locs, hlocs⟩ : ∃ locs : List Loc, locs = [] := ⟨_, rfl⟩
  have hS : va_S (fun q => o ≤ q ∧ q ≤ o + 158) s.heap H locs := by rw [hH, hlocs]; exact va_S.rf
  have hZ : H.size = s.heap.size := by rw [hH]
  rw [← hH] at hB
  rw [show W p l e R s m args below meth cd s.heap [] 0 0 Q (F0 m 0 ls []) = W p l e R s m args below meth cd H locs 0 0 Q (F0 m 0 ls []) from by rw [hH, hlocs]]
  have hbt := hB
  obtain ⟨hb0, hb1, hb2, hWs, hNs⟩ := id hbt
  refine lv_iload_n hx hb d_B_grow_0 rfl (lv_at hl 1 rfl) ?_
  refine hp_callS (W.runS (As := [.int (iI s0)]) (rest := []) ⟨hx, hb, hml, hown, hG⟩ (c_B_isSlot l E s0 (by unfold iR at *; omega)) (cwS 1 hG (hp_goodS ml_B_23 st_B_isSlot in_B co_B_isSlot) rfl rfl rfl hd_B_isSlot ⟨by rw [hRf]; exact Nat.le_of_ble_eq_true rfl, by rw [hRl]; exact Nat.le_of_ble_eq_true rfl⟩) (hp_preS hp_nsn hK trivial) rfl rfl hl.1 rfl (lv_room (Nat.le_of_ble_eq_true rfl)) d_B_grow_1 ⟨by rw [hRc]; exact Nat.le_of_ble_eq_true rfl, by rw [hRs]; exact Nat.le_of_ble_eq_true rfl⟩) ?_
  refine hp_ifb_eq (tgt := 24) hx hb d_B_grow_4 (by decide) (fun c4 => ?_) (fun c4 => ?_)
  · skip
    have c4 := of_decide_eq_false c4
    refine hp_iconst (z := 0) hx hb d_B_grow_24 (by rfl) ?_
    rw [hQ]
    refine hp_zretQ hx hb hrt hlocks d_B_grow_25 false (by first | rfl | assumption | simp [bI]) hS hZ ?_
    exact Or.inr ⟨rfl, fun h => c4 ⟨h.1, h.2.1⟩, hbt⟩
  · skip
    have c4 := of_decide_eq_true c4
    obtain ⟨t, rfl⟩ : ∃ q : Nat, s0 = (q : Int) := ⟨s0.toNat, by omega⟩
    obtain ⟨⟨hw, hf1⟩, hv⟩ := hWs t (by omega)
    have hv1 := hv.1
    have hv2 := hv.2.1
    have hv3 := hv.2.2.1
    have hbd := hv.2.2.2.1
    have hok := hv.2.2.2.2
    refine lv_aload_n hx hb d_B_grow_7 rfl (lv_at hl 0 rfl) ?_
    refine hp_get (C := R_B) (T := F_B) (N := 2) (v := .ref (o + 1)) hx hb hG la_B hown hK.1 hb0 rfl 0 (by decide) (hG _ fl_B_11) (fun _ h9 => h9) rfl d_B_grow_8 ?_
    refine lv_iload_n hx hb d_B_grow_11 rfl (lv_at hl 1 rfl) ?_
    refine hp_aald hx hb hK.1 2 hb1 rfl rfl d_B_grow_12 (by omega) t (by omega) (by omega) (v := .ref (o + 3 + 39 * t)) (by rw [if_pos (by omega)]; rfl) ?_
    refine lv_iload_n hx hb d_B_grow_13 rfl (lv_at hl 2 rfl) ?_
    refine hp_calli (W.runV (As := [.int (iI g0)]) (rest := []) ⟨hx, hb, hml, hown, hG⟩ (c_W_addStrand l E (o + 3 + 39 * t) (w t) (c t) (f t) g0 hg0 hv2 hv3) (cwV 1 hG (hp_goodV ml_B_92 im_W_addStrand se_W_addStrand in_W co_W_addStrand) rfl rfl rfl hd_W_addStrand ⟨by rw [hRf]; exact Nat.le_of_ble_eq_true rfl, by rw [hRl]; exact Nat.le_of_ble_eq_true rfl⟩) (hp_preV (ci := 0) hp_nsn hK rfl hw ⟨hw, hf1⟩) rfl rfl hl.1 rfl (lv_room (Nat.le_of_ble_eq_true rfl)) d_B_grow_14 ⟨by rw [hRc]; exact Nat.le_of_ble_eq_true rfl, by rw [hRs]; exact Nat.le_of_ble_eq_true rfl⟩) hS (fun q h => by show _ ∧ _; rcases h with h | h <;> omega) (fun r1 H locs hpost hz1 ho1 hS => ?_)
    have hZ := hz1.trans hZ
    have hb0 := hb0.keep (ho1 (o) (by omega))
    have hb1 := hb1.keep (ho1 (o + 1) (by omega))
    have hb2 := hb2.keep (ho1 (o + 2) (by omega))
    have hrr : r1 = 0 ∨ r1 = 1 := by rcases hpost with h9 | h9 <;> omega
    refine hp_if_eq (tgt := 24) hx hb d_B_grow_17 (by decide) (by unfold iR at *; omega) (fun c17 => ?_) (fun c17 => ?_)
    · skip
      refine hp_iconst (z := 0) hx hb d_B_grow_24 (by rfl) ?_
      rw [hQ]
      refine hp_zretQ hx hb hrt hlocks d_B_grow_25 false (by first | rfl | assumption | simp [bI]) hS hZ ?_
      first | rw [Int.toNat_natCast] | skip
      rcases hpost with ⟨e9, hc9, hw9⟩ | ⟨e9, hc9, hw9⟩
      · omega
      · exact Or.inr ⟨rfl, fun h => hc9 h.2.2, hbt.word0 (by omega) ho1 hw9⟩
    · skip
      refine hp_iconst (z := 1) hx hb d_B_grow_20 (by rfl) ?_
      refine lv_goto (tgt := 25) hx hb d_B_grow_21 (by decide) ?_
      rw [hQ]
      refine hp_zretQ hx hb hrt hlocks d_B_grow_25 true (by first | rfl | assumption | simp [bI]) hS hZ ?_
      rw [Int.toNat_natCast]
      rcases hpost with ⟨e9, hc9, hw9⟩ | ⟨e9, hc9, hw9⟩
      · exact Or.inl ⟨rfl, ⟨by omega, by omega, hc9⟩, hbt.word (by omega) ho1 hw9 (vW_grow hv hc9.1 hc9.2.1 hc9.2.2)⟩
      · omega

set_option maxHeartbeats 4000000 in
set_option maxRecDepth 100000 in
/-- shrink(s) -/
theorem c_B_shrink (l : Launch) (E : hp_E) (o : Nat) (w c : Nat → Nat) (f : Nat → Nat → Int) (s0 : Int) (hs0 : iR s0) : Met l y_B_shrink (Cond.code y_B_shrink b_B_shrink 2 (some .boolean) :: G0) ({ frames := 3, cells := 0, slots := 0, locals := 63 }) (hp_P E [.ref o, .int (iI s0)] (fun H => bAt E H o w c f)) (hp_Qi (fun q => o ≤ q ∧ q ≤ o + 158) (fun r H => (r = 1 ∧ (0 ≤ s0 ∧ s0 < 4 ∧ 0 < c s0.toNat ∧ (f s0.toNat (c s0.toNat - 1)).natAbs + 1 = w s0.toNat ∧ ∀ i, i < c s0.toNat - 1 → (f s0.toNat i).natAbs + 1 ≠ w s0.toNat) ∧ bAt E H o (hp_up w s0.toNat (w s0.toNat - 1)) (hp_up c s0.toNat (c s0.toNat - 1)) (hp_up f s0.toNat (f s0.toNat))) ∨ (r = 0 ∧ ¬ (0 ≤ s0 ∧ s0 < 4 ∧ 0 < c s0.toNat ∧ (f s0.toNat (c s0.toNat - 1)).natAbs + 1 = w s0.toNat ∧ ∀ i, i < c s0.toNat - 1 → (f s0.toNat i).natAbs + 1 ≠ w s0.toNat) ∧ bAt E H o w c f))) 0 0 (fun q => o ≤ q ∧ q ≤ o + 158) := by
  refine Met.ofW (cc := b_B_shrink) (maxL := 2) (ret := some .boolean) (by decide) rfl ?_
  intro p e s m args below meth cd s₁ Bd hml hv
  obtain ⟨hargs, hB, hK⟩ := hv
  have hx := Bd.exec
  have hb := Bd.bytes
  have hrt := Bd.returns
  have hts := atoms_spec (ws := Cond.code y_B_shrink b_B_shrink 2 (some .boolean) :: G0) Bd.pre
  have hG : ∀ w ∈ G0, w.before args s = true := fun w h => hts w (List.mem_cons_of_mem _ h)
  have hown : s.vm.findClass R_B = some m.cls := findClass_of_methodNamed Bd.named
  have hlocks := Bd.notSynchronized
  have hl := lv_entry ([.ref o, .int (iI s0)]) (n := 2) (Nat.le_of_ble_eq_true rfl)
  rw [show entryFrame m args 2 = entryFrame m ([.ref o, .int (iI s0)] : List Value).toArray 2 from by rw [hargs]]
  rw [lg_entry_eq]
  generalize (lg_sl ([.ref o, .int (iI s0)]) ++ List.replicate (2 - (lg_sl ([.ref o, .int (iI s0)])).length) Slot.unset).toArray = ls at hl ⊢
  have hl : lv_has ls 2 [(0, .ref o), (1, .int (iI s0))] := hl
  obtain ⟨R, hR⟩ : ∃ R, R = (headSpec (Cond.code y_B_shrink b_B_shrink 2 (some .boolean) :: G0) { frames := 3, cells := 0, slots := 0, locals := 63 }).room := ⟨_, rfl⟩
  rw [← hR]
  have hRf : R.frames = 3 := by rw [hR]; rfl
  have hRl : R.locals = 63 := by rw [hR]; rfl
  have hRc : R.cells = 0 := by rw [hR]; rfl
  have hRs : R.slots = 0 := by rw [hR]; rfl
  obtain ⟨Q, hQ⟩ : ∃ Q, Q = MQ below (hp_Qi (fun q => o ≤ q ∧ q ≤ o + 158) (fun r H => (r = 1 ∧ (0 ≤ s0 ∧ s0 < 4 ∧ 0 < c s0.toNat ∧ (f s0.toNat (c s0.toNat - 1)).natAbs + 1 = w s0.toNat ∧ ∀ i, i < c s0.toNat - 1 → (f s0.toNat i).natAbs + 1 ≠ w s0.toNat) ∧ bAt E H o (hp_up w s0.toNat (w s0.toNat - 1)) (hp_up c s0.toNat (c s0.toNat - 1)) (hp_up f s0.toNat (f s0.toNat))) ∨ (r = 0 ∧ ¬ (0 ≤ s0 ∧ s0 < 4 ∧ 0 < c s0.toNat ∧ (f s0.toNat (c s0.toNat - 1)).natAbs + 1 = w s0.toNat ∧ ∀ i, i < c s0.toNat - 1 → (f s0.toNat i).natAbs + 1 ≠ w s0.toNat) ∧ bAt E H o w c f))) args s 0 0 (fun q => o ≤ q ∧ q ≤ o + 158) := ⟨_, rfl⟩
  rw [← hQ]
  obtain ⟨H, hH⟩ : ∃ H, H = s.heap := ⟨_, rfl⟩
  obtain ⟨locs, hlocs⟩ : ∃ locs : List Loc, locs = [] := ⟨_, rfl⟩
  have hS : va_S (fun q => o ≤ q ∧ q ≤ o + 158) s.heap H locs := by rw [hH, hlocs]; exact va_S.rf
  have hZ : H.size = s.heap.size := by rw [hH]
  rw [← hH] at hB
  rw [show W p l e R s m args below meth cd s.heap [] 0 0 Q (F0 m 0 ls []) = W p l e R s m args below meth cd H locs 0 0 Q (F0 m 0 ls []) from by rw [hH, hlocs]]
  have hbt := hB
  obtain ⟨hb0, hb1, hb2, hWs, hNs⟩ := id hbt
  refine lv_iload_n hx hb d_B_shrink_0 rfl (lv_at hl 1 rfl) ?_
  refine hp_callS (W.runS (As := [.int (iI s0)]) (rest := []) ⟨hx, hb, hml, hown, hG⟩ (c_B_isSlot l E s0 (by unfold iR at *; omega)) (cwS 1 hG (hp_goodS ml_B_23 st_B_isSlot in_B co_B_isSlot) rfl rfl rfl hd_B_isSlot ⟨by rw [hRf]; exact Nat.le_of_ble_eq_true rfl, by rw [hRl]; exact Nat.le_of_ble_eq_true rfl⟩) (hp_preS hp_nsn hK trivial) rfl rfl hl.1 rfl (lv_room (Nat.le_of_ble_eq_true rfl)) d_B_shrink_1 ⟨by rw [hRc]; exact Nat.le_of_ble_eq_true rfl, by rw [hRs]; exact Nat.le_of_ble_eq_true rfl⟩) ?_
  refine hp_ifb_eq (tgt := 23) hx hb d_B_shrink_4 (by decide) (fun c4 => ?_) (fun c4 => ?_)
  · skip
    have c4 := of_decide_eq_false c4
    refine hp_iconst (z := 0) hx hb d_B_shrink_23 (by rfl) ?_
    rw [hQ]
    refine hp_zretQ hx hb hrt hlocks d_B_shrink_24 false (by first | rfl | assumption | simp [bI]) hS hZ ?_
    exact Or.inr ⟨rfl, fun h => c4 ⟨h.1, h.2.1⟩, hbt⟩
  · skip
    have c4 := of_decide_eq_true c4
    obtain ⟨t, rfl⟩ : ∃ q : Nat, s0 = (q : Int) := ⟨s0.toNat, by omega⟩
    obtain ⟨⟨hw, hf1⟩, hv⟩ := hWs t (by omega)
    have hv1 := hv.1
    have hv2 := hv.2.1
    have hv3 := hv.2.2.1
    have hbd := hv.2.2.2.1
    have hok := hv.2.2.2.2
    refine lv_aload_n hx hb d_B_shrink_7 rfl (lv_at hl 0 rfl) ?_
    refine hp_get (C := R_B) (T := F_B) (N := 2) (v := .ref (o + 1)) hx hb hG la_B hown hK.1 hb0 rfl 0 (by decide) (hG _ fl_B_11) (fun _ h9 => h9) rfl d_B_shrink_8 ?_
    refine lv_iload_n hx hb d_B_shrink_11 rfl (lv_at hl 1 rfl) ?_
    refine hp_aald hx hb hK.1 2 hb1 rfl rfl d_B_shrink_12 (by omega) t (by omega) (by omega) (v := .ref (o + 3 + 39 * t)) (by rw [if_pos (by omega)]; rfl) ?_
    refine hp_calli (W.runV (As := []) (rest := []) ⟨hx, hb, hml, hown, hG⟩ (c_W_dropStrand l E (o + 3 + 39 * t) (w t) (c t) (f t) hv2 hv3 hbd) (cwV 0 hG (hp_goodV ml_B_95 im_W_dropStrand se_W_dropStrand in_W co_W_dropStrand) rfl rfl rfl hd_W_dropStrand ⟨by rw [hRf]; exact Nat.le_of_ble_eq_true rfl, by rw [hRl]; exact Nat.le_of_ble_eq_true rfl⟩) (hp_preV (ci := 0) hp_nsn hK rfl hw ⟨hw, hf1⟩) rfl rfl hl.1 rfl (lv_room (Nat.le_of_ble_eq_true rfl)) d_B_shrink_13 ⟨by rw [hRc]; exact Nat.le_of_ble_eq_true rfl, by rw [hRs]; exact Nat.le_of_ble_eq_true rfl⟩) hS (fun q h => by show _ ∧ _; rcases h with h | h <;> omega) (fun r1 H locs hpost hz1 ho1 hS => ?_)
    have hZ := hz1.trans hZ
    have hb0 := hb0.keep (ho1 (o) (by omega))
    have hb1 := hb1.keep (ho1 (o + 1) (by omega))
    have hb2 := hb2.keep (ho1 (o + 2) (by omega))
    have hrr : r1 = 0 ∨ r1 = 1 := by rcases hpost with h9 | h9 <;> omega
    refine hp_if_eq (tgt := 23) hx hb d_B_shrink_16 (by decide) (by unfold iR at *; omega) (fun c16 => ?_) (fun c16 => ?_)
    · skip
      refine hp_iconst (z := 0) hx hb d_B_shrink_23 (by rfl) ?_
      rw [hQ]
      refine hp_zretQ hx hb hrt hlocks d_B_shrink_24 false (by first | rfl | assumption | simp [bI]) hS hZ ?_
      first | rw [Int.toNat_natCast] | skip
      rcases hpost with ⟨e9, hc9, hw9⟩ | ⟨e9, hc9, hw9⟩
      · omega
      · exact Or.inr ⟨rfl, fun h => hc9 h.2.2, hbt.word0 (by omega) ho1 hw9⟩
    · skip
      refine hp_iconst (z := 1) hx hb d_B_shrink_19 (by rfl) ?_
      refine lv_goto (tgt := 24) hx hb d_B_shrink_20 (by decide) ?_
      rw [hQ]
      refine hp_zretQ hx hb hrt hlocks d_B_shrink_24 true (by first | rfl | assumption | simp [bI]) hS hZ ?_
      rw [Int.toNat_natCast]
      rcases hpost with ⟨e9, hc9, hw9⟩ | ⟨e9, hc9, hw9⟩
      · exact Or.inl ⟨rfl, ⟨by omega, by omega, hc9⟩, hbt.word (by omega) ho1 hw9 (vW_drop hv hc9.1 hc9.2.1 hc9.2.2)⟩
      · omega

set_option maxHeartbeats 4000000 in
set_option maxRecDepth 100000 in
/-- round(s, back) -/
theorem c_B_round (l : Launch) (E : hp_E) (o : Nat) (w c : Nat → Nat) (f : Nat → Nat → Int) (s0 : Int) (bk : Bool) (hs0 : iR s0) : Met l y_B_round (Cond.code y_B_round b_B_round 3 (some .boolean) :: G0) ({ frames := 2, cells := 0, slots := 0, locals := 81 }) (hp_P E [.ref o, .int (iI s0), .int (iI (bI bk))] (fun H => bAt E H o w c f)) (hp_Qi (fun q => o ≤ q ∧ q ≤ o + 158) (fun r H => (r = 1 ∧ (0 ≤ s0 ∧ s0 < 4 ∧ 0 < c s0.toNat) ∧ bAt E H o (hp_up w s0.toNat (w s0.toNat)) (hp_up c s0.toNat (c s0.toNat)) (hp_up f s0.toNat (if bk then hp_up (va_cpy (f s0.toNat) (f s0.toNat) 0 1 (c s0.toNat - 1)) 0 (f s0.toNat (c s0.toNat - 1)) else hp_up (va_cpy (f s0.toNat) (f s0.toNat) 1 0 (c s0.toNat - 1)) (c s0.toNat - 1) (f s0.toNat 0)))) ∨ (r = 0 ∧ ¬ (0 ≤ s0 ∧ s0 < 4 ∧ 0 < c s0.toNat) ∧ bAt E H o w c f))) 0 0 (fun q => o ≤ q ∧ q ≤ o + 158) := by
  refine Met.ofW (cc := b_B_round) (maxL := 3) (ret := some .boolean) (by decide) rfl ?_
  intro p e s m args below meth cd s₁ Bd hml hv
  obtain ⟨hargs, hB, hK⟩ := hv
  have hx := Bd.exec
  have hb := Bd.bytes
  have hrt := Bd.returns
  have hts := atoms_spec (ws := Cond.code y_B_round b_B_round 3 (some .boolean) :: G0) Bd.pre
  have hG : ∀ w ∈ G0, w.before args s = true := fun w h => hts w (List.mem_cons_of_mem _ h)
  have hown : s.vm.findClass R_B = some m.cls := findClass_of_methodNamed Bd.named
  have hlocks := Bd.notSynchronized
  have hl := lv_entry ([.ref o, .int (iI s0), .int (iI (bI bk))]) (n := 3) (Nat.le_of_ble_eq_true rfl)
  rw [show entryFrame m args 3 = entryFrame m ([.ref o, .int (iI s0), .int (iI (bI bk))] : List Value).toArray 3 from by rw [hargs]]
  rw [lg_entry_eq]
  generalize (lg_sl ([.ref o, .int (iI s0), .int (iI (bI bk))]) ++ List.replicate (3 - (lg_sl ([.ref o, .int (iI s0), .int (iI (bI bk))])).length) Slot.unset).toArray = ls at hl ⊢
  have hl : lv_has ls 3 [(0, .ref o), (1, .int (iI s0)), (2, .int (iI (bI bk)))] := hl
  obtain ⟨R, hR⟩ : ∃ R, R = (headSpec (Cond.code y_B_round b_B_round 3 (some .boolean) :: G0) { frames := 2, cells := 0, slots := 0, locals := 81 }).room := ⟨_, rfl⟩
  rw [← hR]
  have hRf : R.frames = 2 := by rw [hR]; rfl
  have hRl : R.locals = 81 := by rw [hR]; rfl
  have hRc : R.cells = 0 := by rw [hR]; rfl
  have hRs : R.slots = 0 := by rw [hR]; rfl
  obtain ⟨Q, hQ⟩ : ∃ Q, Q = MQ below (hp_Qi (fun q => o ≤ q ∧ q ≤ o + 158) (fun r H => (r = 1 ∧ (0 ≤ s0 ∧ s0 < 4 ∧ 0 < c s0.toNat) ∧ bAt E H o (hp_up w s0.toNat (w s0.toNat)) (hp_up c s0.toNat (c s0.toNat)) (hp_up f s0.toNat (if bk then hp_up (va_cpy (f s0.toNat) (f s0.toNat) 0 1 (c s0.toNat - 1)) 0 (f s0.toNat (c s0.toNat - 1)) else hp_up (va_cpy (f s0.toNat) (f s0.toNat) 1 0 (c s0.toNat - 1)) (c s0.toNat - 1) (f s0.toNat 0)))) ∨ (r = 0 ∧ ¬ (0 ≤ s0 ∧ s0 < 4 ∧ 0 < c s0.toNat) ∧ bAt E H o w c f))) args s 0 0 (fun q => o ≤ q ∧ q ≤ o + 158) := ⟨_, rfl⟩
  rw [← hQ]
  obtain ⟨H, hH⟩ : ∃ H, H = s.heap := ⟨_, rfl⟩
  obtain ⟨locs, hlocs⟩ : ∃ locs : List Loc, locs = [] := ⟨_, rfl⟩
  have hS : va_S (fun q => o ≤ q ∧ q ≤ o + 158) s.heap H locs := by rw [hH, hlocs]; exact va_S.rf
  have hZ : H.size = s.heap.size := by rw [hH]
  rw [← hH] at hB
  rw [show W p l e R s m args below meth cd s.heap [] 0 0 Q (F0 m 0 ls []) = W p l e R s m args below meth cd H locs 0 0 Q (F0 m 0 ls []) from by rw [hH, hlocs]]
  have hbt := hB
  obtain ⟨hb0, hb1, hb2, hWs, hNs⟩ := id hbt
  refine lv_iload_n hx hb d_B_round_0 rfl (lv_at hl 1 rfl) ?_
  refine hp_callS (W.runS (As := [.int (iI s0)]) (rest := []) ⟨hx, hb, hml, hown, hG⟩ (c_B_isSlot l E s0 (by unfold iR at *; omega)) (cwS 1 hG (hp_goodS ml_B_23 st_B_isSlot in_B co_B_isSlot) rfl rfl rfl hd_B_isSlot ⟨by rw [hRf]; exact Nat.le_of_ble_eq_true rfl, by rw [hRl]; exact Nat.le_of_ble_eq_true rfl⟩) (hp_preS hp_nsn hK trivial) rfl rfl hl.1 rfl (lv_room (Nat.le_of_ble_eq_true rfl)) d_B_round_1 ⟨by rw [hRc]; exact Nat.le_of_ble_eq_true rfl, by rw [hRs]; exact Nat.le_of_ble_eq_true rfl⟩) ?_
  refine hp_ifb_eq (tgt := 42) hx hb d_B_round_4 (by decide) (fun c4 => ?_) (fun c4 => ?_)
  · skip
    have c4 := of_decide_eq_false c4
    refine hp_iconst (z := 0) hx hb d_B_round_42 (by rfl) ?_
    rw [hQ]
    refine hp_zretQ hx hb hrt hlocks d_B_round_43 false (by first | rfl | assumption | simp [bI]) hS hZ ?_
    exact Or.inr ⟨rfl, by omega, hbt⟩
  · skip
    have c4 := of_decide_eq_true c4
    obtain ⟨t, rfl⟩ : ∃ q : Nat, s0 = (q : Int) := ⟨s0.toNat, by omega⟩
    obtain ⟨⟨hw, hf1⟩, hv⟩ := hWs t (by omega)
    have hv1 := hv.1
    have hv2 := hv.2.1
    have hv3 := hv.2.2.1
    have hbd := hv.2.2.2.1
    have hok := hv.2.2.2.2
    refine lv_iload_n hx hb d_B_round_7 rfl (lv_at hl 2 rfl) ?_
    refine hp_ifb_eq (tgt := 26) hx hb d_B_round_8 (by decide) (fun c8 => ?_) (fun c8 => ?_)
    · skip
      refine lv_aload_n hx hb d_B_round_26 rfl (lv_at hl 0 rfl) ?_
      refine hp_get (C := R_B) (T := F_B) (N := 2) (v := .ref (o + 1)) hx hb hG la_B hown hK.1 hb0 rfl 0 (by decide) (hG _ fl_B_11) (fun _ h9 => h9) rfl d_B_round_27 ?_
      refine lv_iload_n hx hb d_B_round_30 rfl (lv_at hl 1 rfl) ?_
      refine hp_aald hx hb hK.1 2 hb1 rfl rfl d_B_round_31 (by omega) t (by omega) (by omega) (v := .ref (o + 3 + 39 * t)) (by rw [if_pos (by omega)]; rfl) ?_
      refine hp_calli (W.runV (As := []) (rest := []) ⟨hx, hb, hml, hown, hG⟩ (c_W_firstToBack l E (o + 3 + 39 * t) (w t) (c t) (f t) hv3) (cwV 0 hG (hp_goodV ml_B_83 im_W_firstToBack se_W_firstToBack in_W co_W_firstToBack) rfl rfl rfl hd_W_firstToBack ⟨by rw [hRf]; exact Nat.le_of_ble_eq_true rfl, by rw [hRl]; exact Nat.le_of_ble_eq_true rfl⟩) (hp_preV (ci := 0) hp_nsn hK rfl hw ⟨hw, hf1⟩) rfl rfl hl.1 rfl (lv_room (Nat.le_of_ble_eq_true rfl)) d_B_round_32 ⟨by rw [hRc]; exact Nat.le_of_ble_eq_true rfl, by rw [hRs]; exact Nat.le_of_ble_eq_true rfl⟩) hS (fun q h => by show _ ∧ _; rcases h with h | h <;> omega) (fun r1 H locs hpost hz1 ho1 hS => ?_)
      have hZ := hz1.trans hZ
      have hb0 := hb0.keep (ho1 (o) (by omega))
      have hb1 := hb1.keep (ho1 (o + 1) (by omega))
      have hb2 := hb2.keep (ho1 (o + 2) (by omega))
      have hrr : r1 = 0 ∨ r1 = 1 := by rcases hpost with h9 | h9 <;> omega
      refine hp_if_eq (tgt := 42) hx hb d_B_round_35 (by decide) (by unfold iR at *; omega) (fun c35 => ?_) (fun c35 => ?_)
      · skip
        refine hp_iconst (z := 0) hx hb d_B_round_42 (by rfl) ?_
        rw [hQ]
        refine hp_zretQ hx hb hrt hlocks d_B_round_43 false (by first | rfl | assumption | simp [bI]) hS hZ ?_
        rw [Int.toNat_natCast]
        rcases hpost with ⟨e9, hc9, hw9⟩ | ⟨e9, hc9, hw9⟩
        · omega
        · exact Or.inr ⟨rfl, by omega, hbt.word0 (by omega) ho1 hw9⟩
      · skip
        refine hp_iconst (z := 1) hx hb d_B_round_38 (by rfl) ?_
        refine lv_goto (tgt := 43) hx hb d_B_round_39 (by decide) ?_
        rw [hQ]
        refine hp_zretQ hx hb hrt hlocks d_B_round_43 true (by first | rfl | assumption | simp [bI]) hS hZ ?_
        rw [Int.toNat_natCast]
        rcases hpost with ⟨e9, hc9, hw9⟩ | ⟨e9, hc9, hw9⟩
        · rw [c8]
          first | exact Or.inl ⟨rfl, by omega, hbt.word (by omega) ho1 hw9 (vW_ltf hv hc9)⟩ | exact Or.inl ⟨rfl, by omega, hbt.word (by omega) ho1 hw9 (vW_ftb hv hc9)⟩
        · omega
    · skip
      refine lv_aload_n hx hb d_B_round_11 rfl (lv_at hl 0 rfl) ?_
      refine hp_get (C := R_B) (T := F_B) (N := 2) (v := .ref (o + 1)) hx hb hG la_B hown hK.1 hb0 rfl 0 (by decide) (hG _ fl_B_11) (fun _ h9 => h9) rfl d_B_round_12 ?_
      refine lv_iload_n hx hb d_B_round_15 rfl (lv_at hl 1 rfl) ?_
      refine hp_aald hx hb hK.1 2 hb1 rfl rfl d_B_round_16 (by omega) t (by omega) (by omega) (v := .ref (o + 3 + 39 * t)) (by rw [if_pos (by omega)]; rfl) ?_
      refine hp_calli (W.runV (As := []) (rest := []) ⟨hx, hb, hml, hown, hG⟩ (c_W_lastToFront l E (o + 3 + 39 * t) (w t) (c t) (f t) hv3) (cwV 0 hG (hp_goodV ml_B_79 im_W_lastToFront se_W_lastToFront in_W co_W_lastToFront) rfl rfl rfl hd_W_lastToFront ⟨by rw [hRf]; exact Nat.le_of_ble_eq_true rfl, by rw [hRl]; exact Nat.le_of_ble_eq_true rfl⟩) (hp_preV (ci := 0) hp_nsn hK rfl hw ⟨hw, hf1⟩) rfl rfl hl.1 rfl (lv_room (Nat.le_of_ble_eq_true rfl)) d_B_round_17 ⟨by rw [hRc]; exact Nat.le_of_ble_eq_true rfl, by rw [hRs]; exact Nat.le_of_ble_eq_true rfl⟩) hS (fun q h => by show _ ∧ _; rcases h with h | h <;> omega) (fun r2 H locs hpost hz1 ho1 hS => ?_)
      have hZ := hz1.trans hZ
      have hb0 := hb0.keep (ho1 (o) (by omega))
      have hb1 := hb1.keep (ho1 (o + 1) (by omega))
      have hb2 := hb2.keep (ho1 (o + 2) (by omega))
      have hrr : r2 = 0 ∨ r2 = 1 := by rcases hpost with h9 | h9 <;> omega
      refine hp_if_eq (tgt := 42) hx hb d_B_round_20 (by decide) (by unfold iR at *; omega) (fun c20 => ?_) (fun c20 => ?_)
      · skip
        refine hp_iconst (z := 0) hx hb d_B_round_42 (by rfl) ?_
        rw [hQ]
        refine hp_zretQ hx hb hrt hlocks d_B_round_43 false (by first | rfl | assumption | simp [bI]) hS hZ ?_
        rw [Int.toNat_natCast]
        rcases hpost with ⟨e9, hc9, hw9⟩ | ⟨e9, hc9, hw9⟩
        · omega
        · exact Or.inr ⟨rfl, by omega, hbt.word0 (by omega) ho1 hw9⟩
      · skip
        refine lv_goto (tgt := 38) hx hb d_B_round_23 (by decide) ?_
        refine hp_iconst (z := 1) hx hb d_B_round_38 (by rfl) ?_
        refine lv_goto (tgt := 43) hx hb d_B_round_39 (by decide) ?_
        rw [hQ]
        refine hp_zretQ hx hb hrt hlocks d_B_round_43 true (by first | rfl | assumption | simp [bI]) hS hZ ?_
        rw [Int.toNat_natCast]
        rcases hpost with ⟨e9, hc9, hw9⟩ | ⟨e9, hc9, hw9⟩
        · rw [c8]
          first | exact Or.inl ⟨rfl, by omega, hbt.word (by omega) ho1 hw9 (vW_ltf hv hc9)⟩ | exact Or.inl ⟨rfl, by omega, hbt.word (by omega) ho1 hw9 (vW_ftb hv hc9)⟩
        · omega
