theorem bw_mk_b {w k : Nat} {f : Nat → Int} {p : Int} (hw : w ≤ 8) (hb : bd f) (hp : -100 ≤ p ∧ p ≤ 100) (hk : k ≤ 200) : -1000 ≤ bw_mk w f k p ∧ bw_mk w f k p ≤ 1000 := by
  have := hb k
  unfold bw_mk
  omega
theorem bw_lab_b {w k : Nat} {f : Nat → Int} {p : Int} (hw : w ≤ 8) (hb : bd f) (hp : -100 ≤ p ∧ p ≤ 100) (hk : k ≤ 200) : -1000 ≤ bw_lab w f p k ∧ bw_lab w f p k ≤ 1000 := by
  rcases bw_lab_cases w f p k with h | ⟨m, h1, h2, h3, h4⟩
  · rw [h.1]; omega
  · rw [h4]; exact bw_mk_b hw hb hp (by omega)
theorem bw_lab_rng {w k : Nat} {f : Nat → Int} {p : Int} (hw : w ≤ 8) (hb : bd f) (hp : -100 ≤ p ∧ p ≤ 100) (hk : k ≤ 200) : iR (bw_lab w f p k) := by
  have := bw_lab_b hw hb hp hk
  unfold iR
  omega
theorem bw_raw_rng {w k x : Nat} {f : Nat → Int} (hw : w ≤ 8) (hb : bd f) (hk : k ≤ 200) : iR (bw_raw w f k x) := by
  have hv := hb k
  have a1 := bw_lab_b (p := ((f k).natAbs : Int)) hw hb (by omega) hk
  have a2 := bw_lab_b (p := ((f k).natAbs : Int) + 1) hw hb (by omega) hk
  have a3 := bw_mk_b (p := ((f k).natAbs : Int)) hw hb (by omega) hk
  have a4 := bw_mk_b (p := ((f k).natAbs : Int) + 1) hw hb (by omega) hk
  unfold bw_raw iR
  simp only
  generalize (if 0 < f k then x else (x + 3) % 4) = q
  split
  · omega
  · split
    · omega
    · split <;> omega
theorem bw_clr_0 {w c : Nat} {f : Nat → Int} {R : Int} : bw_clr w c f 0 R R := Or.inl ⟨rfl, fun p h1 h2 => by omega⟩
theorem bw_clr_s {w c n : Nat} {f : Nat → Int} {R X : Int} (h : bw_clr w c f n R X) (hw : n ≤ w) (hn : ¬ ((w : Int) < X ∧ X = bw_lab w f ((n + 1 : Nat) : Int) c)) : bw_clr w c f (n + 1) R X := by
  rcases h with ⟨h1, h2⟩ | ⟨p, h1, h2, h3⟩
  · refine Or.inl ⟨h1, fun p a1 a2 => ?_⟩
    by_cases e : p = n + 1
    · subst e; rw [← h1]; exact hn
    · exact h2 p a1 (by omega)
  · exact Or.inr ⟨p, h1, by omega, h3⟩
theorem bw_clr_u {w c n : Nat} {f : Nat → Int} {R X : Int} (h : bw_clr w c f n R X) (hw : n ≤ w) (h1 : (w : Int) < X) (h2 : X = bw_lab w f ((n + 1 : Nat) : Int) c) : bw_clr w c f (n + 1) R ((n + 1 : Nat) : Int) := by
  rcases h with ⟨h3, h4⟩ | ⟨p, h3, h4, h5, h6, h7⟩
  · exact Or.inr ⟨n + 1, by omega, by omega, by rw [← h3]; exact h1, by rw [← h3]; exact h2, rfl⟩
  · omega

set_option maxHeartbeats 4000000 in
set_option maxRecDepth 100000 in
/-- close(s) -/
theorem c_M_close (l : Launch) (E : hp_E) (mo : Nat) (th md fe ps : Int) (w c : Nat → Nat) (g : Nat → Int) (kz : Nat → Bool) (la co : Nat → Int) (t : Nat) (ht : t < 4) (hct : 1 ≤ w t ∧ w t ≤ 8 ∧ c t ≤ 32) (hbd : bd g) (hok : okw (w t) (c t) (gw g t)) : Met l y_M_close (Cond.code y_M_close b_M_close 8 (none) :: G0) ({ frames := 1, cells := 0, slots := 0, locals := 22 }) (hp_P E [.ref mo, .int (iI (t : Int))] (fun H => mW E H mo th md fe ps w c g kz ∧ ca E H (mo + 14) (ai E 9 la) ∧ ca E H (mo + 15) (ai E 160 co))) (hp_Qv (fun q => q = mo + 14 ∨ q = mo + 15) (fun H => (∃ la1 : Nat → Int, ca E H (mo + 14) (ai E 9 la1)) ∧ ∃ co1 : Nat → Int, ca E H (mo + 15) (ai E 160 co1) ∧ ∀ j x, j < c t → x < 4 → co1 (4 * j + x) = bw_cor (w t) (c t) (gw g t) j (x : Int))) 0 0 (fun q => q = mo + 14 ∨ q = mo + 15) := by
  refine Met.ofW (cc := b_M_close) (maxL := 8) (ret := none) (by decide) rfl ?_
  intro p e s m args below meth cd s₁ Bd hml hv
  obtain ⟨hargs, hB, hK⟩ := hv
  have hx := Bd.exec
  have hb := Bd.bytes
  have hrt := Bd.returns
  have hts := atoms_spec (ws := Cond.code y_M_close b_M_close 8 (none) :: G0) Bd.pre
  have hG : ∀ w ∈ G0, w.before args s = true := fun w h => hts w (List.mem_cons_of_mem _ h)
  have hown : s.vm.findClass R_M = some m.cls := findClass_of_methodNamed Bd.named
  have hlocks := Bd.notSynchronized
  have hl := lv_entry ([.ref mo, .int (iI (t : Int))]) (n := 8) (Nat.le_of_ble_eq_true rfl)
  rw [show entryFrame m args 8 = entryFrame m ([.ref mo, .int (iI (t : Int))] : List Value).toArray 8 from by rw [hargs]]
  rw [lg_entry_eq]
  generalize (lg_sl ([.ref mo, .int (iI (t : Int))]) ++ List.replicate (8 - (lg_sl ([.ref mo, .int (iI (t : Int))])).length) Slot.unset).toArray = ls at hl ⊢
  have hl : lv_has ls 8 [(0, .ref mo), (1, .int (iI (t : Int)))] := hl
  obtain ⟨R, hR⟩ : ∃ R, R = (headSpec (Cond.code y_M_close b_M_close 8 (none) :: G0) { frames := 1, cells := 0, slots := 0, locals := 22 }).room := ⟨_, rfl⟩
  rw [← hR]
  have hRf : R.frames = 1 := by rw [hR]; rfl
  have hRl : R.locals = 22 := by rw [hR]; rfl
  have hRc : R.cells = 0 := by rw [hR]; rfl
  have hRs : R.slots = 0 := by rw [hR]; rfl
  obtain ⟨Q, hQ⟩ : ∃ Q, Q = MQ below (hp_Qv (fun q => q = mo + 14 ∨ q = mo + 15) (fun H => (∃ la1 : Nat → Int, ca E H (mo + 14) (ai E 9 la1)) ∧ ∃ co1 : Nat → Int, ca E H (mo + 15) (ai E 160 co1) ∧ ∀ j x, j < c t → x < 4 → co1 (4 * j + x) = bw_cor (w t) (c t) (gw g t) j (x : Int))) args s 0 0 (fun q => q = mo + 14 ∨ q = mo + 15) := ⟨_, rfl⟩
  rw [← hQ]
  obtain ⟨H, hH⟩ : ∃ H, H = s.heap := ⟨_, rfl⟩
  obtain ⟨locs, hlocs⟩ : ∃ locs : List Loc, locs = [] := ⟨_, rfl⟩
  have hS : va_S (fun q => q = mo + 14 ∨ q = mo + 15) s.heap H locs := by rw [hH, hlocs]; exact va_S.rf
  have hZ : H.size = s.heap.size := by rw [hH]
  rw [← hH] at hB
  rw [show W p l e R s m args below meth cd s.heap [] 0 0 Q (F0 m 0 ls []) = W p l e R s m args below meth cd H locs 0 0 Q (F0 m 0 ls []) from by rw [hH, hlocs]]
  obtain ⟨⟨hm, hsd, hsz, hwd, hkn⟩, hla, hco⟩ := hB
  refine lv_aload_n hx hb d_M_close_0 rfl (lv_at hl 0 rfl) ?_
  refine hp_get (C := R_M) (T := F_M) (N := 19) (v := .ref (mo + 1)) hx hb hG la_M hown hK.1 hm rfl 1 (by decide) (hG _ fl_M_7) (fun _ h9 => h9) rfl d_M_close_1 ?_
  refine lv_iload_n hx hb d_M_close_4 rfl (lv_at hl 1 rfl) ?_
  refine hp_iald hx hb hK.1 0 hsd rfl d_M_close_5 (by omega) t (by omega) (by omega) ?_
  refine lv_istore_n (lv' := [(2, .int (iI ((w t : Nat) : Int))), (0, .ref mo), (1, .int (iI (t : Int)))]) hx hb d_M_close_6 rfl hl (by decide) rfl (fun ls hl => ?_)
  refine hp_iconst (z := 1) hx hb d_M_close_7 (by rfl) ?_
  refine lv_istore_n (lv' := [(3, .int (iI 1)), (2, .int (iI ((w t : Nat) : Int))), (0, .ref mo), (1, .int (iI (t : Int)))]) hx hb d_M_close_8 rfl hl (by decide) rfl (fun ls hl => ?_)
  have L9 : ∀ (N : Nat) (q : Nat) (la1 : Nat → Int), w t + 2 - q < N → (1 ≤ q ∧ q ≤ w t + 1) → (∀ p : Nat, 1 ≤ p → p < q → la1 p = (p : Int)) → ∀ (H : Heap) (locs : List Loc), va_S (fun q => q = mo + 14 ∨ q = mo + 15) s.heap H locs → H.size = s.heap.size → ca E H mo (oM mo th md fe ps) → ca E H (mo + 1) (ai E 4 (fun k => (w k : Int))) → ca E H (mo + 2) (ai E 4 (fun k => (c k : Int))) → ca E H (mo + 3) (ai E 128 g) → ca E H (mo + 10) (hp_az (E.2 1) 4 kz) → ca E H (mo + 14) (ai E 9 la1) → ca E H (mo + 15) (ai E 160 co) → ∀ ls : Array Slot, lv_has ls 8 [(0, .ref mo), (1, .int (iI (t : Int))), (2, .int (iI (w t : Int))), (3, .int (iI (q : Int)))] → W p l e R s m args below meth cd H locs 0 0 Q (F0 m 9 ls []) := by
    intro N
    induction N with
    | zero => intro q la1 hN; exact absurd hN (by omega)
    | succ N ih =>
      intro q la1 hN hq hl1 H locs hS hZ hm hsd hsz hwd hkn hla hco ls hl
      have ih9 := ih
      refine lv_iload_n hx hb d_M_close_9 rfl (lv_at hl 3 rfl) ?_
      refine lv_iload_n hx hb d_M_close_10 rfl (lv_at hl 2 rfl) ?_
      refine hp_icmp_gt (tgt := 27) hx hb d_M_close_11 (by decide) (by first | assumption | (unfold iR; omega)) (by first | assumption | (unfold iR; omega)) (fun c11 => ?_) (fun c11 => ?_)
      · skip
        refine hp_iconst (z := 0) hx hb d_M_close_27 (by rfl) ?_
        refine lv_istore_n (lv' := [(3, .int (iI 0)), (0, .ref mo), (1, .int (iI (t : Int))), (2, .int (iI (w t : Int)))]) hx hb d_M_close_28 rfl hl (by decide) rfl (fun ls hl => ?_)
        have L29 : ∀ (N : Nat) (k : Nat) (la1 co1 : Nat → Int), c t - k < N → (k ≤ c t) → (∀ p : Nat, 1 ≤ p → p ≤ w t → la1 p = bw_lab (w t) (gw g t) p k) → (∀ j x, j < k → x < 4 → co1 (4 * j + x) = bw_raw (w t) (gw g t) j x) → ∀ (H : Heap) (locs : List Loc), va_S (fun q => q = mo + 14 ∨ q = mo + 15) s.heap H locs → H.size = s.heap.size → ca E H mo (oM mo th md fe ps) → ca E H (mo + 1) (ai E 4 (fun k => (w k : Int))) → ca E H (mo + 2) (ai E 4 (fun k => (c k : Int))) → ca E H (mo + 3) (ai E 128 g) → ca E H (mo + 10) (hp_az (E.2 1) 4 kz) → ca E H (mo + 14) (ai E 9 la1) → ca E H (mo + 15) (ai E 160 co1) → ∀ ls : Array Slot, lv_has ls 8 [(0, .ref mo), (1, .int (iI (t : Int))), (2, .int (iI (w t : Int))), (3, .int (iI (k : Int)))] → W p l e R s m args below meth cd H locs 0 0 Q (F0 m 29 ls []) := by
          intro N
          induction N with
          | zero => intro k la1 co1 hN; exact absurd hN (by omega)
          | succ N ih =>
            intro k la1 co1 hN hk hla1 hco1 H locs hS hZ hm hsd hsz hwd hkn hla hco ls hl
            have ih29 := ih
            refine lv_iload_n hx hb d_M_close_29 rfl (lv_at hl 3 rfl) ?_
            refine lv_aload_n hx hb d_M_close_30 rfl (lv_at hl 0 rfl) ?_
            refine hp_get (C := R_M) (T := F_M) (N := 19) (v := .ref (mo + 2)) hx hb hG la_M hown hK.1 hm rfl 2 (by decide) (hG _ fl_M_13) (fun _ h9 => h9) rfl d_M_close_31 ?_
            refine lv_iload_n hx hb d_M_close_34 rfl (lv_at hl 1 rfl) ?_
            refine hp_iald hx hb hK.1 0 hsz rfl d_M_close_35 (by omega) t (by omega) (by omega) ?_
            refine hp_icmp_ge (tgt := 177) hx hb d_M_close_36 (by decide) (by first | assumption | (unfold iR; omega)) (by first | assumption | (unfold iR; omega)) (fun c36 => ?_) (fun c36 => ?_)
            · skip
              have ek : k = c t := by omega
              rw [ek] at hla1 hco1
              refine hp_iconst (z := 0) hx hb d_M_close_177 (by rfl) ?_
              refine lv_istore_n (lv' := [(3, .int (iI 0)), (0, .ref mo), (1, .int (iI (t : Int))), (2, .int (iI (w t : Int)))]) hx hb d_M_close_178 rfl hl (by decide) rfl (fun ls hl => ?_)
              have L179 : ∀ (N : Nat) (a : Nat) (co2 : Nat → Int), 4 * c t - a < N → (a ≤ 4 * c t) → (∀ i, i < a → bw_clr (w t) (c t) (gw g t) (w t) (bw_raw (w t) (gw g t) (i / 4) (i % 4)) (co2 i)) → (∀ i, a ≤ i → co2 i = co1 i) → ∀ (H : Heap) (locs : List Loc), va_S (fun q => q = mo + 14 ∨ q = mo + 15) s.heap H locs → H.size = s.heap.size → ca E H mo (oM mo th md fe ps) → ca E H (mo + 1) (ai E 4 (fun k => (w k : Int))) → ca E H (mo + 2) (ai E 4 (fun k => (c k : Int))) → ca E H (mo + 3) (ai E 128 g) → ca E H (mo + 10) (hp_az (E.2 1) 4 kz) → ca E H (mo + 14) (ai E 9 la1) → ca E H (mo + 15) (ai E 160 co2) → ∀ ls : Array Slot, lv_has ls 8 [(0, .ref mo), (1, .int (iI (t : Int))), (2, .int (iI (w t : Int))), (3, .int (iI (a : Int)))] → W p l e R s m args below meth cd H locs 0 0 Q (F0 m 179 ls []) := by
                intro N
                induction N with
                | zero => intro a co2 hN; exact absurd hN (by omega)
                | succ N ih =>
                  intro a co2 hN ha hd2 hu2 H locs hS hZ hm hsd hsz hwd hkn hla hco ls hl
                  have ih179 := ih
                  refine lv_iload_n hx hb d_M_close_179 rfl (lv_at hl 3 rfl) ?_
                  refine hp_iconst (z := 4) hx hb d_M_close_180 (by rfl) ?_
                  refine lv_aload_n hx hb d_M_close_181 rfl (lv_at hl 0 rfl) ?_
                  refine hp_get (C := R_M) (T := F_M) (N := 19) (v := .ref (mo + 2)) hx hb hG la_M hown hK.1 hm rfl 2 (by decide) (hG _ fl_M_13) (fun _ h9 => h9) rfl d_M_close_182 ?_
                  refine lv_iload_n hx hb d_M_close_185 rfl (lv_at hl 1 rfl) ?_
                  refine hp_iald hx hb hK.1 0 hsz rfl d_M_close_186 (by omega) t (by omega) (by omega) ?_
                  refine hp_imul hx hb d_M_close_187 ?_
                  refine hp_icmp_ge (tgt := 246) hx hb d_M_close_188 (by decide) (by first | assumption | (unfold iR; omega)) (by first | assumption | (unfold iR; omega)) (fun c188 => ?_) (fun c188 => ?_)
                  · skip
                    rw [hQ]
                    refine hp_vretQ hx hb hrt hlocks d_M_close_246 hS hZ ?_
                    have ea : a = 4 * c t := by omega
                    refine ⟨⟨_, hla⟩, _, hco, fun j x hj hx9 => ?_⟩
                    have h9 := hd2 (4 * j + x) (by omega)
                    rw [show (4 * j + x) / 4 = j by omega, show (4 * j + x) % 4 = x by omega] at h9
                    exact bw_clr_cor hok hj h9 hx9
                  · skip
                    refine hp_iconst (z := 1) hx hb d_M_close_191 (by rfl) ?_
                    refine lv_istore (lv' := [(4, .int (iI 1)), (0, .ref mo), (1, .int (iI (t : Int))), (2, .int (iI (w t : Int))), (3, .int (iI (a : Int)))]) hx hb d_M_close_192 hl (by decide) rfl (fun ls hl => ?_)
                    have L194 : ∀ (N : Nat) (q : Nat) (co3 : Nat → Int), w t + 2 - q < N → (1 ≤ q ∧ q ≤ w t + 1) → (bw_clr (w t) (c t) (gw g t) (q - 1) (bw_raw (w t) (gw g t) (a / 4) (a % 4)) (co3 a)) → (∀ i, i ≠ a → co3 i = co2 i) → ∀ (H : Heap) (locs : List Loc), va_S (fun q => q = mo + 14 ∨ q = mo + 15) s.heap H locs → H.size = s.heap.size → ca E H mo (oM mo th md fe ps) → ca E H (mo + 1) (ai E 4 (fun k => (w k : Int))) → ca E H (mo + 2) (ai E 4 (fun k => (c k : Int))) → ca E H (mo + 3) (ai E 128 g) → ca E H (mo + 10) (hp_az (E.2 1) 4 kz) → ca E H (mo + 14) (ai E 9 la1) → ca E H (mo + 15) (ai E 160 co3) → ∀ ls : Array Slot, lv_has ls 8 [(0, .ref mo), (1, .int (iI (t : Int))), (2, .int (iI (w t : Int))), (3, .int (iI (a : Int))), (4, .int (iI (q : Int)))] → W p l e R s m args below meth cd H locs 0 0 Q (F0 m 194 ls []) := by
                      intro N
                      induction N with
                      | zero => intro q co3 hN; exact absurd hN (by omega)
                      | succ N ih =>
                        intro q co3 hN hq hcl hex H locs hS hZ hm hsd hsz hwd hkn hla hco ls hl
                        have ih194 := ih
                        refine lv_iload hx hb d_M_close_194 (lv_at hl 4 rfl) ?_
                        refine lv_iload_n hx hb d_M_close_196 rfl (lv_at hl 2 rfl) ?_
                        refine hp_icmp_gt (tgt := 240) hx hb d_M_close_197 (by decide) (by first | assumption | (unfold iR; omega)) (by first | assumption | (unfold iR; omega)) (fun c197 => ?_) (fun c197 => ?_)
                        · skip
                          rw [show q - 1 = w t by omega] at hcl
                          refine hp_iinc (z := ((a : Int) + 1)) (lv' := [(3, .int (iI ((a : Int) + 1))), (0, .ref mo), (1, .int (iI (t : Int))), (2, .int (iI (w t : Int))), (4, .int (iI (q : Int)))]) hx hb d_M_close_240 hl (k := 3) rfl (by omega) (by decide) rfl (fun ls hl => ?_)
                          refine lv_goto (tgt := 179) hx hb d_M_close_243 (by decide) ?_
                          exact ih179  (a + 1) co3 (by omega) (by omega) (by intro i h9; by_cases e9 : i = a; (rw [e9]; exact hcl); (rw [hex i e9]; exact hd2 i (by omega))) (by intro i h9; rw [hex i (by omega)]; exact hu2 i (by omega)) H locs hS hZ hm hsd hsz hwd hkn hla hco ls (lv_sub hl [1, 2, 3, 0] rfl)
                        · skip
                          refine lv_aload_n hx hb d_M_close_200 rfl (lv_at hl 0 rfl) ?_
                          refine hp_get (C := R_M) (T := F_M) (N := 19) (v := .ref (mo + 15)) hx hb hG la_M hown hK.1 hm rfl 18 (by decide) (hG _ fl_M_53) (fun _ h9 => h9) rfl d_M_close_201 ?_
                          refine lv_iload_n hx hb d_M_close_204 rfl (lv_at hl 3 rfl) ?_
                          refine hp_iald hx hb hK.1 0 hco rfl d_M_close_205 (by omega) a (by omega) (by omega) ?_
                          refine lv_iload_n hx hb d_M_close_206 rfl (lv_at hl 2 rfl) ?_
                          have hrn : iR (co3 a) := by rcases hcl with h9 | ⟨p9, h9, h8, h7, h6, h5⟩; (rw [h9.1]; exact bw_raw_rng (w := w t) (f := gw g t) (by omega) (gw_bd hbd t) (by omega)); (rw [h5]; unfold iR; omega)
                          have hrl : iR (la1 q) := by rw [hla1 q (by omega) (by omega)]; exact bw_lab_rng (by omega) (gw_bd hbd t) (by omega) (by omega)
                          refine hp_icmp_le (tgt := 234) hx hb d_M_close_207 (by decide) (by first | assumption | (unfold iR; omega)) (by first | assumption | (unfold iR; omega)) (fun c207 => ?_) (fun c207 => ?_)
                          · skip
                            refine hp_iinc (z := ((q : Int) + 1)) (lv' := [(4, .int (iI ((q : Int) + 1))), (0, .ref mo), (1, .int (iI (t : Int))), (2, .int (iI (w t : Int))), (3, .int (iI (a : Int)))]) hx hb d_M_close_234 hl (k := 4) rfl (by omega) (by decide) rfl (fun ls hl => ?_)
                            refine lv_goto (tgt := 194) hx hb d_M_close_237 (by decide) ?_
                            exact ih194  (q + 1) co3 (by omega) (by omega) (by rw [show q + 1 - 1 = (q - 1) + 1 by omega]; first | (rw [hp_up_s]; have e9 := bw_clr_u hcl (by omega) (by omega) (by rw [show ((q - 1 + 1 : Nat) : Int) = (q : Int) by omega, ← hla1 q (by omega) (by omega)]; exact c223); rw [show ((q - 1 + 1 : Nat) : Int) = (q : Int) by omega] at e9; exact e9) | (refine bw_clr_s hcl (by omega) (fun h9 => ?_); rw [show ((q - 1 + 1 : Nat) : Int) = (q : Int) by omega, ← hla1 q (by omega) (by omega)] at h9; first | exact c223 h9.2 | omega)) (by intro i h9; first | exact hex i h9 | (rw [hp_up_n _ _ h9]; exact hex i h9)) H locs hS hZ hm hsd hsz hwd hkn hla hco ls (lv_sub hl [1, 2, 3, 4, 0] rfl)
                          · skip
                            refine lv_aload_n hx hb d_M_close_210 rfl (lv_at hl 0 rfl) ?_
                            refine hp_get (C := R_M) (T := F_M) (N := 19) (v := .ref (mo + 15)) hx hb hG la_M hown hK.1 hm rfl 18 (by decide) (hG _ fl_M_53) (fun _ h9 => h9) rfl d_M_close_211 ?_
                            refine lv_iload_n hx hb d_M_close_214 rfl (lv_at hl 3 rfl) ?_
                            refine hp_iald hx hb hK.1 0 hco rfl d_M_close_215 (by omega) a (by omega) (by omega) ?_
                            refine lv_aload_n hx hb d_M_close_216 rfl (lv_at hl 0 rfl) ?_
                            refine hp_get (C := R_M) (T := F_M) (N := 19) (v := .ref (mo + 14)) hx hb hG la_M hown hK.1 hm rfl 17 (by decide) (hG _ fl_M_50) (fun _ h9 => h9) rfl d_M_close_217 ?_
                            refine lv_iload hx hb d_M_close_220 (lv_at hl 4 rfl) ?_
                            refine hp_iald hx hb hK.1 0 hla rfl d_M_close_222 (by omega) q (by omega) (by omega) ?_
                            refine hp_icmp_ne (tgt := 234) hx hb d_M_close_223 (by decide) (by first | assumption | (unfold iR; omega)) (by first | assumption | (unfold iR; omega)) (fun c223 => ?_) (fun c223 => ?_)
                            · skip
                              refine hp_iinc (z := ((q : Int) + 1)) (lv' := [(4, .int (iI ((q : Int) + 1))), (0, .ref mo), (1, .int (iI (t : Int))), (2, .int (iI (w t : Int))), (3, .int (iI (a : Int)))]) hx hb d_M_close_234 hl (k := 4) rfl (by omega) (by decide) rfl (fun ls hl => ?_)
                              refine lv_goto (tgt := 194) hx hb d_M_close_237 (by decide) ?_
                              exact ih194  (q + 1) co3 (by omega) (by omega) (by rw [show q + 1 - 1 = (q - 1) + 1 by omega]; first | (rw [hp_up_s]; have e9 := bw_clr_u hcl (by omega) (by omega) (by rw [show ((q - 1 + 1 : Nat) : Int) = (q : Int) by omega, ← hla1 q (by omega) (by omega)]; exact c223); rw [show ((q - 1 + 1 : Nat) : Int) = (q : Int) by omega] at e9; exact e9) | (refine bw_clr_s hcl (by omega) (fun h9 => ?_); rw [show ((q - 1 + 1 : Nat) : Int) = (q : Int) by omega, ← hla1 q (by omega) (by omega)] at h9; first | exact c223 h9.2 | omega)) (by intro i h9; first | exact hex i h9 | (rw [hp_up_n _ _ h9]; exact hex i h9)) H locs hS hZ hm hsd hsz hwd hkn hla hco ls (lv_sub hl [1, 2, 3, 4, 0] rfl)
                            · skip
                              refine lv_aload_n hx hb d_M_close_226 rfl (lv_at hl 0 rfl) ?_
                              refine hp_get (C := R_M) (T := F_M) (N := 19) (v := .ref (mo + 15)) hx hb hG la_M hown hK.1 hm rfl 18 (by decide) (hG _ fl_M_53) (fun _ h9 => h9) rfl d_M_close_227 ?_
                              refine lv_iload_n hx hb d_M_close_230 rfl (lv_at hl 3 rfl) ?_
                              refine lv_iload hx hb d_M_close_231 (lv_at hl 4 rfl) ?_
                              refine hp_iast hx hb hK.1 0 hco hS (by show _ ∨ _; omega) rfl d_M_close_233 (by omega) a (by omega) (by omega) (fun H locs hcon hz1 ho1 hS => ?_)
                              have hZ := hz1.trans hZ
                              have hm := hm.keep (ho1 (mo) (by omega))
                              have hsd := hsd.keep (ho1 (mo + 1) (by omega))
                              have hsz := hsz.keep (ho1 (mo + 2) (by omega))
                              have hwd := hwd.keep (ho1 (mo + 3) (by omega))
                              have hkn := hkn.keep (ho1 (mo + 10) (by omega))
                              have hla := hla.keep (ho1 (mo + 14) (by omega))
                              have hco : ca E H (mo + 15) (ai E 160 (hp_up co3 a (q : Int))) := hcon
                              refine hp_iinc (z := ((q : Int) + 1)) (lv' := [(4, .int (iI ((q : Int) + 1))), (0, .ref mo), (1, .int (iI (t : Int))), (2, .int (iI (w t : Int))), (3, .int (iI (a : Int)))]) hx hb d_M_close_234 hl (k := 4) rfl (by omega) (by decide) rfl (fun ls hl => ?_)
                              refine lv_goto (tgt := 194) hx hb d_M_close_237 (by decide) ?_
                              exact ih194  (q + 1) (hp_up co3 a (q : Int)) (by omega) (by omega) (by rw [show q + 1 - 1 = (q - 1) + 1 by omega]; first | (rw [hp_up_s]; have e9 := bw_clr_u hcl (by omega) (by omega) (by rw [show ((q - 1 + 1 : Nat) : Int) = (q : Int) by omega, ← hla1 q (by omega) (by omega)]; exact c223); rw [show ((q - 1 + 1 : Nat) : Int) = (q : Int) by omega] at e9; exact e9) | (refine bw_clr_s hcl (by omega) (fun h9 => ?_); rw [show ((q - 1 + 1 : Nat) : Int) = (q : Int) by omega, ← hla1 q (by omega) (by omega)] at h9; first | exact c223 h9.2 | omega)) (by intro i h9; first | exact hex i h9 | (rw [hp_up_n _ _ h9]; exact hex i h9)) H locs hS hZ hm hsd hsz hwd hkn hla hco ls (lv_sub hl [1, 2, 3, 4, 0] rfl)
                    exact L194 (w t + 2 - 1 + 1) 1 co2 (by omega) (by omega) (by rw [hu2 a (by omega), show a = 4 * (a / 4) + a % 4 by omega, hco1 (a / 4) (a % 4) (by omega) (by omega), show (4 * (a / 4) + a % 4) / 4 = a / 4 by omega, show (4 * (a / 4) + a % 4) % 4 = a % 4 by omega]; exact bw_clr_0) (by intro i _; rfl) H locs hS hZ hm hsd hsz hwd hkn hla hco ls (lv_sub hl [1, 2, 3, 4, 0] rfl)
              exact L179 (4 * c t - 0 + 1) 0 co1 (by omega) (by omega) (by intro i h; omega) (by intro i _; rfl) H locs hS hZ hm hsd hsz hwd hkn hla hco ls (lv_sub hl [1, 2, 3, 0] rfl)
            · skip
              refine lv_aload_n hx hb d_M_close_39 rfl (lv_at hl 0 rfl) ?_
              refine lv_iload_n hx hb d_M_close_40 rfl (lv_at hl 1 rfl) ?_
              refine lv_iload_n hx hb d_M_close_41 rfl (lv_at hl 3 rfl) ?_
              refine hp_callS (W.runV (As := [.int (iI (t : Int)), .int (iI (k : Int))]) (rest := []) ⟨hx, hb, hml, hown, hG⟩ (c_M_letterAt l E mo th md fe ps w c g kz t k (by omega)) (cwV 2 hG (hp_goodV ml_M_64 im_M_letterAt se_M_letterAt in_M co_M_letterAt) rfl rfl rfl hd_M_letterAt ⟨by rw [hRf]; exact Nat.le_of_ble_eq_true rfl, by rw [hRl]; exact Nat.le_of_ble_eq_true rfl⟩) (hp_preV (ci := 3) hp_nsn hK rfl hm ⟨hm, hsd, hsz, hwd, hkn⟩) rfl rfl hl.1 rfl (lv_room (Nat.le_of_ble_eq_true rfl)) d_M_close_42 ⟨by rw [hRc]; exact Nat.le_of_ble_eq_true rfl, by rw [hRs]; exact Nat.le_of_ble_eq_true rfl⟩) ?_
              have hb1 := gw_bd hbd t k
              have ho1 := hok k (by omega)
              refine lv_istore (lv' := [(4, .int (iI (gw g t k))), (0, .ref mo), (1, .int (iI (t : Int))), (2, .int (iI (w t : Int))), (3, .int (iI (k : Int)))]) hx hb d_M_close_45 hl (by decide) rfl (fun ls hl => ?_)
              refine lv_iload hx hb d_M_close_47 (lv_at hl 0 rfl) ?_
              refine hp_callS (W.runS (As := [.int (iI (gw g t k))]) (rest := []) ⟨hx, hb, hml, hown, hG⟩ (c_M_value l E (gw g t k) (by omega)) (cwS 1 hG (hp_goodS ml_M_68 st_M_value in_M co_M_value) rfl rfl rfl hd_M_value ⟨by rw [hRf]; exact Nat.le_of_ble_eq_true rfl, by rw [hRl]; exact Nat.le_of_ble_eq_true rfl⟩) (hp_preS hp_nsn hK trivial) rfl rfl hl.1 rfl (lv_room (Nat.le_of_ble_eq_true rfl)) d_M_close_49 ⟨by rw [hRc]; exact Nat.le_of_ble_eq_true rfl, by rw [hRs]; exact Nat.le_of_ble_eq_true rfl⟩) ?_
              refine lv_istore (lv' := [(5, .int (iI ((gw g t k).natAbs : Int))), (4, .int (iI (gw g t k))), (0, .ref mo), (1, .int (iI (t : Int))), (2, .int (iI (w t : Int))), (3, .int (iI (k : Int)))]) hx hb d_M_close_52 hl (by decide) rfl (fun ls hl => ?_)
              refine lv_iload_n hx hb d_M_close_54 rfl (lv_at hl 4 rfl) ?_
              refine hp_iconst (z := 2) hx hb d_M_close_55 (by rfl) ?_
              refine lv_iload_n hx hb d_M_close_56 rfl (lv_at hl 5 rfl) ?_
              refine hp_imul hx hb d_M_close_57 ?_
              refine hp_iadd hx hb d_M_close_58 ?_
              refine hp_iconst (z := 1) hx hb d_M_close_59 (by rfl) ?_
              refine hp_iadd hx hb d_M_close_60 ?_
              refine lv_istore (lv' := [(6, .int (iI (((w t : Int) + (2 * (k : Int))) + 1))), (5, .int (iI ((gw g t k).natAbs : Int))), (4, .int (iI (gw g t k))), (0, .ref mo), (1, .int (iI (t : Int))), (2, .int (iI (w t : Int))), (3, .int (iI (k : Int)))]) hx hb d_M_close_61 hl (by decide) rfl (fun ls hl => ?_)
              refine lv_iload hx hb d_M_close_63 (lv_at hl 2 rfl) ?_
              refine hp_if_le (tgt := 72) hx hb d_M_close_65 (by decide) (by first | assumption | (unfold iR; omega)) (fun c65 => ?_) (fun c65 => ?_)
              · skip
                refine hp_iconst (z := 1) hx hb d_M_close_72 (by rfl) ?_
                refine lv_istore (lv' := [(7, .int (iI 1)), (6, .int (iI (((w t : Int) + (2 * (k : Int))) + 1))), (5, .int (iI ((gw g t k).natAbs : Int))), (4, .int (iI (gw g t k))), (0, .ref mo), (1, .int (iI (t : Int))), (2, .int (iI (w t : Int))), (3, .int (iI (k : Int)))]) hx hb d_M_close_73 hl (by decide) rfl (fun ls hl => ?_)
                refine lv_aload_n hx hb d_M_close_75 rfl (lv_at hl 4 rfl) ?_
                refine hp_get (C := R_M) (T := F_M) (N := 19) (v := .ref (mo + 15)) hx hb hG la_M hown hK.1 hm rfl 18 (by decide) (hG _ fl_M_53) (fun _ h9 => h9) rfl d_M_close_76 ?_
                refine hp_iconst (z := 4) hx hb d_M_close_79 (by rfl) ?_
                refine lv_iload_n hx hb d_M_close_80 rfl (lv_at hl 7 rfl) ?_
                refine hp_imul hx hb d_M_close_81 ?_
                refine lv_iload hx hb d_M_close_82 (lv_at hl 0 rfl) ?_
                refine hp_iadd hx hb d_M_close_84 ?_
                refine lv_aload_n hx hb d_M_close_85 rfl (lv_at hl 4 rfl) ?_
                refine hp_get (C := R_M) (T := F_M) (N := 19) (v := .ref (mo + 14)) hx hb hG la_M hown hK.1 hm rfl 17 (by decide) (hG _ fl_M_50) (fun _ h9 => h9) rfl d_M_close_86 ?_
                refine lv_iload hx hb d_M_close_89 (lv_at hl 2 rfl) ?_
                refine hp_iald hx hb hK.1 0 hla rfl d_M_close_91 (by omega) ((gw g t k).natAbs) (by omega) (by omega) ?_
                refine hp_iast hx hb hK.1 0 hco hS (by show _ ∨ _; omega) rfl d_M_close_92 (by omega) ((4 * k) + 1) (by omega) (by omega) (fun H locs hcon hz1 ho1 hS => ?_)
                have hZ := hz1.trans hZ
                have hm := hm.keep (ho1 (mo) (by omega))
                have hsd := hsd.keep (ho1 (mo + 1) (by omega))
                have hsz := hsz.keep (ho1 (mo + 2) (by omega))
                have hwd := hwd.keep (ho1 (mo + 3) (by omega))
                have hkn := hkn.keep (ho1 (mo + 10) (by omega))
                have hla := hla.keep (ho1 (mo + 14) (by omega))
                have hco : ca E H (mo + 15) (ai E 160 (hp_up co1 ((4 * k) + 1) (la1 ((gw g t k).natAbs)))) := hcon
                refine lv_aload_n hx hb d_M_close_93 rfl (lv_at hl 4 rfl) ?_
                refine hp_get (C := R_M) (T := F_M) (N := 19) (v := .ref (mo + 15)) hx hb hG la_M hown hK.1 hm rfl 18 (by decide) (hG _ fl_M_53) (fun _ h9 => h9) rfl d_M_close_94 ?_
                refine hp_iconst (z := 4) hx hb d_M_close_97 (by rfl) ?_
                refine lv_iload_n hx hb d_M_close_98 rfl (lv_at hl 7 rfl) ?_
                refine hp_imul hx hb d_M_close_99 ?_
                refine lv_iload hx hb d_M_close_100 (lv_at hl 0 rfl) ?_
                refine hp_iadd hx hb d_M_close_102 ?_
                refine hp_iconst (z := 1) hx hb d_M_close_103 (by rfl) ?_
                refine hp_iadd hx hb d_M_close_104 ?_
                refine lv_iload hx hb d_M_close_105 (lv_at hl 1 rfl) ?_
                refine hp_iast hx hb hK.1 0 hco hS (by show _ ∨ _; omega) rfl d_M_close_107 (by omega) (((4 * k) + 1) + 1) (by omega) (by omega) (fun H locs hcon hz1 ho1 hS => ?_)
                have hZ := hz1.trans hZ
                have hm := hm.keep (ho1 (mo) (by omega))
                have hsd := hsd.keep (ho1 (mo + 1) (by omega))
                have hsz := hsz.keep (ho1 (mo + 2) (by omega))
                have hwd := hwd.keep (ho1 (mo + 3) (by omega))
                have hkn := hkn.keep (ho1 (mo + 10) (by omega))
                have hla := hla.keep (ho1 (mo + 14) (by omega))
                have hco : ca E H (mo + 15) (ai E 160 (hp_up (hp_up co1 ((4 * k) + 1) (la1 ((gw g t k).natAbs))) (((4 * k) + 1) + 1) (((w t : Int) + (2 * (k : Int))) + 1))) := hcon
                refine lv_aload_n hx hb d_M_close_108 rfl (lv_at hl 4 rfl) ?_
                refine hp_get (C := R_M) (T := F_M) (N := 19) (v := .ref (mo + 15)) hx hb hG la_M hown hK.1 hm rfl 18 (by decide) (hG _ fl_M_53) (fun _ h9 => h9) rfl d_M_close_109 ?_
                refine hp_iconst (z := 4) hx hb d_M_close_112 (by rfl) ?_
                refine lv_iload_n hx hb d_M_close_113 rfl (lv_at hl 7 rfl) ?_
                refine hp_imul hx hb d_M_close_114 ?_
                refine lv_iload hx hb d_M_close_115 (lv_at hl 0 rfl) ?_
                refine hp_iadd hx hb d_M_close_117 ?_
                refine hp_iconst (z := 2) hx hb d_M_close_118 (by rfl) ?_
                refine hp_iadd hx hb d_M_close_119 ?_
                refine lv_iload hx hb d_M_close_120 (lv_at hl 1 rfl) ?_
                refine hp_iconst (z := 1) hx hb d_M_close_122 (by rfl) ?_
                refine hp_iadd hx hb d_M_close_123 ?_
                refine hp_iast hx hb hK.1 0 hco hS (by show _ ∨ _; omega) rfl d_M_close_124 (by omega) (((4 * k) + 1) + 2) (by omega) (by omega) (fun H locs hcon hz1 ho1 hS => ?_)
                have hZ := hz1.trans hZ
                have hm := hm.keep (ho1 (mo) (by omega))
                have hsd := hsd.keep (ho1 (mo + 1) (by omega))
                have hsz := hsz.keep (ho1 (mo + 2) (by omega))
                have hwd := hwd.keep (ho1 (mo + 3) (by omega))
                have hkn := hkn.keep (ho1 (mo + 10) (by omega))
                have hla := hla.keep (ho1 (mo + 14) (by omega))
                have hco : ca E H (mo + 15) (ai E 160 (hp_up (hp_up (hp_up co1 ((4 * k) + 1) (la1 ((gw g t k).natAbs))) (((4 * k) + 1) + 1) (((w t : Int) + (2 * (k : Int))) + 1)) (((4 * k) + 1) + 2) ((((w t : Int) + (2 * (k : Int))) + 1) + 1))) := hcon
                refine lv_aload_n hx hb d_M_close_125 rfl (lv_at hl 4 rfl) ?_
                refine hp_get (C := R_M) (T := F_M) (N := 19) (v := .ref (mo + 15)) hx hb hG la_M hown hK.1 hm rfl 18 (by decide) (hG _ fl_M_53) (fun _ h9 => h9) rfl d_M_close_126 ?_
                refine hp_iconst (z := 4) hx hb d_M_close_129 (by rfl) ?_
                refine lv_iload_n hx hb d_M_close_130 rfl (lv_at hl 7 rfl) ?_
                refine hp_imul hx hb d_M_close_131 ?_
                refine lv_iload hx hb d_M_close_132 (lv_at hl 0 rfl) ?_
                refine hp_iconst (z := 3) hx hb d_M_close_134 (by rfl) ?_
                refine hp_iadd hx hb d_M_close_135 ?_
                refine hp_iconst (z := 4) hx hb d_M_close_136 (by rfl) ?_
                refine hp_iremN (a := 4) (d := 4) hx hb d_M_close_137 (by omega) (by omega) (by omega) ?_
                refine hp_iadd hx hb d_M_close_138 ?_
                refine lv_aload_n hx hb d_M_close_139 rfl (lv_at hl 4 rfl) ?_
                refine hp_get (C := R_M) (T := F_M) (N := 19) (v := .ref (mo + 14)) hx hb hG la_M hown hK.1 hm rfl 17 (by decide) (hG _ fl_M_50) (fun _ h9 => h9) rfl d_M_close_140 ?_
                refine lv_iload hx hb d_M_close_143 (lv_at hl 2 rfl) ?_
                refine hp_iconst (z := 1) hx hb d_M_close_145 (by rfl) ?_
                refine hp_iadd hx hb d_M_close_146 ?_
                refine hp_iald hx hb hK.1 0 hla rfl d_M_close_147 (by omega) ((gw g t k).natAbs + 1) (by omega) (by omega) ?_
                refine hp_iast hx hb hK.1 0 hco hS (by show _ ∨ _; omega) rfl d_M_close_148 (by omega) ((4 * k) + (4 % 4)) (by omega) (by omega) (fun H locs hcon hz1 ho1 hS => ?_)
                have hZ := hz1.trans hZ
                have hm := hm.keep (ho1 (mo) (by omega))
                have hsd := hsd.keep (ho1 (mo + 1) (by omega))
                have hsz := hsz.keep (ho1 (mo + 2) (by omega))
                have hwd := hwd.keep (ho1 (mo + 3) (by omega))
                have hkn := hkn.keep (ho1 (mo + 10) (by omega))
                have hla := hla.keep (ho1 (mo + 14) (by omega))
                have hco : ca E H (mo + 15) (ai E 160 (hp_up (hp_up (hp_up (hp_up co1 ((4 * k) + 1) (la1 ((gw g t k).natAbs))) (((4 * k) + 1) + 1) (((w t : Int) + (2 * (k : Int))) + 1)) (((4 * k) + 1) + 2) ((((w t : Int) + (2 * (k : Int))) + 1) + 1)) ((4 * k) + (4 % 4)) (la1 ((gw g t k).natAbs + 1)))) := hcon
                refine lv_aload_n hx hb d_M_close_149 rfl (lv_at hl 4 rfl) ?_
                refine hp_get (C := R_M) (T := F_M) (N := 19) (v := .ref (mo + 14)) hx hb hG la_M hown hK.1 hm rfl 17 (by decide) (hG _ fl_M_50) (fun _ h9 => h9) rfl d_M_close_150 ?_
                refine lv_iload hx hb d_M_close_153 (lv_at hl 2 rfl) ?_
                refine lv_iload hx hb d_M_close_155 (lv_at hl 1 rfl) ?_
                refine hp_iast hx hb hK.1 0 hla hS (by show _ ∨ _; omega) rfl d_M_close_157 (by omega) ((gw g t k).natAbs) (by omega) (by omega) (fun H locs hlan hz1 ho1 hS => ?_)
                have hZ := hz1.trans hZ
                have hm := hm.keep (ho1 (mo) (by omega))
                have hsd := hsd.keep (ho1 (mo + 1) (by omega))
                have hsz := hsz.keep (ho1 (mo + 2) (by omega))
                have hwd := hwd.keep (ho1 (mo + 3) (by omega))
                have hkn := hkn.keep (ho1 (mo + 10) (by omega))
                have hco := hco.keep (ho1 (mo + 15) (by omega))
                have hla : ca E H (mo + 14) (ai E 9 (hp_up la1 ((gw g t k).natAbs) (((w t : Int) + (2 * (k : Int))) + 1))) := hlan
                refine lv_aload_n hx hb d_M_close_158 rfl (lv_at hl 4 rfl) ?_
                refine hp_get (C := R_M) (T := F_M) (N := 19) (v := .ref (mo + 14)) hx hb hG la_M hown hK.1 hm rfl 17 (by decide) (hG _ fl_M_50) (fun _ h9 => h9) rfl d_M_close_159 ?_
                refine lv_iload hx hb d_M_close_162 (lv_at hl 2 rfl) ?_
                refine hp_iconst (z := 1) hx hb d_M_close_164 (by rfl) ?_
                refine hp_iadd hx hb d_M_close_165 ?_
                refine lv_iload hx hb d_M_close_166 (lv_at hl 1 rfl) ?_
                refine hp_iconst (z := 1) hx hb d_M_close_168 (by rfl) ?_
                refine hp_iadd hx hb d_M_close_169 ?_
                refine hp_iast hx hb hK.1 0 hla hS (by show _ ∨ _; omega) rfl d_M_close_170 (by omega) ((gw g t k).natAbs + 1) (by omega) (by omega) (fun H locs hlan hz1 ho1 hS => ?_)
                have hZ := hz1.trans hZ
                have hm := hm.keep (ho1 (mo) (by omega))
                have hsd := hsd.keep (ho1 (mo + 1) (by omega))
                have hsz := hsz.keep (ho1 (mo + 2) (by omega))
                have hwd := hwd.keep (ho1 (mo + 3) (by omega))
                have hkn := hkn.keep (ho1 (mo + 10) (by omega))
                have hco := hco.keep (ho1 (mo + 15) (by omega))
                have hla : ca E H (mo + 14) (ai E 9 (hp_up (hp_up la1 ((gw g t k).natAbs) (((w t : Int) + (2 * (k : Int))) + 1)) ((gw g t k).natAbs + 1) ((((w t : Int) + (2 * (k : Int))) + 1) + 1))) := hlan
                refine hp_iinc (z := ((k : Int) + 1)) (lv' := [(3, .int (iI ((k : Int) + 1))), (7, .int (iI 1)), (6, .int (iI (((w t : Int) + (2 * (k : Int))) + 1))), (5, .int (iI ((gw g t k).natAbs : Int))), (4, .int (iI (gw g t k))), (0, .ref mo), (1, .int (iI (t : Int))), (2, .int (iI (w t : Int)))]) hx hb d_M_close_171 hl (k := 7) rfl (by omega) (by decide) rfl (fun ls hl => ?_)
                refine lv_goto (tgt := 29) hx hb d_M_close_174 (by decide) ?_
                exact ih29  (k + 1) (hp_up (hp_up la1 ((gw g t k).natAbs) (((w t : Int) + (2 * (k : Int))) + 1)) ((gw g t k).natAbs + 1) ((((w t : Int) + (2 * (k : Int))) + 1) + 1)) (hp_up (hp_up (hp_up (hp_up co1 ((4 * k) + 1) (la1 ((gw g t k).natAbs))) (((4 * k) + 1) + 1) (((w t : Int) + (2 * (k : Int))) + 1)) (((4 * k) + 1) + 2) ((((w t : Int) + (2 * (k : Int))) + 1) + 1)) ((4 * k) + (4 % 4)) (la1 ((gw g t k).natAbs + 1))) (by omega) (by omega) (by exact bw_lab_up rfl hla1) (by first | (have hr9 := bw_raw_p (w := w t) (f := gw g t) (k := k) (by omega); exact bw_raw_up hco1 (a0 := 0) (a1 := 1) (a2 := 2) (a3 := 3) ⟨by omega, by rw [hr9.1]; exact hla1 _ (by omega) (by omega)⟩ ⟨by omega, by rw [hr9.2.1]⟩ ⟨by omega, by rw [hr9.2.2.1]⟩ ⟨by omega, by rw [hr9.2.2.2]; exact hla1 ((gw g t k).natAbs + 1) (by omega) (by omega)⟩ (by omega) _ _ _ _ (by omega) (by omega) (by omega) (by omega)) | (have hr9 := bw_raw_n (w := w t) (f := gw g t) (k := k) (by omega); exact bw_raw_up hco1 (a0 := 1) (a1 := 2) (a2 := 3) (a3 := 0) ⟨by omega, by rw [hr9.1]; exact hla1 _ (by omega) (by omega)⟩ ⟨by omega, by rw [hr9.2.1]⟩ ⟨by omega, by rw [hr9.2.2.1]⟩ ⟨by omega, by rw [hr9.2.2.2]; exact hla1 ((gw g t k).natAbs + 1) (by omega) (by omega)⟩ (by omega) _ _ _ _ (by omega) (by omega) (by omega) (by omega))) H locs hS hZ hm hsd hsz hwd hkn hla hco ls (lv_sub hl [5, 6, 7, 0] rfl)
              · skip
                refine hp_iconst (z := 0) hx hb d_M_close_68 (by rfl) ?_
                refine lv_goto (tgt := 73) hx hb d_M_close_69 (by decide) ?_
                refine lv_istore (lv' := [(7, .int (iI 0)), (6, .int (iI (((w t : Int) + (2 * (k : Int))) + 1))), (5, .int (iI ((gw g t k).natAbs : Int))), (4, .int (iI (gw g t k))), (0, .ref mo), (1, .int (iI (t : Int))), (2, .int (iI (w t : Int))), (3, .int (iI (k : Int)))]) hx hb d_M_close_73 hl (by decide) rfl (fun ls hl => ?_)
                refine lv_aload_n hx hb d_M_close_75 rfl (lv_at hl 4 rfl) ?_
                refine hp_get (C := R_M) (T := F_M) (N := 19) (v := .ref (mo + 15)) hx hb hG la_M hown hK.1 hm rfl 18 (by decide) (hG _ fl_M_53) (fun _ h9 => h9) rfl d_M_close_76 ?_
                refine hp_iconst (z := 4) hx hb d_M_close_79 (by rfl) ?_
                refine lv_iload_n hx hb d_M_close_80 rfl (lv_at hl 7 rfl) ?_
                refine hp_imul hx hb d_M_close_81 ?_
                refine lv_iload hx hb d_M_close_82 (lv_at hl 0 rfl) ?_
                refine hp_iadd hx hb d_M_close_84 ?_
                refine lv_aload_n hx hb d_M_close_85 rfl (lv_at hl 4 rfl) ?_
                refine hp_get (C := R_M) (T := F_M) (N := 19) (v := .ref (mo + 14)) hx hb hG la_M hown hK.1 hm rfl 17 (by decide) (hG _ fl_M_50) (fun _ h9 => h9) rfl d_M_close_86 ?_
                refine lv_iload hx hb d_M_close_89 (lv_at hl 2 rfl) ?_
                refine hp_iald hx hb hK.1 0 hla rfl d_M_close_91 (by omega) ((gw g t k).natAbs) (by omega) (by omega) ?_
                refine hp_iast hx hb hK.1 0 hco hS (by show _ ∨ _; omega) rfl d_M_close_92 (by omega) ((4 * k) + 0) (by omega) (by omega) (fun H locs hcon hz1 ho1 hS => ?_)
                have hZ := hz1.trans hZ
                have hm := hm.keep (ho1 (mo) (by omega))
                have hsd := hsd.keep (ho1 (mo + 1) (by omega))
                have hsz := hsz.keep (ho1 (mo + 2) (by omega))
                have hwd := hwd.keep (ho1 (mo + 3) (by omega))
                have hkn := hkn.keep (ho1 (mo + 10) (by omega))
                have hla := hla.keep (ho1 (mo + 14) (by omega))
                have hco : ca E H (mo + 15) (ai E 160 (hp_up co1 ((4 * k) + 0) (la1 ((gw g t k).natAbs)))) := hcon
                refine lv_aload_n hx hb d_M_close_93 rfl (lv_at hl 4 rfl) ?_
                refine hp_get (C := R_M) (T := F_M) (N := 19) (v := .ref (mo + 15)) hx hb hG la_M hown hK.1 hm rfl 18 (by decide) (hG _ fl_M_53) (fun _ h9 => h9) rfl d_M_close_94 ?_
                refine hp_iconst (z := 4) hx hb d_M_close_97 (by rfl) ?_
                refine lv_iload_n hx hb d_M_close_98 rfl (lv_at hl 7 rfl) ?_
                refine hp_imul hx hb d_M_close_99 ?_
                refine lv_iload hx hb d_M_close_100 (lv_at hl 0 rfl) ?_
                refine hp_iadd hx hb d_M_close_102 ?_
                refine hp_iconst (z := 1) hx hb d_M_close_103 (by rfl) ?_
                refine hp_iadd hx hb d_M_close_104 ?_
                refine lv_iload hx hb d_M_close_105 (lv_at hl 1 rfl) ?_
                refine hp_iast hx hb hK.1 0 hco hS (by show _ ∨ _; omega) rfl d_M_close_107 (by omega) (((4 * k) + 0) + 1) (by omega) (by omega) (fun H locs hcon hz1 ho1 hS => ?_)
                have hZ := hz1.trans hZ
                have hm := hm.keep (ho1 (mo) (by omega))
                have hsd := hsd.keep (ho1 (mo + 1) (by omega))
                have hsz := hsz.keep (ho1 (mo + 2) (by omega))
                have hwd := hwd.keep (ho1 (mo + 3) (by omega))
                have hkn := hkn.keep (ho1 (mo + 10) (by omega))
                have hla := hla.keep (ho1 (mo + 14) (by omega))
                have hco : ca E H (mo + 15) (ai E 160 (hp_up (hp_up co1 ((4 * k) + 0) (la1 ((gw g t k).natAbs))) (((4 * k) + 0) + 1) (((w t : Int) + (2 * (k : Int))) + 1))) := hcon
                refine lv_aload_n hx hb d_M_close_108 rfl (lv_at hl 4 rfl) ?_
                refine hp_get (C := R_M) (T := F_M) (N := 19) (v := .ref (mo + 15)) hx hb hG la_M hown hK.1 hm rfl 18 (by decide) (hG _ fl_M_53) (fun _ h9 => h9) rfl d_M_close_109 ?_
                refine hp_iconst (z := 4) hx hb d_M_close_112 (by rfl) ?_
                refine lv_iload_n hx hb d_M_close_113 rfl (lv_at hl 7 rfl) ?_
                refine hp_imul hx hb d_M_close_114 ?_
                refine lv_iload hx hb d_M_close_115 (lv_at hl 0 rfl) ?_
                refine hp_iadd hx hb d_M_close_117 ?_
                refine hp_iconst (z := 2) hx hb d_M_close_118 (by rfl) ?_
                refine hp_iadd hx hb d_M_close_119 ?_
                refine lv_iload hx hb d_M_close_120 (lv_at hl 1 rfl) ?_
                refine hp_iconst (z := 1) hx hb d_M_close_122 (by rfl) ?_
                refine hp_iadd hx hb d_M_close_123 ?_
                refine hp_iast hx hb hK.1 0 hco hS (by show _ ∨ _; omega) rfl d_M_close_124 (by omega) (((4 * k) + 0) + 2) (by omega) (by omega) (fun H locs hcon hz1 ho1 hS => ?_)
                have hZ := hz1.trans hZ
                have hm := hm.keep (ho1 (mo) (by omega))
                have hsd := hsd.keep (ho1 (mo + 1) (by omega))
                have hsz := hsz.keep (ho1 (mo + 2) (by omega))
                have hwd := hwd.keep (ho1 (mo + 3) (by omega))
                have hkn := hkn.keep (ho1 (mo + 10) (by omega))
                have hla := hla.keep (ho1 (mo + 14) (by omega))
                have hco : ca E H (mo + 15) (ai E 160 (hp_up (hp_up (hp_up co1 ((4 * k) + 0) (la1 ((gw g t k).natAbs))) (((4 * k) + 0) + 1) (((w t : Int) + (2 * (k : Int))) + 1)) (((4 * k) + 0) + 2) ((((w t : Int) + (2 * (k : Int))) + 1) + 1))) := hcon
                refine lv_aload_n hx hb d_M_close_125 rfl (lv_at hl 4 rfl) ?_
                refine hp_get (C := R_M) (T := F_M) (N := 19) (v := .ref (mo + 15)) hx hb hG la_M hown hK.1 hm rfl 18 (by decide) (hG _ fl_M_53) (fun _ h9 => h9) rfl d_M_close_126 ?_
                refine hp_iconst (z := 4) hx hb d_M_close_129 (by rfl) ?_
                refine lv_iload_n hx hb d_M_close_130 rfl (lv_at hl 7 rfl) ?_
                refine hp_imul hx hb d_M_close_131 ?_
                refine lv_iload hx hb d_M_close_132 (lv_at hl 0 rfl) ?_
                refine hp_iconst (z := 3) hx hb d_M_close_134 (by rfl) ?_
                refine hp_iadd hx hb d_M_close_135 ?_
                refine hp_iconst (z := 4) hx hb d_M_close_136 (by rfl) ?_
                refine hp_iremN (a := 3) (d := 4) hx hb d_M_close_137 (by omega) (by omega) (by omega) ?_
                refine hp_iadd hx hb d_M_close_138 ?_
                refine lv_aload_n hx hb d_M_close_139 rfl (lv_at hl 4 rfl) ?_
                refine hp_get (C := R_M) (T := F_M) (N := 19) (v := .ref (mo + 14)) hx hb hG la_M hown hK.1 hm rfl 17 (by decide) (hG _ fl_M_50) (fun _ h9 => h9) rfl d_M_close_140 ?_
                refine lv_iload hx hb d_M_close_143 (lv_at hl 2 rfl) ?_
                refine hp_iconst (z := 1) hx hb d_M_close_145 (by rfl) ?_
                refine hp_iadd hx hb d_M_close_146 ?_
                refine hp_iald hx hb hK.1 0 hla rfl d_M_close_147 (by omega) ((gw g t k).natAbs + 1) (by omega) (by omega) ?_
                refine hp_iast hx hb hK.1 0 hco hS (by show _ ∨ _; omega) rfl d_M_close_148 (by omega) ((4 * k) + (3 % 4)) (by omega) (by omega) (fun H locs hcon hz1 ho1 hS => ?_)
                have hZ := hz1.trans hZ
                have hm := hm.keep (ho1 (mo) (by omega))
                have hsd := hsd.keep (ho1 (mo + 1) (by omega))
                have hsz := hsz.keep (ho1 (mo + 2) (by omega))
                have hwd := hwd.keep (ho1 (mo + 3) (by omega))
                have hkn := hkn.keep (ho1 (mo + 10) (by omega))
                have hla := hla.keep (ho1 (mo + 14) (by omega))
                have hco : ca E H (mo + 15) (ai E 160 (hp_up (hp_up (hp_up (hp_up co1 ((4 * k) + 0) (la1 ((gw g t k).natAbs))) (((4 * k) + 0) + 1) (((w t : Int) + (2 * (k : Int))) + 1)) (((4 * k) + 0) + 2) ((((w t : Int) + (2 * (k : Int))) + 1) + 1)) ((4 * k) + (3 % 4)) (la1 ((gw g t k).natAbs + 1)))) := hcon
                refine lv_aload_n hx hb d_M_close_149 rfl (lv_at hl 4 rfl) ?_
                refine hp_get (C := R_M) (T := F_M) (N := 19) (v := .ref (mo + 14)) hx hb hG la_M hown hK.1 hm rfl 17 (by decide) (hG _ fl_M_50) (fun _ h9 => h9) rfl d_M_close_150 ?_
                refine lv_iload hx hb d_M_close_153 (lv_at hl 2 rfl) ?_
                refine lv_iload hx hb d_M_close_155 (lv_at hl 1 rfl) ?_
                refine hp_iast hx hb hK.1 0 hla hS (by show _ ∨ _; omega) rfl d_M_close_157 (by omega) ((gw g t k).natAbs) (by omega) (by omega) (fun H locs hlan hz1 ho1 hS => ?_)
                have hZ := hz1.trans hZ
                have hm := hm.keep (ho1 (mo) (by omega))
                have hsd := hsd.keep (ho1 (mo + 1) (by omega))
                have hsz := hsz.keep (ho1 (mo + 2) (by omega))
                have hwd := hwd.keep (ho1 (mo + 3) (by omega))
                have hkn := hkn.keep (ho1 (mo + 10) (by omega))
                have hco := hco.keep (ho1 (mo + 15) (by omega))
                have hla : ca E H (mo + 14) (ai E 9 (hp_up la1 ((gw g t k).natAbs) (((w t : Int) + (2 * (k : Int))) + 1))) := hlan
                refine lv_aload_n hx hb d_M_close_158 rfl (lv_at hl 4 rfl) ?_
                refine hp_get (C := R_M) (T := F_M) (N := 19) (v := .ref (mo + 14)) hx hb hG la_M hown hK.1 hm rfl 17 (by decide) (hG _ fl_M_50) (fun _ h9 => h9) rfl d_M_close_159 ?_
                refine lv_iload hx hb d_M_close_162 (lv_at hl 2 rfl) ?_
                refine hp_iconst (z := 1) hx hb d_M_close_164 (by rfl) ?_
                refine hp_iadd hx hb d_M_close_165 ?_
                refine lv_iload hx hb d_M_close_166 (lv_at hl 1 rfl) ?_
                refine hp_iconst (z := 1) hx hb d_M_close_168 (by rfl) ?_
                refine hp_iadd hx hb d_M_close_169 ?_
                refine hp_iast hx hb hK.1 0 hla hS (by show _ ∨ _; omega) rfl d_M_close_170 (by omega) ((gw g t k).natAbs + 1) (by omega) (by omega) (fun H locs hlan hz1 ho1 hS => ?_)
                have hZ := hz1.trans hZ
                have hm := hm.keep (ho1 (mo) (by omega))
                have hsd := hsd.keep (ho1 (mo + 1) (by omega))
                have hsz := hsz.keep (ho1 (mo + 2) (by omega))
                have hwd := hwd.keep (ho1 (mo + 3) (by omega))
                have hkn := hkn.keep (ho1 (mo + 10) (by omega))
                have hco := hco.keep (ho1 (mo + 15) (by omega))
                have hla : ca E H (mo + 14) (ai E 9 (hp_up (hp_up la1 ((gw g t k).natAbs) (((w t : Int) + (2 * (k : Int))) + 1)) ((gw g t k).natAbs + 1) ((((w t : Int) + (2 * (k : Int))) + 1) + 1))) := hlan
                refine hp_iinc (z := ((k : Int) + 1)) (lv' := [(3, .int (iI ((k : Int) + 1))), (7, .int (iI 0)), (6, .int (iI (((w t : Int) + (2 * (k : Int))) + 1))), (5, .int (iI ((gw g t k).natAbs : Int))), (4, .int (iI (gw g t k))), (0, .ref mo), (1, .int (iI (t : Int))), (2, .int (iI (w t : Int)))]) hx hb d_M_close_171 hl (k := 7) rfl (by omega) (by decide) rfl (fun ls hl => ?_)
                refine lv_goto (tgt := 29) hx hb d_M_close_174 (by decide) ?_
                exact ih29  (k + 1) (hp_up (hp_up la1 ((gw g t k).natAbs) (((w t : Int) + (2 * (k : Int))) + 1)) ((gw g t k).natAbs + 1) ((((w t : Int) + (2 * (k : Int))) + 1) + 1)) (hp_up (hp_up (hp_up (hp_up co1 ((4 * k) + 0) (la1 ((gw g t k).natAbs))) (((4 * k) + 0) + 1) (((w t : Int) + (2 * (k : Int))) + 1)) (((4 * k) + 0) + 2) ((((w t : Int) + (2 * (k : Int))) + 1) + 1)) ((4 * k) + (3 % 4)) (la1 ((gw g t k).natAbs + 1))) (by omega) (by omega) (by exact bw_lab_up rfl hla1) (by first | (have hr9 := bw_raw_p (w := w t) (f := gw g t) (k := k) (by omega); exact bw_raw_up hco1 (a0 := 0) (a1 := 1) (a2 := 2) (a3 := 3) ⟨by omega, by rw [hr9.1]; exact hla1 _ (by omega) (by omega)⟩ ⟨by omega, by rw [hr9.2.1]⟩ ⟨by omega, by rw [hr9.2.2.1]⟩ ⟨by omega, by rw [hr9.2.2.2]; exact hla1 ((gw g t k).natAbs + 1) (by omega) (by omega)⟩ (by omega) _ _ _ _ (by omega) (by omega) (by omega) (by omega)) | (have hr9 := bw_raw_n (w := w t) (f := gw g t) (k := k) (by omega); exact bw_raw_up hco1 (a0 := 1) (a1 := 2) (a2 := 3) (a3 := 0) ⟨by omega, by rw [hr9.1]; exact hla1 _ (by omega) (by omega)⟩ ⟨by omega, by rw [hr9.2.1]⟩ ⟨by omega, by rw [hr9.2.2.1]⟩ ⟨by omega, by rw [hr9.2.2.2]; exact hla1 ((gw g t k).natAbs + 1) (by omega) (by omega)⟩ (by omega) _ _ _ _ (by omega) (by omega) (by omega) (by omega))) H locs hS hZ hm hsd hsz hwd hkn hla hco ls (lv_sub hl [5, 6, 7, 0] rfl)
        exact L29 (c t - 0 + 1) 0 la1 co (by omega) (by omega) (by intro p h1 h2; exact hl1 p h1 (by omega)) (by intro j x h; omega) H locs hS hZ hm hsd hsz hwd hkn hla hco ls (lv_sub hl [1, 2, 3, 0] rfl)
      · skip
        refine lv_aload_n hx hb d_M_close_14 rfl (lv_at hl 0 rfl) ?_
        refine hp_get (C := R_M) (T := F_M) (N := 19) (v := .ref (mo + 14)) hx hb hG la_M hown hK.1 hm rfl 17 (by decide) (hG _ fl_M_50) (fun _ h9 => h9) rfl d_M_close_15 ?_
        refine lv_iload_n hx hb d_M_close_18 rfl (lv_at hl 3 rfl) ?_
        refine lv_iload_n hx hb d_M_close_19 rfl (lv_at hl 3 rfl) ?_
        refine hp_iast hx hb hK.1 0 hla hS (by show _ ∨ _; omega) rfl d_M_close_20 (by omega) q (by omega) (by omega) (fun H locs hlan hz1 ho1 hS => ?_)
        have hZ := hz1.trans hZ
        have hm := hm.keep (ho1 (mo) (by omega))
        have hsd := hsd.keep (ho1 (mo + 1) (by omega))
        have hsz := hsz.keep (ho1 (mo + 2) (by omega))
        have hwd := hwd.keep (ho1 (mo + 3) (by omega))
        have hkn := hkn.keep (ho1 (mo + 10) (by omega))
        have hco := hco.keep (ho1 (mo + 15) (by omega))
        have hla : ca E H (mo + 14) (ai E 9 (hp_up la1 q (q : Int))) := hlan
        refine hp_iinc (z := ((q : Int) + 1)) (lv' := [(3, .int (iI ((q : Int) + 1))), (0, .ref mo), (1, .int (iI (t : Int))), (2, .int (iI (w t : Int)))]) hx hb d_M_close_21 hl (k := 3) rfl (by omega) (by decide) rfl (fun ls hl => ?_)
        refine lv_goto (tgt := 9) hx hb d_M_close_24 (by decide) ?_
        exact ih9  (q + 1) (hp_up la1 q (q : Int)) (by omega) (by omega) (by intro p h1 h2; by_cases e9 : p = q; (rw [e9, hp_up_s]); (rw [hp_up_n _ _ e9]; exact hl1 p h1 (by omega))) H locs hS hZ hm hsd hsz hwd hkn hla hco ls (lv_sub hl [1, 2, 3, 0] rfl)
  exact L9 (w t + 2 - 1 + 1) 1 la (by omega) (by omega) (by intro p h1 h2; omega) H locs hS hZ hm hsd hsz hwd hkn hla hco ls (lv_sub hl [2, 3, 1, 0] rfl)

set_option maxHeartbeats 4000000 in
set_option maxRecDepth 100000 in
/-- crossing(s, k, what) -/
theorem c_M_crossing (l : Launch) (E : hp_E) (mo : Nat) (th md fe ps : Int) (w c : Nat → Nat) (g : Nat → Int) (kz : Nat → Bool) (la co : Nat → Int) (s0 k0 x0 : Int) (hs0 : iR s0) (hk0 : iR k0) (hx0 : iR x0) (hbd : bd g) (hvm : ∀ i, i < 4 → 1 ≤ w i ∧ w i ≤ 8 ∧ c i ≤ 32) (hok : ∀ i, i < 4 → okw (w i) (c i) (gw g i)) : Met l y_M_crossing (Cond.code y_M_crossing b_M_crossing 4 (some .int) :: G0) ({ frames := 2, cells := 0, slots := 0, locals := 49 }) (hp_P E [.ref mo, .int (iI s0), .int (iI k0), .int (iI x0)] (fun H => mW E H mo th md fe ps w c g kz ∧ ca E H (mo + 14) (ai E 9 la) ∧ ca E H (mo + 15) (ai E 160 co))) (hp_Qi (fun q => q = mo + 14 ∨ q = mo + 15) (fun r H => r = (if 0 ≤ s0 ∧ s0 < 4 ∧ 0 ≤ k0 ∧ k0 < (c s0.toNat : Int) ∧ 0 ≤ x0 ∧ x0 ≤ 4 then (if x0 = 4 then bw_sgn (gw g s0.toNat k0.toNat) else bw_cor (w s0.toNat) (c s0.toNat) (gw g s0.toNat) k0.toNat x0) else 0) ∧ (∃ la1 : Nat → Int, ca E H (mo + 14) (ai E 9 la1)) ∧ ∃ co1 : Nat → Int, ca E H (mo + 15) (ai E 160 co1))) 0 0 (fun q => q = mo + 14 ∨ q = mo + 15) := by
  refine Met.ofW (cc := b_M_crossing) (maxL := 4) (ret := some .int) (by decide) rfl ?_
  intro p e s m args below meth cd s₁ Bd hml hv
  obtain ⟨hargs, hB, hK⟩ := hv
  have hx := Bd.exec
  have hb := Bd.bytes
  have hrt := Bd.returns
  have hts := atoms_spec (ws := Cond.code y_M_crossing b_M_crossing 4 (some .int) :: G0) Bd.pre
  have hG : ∀ w ∈ G0, w.before args s = true := fun w h => hts w (List.mem_cons_of_mem _ h)
  have hown : s.vm.findClass R_M = some m.cls := findClass_of_methodNamed Bd.named
  have hlocks := Bd.notSynchronized
  have hl := lv_entry ([.ref mo, .int (iI s0), .int (iI k0), .int (iI x0)]) (n := 4) (Nat.le_of_ble_eq_true rfl)
  rw [show entryFrame m args 4 = entryFrame m ([.ref mo, .int (iI s0), .int (iI k0), .int (iI x0)] : List Value).toArray 4 from by rw [hargs]]
  rw [lg_entry_eq]
  generalize (lg_sl ([.ref mo, .int (iI s0), .int (iI k0), .int (iI x0)]) ++ List.replicate (4 - (lg_sl ([.ref mo, .int (iI s0), .int (iI k0), .int (iI x0)])).length) Slot.unset).toArray = ls at hl ⊢
  have hl : lv_has ls 4 [(0, .ref mo), (1, .int (iI s0)), (2, .int (iI k0)), (3, .int (iI x0))] := hl
  obtain ⟨R, hR⟩ : ∃ R, R = (headSpec (Cond.code y_M_crossing b_M_crossing 4 (some .int) :: G0) { frames := 2, cells := 0, slots := 0, locals := 49 }).room := ⟨_, rfl⟩
  rw [← hR]
  have hRf : R.frames = 2 := by rw [hR]; rfl
  have hRl : R.locals = 49 := by rw [hR]; rfl
  have hRc : R.cells = 0 := by rw [hR]; rfl
  have hRs : R.slots = 0 := by rw [hR]; rfl
  obtain ⟨Q, hQ⟩ : ∃ Q, Q = MQ below (hp_Qi (fun q => q = mo + 14 ∨ q = mo + 15) (fun r H => r = (if 0 ≤ s0 ∧ s0 < 4 ∧ 0 ≤ k0 ∧ k0 < (c s0.toNat : Int) ∧ 0 ≤ x0 ∧ x0 ≤ 4 then (if x0 = 4 then bw_sgn (gw g s0.toNat k0.toNat) else bw_cor (w s0.toNat) (c s0.toNat) (gw g s0.toNat) k0.toNat x0) else 0) ∧ (∃ la1 : Nat → Int, ca E H (mo + 14) (ai E 9 la1)) ∧ ∃ co1 : Nat → Int, ca E H (mo + 15) (ai E 160 co1))) args s 0 0 (fun q => q = mo + 14 ∨ q = mo + 15) := ⟨_, rfl⟩
  rw [← hQ]
  obtain ⟨H, hH⟩ : ∃ H, H = s.heap := ⟨_, rfl⟩
  obtain ⟨locs, hlocs⟩ : ∃ locs : List Loc, locs = [] := ⟨_, rfl⟩
  have hS : va_S (fun q => q = mo + 14 ∨ q = mo + 15) s.heap H locs := by rw [hH, hlocs]; exact va_S.rf
  have hZ : H.size = s.heap.size := by rw [hH]
  rw [← hH] at hB
  rw [show W p l e R s m args below meth cd s.heap [] 0 0 Q (F0 m 0 ls []) = W p l e R s m args below meth cd H locs 0 0 Q (F0 m 0 ls []) from by rw [hH, hlocs]]
  obtain ⟨⟨hm, hsd, hsz, hwd, hkn⟩, hla, hco⟩ := hB
  refine lv_iload_n hx hb d_M_crossing_0 rfl (lv_at hl 1 rfl) ?_
  refine hp_callS (W.runS (As := [.int (iI s0)]) (rest := []) ⟨hx, hb, hml, hown, hG⟩ (c_M_isSlot l E s0 (by unfold iR at *; omega)) (cwS 1 hG (hp_goodS ml_M_60 st_M_isSlot in_M co_M_isSlot) rfl rfl rfl hd_M_isSlot ⟨by rw [hRf]; exact Nat.le_of_ble_eq_true rfl, by rw [hRl]; exact Nat.le_of_ble_eq_true rfl⟩) (hp_preS hp_nsn hK trivial) rfl rfl hl.1 rfl (lv_room (Nat.le_of_ble_eq_true rfl)) d_M_crossing_1 ⟨by rw [hRc]; exact Nat.le_of_ble_eq_true rfl, by rw [hRs]; exact Nat.le_of_ble_eq_true rfl⟩) ?_
  refine hp_ifb_eq (tgt := 30) hx hb d_M_crossing_4 (by decide) (fun c4 => ?_) (fun c4 => ?_)
  · skip
    have c4 := of_decide_eq_false c4
    refine hp_iconst (z := 0) hx hb d_M_crossing_30 (by rfl) ?_
    rw [hQ]
    refine hp_iretQ hx hb hrt hlocks d_M_crossing_31 hS hZ ?_
    refine ⟨?_, ⟨_, hla⟩, _, hco⟩
    first | (rw [if_neg (by omega)]) | (rw [Int.toNat_natCast, if_neg (by omega)])
  · skip
    have c4 := of_decide_eq_true c4
    obtain ⟨t, rfl⟩ : ∃ q : Nat, s0 = (q : Int) := ⟨s0.toNat, by omega⟩
    have hvt := hvm t (by omega)
    refine lv_iload_n hx hb d_M_crossing_7 rfl (lv_at hl 2 rfl) ?_
    refine hp_if_lt (tgt := 30) hx hb d_M_crossing_8 (by decide) (by unfold iR at *; omega) (fun c8 => ?_) (fun c8 => ?_)
    · skip
      refine hp_iconst (z := 0) hx hb d_M_crossing_30 (by rfl) ?_
      rw [hQ]
      refine hp_iretQ hx hb hrt hlocks d_M_crossing_31 hS hZ ?_
      refine ⟨?_, ⟨_, hla⟩, _, hco⟩
      first | (rw [if_neg (by omega)]) | (rw [Int.toNat_natCast, if_neg (by omega)])
    · skip
      refine lv_iload_n hx hb d_M_crossing_11 rfl (lv_at hl 2 rfl) ?_
      refine lv_aload_n hx hb d_M_crossing_12 rfl (lv_at hl 0 rfl) ?_
      refine hp_get (C := R_M) (T := F_M) (N := 19) (v := .ref (mo + 2)) hx hb hG la_M hown hK.1 hm rfl 2 (by decide) (hG _ fl_M_13) (fun _ h9 => h9) rfl d_M_crossing_13 ?_
      refine lv_iload_n hx hb d_M_crossing_16 rfl (lv_at hl 1 rfl) ?_
      refine hp_iald hx hb hK.1 0 hsz rfl d_M_crossing_17 (by omega) t (by omega) (by omega) ?_
      refine hp_icmp_ge (tgt := 30) hx hb d_M_crossing_18 (by decide) (by unfold iR at *; omega) (by unfold iR at *; omega) (fun c18 => ?_) (fun c18 => ?_)
      · skip
        refine hp_iconst (z := 0) hx hb d_M_crossing_30 (by rfl) ?_
        rw [hQ]
        refine hp_iretQ hx hb hrt hlocks d_M_crossing_31 hS hZ ?_
        refine ⟨?_, ⟨_, hla⟩, _, hco⟩
        first | (rw [if_neg (by omega)]) | (rw [Int.toNat_natCast, if_neg (by omega)])
      · skip
        refine lv_iload_n hx hb d_M_crossing_21 rfl (lv_at hl 3 rfl) ?_
        refine hp_if_lt (tgt := 30) hx hb d_M_crossing_22 (by decide) (by unfold iR at *; omega) (fun c22 => ?_) (fun c22 => ?_)
        · skip
          refine hp_iconst (z := 0) hx hb d_M_crossing_30 (by rfl) ?_
          rw [hQ]
          refine hp_iretQ hx hb hrt hlocks d_M_crossing_31 hS hZ ?_
          refine ⟨?_, ⟨_, hla⟩, _, hco⟩
          first | (rw [if_neg (by omega)]) | (rw [Int.toNat_natCast, if_neg (by omega)])
        · skip
          refine lv_iload_n hx hb d_M_crossing_25 rfl (lv_at hl 3 rfl) ?_
          refine hp_iconst (z := 4) hx hb d_M_crossing_26 (by rfl) ?_
          refine hp_icmp_le (tgt := 32) hx hb d_M_crossing_27 (by decide) (by unfold iR at *; omega) (by unfold iR at *; omega) (fun c27 => ?_) (fun c27 => ?_)
          · skip
            obtain ⟨k, rfl⟩ : ∃ q : Nat, k0 = (q : Int) := ⟨k0.toNat, by omega⟩
            have hb1 := gw_bd hbd t k
            have hz1 := (hok t (by omega) k (by omega)).1
            refine lv_iload_n hx hb d_M_crossing_32 rfl (lv_at hl 3 rfl) ?_
            refine hp_iconst (z := 4) hx hb d_M_crossing_33 (by rfl) ?_
            refine hp_icmp_ne (tgt := 52) hx hb d_M_crossing_34 (by decide) (by unfold iR at *; omega) (by unfold iR at *; omega) (fun c34 => ?_) (fun c34 => ?_)
            · skip
              refine lv_aload_n hx hb d_M_crossing_52 rfl (lv_at hl 0 rfl) ?_
              refine lv_iload_n hx hb d_M_crossing_53 rfl (lv_at hl 1 rfl) ?_
              refine hp_callv (W.runV (As := [.int (iI (t : Int))]) (rest := []) ⟨hx, hb, hml, hown, hG⟩ (c_M_close l E mo th md fe ps w c g kz la co t (by omega) (by omega) hbd (hok t (by omega))) (cwV 1 hG (hp_goodV ml_M_132 im_M_close se_M_close in_M co_M_close) rfl rfl rfl hd_M_close ⟨by rw [hRf]; exact Nat.le_of_ble_eq_true rfl, by rw [hRl]; exact Nat.le_of_ble_eq_true rfl⟩) (hp_preV (ci := 3) hp_nsn hK rfl hm ⟨⟨hm, hsd, hsz, hwd, hkn⟩, hla, hco⟩) rfl rfl hl.1 rfl (lv_room (Nat.le_of_ble_eq_true rfl)) d_M_crossing_54 ⟨by rw [hRc]; exact Nat.le_of_ble_eq_true rfl, by rw [hRs]; exact Nat.le_of_ble_eq_true rfl⟩) hS (fun q h => h) (fun H locs hpost hz1 ho1 hS => ?_)
              have hZ := hz1.trans hZ
              obtain ⟨⟨la1, hla⟩, co1, hco, hcor⟩ := hpost
              have hm := hm.keep (ho1 (mo) (by omega))
              have hsd := hsd.keep (ho1 (mo + 1) (by omega))
              have hsz := hsz.keep (ho1 (mo + 2) (by omega))
              have hwd := hwd.keep (ho1 (mo + 3) (by omega))
              have hkn := hkn.keep (ho1 (mo + 10) (by omega))
              obtain ⟨x, rfl⟩ : ∃ q : Nat, x0 = (q : Int) := ⟨x0.toNat, by omega⟩
              refine lv_aload_n hx hb d_M_crossing_57 rfl (lv_at hl 0 rfl) ?_
              refine hp_get (C := R_M) (T := F_M) (N := 19) (v := .ref (mo + 15)) hx hb hG la_M hown hK.1 hm rfl 18 (by decide) (hG _ fl_M_53) (fun _ h9 => h9) rfl d_M_crossing_58 ?_
              refine hp_iconst (z := 4) hx hb d_M_crossing_61 (by rfl) ?_
              refine lv_iload_n hx hb d_M_crossing_62 rfl (lv_at hl 2 rfl) ?_
              refine hp_imul hx hb d_M_crossing_63 ?_
              refine lv_iload_n hx hb d_M_crossing_64 rfl (lv_at hl 3 rfl) ?_
              refine hp_iadd hx hb d_M_crossing_65 ?_
              refine hp_iald hx hb hK.1 0 hco rfl d_M_crossing_66 (by omega) ((4 * k) + x) (by omega) (by omega) ?_
              rw [hQ]
              refine hp_iretQ hx hb hrt hlocks d_M_crossing_67 hS hZ ?_
              refine ⟨?_, ⟨_, hla⟩, _, hco⟩
              rw [Int.toNat_natCast, Int.toNat_natCast, if_pos (by omega), if_neg (by omega)]
              exact hcor k x (by omega) (by omega)
            · skip
              refine lv_aload_n hx hb d_M_crossing_37 rfl (lv_at hl 0 rfl) ?_
              refine lv_iload_n hx hb d_M_crossing_38 rfl (lv_at hl 1 rfl) ?_
              refine lv_iload_n hx hb d_M_crossing_39 rfl (lv_at hl 2 rfl) ?_
              refine hp_callS (W.runV (As := [.int (iI (t : Int)), .int (iI (k : Int))]) (rest := []) ⟨hx, hb, hml, hown, hG⟩ (c_M_letterAt l E mo th md fe ps w c g kz t k (by omega)) (cwV 2 hG (hp_goodV ml_M_64 im_M_letterAt se_M_letterAt in_M co_M_letterAt) rfl rfl rfl hd_M_letterAt ⟨by rw [hRf]; exact Nat.le_of_ble_eq_true rfl, by rw [hRl]; exact Nat.le_of_ble_eq_true rfl⟩) (hp_preV (ci := 3) hp_nsn hK rfl hm ⟨hm, hsd, hsz, hwd, hkn⟩) rfl rfl hl.1 rfl (lv_room (Nat.le_of_ble_eq_true rfl)) d_M_crossing_40 ⟨by rw [hRc]; exact Nat.le_of_ble_eq_true rfl, by rw [hRs]; exact Nat.le_of_ble_eq_true rfl⟩) ?_
              refine hp_if_le (tgt := 50) hx hb d_M_crossing_43 (by decide) (by unfold iR at *; omega) (fun c43 => ?_) (fun c43 => ?_)
              · skip
                refine hp_iconst (z := (-1)) hx hb d_M_crossing_50 (by rfl) ?_
                rw [hQ]
                refine hp_iretQ hx hb hrt hlocks d_M_crossing_51 hS hZ ?_
                refine ⟨?_, ⟨_, hla⟩, _, hco⟩
                rw [Int.toNat_natCast, Int.toNat_natCast, if_pos (by omega), if_pos (by omega)]
                unfold bw_sgn
                first | (rw [if_pos (by omega)]) | (rw [if_neg (by omega), if_pos (by omega)])
              · skip
                refine hp_iconst (z := 1) hx hb d_M_crossing_46 (by rfl) ?_
                refine lv_goto (tgt := 51) hx hb d_M_crossing_47 (by decide) ?_
                rw [hQ]
                refine hp_iretQ hx hb hrt hlocks d_M_crossing_51 hS hZ ?_
                refine ⟨?_, ⟨_, hla⟩, _, hco⟩
                rw [Int.toNat_natCast, Int.toNat_natCast, if_pos (by omega), if_pos (by omega)]
                unfold bw_sgn
                first | (rw [if_pos (by omega)]) | (rw [if_neg (by omega), if_pos (by omega)])
          · skip
            refine hp_iconst (z := 0) hx hb d_M_crossing_30 (by rfl) ?_
            rw [hQ]
            refine hp_iretQ hx hb hrt hlocks d_M_crossing_31 hS hZ ?_
            refine ⟨?_, ⟨_, hla⟩, _, hco⟩
            first | (rw [if_neg (by omega)]) | (rw [Int.toNat_natCast, if_neg (by omega)])
