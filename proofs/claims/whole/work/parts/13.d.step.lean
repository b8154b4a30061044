/-! One call of the class and of the reference: what both hold stays the same -/
def ag (c : Nat → Nat) (f : Nat → Nat → Int) (g : Nat → Int) : Prop := ∀ i, i < 4 → ∀ k, k < c i → f i k = gw g i k
/-- the class at o, the reference behind it -/
def lwS (E : hp_E) (H : Heap) (o : Nat) : Prop := ∃ (w c : Nat → Nat) (f : Nat → Nat → Int) (g : Nat → Int) (kz : Nat → Bool), bAt E H o w c f ∧ mG E H (o + 159) w c g kz ∧ bd g ∧ ag c f g
theorem bAt_keep {E : hp_E} {H H1 : Heap} {o : Nat} {w c : Nat → Nat} {f : Nat → Nat → Int} (h : bAt E H o w c f) (hq : ∀ q, o ≤ q → q ≤ o + 158 → H1[q]? = H[q]?) : bAt E H1 o w c f :=
  ⟨h.1.keep (hq _ (by omega) (by omega)), h.2.1.keep (hq _ (by omega) (by omega)), h.2.2.1.keep (hq _ (by omega) (by omega)), fun i hi => ⟨(h.2.2.2.1 i hi).1.keep (hq _ (by omega) (by omega)) (hq _ (by omega) (by omega)), (h.2.2.2.1 i hi).2⟩, fun i hi => (h.2.2.2.2 i hi).keep (fun q g1 g2 => hq q (by omega) (by omega))⟩
section LX
variable {E : hp_E} {H H1 : Heap} {mo o : Nat} {th : Int} {md fe : Nat} {ps : Int} {w c w1 c1 : Nat → Nat} {g g1 : Nat → Int} {kz kz1 : Nat → Bool} {lf : Nat → Int} {nx bf : Nat → Nat} {po ta en tu : Nat → Int} {si : Nat → Nat} {sm : Nat → Int} {f f1 : Nat → Nat → Int}
theorem mA_wr (h : mA E H mo th md fe ps w c g kz lf nx bf po ta en tu si sm) (hW : mW E H1 mo th (md : Int) (fe : Int) ps w1 c1 g1 kz1) (hq : ∀ q, mo + 4 ≤ q → q ≤ mo + 13 → q ≠ mo + 10 → H1[q]? = H[q]?) : mA E H1 mo th md fe ps w1 c1 g1 kz1 lf nx bf po ta en tu si sm := by
  obtain ⟨-, h4, h5, h6, h7, h8, h9, h11, h12, h13⟩ := h
  exact ⟨hW, h4.keep (hq _ (by omega) (by omega) (by omega)), h5.keep (hq _ (by omega) (by omega) (by omega)), h6.keep (hq _ (by omega) (by omega) (by omega)), h7.keep (hq _ (by omega) (by omega) (by omega)), h8.keep (hq _ (by omega) (by omega) (by omega)), h9.keep (hq _ (by omega) (by omega) (by omega)), h11.keep (hq _ (by omega) (by omega) (by omega)), h12.keep (hq _ (by omega) (by omega) (by omega)), h13.keep (hq _ (by omega) (by omega) (by omega))⟩
theorem mW_keep {m : Nat} {ps1 md1 fe1 : Int} (h : mW E H m th md1 fe1 ps1 w c g kz) (hq : ∀ q, m ≤ q → q ≤ m + 10 → H1[q]? = H[q]?) : mW E H1 m th md1 fe1 ps1 w c g kz := ⟨h.1.keep (hq _ (by omega) (by omega)), h.2.1.keep (hq _ (by omega) (by omega)), h.2.2.1.keep (hq _ (by omega) (by omega)), h.2.2.2.1.keep (hq _ (by omega) (by omega)), h.2.2.2.2.keep (hq _ (by omega) (by omega))⟩
theorem mA_keep (h : mA E H mo th md fe ps w c g kz lf nx bf po ta en tu si sm) (hq : ∀ q, mo ≤ q → q ≤ mo + 13 → H1[q]? = H[q]?) : mA E H1 mo th md fe ps w c g kz lf nx bf po ta en tu si sm := mA_wr h (mW_keep h.1 (fun q h1 h2 => hq q h1 (by omega))) (fun q h1 h2 _ => hq q (by omega) h2)
theorem mG_keep (h : mG E H mo w c g kz) (hq : ∀ q, mo ≤ q → q ≤ mo + 13 → H1[q]? = H[q]?) : mG E H1 mo w c g kz := by
  obtain ⟨th, md, fe, ps, lf, nx, bf, po, ta, en, tu, si, sm, hA, hks⟩ := h
  exact ⟨th, md, fe, ps, lf, nx, bf, po, ta, en, tu, si, sm, mA_keep hA hq, hks⟩
theorem kS_wr {t : Nat} (h : ∀ i, i < 4 → kz i = true → kS w c g tu si sm i) (hz : ∀ i, i ≠ t → kz1 i = kz i) (hzt : kz1 t = true → kS w1 c1 g1 tu si sm t) (hw : ∀ i, i ≠ t → w1 i = w i) (hc : ∀ i, i ≠ t → c1 i = c i) (h32 : ∀ i, i < 4 → c i ≤ 32) (hout : bw_out t g g1) : ∀ i, i < 4 → kz1 i = true → kS w1 c1 g1 tu si sm i := by
  intro i hi hk
  by_cases e : i = t
  · subst e; exact hzt hk
  · rw [hz i e] at hk
    have hS := h i hi hk
    have := h32 i hi
    unfold kS at hS ⊢
    rw [hw i e, hc i e]
    exact kN_cf (fun j hj => (hout _ (by omega)).symm) hS
theorem bo_rf (t : Nat) : bw_out t g g := fun _ _ => rfl
theorem bo_up {t k : Nat} {x : Int} (h : bw_out t g g1) (hk : k < 32) : bw_out t g (hp_up g1 (32 * t + k) x) := fun q hq => by
  rw [hp_up_n _ _ (by omega)]
  exact h q hq
theorem gw_up_s {t k : Nat} {x : Int} : gw (hp_up g (32 * t + k) x) t k = x := hp_up_s _ _ _
theorem gw_up_n {t k j : Nat} {x : Int} (h : j ≠ k) : gw (hp_up g (32 * t + k) x) t j = gw g t j := hp_up_n _ _ (by omega)
theorem ag_up {t n : Nat} {F : Nat → Int} (h : ag c f g) (h32 : ∀ i, i < 4 → c i ≤ 32) (hout : bw_out t g g1) (hin : ∀ k, k < n → F k = gw g1 t k) : ag (hp_up c t n) (hp_up f t F) g1 := by
  intro i hi k hk
  by_cases e : i = t
  · subst e
    rw [hp_up_s] at hk ⊢
    exact hin k hk
  · rw [hp_up_n _ _ e] at hk ⊢
    rw [h i hi k hk]
    have := h32 i hi
    exact (hout _ (by omega)).symm
/-- the end of a step of a writing method -/
theorem lx_end {t : Nat} (hB : bAt E H o w1 c1 f1) (hA : mA E H (o + 159) th md fe ps w c g kz lf nx bf po ta en tu si sm) (hks : ∀ i, i < 4 → kz i = true → kS w c g tu si sm i) (hq : ∀ q, ¬ (q = o + 159 ∨ q = o + 159 + 1 ∨ q = o + 159 + 2 ∨ q = o + 159 + 3 ∨ q = o + 159 + 10) → H1[q]? = H[q]?) (hW : mW E H1 (o + 159) th (md : Int) (fe : Int) ps w1 c1 g1 kz1) (h32 : ∀ i, i < 4 → c i ≤ 32) (hz : ∀ i, i ≠ t → kz1 i = kz i) (hzt : kz1 t = true → kS w1 c1 g1 tu si sm t) (hw : ∀ i, i ≠ t → w1 i = w i) (hc : ∀ i, i ≠ t → c1 i = c i) (hout : bw_out t g g1) (hbd : bd g1) (hag : ag c1 f1 g1) : lwS E H1 o :=
  ⟨w1, c1, f1, g1, kz1, bAt_keep hB (fun q h1 h2 => hq q (by omega)), ⟨th, md, fe, ps, lf, nx, bf, po, ta, en, tu, si, sm, mA_wr hA hW (fun q h1 h2 h3 => hq q (by omega)), kS_wr hks hz hzt hw hc h32 hout⟩, hbd, hag⟩
theorem kf_n (kz : Nat → Bool) (t : Nat) : ∀ i, i ≠ t → hp_up kz t false i = kz i := fun _ h => hp_up_n _ _ h
theorem kf_t {P : Prop} (kz : Nat → Bool) (t : Nat) (h : hp_up kz t false t = true) : P := by rw [hp_up_s] at h; cases h
end LX
section LY
variable {E : hp_E} {H H1 : Heap} {o : Nat} {th : Int} {md fe : Nat} {ps : Int} {w c : Nat → Nat} {g : Nat → Int} {kz : Nat → Bool} {lf : Nat → Int} {nx bf : Nat → Nat} {po ta en tu : Nat → Int} {si : Nat → Nat} {sm : Nat → Int} {f : Nat → Nat → Int} {r1 r2 : Int}
/-- both are as they were -/
theorem lx_keep (hB : bAt E H o w c f) (hA : mA E H (o + 159) th md fe ps w c g kz lf nx bf po ta en tu si sm) (hks : ∀ i, i < 4 → kz i = true → kS w c g tu si sm i) (hq : ∀ q, ¬ (q = o + 159 ∨ q = o + 159 + 1 ∨ q = o + 159 + 2 ∨ q = o + 159 + 3 ∨ q = o + 159 + 10) → H1[q]? = H[q]?) (hW : mW E H1 (o + 159) th (md : Int) (fe : Int) ps w c g kz) (hbd : bd g) (hag : ag c f g) : lwS E H1 o :=
  ⟨w, c, f, g, kz, bAt_keep hB (fun q h1 h2 => hq q (by omega)), ⟨th, md, fe, ps, lf, nx, bf, po, ta, en, tu, si, sm, mA_wr hA hW (fun q h1 h2 h3 => hq q (by omega)), hks⟩, hbd, hag⟩
theorem lx_strands {s0 n0 : Int} (hv : ∀ i, i < 4 → 1 ≤ w i ∧ w i ≤ 8 ∧ c i ≤ 32) (hA : mA E H (o + 159) th md fe ps w c g kz lf nx bf po ta en tu si sm) (hks : ∀ i, i < 4 → kz i = true → kS w c g tu si sm i) (hbd : bd g) (hag : ag c f g) (hq : ∀ q, ¬ (q = o + 159 ∨ q = o + 159 + 1 ∨ q = o + 159 + 2 ∨ q = o + 159 + 3 ∨ q = o + 159 + 10) → H1[q]? = H[q]?)
    (hb : (r1 = 1 ∧ (0 ≤ s0 ∧ s0 < 4 ∧ 1 ≤ n0 ∧ n0 ≤ 8) ∧ bAt E H o (hp_up w s0.toNat n0.toNat) (hp_up c s0.toNat 0) (hp_up f s0.toNat (f s0.toNat))) ∨ (r1 = 0 ∧ ¬ (0 ≤ s0 ∧ s0 < 4 ∧ 1 ≤ n0 ∧ n0 ≤ 8) ∧ bAt E H o w c f))
    (hm : (r2 = 1 ∧ (0 ≤ s0 ∧ s0 < 4 ∧ 1 ≤ n0 ∧ n0 ≤ 8) ∧ mW E H1 (o + 159) th (md : Int) (fe : Int) ps (hp_up w s0.toNat n0.toNat) (hp_up c s0.toNat 0) g (hp_up kz s0.toNat false)) ∨ (r2 = 0 ∧ ¬ (0 ≤ s0 ∧ s0 < 4 ∧ 1 ≤ n0 ∧ n0 ≤ 8) ∧ mW E H1 (o + 159) th (md : Int) (fe : Int) ps w c g kz)) : r1 = r2 ∧ lwS E H1 o := by
  have h32 : ∀ i, i < 4 → c i ≤ 32 := fun i hi => (hv i hi).2.2
  rcases hb with ⟨e1, hc1, hB⟩ | ⟨e1, hc1, hB⟩
  · rcases hm with ⟨e2, hc2, hM⟩ | ⟨e2, hc2, hM⟩
    · generalize ht : s0.toNat = t at *
      have h4 := hv t (by omega)
      exact ⟨e1.trans e2.symm, lx_end hB hA hks hq hM h32 (kf_n _ _) (kf_t _ _) (fun i h => hp_up_n _ _ h) (fun i h => hp_up_n _ _ h) (bo_rf _) hbd (ag_up hag h32 (bo_rf _) (fun k hk => absurd hk (by omega)))⟩
    · exact absurd hc1 hc2
  · rcases hm with ⟨e2, hc2, hM⟩ | ⟨e2, hc2, hM⟩
    · exact absurd hc2 hc1
    · exact ⟨e1.trans e2.symm, lx_keep hB hA hks hq hM hbd hag⟩

theorem lx_letter {s0 l0 : Int} (hv : ∀ i, i < 4 → 1 ≤ w i ∧ w i ≤ 8 ∧ c i ≤ 32) (hA : mA E H (o + 159) th md fe ps w c g kz lf nx bf po ta en tu si sm) (hks : ∀ i, i < 4 → kz i = true → kS w c g tu si sm i) (hbd : bd g) (hag : ag c f g) (hq : ∀ q, ¬ (q = o + 159 ∨ q = o + 159 + 1 ∨ q = o + 159 + 2 ∨ q = o + 159 + 3 ∨ q = o + 159 + 10) → H1[q]? = H[q]?)
    (hb : (r1 = (c s0.toNat : Int) + 1 ∧ (0 ≤ s0 ∧ s0 < 4 ∧ l0 ≠ 0 ∧ -(w s0.toNat : Int) < l0 ∧ l0 < (w s0.toNat : Int) ∧ c s0.toNat < 32) ∧ bAt E H o (hp_up w s0.toNat (w s0.toNat)) (hp_up c s0.toNat (c s0.toNat + 1)) (hp_up f s0.toNat (hp_up (f s0.toNat) (c s0.toNat) l0))) ∨ (r1 = -1 ∧ ¬ (0 ≤ s0 ∧ s0 < 4 ∧ l0 ≠ 0 ∧ -(w s0.toNat : Int) < l0 ∧ l0 < (w s0.toNat : Int) ∧ c s0.toNat < 32) ∧ bAt E H o w c f))
    (hm : (r2 = (c s0.toNat : Int) + 1 ∧ (0 ≤ s0 ∧ s0 < 4 ∧ l0 ≠ 0 ∧ -(w s0.toNat : Int) < l0 ∧ l0 < (w s0.toNat : Int) ∧ c s0.toNat < 32) ∧ mW E H1 (o + 159) th (md : Int) (fe : Int) ps w (hp_up c s0.toNat (c s0.toNat + 1)) (hp_up g (32 * s0.toNat + c s0.toNat) l0) (hp_up kz s0.toNat false)) ∨ (r2 = -1 ∧ ¬ (0 ≤ s0 ∧ s0 < 4 ∧ l0 ≠ 0 ∧ -(w s0.toNat : Int) < l0 ∧ l0 < (w s0.toNat : Int) ∧ c s0.toNat < 32) ∧ mW E H1 (o + 159) th (md : Int) (fe : Int) ps w c g kz)) : r1 = r2 ∧ lwS E H1 o := by
  have h32 : ∀ i, i < 4 → c i ≤ 32 := fun i hi => (hv i hi).2.2
  rcases hb with ⟨e1, hc1, hB⟩ | ⟨e1, hc1, hB⟩
  · rcases hm with ⟨e2, hc2, hM⟩ | ⟨e2, hc2, hM⟩
    · generalize ht : s0.toNat = t at *
      have h4 := hv t (by omega)
      rw [hp_up_id rfl] at hB
      exact ⟨e1.trans e2.symm, lx_end hB hA hks hq hM h32 (kf_n _ _) (kf_t _ _) (fun i h => rfl) (fun i h => hp_up_n _ _ h) (bo_up (bo_rf _) (by omega)) (bd_up hbd (by omega) (by omega)) (ag_up hag h32 (bo_up (bo_rf _) (by omega)) (fun k hk => by
        by_cases e : k = c t
        · rw [e, hp_up_s, gw_up_s]
        · rw [hp_up_n _ _ e, gw_up_n e]; exact hag t (by omega) k (by omega)))⟩
    · exact absurd hc1 hc2
  · rcases hm with ⟨e2, hc2, hM⟩ | ⟨e2, hc2, hM⟩
    · exact absurd hc2 hc1
    · exact ⟨e1.trans e2.symm, lx_keep hB hA hks hq hM hbd hag⟩

theorem lx_grow {s0 g0 : Int} (hv : ∀ i, i < 4 → 1 ≤ w i ∧ w i ≤ 8 ∧ c i ≤ 32) (hA : mA E H (o + 159) th md fe ps w c g kz lf nx bf po ta en tu si sm) (hks : ∀ i, i < 4 → kz i = true → kS w c g tu si sm i) (hbd : bd g) (hag : ag c f g) (hq : ∀ q, ¬ (q = o + 159 ∨ q = o + 159 + 1 ∨ q = o + 159 + 2 ∨ q = o + 159 + 3 ∨ q = o + 159 + 10) → H1[q]? = H[q]?)
    (hb : (r1 = 1 ∧ (0 ≤ s0 ∧ s0 < 4 ∧ (g0 = 1 ∨ g0 = -1) ∧ w s0.toNat < 8 ∧ c s0.toNat < 32) ∧ bAt E H o (hp_up w s0.toNat (w s0.toNat + 1)) (hp_up c s0.toNat (c s0.toNat + 1)) (hp_up f s0.toNat (hp_up (f s0.toNat) (c s0.toNat) (g0 * (w s0.toNat : Int))))) ∨ (r1 = 0 ∧ ¬ (0 ≤ s0 ∧ s0 < 4 ∧ (g0 = 1 ∨ g0 = -1) ∧ w s0.toNat < 8 ∧ c s0.toNat < 32) ∧ bAt E H o w c f))
    (hm : (r2 = 1 ∧ (0 ≤ s0 ∧ s0 < 4 ∧ (g0 = 1 ∨ g0 = -1) ∧ w s0.toNat < 8 ∧ c s0.toNat < 32) ∧ mW E H1 (o + 159) th (md : Int) (fe : Int) ps (hp_up w s0.toNat (w s0.toNat + 1)) (hp_up c s0.toNat (c s0.toNat + 1)) (hp_up g (32 * s0.toNat + c s0.toNat) (g0 * (w s0.toNat : Int))) (hp_up kz s0.toNat false)) ∨ (r2 = 0 ∧ ¬ (0 ≤ s0 ∧ s0 < 4 ∧ (g0 = 1 ∨ g0 = -1) ∧ w s0.toNat < 8 ∧ c s0.toNat < 32) ∧ mW E H1 (o + 159) th (md : Int) (fe : Int) ps w c g kz)) : r1 = r2 ∧ lwS E H1 o := by
  have h32 : ∀ i, i < 4 → c i ≤ 32 := fun i hi => (hv i hi).2.2
  rcases hb with ⟨e1, hc1, hB⟩ | ⟨e1, hc1, hB⟩
  · rcases hm with ⟨e2, hc2, hM⟩ | ⟨e2, hc2, hM⟩
    · generalize ht : s0.toNat = t at *
      have h4 := hv t (by omega)
      have hx : -8 < g0 * (w t : Int) ∧ g0 * (w t : Int) < 8 := by rcases hc1.2.2.1 with e | e <;> rw [e] <;> omega
      exact ⟨e1.trans e2.symm, lx_end hB hA hks hq hM h32 (kf_n _ _) (kf_t _ _) (fun i h => hp_up_n _ _ h) (fun i h => hp_up_n _ _ h) (bo_up (bo_rf _) (by omega)) (bd_up hbd hx.1 hx.2) (ag_up hag h32 (bo_up (bo_rf _) (by omega)) (fun k hk => by
        by_cases e : k = c t
        · rw [e, hp_up_s, gw_up_s]
        · rw [hp_up_n _ _ e, gw_up_n e]; exact hag t (by omega) k (by omega)))⟩
    · exact absurd hc1 hc2
  · rcases hm with ⟨e2, hc2, hM⟩ | ⟨e2, hc2, hM⟩
    · exact absurd hc2 hc1
    · exact ⟨e1.trans e2.symm, lx_keep hB hA hks hq hM hbd hag⟩

theorem lx_shrink {s0 : Int} (hv : ∀ i, i < 4 → 1 ≤ w i ∧ w i ≤ 8 ∧ c i ≤ 32) (hA : mA E H (o + 159) th md fe ps w c g kz lf nx bf po ta en tu si sm) (hks : ∀ i, i < 4 → kz i = true → kS w c g tu si sm i) (hbd : bd g) (hag : ag c f g) (hq : ∀ q, ¬ (q = o + 159 ∨ q = o + 159 + 1 ∨ q = o + 159 + 2 ∨ q = o + 159 + 3 ∨ q = o + 159 + 10) → H1[q]? = H[q]?)
    (hb : (r1 = 1 ∧ (0 ≤ s0 ∧ s0 < 4 ∧ 0 < c s0.toNat ∧ (f s0.toNat (c s0.toNat - 1)).natAbs + 1 = w s0.toNat ∧ ∀ i, i < c s0.toNat - 1 → (f s0.toNat i).natAbs + 1 ≠ w s0.toNat) ∧ bAt E H o (hp_up w s0.toNat (w s0.toNat - 1)) (hp_up c s0.toNat (c s0.toNat - 1)) (hp_up f s0.toNat (f s0.toNat))) ∨ (r1 = 0 ∧ ¬ (0 ≤ s0 ∧ s0 < 4 ∧ 0 < c s0.toNat ∧ (f s0.toNat (c s0.toNat - 1)).natAbs + 1 = w s0.toNat ∧ ∀ i, i < c s0.toNat - 1 → (f s0.toNat i).natAbs + 1 ≠ w s0.toNat) ∧ bAt E H o w c f))
    (hm : (r2 = 1 ∧ (0 ≤ s0 ∧ s0 < 4 ∧ 0 < c s0.toNat ∧ (gw g s0.toNat (c s0.toNat - 1)).natAbs + 1 = w s0.toNat ∧ ∀ i, i < c s0.toNat - 1 → (gw g s0.toNat i).natAbs + 1 ≠ w s0.toNat) ∧ mW E H1 (o + 159) th (md : Int) (fe : Int) ps (hp_up w s0.toNat (w s0.toNat - 1)) (hp_up c s0.toNat (c s0.toNat - 1)) g (hp_up kz s0.toNat false)) ∨ (r2 = 0 ∧ ¬ (0 ≤ s0 ∧ s0 < 4 ∧ 0 < c s0.toNat ∧ (gw g s0.toNat (c s0.toNat - 1)).natAbs + 1 = w s0.toNat ∧ ∀ i, i < c s0.toNat - 1 → (gw g s0.toNat i).natAbs + 1 ≠ w s0.toNat) ∧ mW E H1 (o + 159) th (md : Int) (fe : Int) ps w c g kz)) : r1 = r2 ∧ lwS E H1 o := by
  have h32 : ∀ i, i < 4 → c i ≤ 32 := fun i hi => (hv i hi).2.2
  rcases hb with ⟨e1, hc1, hB⟩ | ⟨e1, hc1, hB⟩
  · rcases hm with ⟨e2, hc2, hM⟩ | ⟨e2, hc2, hM⟩
    · generalize ht : s0.toNat = t at *
      have h4 := hv t (by omega)
      exact ⟨e1.trans e2.symm, lx_end hB hA hks hq hM h32 (kf_n _ _) (kf_t _ _) (fun i h => hp_up_n _ _ h) (fun i h => hp_up_n _ _ h) (bo_rf _) hbd (ag_up hag h32 (bo_rf _) (fun k hk => hag t (by omega) k (by omega)))⟩
    · exact absurd ⟨hc1.1, hc1.2.1, hc1.2.2.1, by rw [← hag _ (by omega) _ (by omega)]; exact hc1.2.2.2.1, fun i hi => by rw [← hag _ (by omega) _ (by omega)]; exact hc1.2.2.2.2 i hi⟩ hc2
  · rcases hm with ⟨e2, hc2, hM⟩ | ⟨e2, hc2, hM⟩
    · exact absurd ⟨hc2.1, hc2.2.1, hc2.2.2.1, by rw [hag _ (by omega) _ (by omega)]; exact hc2.2.2.2.1, fun i hi => by rw [hag _ (by omega) _ (by omega)]; exact hc2.2.2.2.2 i hi⟩ hc1
    · exact ⟨e1.trans e2.symm, lx_keep hB hA hks hq hM hbd hag⟩

theorem lx_exchange {s0 k0 : Int} (hv : ∀ i, i < 4 → 1 ≤ w i ∧ w i ≤ 8 ∧ c i ≤ 32) (hA : mA E H (o + 159) th md fe ps w c g kz lf nx bf po ta en tu si sm) (hks : ∀ i, i < 4 → kz i = true → kS w c g tu si sm i) (hbd : bd g) (hag : ag c f g) (hq : ∀ q, ¬ (q = o + 159 ∨ q = o + 159 + 1 ∨ q = o + 159 + 2 ∨ q = o + 159 + 3 ∨ q = o + 159 + 10) → H1[q]? = H[q]?)
    (hb : (r1 = 1 ∧ (0 ≤ s0 ∧ s0 < 4 ∧ bw_far (f s0.toNat) (c s0.toNat) k0) ∧ bAt E H o (hp_up w s0.toNat (w s0.toNat)) (hp_up c s0.toNat (c s0.toNat)) (hp_up f s0.toNat (bw_sw (f s0.toNat) k0.toNat))) ∨ (r1 = 0 ∧ ¬ (0 ≤ s0 ∧ s0 < 4 ∧ bw_far (f s0.toNat) (c s0.toNat) k0) ∧ bAt E H o w c f))
    (hm : (r2 = 1 ∧ (0 ≤ s0 ∧ s0 < 4 ∧ bw_far (gw g s0.toNat) (c s0.toNat) k0) ∧ mW E H1 (o + 159) th (md : Int) (fe : Int) ps w c (hp_up (hp_up g (32 * s0.toNat + k0.toNat) (gw g s0.toNat (k0.toNat + 1))) (32 * s0.toNat + k0.toNat + 1) (gw g s0.toNat k0.toNat)) (hp_up kz s0.toNat false)) ∨ (r2 = 0 ∧ ¬ (0 ≤ s0 ∧ s0 < 4 ∧ bw_far (gw g s0.toNat) (c s0.toNat) k0) ∧ mW E H1 (o + 159) th (md : Int) (fe : Int) ps w c g kz)) : r1 = r2 ∧ lwS E H1 o := by
  have h32 : ∀ i, i < 4 → c i ≤ 32 := fun i hi => (hv i hi).2.2
  rcases hb with ⟨e1, hc1, hB⟩ | ⟨e1, hc1, hB⟩
  · rcases hm with ⟨e2, hc2, hM⟩ | ⟨e2, hc2, hM⟩
    · generalize ht : s0.toNat = t at *
      have h4 := hv t (by omega)
      have hf := hc1.2.2
      rw [hp_up_id rfl, hp_up_id (f := c) rfl] at hB
      generalize hk0 : k0.toNat = k at *
      have hk2 : k + 1 < c t := by unfold bw_far at hf; omega
      have hx1 := hbd (32 * t + (k + 1))
      have hx2 := hbd (32 * t + k)
      rw [show 32 * t + k + 1 = 32 * t + (k + 1) by omega] at hM
      have hg := ag_up (n := c t) (F := bw_sw (f t) k) hag h32 (bo_up (x := gw g t k) (bo_up (x := gw g t (k + 1)) (bo_rf t) (show k < 32 by omega)) (show k + 1 < 32 by omega)) (fun j hj => by
        unfold bw_sw
        by_cases e : j = k + 1
        · rw [e, hp_up_s, gw_up_s]; exact hag t (by omega) k (by omega)
        · rw [hp_up_n _ _ e, gw_up_n e]
          by_cases e2 : j = k
          · rw [e2, hp_up_s, gw_up_s]; exact hag t (by omega) (k + 1) (by omega)
          · rw [hp_up_n _ _ e2, gw_up_n e2]; exact hag t (by omega) j hj)
      rw [hp_up_id rfl] at hg
      exact ⟨e1.trans e2.symm, lx_end hB hA hks hq hM h32 (kf_n _ _) (kf_t _ _) (fun i h => rfl) (fun i h => rfl) (bo_up (bo_up (bo_rf t) (by omega)) (by omega)) (bd_up (bd_up hbd hx1.1 hx1.2) hx2.1 hx2.2) hg⟩
    · exact absurd ⟨hc1.1, hc1.2.1, (bw_far_cg (hag _ (by omega))).mp hc1.2.2⟩ hc2
  · rcases hm with ⟨e2, hc2, hM⟩ | ⟨e2, hc2, hM⟩
    · exact absurd ⟨hc2.1, hc2.2.1, (bw_far_cg (hag _ (by omega))).mpr hc2.2.2⟩ hc1
    · exact ⟨e1.trans e2.symm, lx_keep hB hA hks hq hM hbd hag⟩

theorem sg_b {a b : Int} (h : -8 < b ∧ b < 8) : -8 < bw_sgn a * (b.natAbs : Int) ∧ bw_sgn a * (b.natAbs : Int) < 8 := by
  unfold bw_sgn
  split
  · omega
  · split <;> omega

theorem lx_pass {s0 k0 : Int} (hv : ∀ i, i < 4 → 1 ≤ w i ∧ w i ≤ 8 ∧ c i ≤ 32) (hA : mA E H (o + 159) th md fe ps w c g kz lf nx bf po ta en tu si sm) (hks : ∀ i, i < 4 → kz i = true → kS w c g tu si sm i) (hbd : bd g) (hag : ag c f g) (hq : ∀ q, ¬ (q = o + 159 ∨ q = o + 159 + 1 ∨ q = o + 159 + 2 ∨ q = o + 159 + 3 ∨ q = o + 159 + 10) → H1[q]? = H[q]?)
    (hb : (r1 = 1 ∧ (0 ≤ s0 ∧ s0 < 4 ∧ 0 ≤ k0 ∧ k0 ≤ (c s0.toNat : Int) - 3 ∧ bw_can (f s0.toNat) k0.toNat = true) ∧ bAt E H o (hp_up w s0.toNat (w s0.toNat)) (hp_up c s0.toNat (c s0.toNat)) (hp_up f s0.toNat (bw_pas (f s0.toNat) k0.toNat))) ∨ (r1 = 0 ∧ ¬ (0 ≤ s0 ∧ s0 < 4 ∧ 0 ≤ k0 ∧ k0 ≤ (c s0.toNat : Int) - 3 ∧ bw_can (f s0.toNat) k0.toNat = true) ∧ bAt E H o w c f))
    (hm : (r2 = 1 ∧ (0 ≤ s0 ∧ s0 < 4 ∧ 0 ≤ k0 ∧ k0 ≤ (c s0.toNat : Int) - 3 ∧ bw_can (gw g s0.toNat) k0.toNat = true) ∧ ∃ a1 a2 a3 : Int, a1 = bw_sgn (gw g s0.toNat (k0.toNat + 2)) * ((gw g s0.toNat (k0.toNat + 1)).natAbs : Int) ∧ a2 = bw_sgn (gw g s0.toNat (k0.toNat + 1)) * ((gw g s0.toNat k0.toNat).natAbs : Int) ∧ a3 = bw_sgn (gw g s0.toNat k0.toNat) * ((gw g s0.toNat (k0.toNat + 1)).natAbs : Int) ∧ mW E H1 (o + 159) th (md : Int) (fe : Int) ps w c (hp_up (hp_up (hp_up g (32 * s0.toNat + k0.toNat) a1) (32 * s0.toNat + k0.toNat + 1) a2) (32 * s0.toNat + k0.toNat + 2) a3) (hp_up kz s0.toNat false)) ∨ (r2 = 0 ∧ ¬ (0 ≤ s0 ∧ s0 < 4 ∧ 0 ≤ k0 ∧ k0 ≤ (c s0.toNat : Int) - 3 ∧ bw_can (gw g s0.toNat) k0.toNat = true) ∧ mW E H1 (o + 159) th (md : Int) (fe : Int) ps w c g kz)) : r1 = r2 ∧ lwS E H1 o := by
  have h32 : ∀ i, i < 4 → c i ≤ 32 := fun i hi => (hv i hi).2.2
  rcases hb with ⟨e1, hc1, hB⟩ | ⟨e1, hc1, hB⟩
  · rcases hm with ⟨e2, hc2, hM⟩ | ⟨e2, hc2, hM⟩
    · generalize ht : s0.toNat = t at *
      have h4 := hv t (by omega)
      rw [hp_up_id rfl, hp_up_id (f := c) rfl] at hB
      generalize hk0 : k0.toNat = k at *
      obtain ⟨a1, a2, a3, ea1, ea2, ea3, hM⟩ := hM
      have hk2 : k + 2 < c t := by omega
      have f0 := hag t (by omega) k (by omega)
      have f1 := hag t (by omega) (k + 1) (by omega)
      have f2 := hag t (by omega) (k + 2) (by omega)
      have b1 : -8 < a1 ∧ a1 < 8 := by rw [ea1]; exact sg_b (hbd _)
      have b2 : -8 < a2 ∧ a2 < 8 := by rw [ea2]; exact sg_b (hbd _)
      have b3 : -8 < a3 ∧ a3 < 8 := by rw [ea3]; exact sg_b (hbd _)
      rw [show 32 * t + k + 1 = 32 * t + (k + 1) by omega, show 32 * t + k + 2 = 32 * t + (k + 2) by omega] at hM
      have hg := ag_up (n := c t) (F := bw_pas (f t) k) hag h32 (bo_up (x := a3) (bo_up (x := a2) (bo_up (x := a1) (bo_rf t) (show k < 32 by omega)) (show k + 1 < 32 by omega)) (show k + 2 < 32 by omega)) (fun j hj => by
        unfold bw_pas
        rw [f0, f1, f2, ← ea1, ← ea2, ← ea3]
        by_cases e : j = k + 2
        · rw [e, hp_up_s, gw_up_s]
        · rw [hp_up_n _ _ e, gw_up_n e]
          by_cases e2 : j = k + 1
          · rw [e2, hp_up_s, gw_up_s]
          · rw [hp_up_n _ _ e2, gw_up_n e2]
            by_cases e3 : j = k
            · rw [e3, hp_up_s, gw_up_s]
            · rw [hp_up_n _ _ e3, gw_up_n e3]; exact hag t (by omega) j hj)
      rw [hp_up_id rfl] at hg
      exact ⟨e1.trans e2.symm, lx_end hB hA hks hq hM h32 (kf_n _ _) (kf_t _ _) (fun i h => rfl) (fun i h => rfl) (bo_up (bo_up (bo_up (bo_rf t) (by omega)) (by omega)) (by omega)) (bd_up (bd_up (bd_up hbd b1.1 b1.2) b2.1 b2.2) b3.1 b3.2) hg⟩
    · exact absurd ⟨hc1.1, hc1.2.1, hc1.2.2.1, hc1.2.2.2.1, by rw [← (bw_can_cg (hag _ (by omega) _ (by omega)) (hag _ (by omega) _ (by omega)) (hag _ (by omega) _ (by omega)))]; exact hc1.2.2.2.2⟩ hc2
  · rcases hm with ⟨e2, hc2, hM⟩ | ⟨e2, hc2, hM⟩
    · exact absurd ⟨hc2.1, hc2.2.1, hc2.2.2.1, hc2.2.2.2.1, by rw [(bw_can_cg (hag _ (by omega) _ (by omega)) (hag _ (by omega) _ (by omega)) (hag _ (by omega) _ (by omega)))]; exact hc2.2.2.2.2⟩ hc1
    · exact ⟨e1.trans e2.symm, lx_keep hB hA hks hq hM hbd hag⟩

theorem lx_round {s0 : Int} {bk : Bool} (hv : ∀ i, i < 4 → 1 ≤ w i ∧ w i ≤ 8 ∧ c i ≤ 32) (hA : mA E H (o + 159) th md fe ps w c g kz lf nx bf po ta en tu si sm) (hks : ∀ i, i < 4 → kz i = true → kS w c g tu si sm i) (hbd : bd g) (hag : ag c f g) (hq : ∀ q, ¬ (q = o + 159 ∨ q = o + 159 + 1 ∨ q = o + 159 + 2 ∨ q = o + 159 + 3 ∨ q = o + 159 + 10) → H1[q]? = H[q]?)
    (hb : (r1 = 1 ∧ (0 ≤ s0 ∧ s0 < 4 ∧ 0 < c s0.toNat) ∧ bAt E H o (hp_up w s0.toNat (w s0.toNat)) (hp_up c s0.toNat (c s0.toNat)) (hp_up f s0.toNat (if bk then hp_up (va_cpy (f s0.toNat) (f s0.toNat) 0 1 (c s0.toNat - 1)) 0 (f s0.toNat (c s0.toNat - 1)) else hp_up (va_cpy (f s0.toNat) (f s0.toNat) 1 0 (c s0.toNat - 1)) (c s0.toNat - 1) (f s0.toNat 0)))) ∨ (r1 = 0 ∧ ¬ (0 ≤ s0 ∧ s0 < 4 ∧ 0 < c s0.toNat) ∧ bAt E H o w c f))
    (hm : (r2 = 1 ∧ (0 ≤ s0 ∧ s0 < 4 ∧ 0 < c s0.toNat) ∧ ∃ g1 : Nat → Int, bd g1 ∧ bw_out s0.toNat g g1 ∧ (∀ k, k < c s0.toNat → gw g1 s0.toNat k = (if bk then (if k = 0 then gw g s0.toNat (c s0.toNat - 1) else gw g s0.toNat (k - 1)) else (if k + 1 = c s0.toNat then gw g s0.toNat 0 else gw g s0.toNat (k + 1)))) ∧ mW E H1 (o + 159) th (md : Int) (fe : Int) ps w c g1 (hp_up kz s0.toNat false)) ∨ (r2 = 0 ∧ ¬ (0 ≤ s0 ∧ s0 < 4 ∧ 0 < c s0.toNat) ∧ mW E H1 (o + 159) th (md : Int) (fe : Int) ps w c g kz)) : r1 = r2 ∧ lwS E H1 o := by
  have h32 : ∀ i, i < 4 → c i ≤ 32 := fun i hi => (hv i hi).2.2
  rcases hb with ⟨e1, hc1, hB⟩ | ⟨e1, hc1, hB⟩
  · rcases hm with ⟨e2, hc2, hM⟩ | ⟨e2, hc2, hM⟩
    · generalize ht : s0.toNat = t at *
      have h4 := hv t (by omega)
      rw [hp_up_id rfl, hp_up_id (f := c) rfl] at hB
      obtain ⟨g1, hb1, ho1, hg1, hM⟩ := hM
      have hg := ag_up (n := c t) (F := if bk = true then hp_up (va_cpy (f t) (f t) 0 1 (c t - 1)) 0 (f t (c t - 1)) else hp_up (va_cpy (f t) (f t) 1 0 (c t - 1)) (c t - 1) (f t 0)) hag h32 ho1 (fun j hj => by
        rw [hg1 j hj]
        cases bk with
        | true =>
          rw [if_pos rfl, if_pos rfl]
          by_cases e : j = 0
          · rw [if_pos e, e, hp_up_s]; exact hag t (by omega) _ (by omega)
          · rw [if_neg e, hp_up_n _ _ e]
            unfold va_cpy
            rw [if_pos (by omega), show 0 + (j - 1) = j - 1 by omega]
            exact hag t (by omega) _ (by omega)
        | false =>
          rw [if_neg (by decide), if_neg (by decide)]
          by_cases e : j + 1 = c t
          · rw [if_pos e, show j = c t - 1 by omega, hp_up_s]; exact hag t (by omega) _ (by omega)
          · rw [if_neg e, hp_up_n _ _ (by omega)]
            unfold va_cpy
            rw [if_pos (by omega), show 1 + (j - 0) = j + 1 by omega]
            exact hag t (by omega) _ (by omega))
      rw [hp_up_id rfl] at hg
      exact ⟨e1.trans e2.symm, lx_end hB hA hks hq hM h32 (kf_n _ _) (kf_t _ _) (fun i h => rfl) (fun i h => rfl) ho1 hb1 hg⟩
    · exact absurd hc1 hc2
  · rcases hm with ⟨e2, hc2, hM⟩ | ⟨e2, hc2, hM⟩
    · exact absurd hc2 hc1
    · exact ⟨e1.trans e2.symm, lx_keep hB hA hks hq hM hbd hag⟩

theorem mA_wr7 {mo : Nat} {w1 c1 : Nat → Nat} {g1 po1 : Nat → Int} {kz1 : Nat → Bool} (h : mA E H mo th md fe ps w c g kz lf nx bf po ta en tu si sm) (hW : mW E H1 mo th (md : Int) (fe : Int) ps w1 c1 g1 kz1) (h7 : ca E H1 (mo + 7) (ai E 4096 po1)) (hq : ∀ q, mo + 4 ≤ q → q ≤ mo + 13 → q ≠ mo + 7 → q ≠ mo + 10 → H1[q]? = H[q]?) : mA E H1 mo th md fe ps w1 c1 g1 kz1 lf nx bf po1 ta en tu si sm := by
  obtain ⟨-, h4, h5, h6, -, h8, h9, h11, h12, h13⟩ := h
  exact ⟨hW, h4.keep (hq _ (by omega) (by omega) (by omega) (by omega)), h5.keep (hq _ (by omega) (by omega) (by omega) (by omega)), h6.keep (hq _ (by omega) (by omega) (by omega) (by omega)), h7, h8.keep (hq _ (by omega) (by omega) (by omega) (by omega)), h9.keep (hq _ (by omega) (by omega) (by omega) (by omega)), h11.keep (hq _ (by omega) (by omega) (by omega) (by omega)), h12.keep (hq _ (by omega) (by omega) (by omega) (by omega)), h13.keep (hq _ (by omega) (by omega) (by omega) (by omega))⟩

theorem lx_copy {r0 s0 : Int} {bk : Bool} (hv : ∀ i, i < 4 → 1 ≤ w i ∧ w i ≤ 8 ∧ c i ≤ 32) (hA : mA E H (o + 159) th md fe ps w c g kz lf nx bf po ta en tu si sm) (hks : ∀ i, i < 4 → kz i = true → kS w c g tu si sm i) (hbd : bd g) (hag : ag c f g) (hq : ∀ q, ¬ (q = o + 159 ∨ q = o + 159 + 1 ∨ q = o + 159 + 2 ∨ q = o + 159 + 3 ∨ q = o + 159 + 7 ∨ q = o + 159 + 10) → H1[q]? = H[q]?)
    (hb : (r1 = 1 ∧ (0 ≤ r0 ∧ r0 < 4 ∧ 0 ≤ s0 ∧ s0 < 4) ∧ bAt E H o (hp_up w r0.toNat (w s0.toNat)) (hp_up c r0.toNat (c s0.toNat)) (hp_up f r0.toNat (if bk then bw_iv (va_cpy (f s0.toNat) (f r0.toNat) 0 0 (c s0.toNat)) (c s0.toNat) (c s0.toNat) else va_cpy (f s0.toNat) (f r0.toNat) 0 0 (c s0.toNat)))) ∨ (r1 = 0 ∧ ¬ (0 ≤ r0 ∧ r0 < 4 ∧ 0 ≤ s0 ∧ s0 < 4) ∧ bAt E H o w c f))
    (hm : (∃ po1 : Nat → Int, ca E H1 ((o + 159) + 7) (ai E 4096 po1)) ∧ ((r2 = 1 ∧ (0 ≤ r0 ∧ r0 < 4 ∧ 0 ≤ s0 ∧ s0 < 4) ∧ ∃ g1 : Nat → Int, bd g1 ∧ bw_out r0.toNat g g1 ∧ (∀ k, k < c s0.toNat → gw g1 r0.toNat k = (if bk then -gw g s0.toNat (c s0.toNat - 1 - k) else gw g s0.toNat k)) ∧ mW E H1 (o + 159) th (md : Int) (fe : Int) ps (hp_up w r0.toNat (w s0.toNat)) (hp_up c r0.toNat (c s0.toNat)) g1 (hp_up kz r0.toNat false)) ∨ (r2 = 0 ∧ ¬ (0 ≤ r0 ∧ r0 < 4 ∧ 0 ≤ s0 ∧ s0 < 4) ∧ mW E H1 (o + 159) th (md : Int) (fe : Int) ps w c g kz))) : r1 = r2 ∧ lwS E H1 o := by
  have h32 : ∀ i, i < 4 → c i ≤ 32 := fun i hi => (hv i hi).2.2
  obtain ⟨⟨po1, h7⟩, hm⟩ := hm
  rcases hb with ⟨e1, hc1, hB⟩ | ⟨e1, hc1, hB⟩
  · rcases hm with ⟨e2, hc2, hM⟩ | ⟨e2, hc2, hM⟩
    · generalize ht : r0.toNat = t at *
      generalize hu : s0.toNat = u at *
      have h4 := hv u (by omega)
      obtain ⟨g1, hb1, ho1, hg1, hM⟩ := hM
      refine ⟨e1.trans e2.symm, _, _, _, g1, _, bAt_keep hB (fun q h1 h2 => hq q (by omega)), ⟨_, _, _, _, _, _, _, _, _, _, _, _, _, mA_wr7 hA hM h7 (fun q h1 h2 h3 h4 => hq q (by omega)), kS_wr hks (kf_n _ _) (kf_t _ _) (fun i h => hp_up_n _ _ h) (fun i h => hp_up_n _ _ h) h32 ho1⟩, hb1, ag_up hag h32 ho1 (fun j hj => ?_)⟩
      rw [hg1 j hj]
      cases bk with
      | true =>
        rw [if_pos rfl, if_pos rfl]
        unfold bw_iv va_cpy
        rw [if_pos (by omega), if_pos (by omega), show 0 + (c u - 1 - j - 0) = c u - 1 - j by omega, hag u (by omega) _ (by omega)]
      | false =>
        rw [if_neg (by decide), if_neg (by decide)]
        unfold va_cpy
        rw [if_pos (by omega), show 0 + (j - 0) = j by omega]
        exact hag u (by omega) _ hj
    · exact absurd hc1 hc2
  · rcases hm with ⟨e2, hc2, hM⟩ | ⟨e2, hc2, hM⟩
    · exact absurd hc2 hc1
    · exact ⟨e1.trans e2.symm, w, c, f, g, kz, bAt_keep hB (fun q h1 h2 => hq q (by omega)), ⟨_, _, _, _, _, _, _, _, _, _, _, _, _, mA_wr7 hA hM h7 (fun q h1 h2 h3 h4 => hq q (by omega)), hks⟩, hbd, hag⟩

theorem lx_reduce {s0 : Int} {en0 : Bool} (hv : ∀ i, i < 4 → 1 ≤ w i ∧ w i ≤ 8 ∧ c i ≤ 32) (hA : mA E H (o + 159) th md fe ps w c g kz lf nx bf po ta en tu si sm) (hks : ∀ i, i < 4 → kz i = true → kS w c g tu si sm i) (hbd : bd g) (hag : ag c f g) (hq : ∀ q, ¬ (q = o + 159 ∨ q = o + 159 + 1 ∨ q = o + 159 + 2 ∨ q = o + 159 + 3 ∨ q = o + 159 + 10) → H1[q]? = H[q]?)
    (hb : (¬ (0 ≤ s0 ∧ s0 < 4) ∧ r1 = 0 ∧ bAt E H o w c f) ∨ ((0 ≤ s0 ∧ s0 < 4) ∧ ∃ g : Nat → Int, bw_st g (bw_rs (f s0.toNat) (c s0.toNat)).length (bw_rs (f s0.toNat) (c s0.toNat)) ∧ ((en0 = false ∧ r1 = (c s0.toNat : Int) - ((bw_rs (f s0.toNat) (c s0.toNat)).length : Int) ∧ bAt E H o (hp_up w s0.toNat (w s0.toNat)) (hp_up c s0.toNat (bw_rs (f s0.toNat) (c s0.toNat)).length) (hp_up f s0.toNat g)) ∨ (en0 = true ∧ ∃ n : Nat, bw_gone g (bw_rs (f s0.toNat) (c s0.toNat)).length n ∧ 2 * n ≤ (bw_rs (f s0.toNat) (c s0.toNat)).length ∧ r1 = (c s0.toNat : Int) - (((bw_rs (f s0.toNat) (c s0.toNat)).length - 2 * n : Nat) : Int) ∧ bAt E H o (hp_up w s0.toNat (w s0.toNat)) (hp_up c s0.toNat ((bw_rs (f s0.toNat) (c s0.toNat)).length - 2 * n)) (hp_up f s0.toNat (va_cpy g g n 0 ((bw_rs (f s0.toNat) (c s0.toNat)).length - 2 * n)))))))
    (hm : (¬ (0 ≤ s0 ∧ s0 < 4) ∧ r2 = 0 ∧ mW E H1 (o + 159) th (md : Int) (fe : Int) ps w c g kz) ∨ ((0 ≤ s0 ∧ s0 < 4) ∧ ∃ (g1 g2 : Nat → Int) (kz2 : Nat → Bool) (n n2 x : Nat), bw_st (gw g1 s0.toNat) n (bw_rs (gw g s0.toNat) (c s0.toNat)) ∧ (en0 = false → x = 0) ∧ (en0 = true → bw_gone (gw g1 s0.toNat) n x) ∧ n2 + 2 * x = n ∧ (∀ j, j < n2 → gw g2 s0.toNat j = gw g1 s0.toNat (x + j)) ∧ bd g2 ∧ bw_out s0.toNat g g2 ∧ (∀ i, i ≠ s0.toNat → kz2 i = kz i) ∧ (kz2 s0.toNat = true → kz s0.toNat = true ∧ n2 = c s0.toNat ∧ g2 = g) ∧ n ≤ c s0.toNat ∧ r2 = (c s0.toNat : Int) - (n2 : Int) ∧ mW E H1 (o + 159) th (md : Int) (fe : Int) ps w (hp_up c s0.toNat n2) g2 kz2)) : r1 = r2 ∧ lwS E H1 o := by
  have h32 : ∀ i, i < 4 → c i ≤ 32 := fun i hi => (hv i hi).2.2
  rcases hb with ⟨hc1, e1, hB⟩ | ⟨hc1, F, hst, hB⟩
  · rcases hm with ⟨hc2, e2, hM⟩ | ⟨hc2, hM⟩
    · exact ⟨e1.trans e2.symm, lx_keep hB hA hks hq hM hbd hag⟩
    · exact absurd hc2 hc1
  · rcases hm with ⟨hc2, e2, hM⟩ | ⟨hc2, g1, g2, kz2, n, n2, x, hst2, hx0, hx1, hn2, hg2, hb2, ho2, hkn, hkt, hnc, e2, hM⟩
    · exact absurd hc1 hc2
    · generalize ht : s0.toNat = t at *
      have h4 := hv t (by omega)
      rw [← bw_rs_cg (hag t (by omega))] at hst2
      obtain ⟨eL, hFe⟩ := bw_st_eq hst hst2
      have hkS : kz2 t = true → kS w (hp_up c t n2) g2 tu si sm t := fun h => by
        obtain ⟨a1, a2, a3⟩ := hkt h
        have := hks t (by omega) a1
        unfold kS at this ⊢
        rw [hp_up_s, a2, a3]
        exact this
      rcases hB with ⟨een, e1, hB⟩ | ⟨een, y, hy, hy2, e1, hB⟩
      · have ex := hx0 een
        rw [hp_up_id rfl, show (bw_rs (f t) (c t)).length = n2 by omega] at hB
        exact ⟨by omega, lx_end hB hA hks hq hM h32 hkn hkS (fun i h => rfl) (fun i h => hp_up_n _ _ h) ho2 hb2 (ag_up hag h32 ho2 (fun j hj => by rw [hFe j (by omega), hg2 j hj, show x + j = j by omega]))⟩
      · have ex := hx1 een
        have exy : y = x := bw_gone_uniq (bw_gone_cg hFe hy) (by rw [eL]; exact ex)
        rw [hp_up_id rfl, show (bw_rs (f t) (c t)).length - 2 * y = n2 by omega] at hB
        exact ⟨by omega, lx_end hB hA hks hq hM h32 hkn hkS (fun i h => rfl) (fun i h => hp_up_n _ _ h) ho2 hb2 (ag_up hag h32 ho2 (fun j hj => by
          rw [hg2 j hj]
          unfold va_cpy
          rw [if_pos (by omega), show y + (j - 0) = x + j by omega]
          exact hFe _ (by omega)))⟩

theorem lx_length {s0 : Int} (hv : ∀ i, i < 4 → 1 ≤ w i ∧ w i ≤ 8 ∧ c i ≤ 32) (hA : mG E H (o + 159) w c g kz) (hbd : bd g) (hag : ag c f g) (hok : ∀ i, i < 4 → okw (w i) (c i) (f i)) (hq : ∀ q, ¬ (q = o + 159 ∨ (o + 159 + 4 ≤ q ∧ q ≤ o + 159 + 13)) → H1[q]? = H[q]?)
    (hb : bAt E H o w c f ∧ (((0 ≤ s0 ∧ s0 < 4) ∧ ∃ (fr to : Nat) (pw : Int) (X : Nat → Nat → Int), nfS (w s0.toNat) (c s0.toNat) (f s0.toNat) fr to pw X ∧ r1 = (to : Int) - fr) ∨ (¬ (0 ≤ s0 ∧ s0 < 4) ∧ r1 = -1)))
    (hm : (¬ (0 ≤ s0 ∧ s0 < 4) ∧ r2 = -1 ∧ mG E H1 (o + 159) w c g kz) ∨ ((0 ≤ s0 ∧ s0 < 4) ∧ mG E H1 (o + 159) w c g (hp_up kz s0.toNat true) ∧ ∃ (z : Int) (n : Nat) (X : Nat → Nat → Int), kN (w s0.toNat) (c s0.toNat) (gw g s0.toNat) z n X ∧ r2 = (n : Int))) : r1 = r2 ∧ lwS E H1 o := by
  have h32 : ∀ i, i < 4 → c i ≤ 32 := fun i hi => (hv i hi).2.2
  obtain ⟨hB, hb⟩ := hb
  rcases hm with ⟨hc2, e2, hM⟩ | ⟨hc2, hM, z, n, X, hk, e2⟩
  · rcases hb with ⟨hc1, -⟩ | ⟨hc1, e1⟩
    · exact absurd hc1 hc2
    · exact ⟨e1.trans e2.symm, ⟨w, c, f, g, _, bAt_keep hB (fun q h1 h2 => hq q (by omega)), hM, hbd, hag⟩⟩
  · rcases hb with ⟨hc1, fr, to, pw, X', hn, e1⟩ | ⟨hc1, e1⟩
    · have := kN_eq (kN_cf (fun j hj => (hag _ (by omega) j hj).symm) hk) (hok _ (by omega)) hn
      exact ⟨by omega, ⟨w, c, f, g, _, bAt_keep hB (fun q h1 h2 => hq q (by omega)), hM, hbd, hag⟩⟩
    · exact absurd hc2 hc1

theorem lx_form {s0 j0 p0 : Int} (hv : ∀ i, i < 4 → 1 ≤ w i ∧ w i ≤ 8 ∧ c i ≤ 32) (hA : mG E H (o + 159) w c g kz) (hbd : bd g) (hag : ag c f g) (hok : ∀ i, i < 4 → okw (w i) (c i) (f i)) (hq : ∀ q, ¬ (q = o + 159 ∨ (o + 159 + 4 ≤ q ∧ q ≤ o + 159 + 13)) → H1[q]? = H[q]?)
    (hb : bAt E H o w c f ∧ (((0 ≤ s0 ∧ s0 < 4) ∧ ∃ (fr to : Nat) (pw : Int) (X : Nat → Nat → Int), nfS (w s0.toNat) (c s0.toNat) (f s0.toNat) fr to pw X ∧ r1 = (if j0 = 0 then pw else if 1 ≤ j0 ∧ j0 ≤ (to : Int) - fr ∧ 1 ≤ p0 ∧ p0 ≤ (w s0.toNat : Int) then X (fr + j0.toNat - 1) p0.toNat else 0)) ∨ (¬ (0 ≤ s0 ∧ s0 < 4) ∧ r1 = 0)))
    (hm : (¬ (0 ≤ s0 ∧ s0 < 4) ∧ r2 = 0 ∧ mG E H1 (o + 159) w c g kz) ∨ ((0 ≤ s0 ∧ s0 < 4) ∧ mG E H1 (o + 159) w c g (hp_up kz s0.toNat true) ∧ ∃ (z : Int) (n : Nat) (X : Nat → Nat → Int), kN (w s0.toNat) (c s0.toNat) (gw g s0.toNat) z n X ∧ r2 = (if j0 = 0 then z else if 1 ≤ j0 ∧ j0 ≤ (n : Int) ∧ 1 ≤ p0 ∧ p0 ≤ (w s0.toNat : Int) then X (j0.toNat - 1) p0.toNat else 0))) : r1 = r2 ∧ lwS E H1 o := by
  have h32 : ∀ i, i < 4 → c i ≤ 32 := fun i hi => (hv i hi).2.2
  obtain ⟨hB, hb⟩ := hb
  rcases hm with ⟨hc2, e2, hM⟩ | ⟨hc2, hM, z, n, X, hk, e2⟩
  · rcases hb with ⟨hc1, -⟩ | ⟨hc1, e1⟩
    · exact absurd hc1 hc2
    · exact ⟨e1.trans e2.symm, ⟨w, c, f, g, _, bAt_keep hB (fun q h1 h2 => hq q (by omega)), hM, hbd, hag⟩⟩
  · rcases hb with ⟨hc1, fr, to, pw, X', hn, e1⟩ | ⟨hc1, e1⟩
    · obtain ⟨q1, q2, q3⟩ := kN_eq (kN_cf (fun j hj => (hag _ (by omega) j hj).symm) hk) (hok _ (by omega)) hn
      refine ⟨?_, ⟨w, c, f, g, _, bAt_keep hB (fun q h1 h2 => hq q (by omega)), hM, hbd, hag⟩⟩
      rw [e1, e2]
      by_cases e : j0 = 0
      · rw [if_pos e, if_pos e]; exact q1
      · rw [if_neg e, if_neg e]
        by_cases e3 : 1 ≤ j0 ∧ j0 ≤ (n : Int) ∧ 1 ≤ p0 ∧ p0 ≤ (w s0.toNat : Int)
        · rw [if_pos e3, if_pos (by omega), q3 (j0.toNat - 1) (by omega) p0.toNat (by omega) (by omega), show fr + j0.toNat - 1 = fr + (j0.toNat - 1) by omega]
        · rw [if_neg e3, if_neg (by omega)]
    · exact absurd hc2 hc1

theorem lx_same {r0 s0 : Int} (hv : ∀ i, i < 4 → 1 ≤ w i ∧ w i ≤ 8 ∧ c i ≤ 32) (hA : mG E H (o + 159) w c g kz) (hbd : bd g) (hag : ag c f g) (hok : ∀ i, i < 4 → okw (w i) (c i) (f i)) (hq : ∀ q, ¬ (q = o + 159 ∨ (o + 159 + 4 ≤ q ∧ q ≤ o + 159 + 13)) → H1[q]? = H[q]?)
    (hb : bAt E H o w c f ∧ (((0 ≤ r0 ∧ r0 < 4 ∧ 0 ≤ s0 ∧ s0 < 4) ∧ ∃ (fr1 to1 : Nat) (pw1 : Int) (X1 : Nat → Nat → Int) (fr2 to2 : Nat) (pw2 : Int) (X2 : Nat → Nat → Int), nfS (w r0.toNat) (c r0.toNat) (f r0.toNat) fr1 to1 pw1 X1 ∧ nfS (w s0.toNat) (c s0.toNat) (f s0.toNat) fr2 to2 pw2 X2 ∧ r1 = bI (decide (w r0.toNat = w s0.toNat ∧ pw1 = pw2 ∧ to1 - fr1 = to2 - fr2 ∧ ∀ j, j < to1 - fr1 → ∀ p, p < w r0.toNat → X1 (fr1 + j) (p + 1) = X2 (fr2 + j) (p + 1)))) ∨ (¬ (0 ≤ r0 ∧ r0 < 4 ∧ 0 ≤ s0 ∧ s0 < 4) ∧ r1 = 0)))
    (hm : (¬ (0 ≤ r0 ∧ r0 < 4 ∧ 0 ≤ s0 ∧ s0 < 4 ∧ w r0.toNat = w s0.toNat) ∧ r2 = 0 ∧ mG E H1 (o + 159) w c g kz) ∨ ((0 ≤ r0 ∧ r0 < 4 ∧ 0 ≤ s0 ∧ s0 < 4 ∧ w r0.toNat = w s0.toNat) ∧ mG E H1 (o + 159) w c g (hp_up (hp_up kz r0.toNat true) s0.toNat true) ∧ ∃ (z1 : Int) (n1 : Nat) (X1 : Nat → Nat → Int) (z2 : Int) (n2 : Nat) (X2 : Nat → Nat → Int), kN (w r0.toNat) (c r0.toNat) (gw g r0.toNat) z1 n1 X1 ∧ kN (w s0.toNat) (c s0.toNat) (gw g s0.toNat) z2 n2 X2 ∧ (r2 = 1 ∨ r2 = 0) ∧ (r2 = 1 ↔ z1 = z2 ∧ n1 = n2 ∧ ∀ j, j < n1 → ∀ p, 1 ≤ p → p ≤ w r0.toNat → X1 j p = X2 j p))) : r1 = r2 ∧ lwS E H1 o := by
  have h32 : ∀ i, i < 4 → c i ≤ 32 := fun i hi => (hv i hi).2.2
  obtain ⟨hB, hb⟩ := hb
  rcases hm with ⟨hc2, e2, hM⟩ | ⟨hc2, hM, z1, n1, X1, z2, n2, X2, hk1, hk2, hr, hi⟩
  · rcases hb with ⟨hc1, fr1, to1, pw1, Y1, fr2, to2, pw2, Y2, hn1, hn2, e1⟩ | ⟨hc1, e1⟩
    · refine ⟨?_, ⟨w, c, f, g, _, bAt_keep hB (fun q h1 h2 => hq q (by omega)), hM, hbd, hag⟩⟩
      rw [e1, e2, decide_eq_false (fun h9 => hc2 ⟨hc1.1, hc1.2.1, hc1.2.2.1, hc1.2.2.2, h9.1⟩)]
      rfl
    · exact ⟨e1.trans e2.symm, ⟨w, c, f, g, _, bAt_keep hB (fun q h1 h2 => hq q (by omega)), hM, hbd, hag⟩⟩
  · rcases hb with ⟨hc1, fr1, to1, pw1, Y1, fr2, to2, pw2, Y2, hn1, hn2, e1⟩ | ⟨hc1, e1⟩
    · obtain ⟨a1, a2, a3⟩ := kN_eq (kN_cf (fun j hj => (hag _ (by omega) j hj).symm) hk1) (hok _ (by omega)) hn1
      obtain ⟨b1, b2, b3⟩ := kN_eq (kN_cf (fun j hj => (hag _ (by omega) j hj).symm) hk2) (hok _ (by omega)) hn2
      refine ⟨?_, ⟨w, c, f, g, _, bAt_keep hB (fun q h1 h2 => hq q (by omega)), hM, hbd, hag⟩⟩
      rw [e1]
      by_cases e : z1 = z2 ∧ n1 = n2 ∧ ∀ j, j < n1 → ∀ p, 1 ≤ p → p ≤ w r0.toNat → X1 j p = X2 j p
      · rw [hi.mpr e, decide_eq_true ⟨hc2.2.2.2.2, by omega, by omega, fun j hj p hp => by rw [← a3 j (by omega) (p + 1) (by omega) (by omega), ← b3 j (by omega) (p + 1) (by omega) (by omega)]; exact e.2.2 j (by omega) (p + 1) (by omega) (by omega)⟩]
        rfl
      · have hr0 : r2 = 0 := hr.resolve_left (fun h9 => e (hi.mp h9))
        rw [hr0, decide_eq_false (fun h9 => e ⟨by omega, by omega, fun j hj p h1 h2 => by rw [a3 j hj p h1 h2, b3 j (by omega) p h1 (by omega)]; have h8 := h9.2.2.2 j (by omega) (p - 1) (by omega); rw [show p - 1 + 1 = p by omega] at h8; exact h8⟩)]
        rfl
    · exact absurd ⟨hc2.1, hc2.2.1, hc2.2.2.1, hc2.2.2.2.1⟩ hc1

/-- answers of the reading methods -/
theorem lx_at {s0 k0 : Int} (hag : ag c f g) : (if 0 ≤ s0 ∧ s0 < 4 ∧ 0 ≤ k0 ∧ k0 < (c s0.toNat : Int) then f s0.toNat k0.toNat else 0) = (if 0 ≤ s0 ∧ s0 < 4 ∧ 0 ≤ k0 ∧ k0 < (c s0.toNat : Int) then gw g s0.toNat k0.toNat else 0) := by
  by_cases h : 0 ≤ s0 ∧ s0 < 4 ∧ 0 ≤ k0 ∧ k0 < (c s0.toNat : Int)
  · rw [if_pos h, if_pos h]; exact hag _ (by omega) _ (by omega)
  · rw [if_neg h, if_neg h]
theorem lx_ends {s0 p0 : Int} (hag : ag c f g) : (if 0 ≤ s0 ∧ s0 < 4 ∧ 1 ≤ p0 ∧ p0 ≤ (w s0.toNat : Int) then bw_end (f s0.toNat) (c s0.toNat) p0 else 0) = (if 0 ≤ s0 ∧ s0 < 4 ∧ 1 ≤ p0 ∧ p0 ≤ (w s0.toNat : Int) then bw_end (gw g s0.toNat) (c s0.toNat) p0 else 0) := by
  by_cases h : 0 ≤ s0 ∧ s0 < 4 ∧ 1 ≤ p0 ∧ p0 ≤ (w s0.toNat : Int)
  · rw [if_pos h, if_pos h]; exact bw_end_cg (hag _ (by omega))
  · rw [if_neg h, if_neg h]
theorem lx_many {s0 x0 : Int} (hag : ag c f g) : (if 0 ≤ s0 ∧ s0 < 4 then (if x0 = 0 then (w s0.toNat : Int) else if x0 = 1 then (c s0.toNat : Int) else if x0 = 2 then bw_sum (f s0.toNat) (c s0.toNat) else if x0 = 3 then bw_cmp (f s0.toNat) (c s0.toNat) (w s0.toNat) else if x0 = 4 then bw_cir (f s0.toNat) (c s0.toNat) (w s0.toNat) else -1000) else -1000) = (if 0 ≤ s0 ∧ s0 < 4 then (if x0 = 0 then (w s0.toNat : Int) else if x0 = 1 then (c s0.toNat : Int) else if x0 = 2 then bw_sum (gw g s0.toNat) (c s0.toNat) else if x0 = 3 then bw_cmp (gw g s0.toNat) (c s0.toNat) (w s0.toNat) else if x0 = 4 then bw_cir (gw g s0.toNat) (c s0.toNat) (w s0.toNat) else -1000) else -1000) := by
  by_cases h : 0 ≤ s0 ∧ s0 < 4
  · have e := hag s0.toNat (by omega)
    rw [if_pos h, if_pos h, bw_sum_cg e, bw_cmp_cg e, bw_cir_cg e]
  · rw [if_neg h, if_neg h]
theorem lx_cross {s0 k0 x0 : Int} (hag : ag c f g) : (if 0 ≤ s0 ∧ s0 < 4 ∧ 0 ≤ k0 ∧ k0 < (c s0.toNat : Int) ∧ 0 ≤ x0 ∧ x0 ≤ 4 then (if x0 = 4 then bw_sgn (f s0.toNat k0.toNat) else bw_cor (w s0.toNat) (c s0.toNat) (f s0.toNat) k0.toNat x0) else 0) = (if 0 ≤ s0 ∧ s0 < 4 ∧ 0 ≤ k0 ∧ k0 < (c s0.toNat : Int) ∧ 0 ≤ x0 ∧ x0 ≤ 4 then (if x0 = 4 then bw_sgn (gw g s0.toNat k0.toNat) else bw_cor (w s0.toNat) (c s0.toNat) (gw g s0.toNat) k0.toNat x0) else 0) := by
  by_cases h : 0 ≤ s0 ∧ s0 < 4 ∧ 0 ≤ k0 ∧ k0 < (c s0.toNat : Int) ∧ 0 ≤ x0 ∧ x0 ≤ 4
  · rw [if_pos h, if_pos h, hag _ (by omega) _ (by omega), bw_cor_cg (hag _ (by omega)) (by omega)]
  · rw [if_neg h, if_neg h]
end LY
