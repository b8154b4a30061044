/-! The normal form of a word, letter by letter -/
def bw_neg (f : Nat → Int) : Nat → Nat
  | 0 => 0
  | k + 1 => bw_neg f k + (if f k < 0 then 1 else 0)
theorem bw_neg_le (f : Nat → Int) : ∀ k, bw_neg f k ≤ k
  | 0 => Nat.le_refl 0
  | k + 1 => by
    have := bw_neg_le f k
    simp only [bw_neg]
    split <;> omega
theorem bw_neg_mono (f : Nat → Int) {j : Nat} : ∀ {k : Nat}, j ≤ k → bw_neg f j ≤ bw_neg f k
  | 0, h => by rw [show j = 0 by omega]; exact Nat.le_refl _
  | k + 1, h => by
    by_cases e : j = k + 1
    · rw [e]; exact Nat.le_refl _
    · have := bw_neg_mono f (show j ≤ k by omega)
      simp only [bw_neg]
      omega
theorem bw_neg_congr {f g : Nat → Int} : ∀ {k : Nat}, (∀ j, j < k → f j = g j) → bw_neg f k = bw_neg g k
  | 0, _ => rfl
  | k + 1, h => by
    simp only [bw_neg]
    rw [bw_neg_congr (fun j hj => h j (by omega)), h k (by omega)]
/-- letters that are there are not 0 -/
theorem bw_sum_neg {f : Nat → Int} : ∀ {k : Nat}, (∀ j, j < k → f j ≠ 0) → bw_sum f k = (k : Int) - 2 * (bw_neg f k : Int)
  | 0, _ => rfl
  | k + 1, h => by
    have e := bw_sum_neg (f := f) (k := k) (fun j hj => h j (by omega))
    have h0 := h k (by omega)
    simp only [bw_sum, bw_neg]
    unfold bw_sgn
    split
    · rw [if_neg (by omega)]; omega
    · rw [if_pos (by omega), if_pos (by omega)]; omega
/-- whether an odd number of inverse TURNs go past letter k -/
def bw_mir (f : Nat → Int) (c k : Nat) : Bool := decide ((bw_neg f c - bw_neg f k) % 2 = 1)
def bn_i (w c : Nat) (f : Nat → Int) (k : Nat) : Nat := if bw_mir f c (k + 1) then w - (f k).natAbs else (f k).natAbs
def bn_X (w c : Nat) (f : Nat → Int) (k : Nat) : gs_P := if k < c then gs_si w (bn_i w c f k) (decide (f k < 0)) else gs_id
/-- letters of a word with w strands -/
def okw (w c : Nat) (f : Nat → Int) : Prop := ∀ k, k < c → f k ≠ 0 ∧ (f k).natAbs < w
theorem okw_congr {w c : Nat} {f g : Nat → Int} (h : okw w c f) (e : ∀ k, k < c → f k = g k) : okw w c g := fun k hk => by rw [← e k hk]; exact h k hk
theorem bn_i_rng {w c : Nat} {f : Nat → Int} (h : okw w c f) {k : Nat} (hk : k < c) : 1 ≤ bn_i w c f k ∧ bn_i w c f k < w := by
  have := h k hk
  unfold bn_i
  split <;> omega
theorem bn_X_ok {w c : Nat} {f : Nat → Int} (h : okw w c f) (k : Nat) : gs_ok w (bn_X w c f k) := by
  unfold bn_X
  split
  · have := bn_i_rng h (by assumption)
    exact gs_ok_si _ this.1 this.2
  · exact gs_ok_id w
theorem bn_X_congr {w c : Nat} {f g : Nat → Int} (e : ∀ k, k < c → f k = g k) : bn_X w c f = bn_X w c g := by
  funext k
  unfold bn_X
  by_cases h : k < c
  · rw [if_pos h, if_pos h]
    unfold bn_i bw_mir
    rw [bw_neg_congr e, bw_neg_congr (k := k + 1) (fun j hj => e j (by omega)), e k h]
  · rw [if_neg h, if_neg h]
def nf_I (w k : Nat) (Xs : Nat → gs_P) (fr to : Nat) (A : Nat → gs_P) : Prop := (∃ d, gs_to w k d Xs A) ∧ gs_ir w k A ∧ (∀ i, i < fr → A i = gs_T w) ∧ (∀ i, to ≤ i → i < k → A i = gs_id) ∧ (fr < to → A fr ≠ gs_T w ∧ A (to - 1) ≠ gs_id) ∧ fr ≤ to ∧ to ≤ k
theorem nf_I0 (w : Nat) (Xs : Nat → gs_P) : nf_I w 0 Xs 0 0 Xs := ⟨⟨0, rfl⟩, fun j i h => by omega, fun i h => by omega, fun i h1 h2 => by omega, fun h => by omega, Nat.le_refl 0, Nat.le_refl 0⟩
theorem nf_tr {w k fr to : Nat} {Xs A : Nat → gs_P} (h : nf_I w k Xs fr to A) (hal : ∀ i, gs_ok w (Xs i)) : ∃ A' : Nat → gs_P, (∃ d, gs_to w (k + 1) d Xs A') ∧ A' to = Xs k ∧ (∀ j, to < j → j ≤ k → A' j = gs_id) ∧ ∀ j, j < to → A' j = A j := by
  obtain ⟨⟨d, h1⟩, h2, h3, h4, h5, h6, h7⟩ := h
  have e : A k = Xs k := gs_to_out d h1 k (Nat.le_refl k)
  obtain ⟨d2, A', g1, g2, g3, g4⟩ := gs_tr (n := w) (m := k + 1) (hal k) (k - to) to (A := A) (by omega) (fun j q1 q2 => h4 j q1 (by omega)) (by rw [show to + (k - to) = k by omega]; exact e)
  exact ⟨A', ⟨d + d2, gs_to_app d (gs_to_mono (by omega) d h1) g1⟩, g2, fun j q1 q2 => g3 j q1 (by omega), fun j q => g4 j (Or.inl q)⟩
theorem nf_ok {w k d : Nat} {Xs A : Nat → gs_P} (h : gs_to w k d Xs A) (hal : ∀ i, gs_ok w (Xs i)) : ∀ i, gs_ok w (A i) := fun i => by
  by_cases q : i < k
  · exact gs_al_to d (fun j _ => hal j) h i q
  · rw [gs_to_out d h i (by omega)]; exact hal i
theorem nf_low {w k fr to : Nat} {Xs A A' : Nat → gs_P} (h : nf_I w k Xs fr to A) (h4 : ∀ j, j < to → A' j = A j) : ∀ i, fr ≤ i → i + 2 < to + 1 → gs_lw w (A' i) (A' (i + 1)) := fun i _ q2 => by
  obtain ⟨-, h2, -, -, -, -, h7⟩ := h
  rw [h4 i (by omega), h4 (i + 1) (by omega)]
  exact fun a r1 r2 => h2 i a (by omega) r1 r2
theorem nf_step {w k fr to d fr1 to1 : Nat} {Xs A A' B1 : Nat → gs_P} (h : nf_I w k Xs fr to A) (hA : ∃ d, gs_to w (k + 1) d Xs A') (hid : ∀ j, to < j → j ≤ k → A' j = gs_id) (hlo : ∀ j, j < to → A' j = A j) (s1 : gs_to w (to + 1) d A' B1) (s2 : ∀ i, fr ≤ i → i + 1 < to + 1 → gs_lw w (B1 i) (B1 (i + 1))) (s3 : fr ≤ fr1 ∧ fr1 ≤ to1 ∧ to1 ≤ to + 1) (s4 : ∀ i, fr ≤ i → i < fr1 → B1 i = gs_T w) (s5 : ∀ i, to1 ≤ i → i < to + 1 → B1 i = gs_id) (s6 : fr1 < to1 → B1 fr1 ≠ gs_T w ∧ B1 (to1 - 1) ≠ gs_id) (s7 : ∀ i, i < fr → B1 i = A' i) : nf_I w (k + 1) Xs fr1 to1 B1 := by
  obtain ⟨-, h2, h3, h4, h5, h6, h7⟩ := h
  obtain ⟨d2, hA⟩ := hA
  have hT : ∀ i, i < fr1 → B1 i = gs_T w := fun i q => by
    by_cases e : i < fr
    · rw [s7 i e, hlo i (by omega)]; exact h3 i e
    · exact s4 i (by omega) q
  have hN : ∀ i, to1 ≤ i → i < k + 1 → B1 i = gs_id := fun i q1 q2 => by
    by_cases e : i < to + 1
    · exact s5 i q1 e
    · rw [gs_to_out d s1 i (by omega)]; exact hid i (by omega) (by omega)
  refine ⟨⟨d2 + d, gs_to_app d2 hA (gs_to_mono (by omega) d s1)⟩, fun j i g1 g2 g3 hc => ?_, hT, hN, s6, by omega, by omega⟩
  by_cases e1 : j < fr
  · rw [show B1 j = gs_T w by rw [s7 j e1, hlo j (by omega)]; exact h3 j e1] at hc
    exact gs_lw_Tl _ i g2 g3 hc
  · by_cases e2 : j + 1 < to + 1
    · exact s2 j (by omega) e2 i g2 g3 hc
    · rw [show B1 (j + 1) = gs_id by rw [gs_to_out d s1 (j + 1) (by omega)]; exact hid _ (by omega) (by omega)] at hc
      exact gs_lw_idr _ i g2 g3 hc
/-- a normal form's object holds the normal form of a word -/
def nfS (w c : Nat) (f : Nat → Int) (fr to : Nat) (pw : Int) (X : Nat → Nat → Int) : Prop := ∃ A : Nat → gs_P, nf_I w c (bn_X w c f) fr to A ∧ (∀ i, i < to → bn_h w (X i) (A i).1) ∧ pw = (fr : Int) - (bw_neg f c : Int)
def nAt (E : hp_E) (H : Heap) (b w c : Nat) (f : Nat → Int) (fr to : Nat) (pw : Int) (X : Nat → Nat → Int) (sf : Nat → Int) : Prop := ca E H b (oN b fr to pw) ∧ wAt E H (b + 1) w c f ∧ ca E H (b + 3) (oR E b) ∧ ca E H (b + 36) (ai E 9 sf) ∧ ∀ i, i < 32 → ca E H (b + 4 + i) (ai E 9 (X i))
theorem nfS_congr {w c : Nat} {f g : Nat → Int} {fr to : Nat} {pw : Int} {X : Nat → Nat → Int} (e : ∀ k, k < c → f k = g k) (h : nfS w c f fr to pw X) : nfS w c g fr to pw X := by
  unfold nfS at h ⊢
  rw [bn_X_congr e, bw_neg_congr e] at h
  exact h
/-- one answer alone: normal forms of one word -/
theorem nf_uniq {w c fr to fr' to' : Nat} {Xs A A' : Nat → gs_P} (hal : ∀ i, gs_ok w (Xs i)) (h : nf_I w c Xs fr to A) (h' : nf_I w c Xs fr' to' A') : A = A' := by
  obtain ⟨⟨d, h1⟩, h2, -⟩ := h
  obtain ⟨⟨d', h1'⟩, h2', -⟩ := h'
  exact gs_uniq (fun j _ => hal j) h2 h2' h1 h1'
section HG
variable {p : Program} {l : Launch} {e : Env} {R : Room} {s : State} {m : MethodId} {args : Array Value} {below : List Frame} {meth : Method} {c : Code} {H : Heap} {locs : List Loc} {cells slots : Nat} {Q : State → Prop}
variable {cc : ByteArray} {pc : Nat} {ls : Array Slot} {rest : List Value}
theorem hp_idivN (hexec : p.tables.exec = Jvm.exec) (hb : c.code = cc) {a d : Nat} (hdg : decode cc pc = .ok (.idiv, 1)) (ha : a < 2147483648) (h0 : 0 < d) (hd : d < 2147483648) (k : W p l e R s m args below meth c H locs cells slots Q (F0 m (pc + 1) ls (.int (iI ((a / d : Nat) : Int)) :: rest))) : W p l e R s m args below meth c H locs cells slots Q (F0 m pc ls (.int (iI (d : Int)) :: .int (iI (a : Int)) :: rest)) := by
  refine lv_idiv hexec hb hdg (by rw [iI_nI]; exact nI_ne0 h0 hd) ?_
  rw [iI_nI, iI_nI, pk_div ha h0 hd, ← iI_nI]
  exact k
theorem hp_iremN (hexec : p.tables.exec = Jvm.exec) (hb : c.code = cc) {a d : Nat} (hdg : decode cc pc = .ok (.irem, 1)) (ha : a < 2147483648) (h0 : 0 < d) (hd : d < 2147483648) (k : W p l e R s m args below meth c H locs cells slots Q (F0 m (pc + 1) ls (.int (iI ((a % d : Nat) : Int)) :: rest))) : W p l e R s m args below meth c H locs cells slots Q (F0 m pc ls (.int (iI (d : Int)) :: .int (iI (a : Int)) :: rest)) := by
  refine lv_irem hexec hb hdg (by rw [iI_nI]; exact nI_ne0 h0 hd) ?_
  rw [iI_nI, iI_nI, pk_rem ha h0 hd, ← iI_nI]
  exact k
end HG
theorem bw_mir_pos {f : Nat → Int} {c k : Nat} (h : ¬ f k < 0) : bw_mir f c (k + 1) = bw_mir f c k := by
  unfold bw_mir
  rw [show bw_neg f (k + 1) = bw_neg f k by simp only [bw_neg]; rw [if_neg h]; rfl]
theorem bw_mir_neg {f : Nat → Int} {c k : Nat} (hk : k < c) (h : f k < 0) : bw_mir f c (k + 1) = !bw_mir f c k := by
  have e : bw_neg f (k + 1) = bw_neg f k + 1 := by simp only [bw_neg]; rw [if_pos h]
  have := bw_neg_mono f (show k + 1 ≤ c by omega)
  unfold bw_mir
  by_cases q : (bw_neg f c - bw_neg f k) % 2 = 1
  · rw [decide_eq_true q, decide_eq_false (by omega)]; rfl
  · rw [decide_eq_false q, decide_eq_true (by omega)]; rfl
theorem bw_mir_0 {f : Nat → Int} {c : Nat} : bw_mir f c 0 = decide (bw_neg f c % 2 = 1) := rfl
theorem bn_X_is {w c k i : Nat} {f : Nat → Int} {ng : Bool} (hk : k < c) (hi : bn_i w c f k = i) (hn : decide (f k < 0) = ng) : bn_X w c f k = gs_si w i ng := by
  unfold bn_X
  rw [if_pos hk, hi, hn]
theorem bn_i_t {w c k : Nat} {f : Nat → Int} (h : bw_mir f c (k + 1) = true) : bn_i w c f k = w - (f k).natAbs := by unfold bn_i; rw [if_pos h]
theorem bn_i_f {w c k : Nat} {f : Nat → Int} (h : bw_mir f c (k + 1) = false) : bn_i w c f k = (f k).natAbs := by unfold bn_i; rw [h]; rfl
theorem st_Xa {E : hp_E} {H H1 : Heap} {b t : Nat} {X : Nat → Nat → Int} {g : Nat → Int} (hr : ∀ i, i < 32 → ca E H (b + 4 + i) (ai E 9 (X i))) (ho : ∀ q, ¬ (q = b ∨ q = b + 4 + t) → H1[q]? = H[q]?) (hg : ca E H1 (b + 4 + t) (ai E 9 g)) : ∀ i, i < 32 → ca E H1 (b + 4 + i) (ai E 9 (hp_up X t g i)) := fun i hi => by
  by_cases e : i = t
  · rw [e, hp_up_s]; exact hg
  · rw [hp_up_n _ _ e]; exact (hr i hi).keep (ho _ (by omega))
theorem st_Xb {w t : Nat} {A A' : Nat → gs_P} {X : Nat → Nat → Int} {g : Nat → Int} (hX : ∀ i, i < t → bn_h w (X i) (A i).1) (hA : ∀ j, j < t → A' j = A j) (hg : bn_h w g (A' t).1) : ∀ i, i < t + 1 → bn_h w (hp_up X t g i) (A' i).1 := fun i hi => by
  by_cases e : i = t
  · rw [e, hp_up_s]; exact hg
  · rw [hp_up_n _ _ e, hA i (by omega)]; exact hX i (by omega)
