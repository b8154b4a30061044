/-! The row of heads: it is the end of every row with the same end; every row has an end -/
theorem gs_rw_lt : ∀ (a b : List gs_P) {j : Nat}, j < a.length → gs_rw (a ++ b) j = gs_rw a j
  | [], _, j, h => absurd h (by simp)
  | _ :: _, _, 0, _ => rfl
  | _ :: a, b, j + 1, h => gs_rw_lt a b (by simp only [List.length_cons] at h; omega)
theorem gs_rw_at : ∀ (a b : List gs_P) (S : gs_P), gs_rw (a ++ S :: b) a.length = S
  | [], _, _ => rfl
  | _ :: a, b, S => gs_rw_at a b S
theorem gs_rw_ge : ∀ (a : List gs_P) {j : Nat}, a.length ≤ j → gs_rw a j = gs_id
  | [], _, _ => rfl
  | _ :: a, 0, h => by simp at h
  | _ :: a, j + 1, h => gs_rw_ge a (by simp only [List.length_cons] at h; omega)
theorem gs_rw_mem : ∀ (a : List gs_P) {j : Nat}, j < a.length → gs_rw a j ∈ a
  | [], _, h => absurd h (by simp)
  | S :: a, 0, _ => by show S ∈ S :: a; simp
  | S :: a, j + 1, h => by
    have := gs_rw_mem a (j := j) (by simp only [List.length_cons] at h; omega)
    show gs_rw a j ∈ S :: a
    simp [this]
def gs_J (n : Nat) (X : Nat → gs_P) (dn : List gs_P) (Y : List Nat) : Prop := gs_cn n X (gs_rw (dn ++ Y.map gs_l)) ∧ gs_lo n dn ∧ rz_in n Y ∧ (∀ j, j + 1 < dn.length → gs_lw n (gs_rw dn j) (gs_rw dn (j + 1))) ∧ (∀ S, S ∈ dn → S ≠ gs_id) ∧ ∀ D S, gs_hd n Y D S → dn ≠ [] → gs_lw n (gs_rw dn (dn.length - 1)) S
theorem gs_J_0 {n : Nat} {X : Nat → gs_P} {Y : List Nat} (hY : rz_in n Y) (h : gs_cn n X (gs_rw (Y.map gs_l))) : gs_J n X [] Y := ⟨h, fun _ h => by simp at h, hY, fun j h => by simp at h, fun _ h => by simp at h, fun _ _ _ h => absurd rfl h⟩
theorem gs_J_st {n : Nat} {X : Nat → gs_P} {dn : List gs_P} {Y D : List Nat} {S : gs_P} (h : gs_J n X dn Y) (hd : gs_hd n Y D S) (h0 : Y ≠ []) : gs_J n X (dn ++ [S]) D := by
  obtain ⟨h1, h2, h3, h4, h5, h6⟩ := h
  have ok := gs_hd_ok hd
  have hlen : (dn ++ [S]).length = dn.length + 1 := by simp
  have hat : gs_rw (dn ++ [S]) dn.length = S := gs_rw_at dn [] S
  refine ⟨?_, gs_lo_a.mpr ⟨h2, gs_lo_c.mpr ⟨ok.1, fun _ h => by simp at h⟩⟩, ok.2, fun j hj => ?_, fun T hT => ?_, fun D' S' hd' _ => ?_⟩
  · have := h1.tr (gs_hd_cn hd h3 h2)
    simpa using this
  · rw [hlen] at hj
    by_cases e : j + 1 < dn.length
    · rw [gs_rw_lt _ _ (by omega), gs_rw_lt _ _ e]; exact h4 j e
    · have e2 : j + 1 = dn.length := by omega
      rw [gs_rw_lt _ _ (by omega), e2, hat, show j = dn.length - 1 by omega]
      exact h6 D S hd (fun q => by rw [q] at e2; simp at e2)
  · rcases List.mem_append.mp hT with q | q
    · exact h5 T q
    · simp at q
      rw [q]
      exact (gs_hd_ne hd h3 h0).2
  · rw [hlen, show dn.length + 1 - 1 = dn.length by omega, hat]
    exact gs_hd_lw hd hd'
theorem gs_hd_ex {n : Nat} {T Y : List Nat} (hT : gs_tw n T) (hY : rz_in n Y) : ∃ D S, gs_hd n Y D S := by
  obtain ⟨A, B, A', B', -, -, -, -, -, -, -, -, -, -, S, h, -⟩ := gs_turn hT hY (bd := 6 * T.length + 6 * Y.length + 10) (Nat.le_refl _)
  exact ⟨_, S, h⟩
theorem gs_J_ex {n : Nat} {T : List Nat} (hT : gs_tw n T) {X : Nat → gs_P} : ∀ (L : Nat) {dn : List gs_P} {Y : List Nat}, Y.length ≤ L → gs_J n X dn Y → ∃ hs, gs_J n X (dn ++ hs) [] ∧ (Y ≠ [] → hs ≠ []) := by
  intro L
  induction L with
  | zero =>
    intro dn Y hl h
    have e : Y = [] := List.length_eq_zero_iff.mp (by omega)
    subst e
    exact ⟨[], by simpa using h, fun q => absurd rfl q⟩
  | succ L ih =>
    intro dn Y hl h
    by_cases e : Y = []
    · subst e
      exact ⟨[], by simpa using h, fun q => absurd rfl q⟩
    · obtain ⟨D, S, hd⟩ := gs_hd_ex hT h.2.2.1
      have hlt := (gs_hd_ne hd h.2.2.1 e).1
      obtain ⟨hs, g1, -⟩ := ih (by omega) (gs_J_st h hd e)
      exact ⟨S :: hs, by simpa using g1, fun _ => by simp⟩
theorem gs_J_ir {n : Nat} {X : Nat → gs_P} {dn : List gs_P} {Y : List Nat} (h : gs_J n X dn Y) (m : Nat) : gs_ir n m (gs_rw dn) := by
  intro j i _ h1 h2 hc
  by_cases e : j + 1 < dn.length
  · exact h.2.2.2.1 j e i h1 h2 hc
  · rw [gs_rw_ge dn (j := j + 1) (by omega)] at hc
    exact gs_lw_idr _ i h1 h2 hc
theorem gs_J_eq {n : Nat} {X A : Nat → gs_P} {dn : List gs_P} (h : gs_J n X dn []) (hA : gs_en n X A) : A = gs_rw dn := by
  have hc := h.1
  simp only [List.map_nil, List.append_nil] at hc
  obtain ⟨-, m, k, hk⟩ := (hc A).mp hA
  match k, hk with
  | 0, hk => exact (show gs_rw dn = A from hk).symm
  | k + 1, ⟨C, hs, _⟩ => exact absurd hs (fun q => gs_ir_no (gs_J_ir h m) q)
/-! every row has an end -/
def gs_mu (n : Nat) (A : Nat → gs_P) : Nat → Nat
  | 0 => 0
  | m + 1 => gs_mu n A m + gs_inv n (A m).1 * 29 ^ m
theorem gs_mu_cg {n : Nat} {A B : Nat → gs_P} : ∀ (m : Nat), (∀ j, j < m → A j = B j) → gs_mu n A m = gs_mu n B m
  | 0, _ => rfl
  | m + 1, h => by
    show gs_mu n A m + _ = gs_mu n B m + _
    rw [gs_mu_cg m (fun j hj => h j (by omega)), h m (by omega)]
theorem gs_mu_mv {n : Nat} (hn : n ≤ 8) {A : Nat → gs_P} {j i : Nat} (h1 : 1 ≤ i) (h2 : i < n) (hc : gs_can i (A j) (A (j + 1))) : ∀ (m : Nat), j + 1 < m → gs_mu n (gs_mv A j i) m < gs_mu n A m
  | 0, h => absurd h (by omega)
  | m + 1, h => by
    show gs_mu n (gs_mv A j i) m + gs_inv n (gs_mv A j i m).1 * 29 ^ m < gs_mu n A m + gs_inv n (A m).1 * 29 ^ m
    by_cases e : j + 1 < m
    · have := gs_mu_mv hn h1 h2 hc m e
      rw [gs_mv_n A i (by omega) (by omega)]
      omega
    · have e : m = j + 1 := by omega
      subst e
      rw [gs_mv_1]
      have hi := gs_inv_R h1 h2 hc.2
      have hi' : gs_inv n (gs_R i (A (j + 1))).1 = gs_inv n (fun p => (A (j + 1)).1 (gs_sw i p)) := rfl
      rw [hi, hi']
      show gs_mu n (gs_mv A j i) j + gs_inv n (gs_mv A j i j).1 * 29 ^ j + _ < gs_mu n A j + gs_inv n (A j).1 * 29 ^ j + _
      rw [gs_mu_cg (A := gs_mv A j i) (B := A) j (fun k hk => gs_mv_n A i (by omega) (by omega))]
      have h28 := gs_inv_28 hn (gs_mv A j i j).1
      have hp : 29 ^ (j + 1) = 29 ^ j * 29 := Nat.pow_succ 29 j
      have hpos : 0 < 29 ^ j := Nat.pow_pos (by omega)
      have hmul : gs_inv n (gs_mv A j i j).1 * 29 ^ j ≤ 28 * 29 ^ j := Nat.mul_le_mul_right _ h28
      rw [hp, Nat.add_mul]
      omega
theorem gs_to_ex {n c : Nat} (hn : n ≤ 8) : ∀ (N : Nat) {A : Nat → gs_P}, gs_mu n A c ≤ N → ∃ B d, gs_to n c d A B ∧ gs_ir n c B := by
  intro N
  induction N with
  | zero =>
    intro A hN
    refine ⟨A, 0, rfl, fun j i hj h1 h2 hc => ?_⟩
    have := gs_mu_mv hn h1 h2 hc c hj
    omega
  | succ N ih =>
    intro A hN
    by_cases hx : ∃ j i, j + 1 < c ∧ 1 ≤ i ∧ i < n ∧ gs_can i (A j) (A (j + 1))
    · obtain ⟨j, i, hj, h1, h2, hc⟩ := hx
      have := gs_mu_mv hn h1 h2 hc c hj
      obtain ⟨B, d, g1, g2⟩ := ih (A := gs_mv A j i) (by omega)
      exact ⟨B, d + 1, ⟨_, ⟨j, i, hj, h1, h2, hc, rfl⟩, g1⟩, g2⟩
    · exact ⟨A, 0, rfl, fun j i hj h1 h2 hc => hx ⟨j, i, hj, h1, h2, hc⟩⟩
theorem gs_en_of {n c d : Nat} {X A : Nat → gs_P} (hX : ∀ i, c ≤ i → X i = gs_id) (h : gs_to n c d X A) (hi : gs_ir n c A) : gs_en n X A ∧ ∀ i, c ≤ i → A i = gs_id := by
  have ho : ∀ i, c ≤ i → A i = gs_id := fun i q => by rw [gs_to_out d h i q, hX i q]
  refine ⟨⟨fun m j i _ h1 h2 hc => ?_, c, d, h⟩, ho⟩
  by_cases e : j + 1 < c
  · exact hi j i e h1 h2 hc
  · rw [ho (j + 1) (by omega)] at hc
    exact gs_lw_idr _ i h1 h2 hc
/-- no more heads than rows -/
theorem gs_J_few {n c : Nat} {T : List Nat} (hn : n ≤ 8) (hT : gs_tw n T) {X : Nat → gs_P} (hX : ∀ i, c ≤ i → X i = gs_id) {dn : List gs_P} {Y : List Nat} (h : gs_J n X dn Y) : dn.length ≤ c ∧ (Y ≠ [] → dn.length < c) := by
  obtain ⟨hs, g1, g2⟩ := gs_J_ex hT Y.length (Nat.le_refl _) h
  obtain ⟨A, d, a1, a2⟩ := gs_to_ex hn (gs_mu n X c) (A := X) (c := c) (Nat.le_refl _)
  have en := gs_en_of hX a1 a2
  have e := gs_J_eq g1 en.1
  have hle : (dn ++ hs).length ≤ c := by
    refine Nat.le_of_not_lt fun q => ?_
    have h3 := en.2 c (Nat.le_refl c)
    rw [e] at h3
    exact g1.2.2.2.2.1 _ (gs_rw_mem _ q) h3
  simp only [List.length_append] at hle
  refine ⟨by omega, fun q => ?_⟩
  have : hs.length ≠ 0 := fun z => g2 q (List.length_eq_zero_iff.mp z)
  omega
/-! what the reference knows of a word's normal form -/
def gs_nT (w : Nat) (l : List gs_P) : Prop := ∀ S, S ∈ l → S ≠ gs_T w
def kN (w c : Nat) (f : Nat → Int) (tu : Int) (si : Nat) (X : Nat → Nat → Int) : Prop := ∃ a l, gs_J w (bn_X w c f) (List.replicate a (gs_T w) ++ l) [] ∧ gs_nT w l ∧ tu = (a : Int) - (bw_neg f c : Int) ∧ si = l.length ∧ ∀ j, j < si → bn_h w (X j) (gs_rw l j).1
theorem gs_rw_ap : ∀ (a b : List gs_P) (j : Nat), gs_rw (a ++ b) (a.length + j) = gs_rw b j
  | [], _, j => by simp
  | S :: a, b, j => by
    have := gs_rw_ap a b j
    show gs_rw (S :: (a ++ b)) (a.length + 1 + j) = _
    rw [show a.length + 1 + j = (a.length + j) + 1 by omega]
    exact this
theorem kN_eq {w c : Nat} {f : Nat → Int} {tu : Int} {si : Nat} {X X' : Nat → Nat → Int} {fr to : Nat} {pw : Int} (h : kN w c f tu si X) (hok : okw w c f) (h' : nfS w c f fr to pw X') : pw = tu ∧ fr + si = to ∧ ∀ j, j < si → ∀ p, 1 ≤ p → p ≤ w → X j p = X' (fr + j) p := by
  obtain ⟨a, l, hJ, hl, htu, hsi, hX⟩ := h
  obtain ⟨A, ⟨⟨d, n1⟩, n2, n3, n4, n5, n6, n7⟩, hX', hpw⟩ := h'
  have hXid : ∀ i, c ≤ i → bn_X w c f i = gs_id := fun i q => by unfold bn_X; rw [if_neg (by omega)]
  have en := gs_en_of hXid n1 n2
  have e := gs_J_eq hJ en.1
  have hlen : (List.replicate a (gs_T w) ++ l).length = a + l.length := by simp
  have hidT : 0 < c → gs_T w ≠ gs_id := fun hc q => by
    have h0 := hok 0 hc
    have h1 : gs_tn w 1 = 1 := congrFun (congrArg Prod.fst q) 1
    rw [gs_tn_in (by omega) (by omega)] at h1
    omega
  have hT : ∀ i, i < a → A i = gs_T w := fun i hi => by
    rw [e, gs_rw_lt _ _ (by simp; exact hi)]
    have := gs_rw_mem (List.replicate a (gs_T w)) (j := i) (by simp; exact hi)
    exact (List.mem_replicate.mp this).2
  have hA2 : ∀ j, A (a + j) = gs_rw l j := fun j => by
    rw [e]
    have := gs_rw_ap (List.replicate a (gs_T w)) l j
    simpa using this
  have hnid : ∀ i, i < a + l.length → A i ≠ gs_id := fun i hi => by
    rw [e]
    exact hJ.2.2.2.2.1 _ (gs_rw_mem _ (by omega))
  have hge : ∀ i, a + l.length ≤ i → A i = gs_id := fun i hi => by
    rw [e]
    exact gs_rw_ge _ (by omega)
  have hto : to = a + l.length := by
    have h1 : a + l.length ≤ to := by
      refine Nat.le_of_not_lt fun q => hnid to q ?_
      by_cases z : to < c
      · exact n4 to (Nat.le_refl _) z
      · exact en.2 to (by omega)
    refine Nat.le_antisymm ?_ h1
    refine Nat.le_of_not_lt fun q => ?_
    by_cases z : fr < to
    · exact (n5 z).2 (hge _ (by omega))
    · have h2 := n3 (to - 1) (by omega)
      rw [hge _ (by omega)] at h2
      exact hidT (by omega) h2.symm
  have hfr : fr = a := by
    rcases Nat.lt_trichotomy fr a with q | q | q
    · exact absurd (hT fr q) (n5 (by omega)).1
    · exact q
    · have h1 := n3 a q
      have h2 : A a = gs_rw l 0 := hA2 0
      have h3 := gs_rw_mem l (j := 0) (by omega)
      rw [← h2] at h3
      exact absurd h1 (hl _ h3)
  subst hfr
  refine ⟨by omega, by omega, fun j hj p h1 h2 => ?_⟩
  rw [hX j hj p h1 h2, hX' (fr + j) (by omega) p h1 h2, hA2]
