/-! Words and the permutations of their braids; reduced words; a reduced word can begin with any crossing that its permutation can. -/
def gs_w : List Nat → gs_P
  | [] => gs_id
  | i :: u => gs_R i (gs_w u)
def gs_r : List Nat → Prop
  | [] => True
  | i :: u => gs_r u ∧ (gs_w u).1 i < (gs_w u).1 (i + 1)
theorem rz_in_c {n i : Nat} {u : List Nat} (h : rz_in n (i :: u)) : (1 ≤ i ∧ i < n) ∧ rz_in n u := ⟨h i (by simp), fun y hy => h y (by simp [hy])⟩
theorem rz_in_cons {n i : Nat} {u : List Nat} (h1 : 1 ≤ i ∧ i < n) (h : rz_in n u) : rz_in n (i :: u) := fun y hy => by
  rcases List.mem_cons.mp hy with e | e
  · rw [e]; exact h1
  · exact h y e
theorem rz_in_a {n : Nat} {u v : List Nat} : rz_in n (u ++ v) ↔ rz_in n u ∧ rz_in n v := ⟨fun h => ⟨fun y hy => h y (by simp [hy]), fun y hy => h y (by simp [hy])⟩, fun h y hy => (List.mem_append.mp hy).elim (h.1 y) (h.2 y)⟩
theorem rz_in_q {n : Nat} {u v : List Nat} (h : bq u v) (hu : rz_in n u) : rz_in n v := fun y hy => hu y (h.sy.mem y hy)
theorem rz_in_r {n : Nat} {u : List Nat} (h : rz_in n u) : rz_in n u.reverse := fun y hy => h y (by simpa using hy)
theorem gs_w_ok {n : Nat} : ∀ {u : List Nat}, rz_in n u → gs_ok n (gs_w u)
  | [], _ => gs_ok_id n
  | i :: u, h => gs_ok_R (gs_w_ok (rz_in_c h).2) (rz_in_c h).1.1 (rz_in_c h).1.2
theorem gs_w_cg : ∀ (a : List Nat) {u v : List Nat}, gs_w u = gs_w v → gs_w (a ++ u) = gs_w (a ++ v)
  | [], _, _, h => h
  | i :: a, _, _, h => congrArg (gs_R i) (gs_w_cg a h)
theorem gs_w_q {u v : List Nat} (h : bq u v) : gs_w u = gs_w v := by
  induction h using bq.ind with
  | rf u => rfl
  | tr _ _ h1 h2 => exact h1.trans h2
  | far h a b =>
    rename_i i j
    refine gs_w_cg a ?_
    show gs_R i (gs_R j (gs_w b)) = gs_R j (gs_R i (gs_w b))
    rcases h with h | h
    · exact gs_RR_far h _
    · exact (gs_RR_far h _).symm
  | near h a b =>
    rename_i i j
    refine gs_w_cg a ?_
    show gs_R i (gs_R j (gs_R i (gs_w b))) = gs_R j (gs_R i (gs_R j (gs_w b)))
    rcases h with h | h
    · subst h; exact (gs_RRR j _).symm
    · subst h; exact gs_RRR i _
theorem gs_w_ap1 : ∀ (u v : List Nat) (p : Nat), (gs_w (u ++ v)).1 p = (gs_w v).1 ((gs_w u).1 p)
  | [], _, _ => rfl
  | i :: u, v, p => gs_w_ap1 u v (gs_sw i p)
theorem gs_w_ap2 : ∀ (u v : List Nat) (q : Nat), (gs_w (u ++ v)).2 q = (gs_w u).2 ((gs_w v).2 q)
  | [], _, _ => rfl
  | i :: u, v, q => congrArg (gs_sw i) (gs_w_ap2 u v q)
theorem gs_ne {n : Nat} {S : gs_P} (h : gs_ok n S) {x y : Nat} (hne : x ≠ y) : S.1 x ≠ S.1 y := fun e => by
  have := congrArg S.2 e
  rw [h.1, h.1] at this
  exact hne this
theorem gs_ne2 {n : Nat} {S : gs_P} (h : gs_ok n S) {x y : Nat} (hne : x ≠ y) : S.2 x ≠ S.2 y := fun e => by
  have := congrArg S.1 e
  rw [h.2.1, h.2.1] at this
  exact hne this
theorem gs_inv_0 (n : Nat) : gs_inv n (fun p => p) = 0 := by
  have z : ∀ (h : Nat → Nat) (m : Nat), (∀ p, h p = 0) → gs_sum h m = 0 := by
    intro h m hh
    induction m with
    | zero => rfl
    | succ m ih => show gs_sum h m + h (m + 1) = 0; rw [ih, hh]
  refine z _ _ fun q => z _ _ fun p => ?_
  show (if p < q ∧ q < p then 1 else 0) = 0
  rw [if_neg (by omega)]
theorem gs_r_inv {n : Nat} : ∀ {u : List Nat}, rz_in n u → gs_inv n (gs_w u).1 ≤ u.length ∧ (gs_r u ↔ gs_inv n (gs_w u).1 = u.length)
  | [], _ => by
    have : gs_inv n (gs_w []).1 = 0 := gs_inv_0 n
    rw [this]
    exact ⟨Nat.le_refl _, ⟨fun _ => rfl, fun _ => trivial⟩⟩
  | i :: u, h => by
    obtain ⟨hi, hu⟩ := rz_in_c h
    have ih := gs_r_inv hu
    have ok := gs_w_ok hu
    have hne := gs_ne ok (x := i) (y := i + 1) (by omega)
    have e0 : (gs_w (i :: u)).1 = fun p => (gs_w u).1 (gs_sw i p) := rfl
    by_cases c : (gs_w u).1 i < (gs_w u).1 (i + 1)
    · have e1 := gs_inv_R (f := fun p => (gs_w u).1 (gs_sw i p)) hi.1 hi.2 (by show (gs_w u).1 (gs_sw i (i + 1)) < (gs_w u).1 (gs_sw i i); rw [gs_sw_a, gs_sw_b]; exact c)
      have e2 : (fun p => (fun p => (gs_w u).1 (gs_sw i p)) (gs_sw i p)) = (gs_w u).1 := funext fun p => by show (gs_w u).1 (gs_sw i (gs_sw i p)) = _; rw [gs_sw_sw]
      rw [e2] at e1
      rw [e0, e1, List.length_cons]
      exact ⟨by omega, ⟨fun q => by rw [ih.2.mp q.1], fun q => ⟨ih.2.mpr (by omega), c⟩⟩⟩
    · have e1 := gs_inv_R (f := (gs_w u).1) hi.1 hi.2 (by omega)
      rw [e0, List.length_cons]
      exact ⟨by omega, ⟨fun q => absurd q.2 c, fun q => by omega⟩⟩
theorem gs_r_q {n : Nat} {u v : List Nat} (h : bq u v) (hu : rz_in n u) (hr : gs_r u) : gs_r v := by
  rw [(gs_r_inv (rz_in_q h hu)).2, ← gs_w_q h, ← h.len]
  exact (gs_r_inv hu).2.mp hr
theorem gs_r_suf : ∀ (u : List Nat) {v : List Nat}, gs_r (u ++ v) → gs_r v
  | [], _, h => h
  | _ :: u, _, h => gs_r_suf u h.1
/-- what has crossed stays crossed -/
theorem gs_keep : ∀ (u : List Nat) {v : List Nat} {x y : Nat}, gs_r (u ++ v) → x < y → (gs_w u).1 y < (gs_w u).1 x → (gs_w (u ++ v)).1 y < (gs_w (u ++ v)).1 x
  | [], v, x, y, _, h, h2 => absurd (show y < x from h2) (by omega)
  | i :: u, v, x, y, hr, h, h2 => by
    show (gs_w (u ++ v)).1 (gs_sw i y) < (gs_w (u ++ v)).1 (gs_sw i x)
    by_cases q : x = i ∧ y = i + 1
    · rw [q.1, q.2, gs_sw_a, gs_sw_b]; exact hr.2
    · exact gs_keep u hr.1 (gs_sw_lt h q) h2
theorem gs_r_pre {n : Nat} : ∀ {u v : List Nat}, rz_in n (u ++ v) → gs_r (u ++ v) → gs_r u
  | [], _, _, _ => trivial
  | i :: u, v, hn, h => by
    have hn' := rz_in_c hn
    refine ⟨gs_r_pre hn'.2 h.1, ?_⟩
    have hne := gs_ne (gs_w_ok (rz_in_a.mp hn'.2).1) (x := i) (y := i + 1) (by omega)
    refine Decidable.byContradiction fun q => ?_
    have h3 : (gs_w (u ++ v)).1 (i + 1) < (gs_w (u ++ v)).1 i := gs_keep u h.1 (x := i) (y := i + 1) (by omega) (by omega)
    have h4 : (gs_w (u ++ v)).1 i < (gs_w (u ++ v)).1 (i + 1) := h.2
    omega
/-- a reduced word can begin with any crossing that its permutation can -/
theorem gs_M1 {n : Nat} : ∀ (L : Nat) {u : List Nat} {i : Nat}, u.length ≤ L → rz_in n u → gs_r u → (gs_w u).1 (i + 1) < (gs_w u).1 i → ∃ v, bq u (i :: v) := by
  intro L
  induction L with
  | zero =>
    intro u i hl _ _ hd
    have e : u = [] := List.length_eq_zero_iff.mp (by omega)
    subst e
    exact absurd (show i + 1 < i from hd) (by omega)
  | succ L ih =>
    intro u i hl hn hr hd
    match u, hl, hn, hr, hd with
    | [], _, _, _, hd => exact absurd (show i + 1 < i from hd) (by omega)
    | j :: u, hl, hn, hr, hd =>
      obtain ⟨hj, hu⟩ := rz_in_c hn
      have hr1 := hr.1
      have hr2 := hr.2
      have hd : (gs_w u).1 (gs_sw j (i + 1)) < (gs_w u).1 (gs_sw j i) := hd
      simp only [List.length_cons] at hl
      rcases (show i = j ∨ (i + 2 ≤ j ∨ j + 2 ≤ i) ∨ j = i + 1 ∨ i = j + 1 by omega) with e | e | e | e
      · exact ⟨u, by rw [e]; exact bq.rf _⟩
      · rw [gs_sw_n (by omega) (by omega), gs_sw_n (by omega) (by omega)] at hd
        obtain ⟨v, hv⟩ := ih (by omega) hu hr1 hd
        exact ⟨j :: v, (hv.c1 j).tr (bq_f (by omega) v)⟩
      · subst e
        rw [gs_sw_a, gs_sw_n (by omega) (by omega)] at hd
        obtain ⟨v, hv⟩ := ih (i := i) (by omega) hu hr1 (by omega)
        have hl2 := hv.len
        simp only [List.length_cons] at hl2
        have hrv := gs_r_q hv hu hr1
        have hnv := rz_in_c (rz_in_q hv hu)
        have ew := gs_w_q hv
        have a1 : (gs_w u).1 (i + 1 + 1) = (gs_w v).1 (i + 1 + 1) := by rw [ew]; show (gs_w v).1 (gs_sw i (i + 1 + 1)) = _; rw [gs_sw_n (by omega) (by omega)]
        have a2 : (gs_w u).1 i = (gs_w v).1 (i + 1) := by rw [ew]; show (gs_w v).1 (gs_sw i i) = _; rw [gs_sw_a]
        obtain ⟨v2, hv2⟩ := ih (i := i + 1) (by omega) hnv.2 hrv.1 (by rw [← a1, ← a2]; exact hd)
        exact ⟨(i + 1) :: i :: v2, ((hv.tr (hv2.c1 i)).c1 (i + 1)).tr (bq_n (by omega) v2)⟩
      · subst e
        rw [gs_sw_b, gs_sw_n (by omega) (by omega)] at hd
        obtain ⟨v, hv⟩ := ih (i := j + 1) (by omega) hu hr1 (by omega)
        have hl2 := hv.len
        simp only [List.length_cons] at hl2
        have hrv := gs_r_q hv hu hr1
        have hnv := rz_in_c (rz_in_q hv hu)
        have ew := gs_w_q hv
        have a1 : (gs_w u).1 (j + 1 + 1) = (gs_w v).1 (j + 1) := by rw [ew]; show (gs_w v).1 (gs_sw (j + 1) (j + 1 + 1)) = _; rw [gs_sw_b]
        have a2 : (gs_w u).1 j = (gs_w v).1 j := by rw [ew]; show (gs_w v).1 (gs_sw (j + 1) j) = _; rw [gs_sw_n (by omega) (by omega)]
        obtain ⟨v2, hv2⟩ := ih (i := j) (by omega) hnv.2 hrv.1 (by rw [← a1, ← a2]; exact hd)
        exact ⟨j :: (j + 1) :: v2, ((hv.tr (hv2.c1 (j + 1))).c1 j).tr (bq_n (by omega) v2)⟩
theorem gs_R_R (i : Nat) (S : gs_P) : gs_R i (gs_R i S) = S := Prod.ext (funext fun p => by show S.1 (gs_sw i (gs_sw i p)) = _; rw [gs_sw_sw]) (funext fun q => gs_sw_sw i _)
/-- reduced words of one permutation are one braid -/
theorem gs_M2 {n : Nat} : ∀ {u v : List Nat}, rz_in n u → rz_in n v → gs_r u → gs_r v → gs_w u = gs_w v → bq u v
  | [], [], _, _, _, _, _ => bq.rf _
  | [], j :: v, _, _, _, hv, e => by
    have h := hv.2
    have e1 : (gs_w (j :: v)).1 (j + 1) = j + 1 := by rw [← e]; rfl
    have e2 : (gs_w (j :: v)).1 j = j := by rw [← e]; rfl
    have e1 : (gs_w v).1 (gs_sw j (j + 1)) = j + 1 := e1
    have e2 : (gs_w v).1 (gs_sw j j) = j := e2
    rw [gs_sw_b] at e1
    rw [gs_sw_a] at e2
    omega
  | i :: u, v, hu, hv, ru, rv, e => by
    have hd : (gs_w v).1 (i + 1) < (gs_w v).1 i := by
      rw [← e]
      show (gs_w u).1 (gs_sw i (i + 1)) < (gs_w u).1 (gs_sw i i)
      rw [gs_sw_a, gs_sw_b]
      exact ru.2
    obtain ⟨v', hv'⟩ := gs_M1 v.length (Nat.le_refl _) hv rv hd
    have r' := gs_r_q hv' hv rv
    have n' := rz_in_c (rz_in_q hv' hv)
    have e' : gs_w u = gs_w v' := by
      have h1 : gs_R i (gs_w u) = gs_R i (gs_w v') := e.trans (gs_w_q hv')
      have := congrArg (gs_R i) h1
      rwa [gs_R_R, gs_R_R] at this
    exact ((gs_M2 (rz_in_c hu).2 n'.2 ru.1 r'.1 e').c1 i).tr hv'.sy
