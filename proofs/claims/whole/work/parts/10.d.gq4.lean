/-! Rows of simple braids as lists; rows with the same end; rows of letters -/
def gs_en (n : Nat) (A E : Nat → gs_P) : Prop := (∀ m, gs_ir n m E) ∧ ∃ m k, gs_to n m k A E
def gs_cn (n : Nat) (A B : Nat → gs_P) : Prop := ∀ E, gs_en n A E ↔ gs_en n B E
theorem gs_cn.rf {n : Nat} (A : Nat → gs_P) : gs_cn n A A := fun _ => Iff.rfl
theorem gs_cn.sy {n : Nat} {A B : Nat → gs_P} (h : gs_cn n A B) : gs_cn n B A := fun E => (h E).symm
theorem gs_cn.tr {n : Nat} {A B C : Nat → gs_P} (h : gs_cn n A B) (h2 : gs_cn n B C) : gs_cn n A C := fun E => (h E).trans (h2 E)
theorem gs_cn_to {n m d : Nat} {A B : Nat → gs_P} (hA : ∀ i, gs_ok n (A i)) (h : gs_to n m d A B) : gs_cn n A B := by
  intro E
  constructor
  · intro ⟨hi, m', k, hk⟩
    obtain ⟨r, -, hr⟩ := gs_conf (hi (max m m')) k (fun j _ => hA j) (gs_to_mono (Nat.le_max_right m m') k hk) (gs_to_mono (Nat.le_max_left m m') d h)
    exact ⟨hi, max m m', r, hr⟩
  · intro ⟨hi, m', k, hk⟩
    exact ⟨hi, max m m', d + k, gs_to_app d (gs_to_mono (Nat.le_max_left m m') d h) (gs_to_mono (Nat.le_max_right m m') k hk)⟩
def gs_rw : List gs_P → Nat → gs_P
  | [], _ => gs_id
  | S :: _, 0 => S
  | _ :: l, k + 1 => gs_rw l k
def gs_lo (n : Nat) (l : List gs_P) : Prop := ∀ S, S ∈ l → gs_ok n S
theorem gs_lo_rw {n : Nat} : ∀ {l : List gs_P}, gs_lo n l → ∀ i, gs_ok n (gs_rw l i)
  | [], _, _ => gs_ok_id n
  | S :: _, h, 0 => h S (by simp)
  | _ :: _, h, k + 1 => gs_lo_rw (fun T hT => h T (by simp [hT])) k
theorem gs_lo_a {n : Nat} {a b : List gs_P} : gs_lo n (a ++ b) ↔ gs_lo n a ∧ gs_lo n b := ⟨fun h => ⟨fun y hy => h y (by simp [hy]), fun y hy => h y (by simp [hy])⟩, fun h y hy => (List.mem_append.mp hy).elim (h.1 y) (h.2 y)⟩
theorem gs_lo_c {n : Nat} {S : gs_P} {b : List gs_P} : gs_lo n (S :: b) ↔ gs_ok n S ∧ gs_lo n b := ⟨fun h => ⟨h S (by simp), fun y hy => h y (by simp [hy])⟩, fun h y hy => (List.mem_cons.mp hy).elim (fun e => e ▸ h.1) (h.2 y)⟩
theorem gs_rw_2 : ∀ (a : List gs_P) (S T : gs_P) (b : List gs_P), gs_rw (a ++ S :: T :: b) a.length = S ∧ gs_rw (a ++ S :: T :: b) (a.length + 1) = T
  | [], _, _, _ => ⟨rfl, rfl⟩
  | _ :: a, S, T, b => gs_rw_2 a S T b
theorem gs_rw_set : ∀ (a : List gs_P) (S T S' T' : gs_P) (b : List gs_P), gs_set2 (gs_rw (a ++ S :: T :: b)) a.length S' T' = gs_rw (a ++ S' :: T' :: b)
  | [], S, T, S', T', b => by
    funext k
    match k with
    | 0 => rfl
    | 1 => rfl
    | k + 2 => unfold gs_set2; rw [if_neg (by simp), if_neg (by simp)]; rfl
  | c :: a, S, T, S', T', b => by
    funext k
    match k with
    | 0 => unfold gs_set2; rw [if_neg (by simp), if_neg (by simp)]; rfl
    | k + 1 =>
      have := congrFun (gs_rw_set a S T S' T' b) k
      show _ = gs_rw (a ++ S' :: T' :: b) k
      rw [← this]
      unfold gs_set2
      simp only [List.length_cons, Nat.add_right_cancel_iff]
      rfl
theorem gs_cn_pr {n k : Nat} {a b : List gs_P} {S T S' T' : gs_P} (h : gs_lo n (a ++ S :: T :: b)) (hp : gs_pr n k S T S' T') : gs_cn n (gs_rw (a ++ S :: T :: b)) (gs_rw (a ++ S' :: T' :: b)) := by
  have e := gs_rw_2 a S T b
  have := gs_pr_to (n := n) (m := a.length + 2) (j := a.length) (by omega) k (A := gs_rw (a ++ S :: T :: b)) (S := S') (T := T') (by rw [e.1, e.2]; exact hp)
  rw [gs_rw_set] at this
  exact gs_cn_to (gs_lo_rw h) this
theorem gs_rw_id : ∀ (a : List gs_P), gs_rw (a ++ [gs_id]) = gs_rw a
  | [] => by
    funext k
    match k with
    | 0 => rfl
    | k + 1 => rfl
  | c :: a => by
    funext k
    match k with
    | 0 => rfl
    | k + 1 => exact congrFun (gs_rw_id a) k
theorem gs_cn_id {n : Nat} : ∀ (b a : List gs_P), gs_lo n (a ++ b) → gs_cn n (gs_rw (a ++ gs_id :: b)) (gs_rw (a ++ b))
  | [], a, _ => by rw [gs_rw_id, List.append_nil]; exact gs_cn.rf _
  | T :: b, a, h => by
    have h1 := gs_lo_a.mp h
    have h2 := gs_lo_c.mp h1.2
    obtain ⟨k, hk⟩ := gs_past h2.1
    have s1 : gs_cn n (gs_rw (a ++ gs_id :: T :: b)) (gs_rw (a ++ T :: gs_id :: b)) := gs_cn_pr (gs_lo_a.mpr ⟨h1.1, gs_lo_c.mpr ⟨gs_ok_id n, h1.2⟩⟩) hk
    have s2 := gs_cn_id b (a ++ [T]) (by simpa using h)
    simp only [List.append_assoc, List.cons_append, List.nil_append] at s2
    exact s1.tr s2
def gs_c (S T : gs_P) : gs_P := (fun p => T.1 (S.1 p), fun q => S.2 (T.2 q))
theorem gs_pall {n : Nat} {S T : gs_P} (hS : gs_ok n S) (hT : gs_ok n T) (hc : ∀ x y, x < y → T.1 y < T.1 x → S.2 x < S.2 y) : ∃ k, gs_pr n k S T (gs_c S T) gs_id := by
  obtain ⟨k, S', h⟩ := gs_push (gs_inv n T.1) hS hT (Nat.le_refl _) hc
  obtain ⟨a, b, ba, ab, e1, e2, e3, e4, -⟩ := gs_pr_way k h
  have ea : ∀ x, a x = T.1 x := fun x => by
    have e : a x = T.1 (b (a x)) := e3 (a x)
    rw [ba] at e
    exact e
  have eb : ∀ q, b q = T.2 q := fun q => by
    have e : q = a (T.2 q) := e4 q
    have := congrArg b e
    rw [ba] at this
    exact this
  have : S' = gs_c S T := Prod.ext (funext fun p => by rw [e1, ea]; rfl) (funext fun q => by rw [e2, eb]; rfl)
  rw [this] at h
  exact ⟨k, h⟩
def gs_l (i : Nat) : gs_P := (gs_sw i, gs_sw i)
theorem gs_ok_l {n i : Nat} (h1 : 1 ≤ i) (h2 : i < n) : gs_ok n (gs_l i) := ⟨gs_sw_sw i, gs_sw_sw i, fun p hp => gs_sw_n (by omega) (by omega)⟩
theorem gs_lo_m {n : Nat} {u : List Nat} (h : rz_in n u) : gs_lo n (u.map gs_l) := fun S hS => by
  obtain ⟨i, hi, rfl⟩ := List.mem_map.mp hS
  exact gs_ok_l (h i hi).1 (h i hi).2
/-- the letters of a reduced word come together into one simple braid -/
theorem gs_cn_r {n : Nat} : ∀ {u : List Nat} (a b : List gs_P), rz_in n u → gs_r u → gs_lo n a → gs_lo n b → gs_cn n (gs_rw (a ++ (u.map gs_l ++ b))) (gs_rw (a ++ gs_w u :: b))
  | [], a, b, _, _, ha, hb => (gs_cn_id b a (gs_lo_a.mpr ⟨ha, hb⟩)).sy
  | i :: u, a, b, hn, hr, ha, hb => by
    obtain ⟨hi, hu⟩ := rz_in_c hn
    have hl := gs_ok_l hi.1 hi.2
    have hw := gs_w_ok hu
    have s1 := gs_cn_r (a ++ [gs_l i]) b hu hr.1 (gs_lo_a.mpr ⟨ha, gs_lo_c.mpr ⟨hl, fun _ h => by simp at h⟩⟩) hb
    simp only [List.append_assoc, List.cons_append, List.nil_append] at s1
    obtain ⟨k, hk⟩ := gs_pall hl hw (fun x y hxy hlt => by
      show gs_sw i x < gs_sw i y
      refine gs_sw_lt hxy (fun q => ?_)
      rw [q.1, q.2] at hlt
      have := hr.2
      omega)
    have s2 := gs_cn_pr (a := a) (b := b) (gs_lo_a.mpr ⟨ha, gs_lo_c.mpr ⟨hl, gs_lo_c.mpr ⟨hw, hb⟩⟩⟩) hk
    have e : gs_c (gs_l i) (gs_w u) = gs_w (i :: u) := rfl
    rw [e] at s2
    have s3 := gs_cn_id b (a ++ [gs_w (i :: u)]) (gs_lo_a.mpr ⟨gs_lo_a.mpr ⟨ha, gs_lo_c.mpr ⟨gs_w_ok hn, fun _ h => by simp at h⟩⟩, hb⟩)
    simp only [List.append_assoc, List.cons_append, List.nil_append] at s3
    exact s1.tr (s2.tr s3)
theorem gs_r_far {i j : Nat} (h : i + 2 ≤ j ∨ j + 2 ≤ i) : gs_r [i, j] := by
  refine ⟨⟨trivial, ?_⟩, ?_⟩
  · show j < j + 1; omega
  · show gs_sw j i < gs_sw j (i + 1)
    rw [gs_sw_n (by omega) (by omega), gs_sw_n (by omega) (by omega)]; omega
theorem gs_r_near {i j : Nat} (h : i = j + 1 ∨ j = i + 1) : gs_r [i, j, i] := by
  refine ⟨⟨⟨trivial, ?_⟩, ?_⟩, ?_⟩
  · show i < i + 1; omega
  · show gs_sw i j < gs_sw i (j + 1)
    have := gs_sw_cases i j
    have := gs_sw_cases i (j + 1)
    omega
  · show gs_sw i (gs_sw j i) < gs_sw i (gs_sw j (i + 1))
    have := gs_sw_cases j i
    have := gs_sw_cases j (i + 1)
    have := gs_sw_cases i (gs_sw j i)
    have := gs_sw_cases i (gs_sw j (i + 1))
    omega
theorem gs_cn_2 {n : Nat} {u v x y : List Nat} (a b : List gs_P) (hu : rz_in n (x ++ u ++ y)) (hv : rz_in n v) (ru : gs_r u) (rv : gs_r v) (e : gs_w u = gs_w v) (ha : gs_lo n a) (hb : gs_lo n b) : gs_cn n (gs_rw (a ++ ((x ++ u ++ y).map gs_l ++ b))) (gs_rw (a ++ ((x ++ v ++ y).map gs_l ++ b))) := by
  obtain ⟨h1, hy⟩ := rz_in_a.mp hu
  obtain ⟨hx, hu'⟩ := rz_in_a.mp h1
  have ha' : gs_lo n (a ++ x.map gs_l) := gs_lo_a.mpr ⟨ha, gs_lo_m hx⟩
  have hb' : gs_lo n (y.map gs_l ++ b) := gs_lo_a.mpr ⟨gs_lo_m hy, hb⟩
  have s1 := gs_cn_r (a ++ x.map gs_l) (y.map gs_l ++ b) hu' ru ha' hb'
  have s2 := gs_cn_r (a ++ x.map gs_l) (y.map gs_l ++ b) hv rv ha' hb'
  rw [e] at s1
  have := s1.tr s2.sy
  simpa using this
/-- words that are one braid have rows with one end -/
theorem gs_cn_q {n : Nat} {u v : List Nat} (h : bq u v) : ∀ (a b : List gs_P), rz_in n u → gs_lo n a → gs_lo n b → gs_cn n (gs_rw (a ++ (u.map gs_l ++ b))) (gs_rw (a ++ (v.map gs_l ++ b))) := by
  induction h using bq.ind with
  | rf u => exact fun _ _ _ _ _ => gs_cn.rf _
  | tr h1 h2 ih1 ih2 => exact fun a b hu ha hb => (ih1 a b hu ha hb).tr (ih2 a b (rz_in_q h1 hu) ha hb)
  | far h x y =>
    rename_i i j
    intro a b hu ha hb
    have hu' : rz_in n (x ++ [i, j] ++ y) := by simpa using hu
    have hi := hu' i (by simp)
    have hj := hu' j (by simp)
    have := gs_cn_2 (u := [i, j]) (v := [j, i]) (x := x) (y := y) a b hu' (rz_in_cons hj (rz_in_cons hi (fun _ h => by simp at h))) (gs_r_far h) (gs_r_far (by omega)) (gs_w_q (bq_f h [])) ha hb
    simpa using this
  | near h x y =>
    rename_i i j
    intro a b hu ha hb
    have hu' : rz_in n (x ++ [i, j, i] ++ y) := by simpa using hu
    have hi := hu' i (by simp)
    have hj := hu' j (by simp)
    have := gs_cn_2 (u := [i, j, i]) (v := [j, i, j]) (x := x) (y := y) a b hu' (rz_in_cons hj (rz_in_cons hi (rz_in_cons hj (fun _ h => by simp at h)))) (gs_r_near h) (gs_r_near (by omega)) (gs_w_q (bq_n h [])) ha hb
    simpa using this
