/-! A turning on a chain: where it stands, and its steps -/
def ch_u : Bool → Int → Int
  | false, x => x
  | true, x => -x
def ch_w (sg : Bool) (lf : Nat → Int) (l : List Nat) : List Int := l.map (fun z => ch_u sg (lf z))
def ch_st (sg : Bool) (s k : Nat) (l r : List Nat) (lf : Nat → Int) (W : List Int) : Prop := (k = 1 ∧ r = [] ∧ W = (ch_w sg lf l).reverse) ∨ ∃ l' t, t < s ∧ l = k :: l' ∧ rz 8000 t (ch_w sg lf l) (ch_w sg lf r) W
theorem ch_w_cg {sg : Bool} {lf lf1 : Nat → Int} {l : List Nat} (h : ∀ z, z ∈ l → lf1 z = lf z) : ch_w sg lf1 l = ch_w sg lf l := List.map_congr_left (fun z hz => by rw [h z hz])
theorem ch_nil {nx bf : Nat → Nat} {md fe : Nat} {l r fs : List Nat} (h : ch_I nx bf md fe l r fs) (h0 : ch_h l 0 = 0) : l = [] := by
  match l, h, h0 with
  | [], _, _ => rfl
  | x :: l, h, h0 =>
    have := (h.2.1.2.1 x (by simp)).1
    have : x = 0 := h0
    omega
theorem ch_cons {r : List Nat} {x : Nat} (h : x = ch_h r 1) (h1 : x ≠ 1) : ∃ r1, r = x :: r1 := by
  match r, h with
  | [], h => exact absurd h h1
  | y :: r, h => exact ⟨r, by rw [show x = y from h]⟩
theorem rz_inv_rp {b t : Nat} {x y : Int} {L Y W : List Int} (h : rz b t (x :: L) (y :: Y) W) (hx : x < 0) (hy : 0 < y) : ∃ t1, t = t1 + 1 ∧ L.length + (rz_p x y ++ Y).length ≤ b ∧ rz b t1 L (rz_p x y ++ Y) W := by
  match t, h with
  | 0, h => exact absurd h.1 (by simp)
  | t + 1, Or.inl ⟨y', Y', h1, _⟩ => exact absurd h1 (by simp)
  | t + 1, Or.inr ⟨x', L', y', Y', h1, h2, h3⟩ =>
    injection h1 with e1 e2
    injection h2 with e3 e4
    subst e1 e2 e3 e4
    rcases h3 with h3 | h3
    · exact absurd ⟨hx, hy⟩ h3.1
    · exact ⟨t, rfl, h3.2.2.1, h3.2.2.2⟩
theorem rz_inv_mv {b t : Nat} {x y : Int} {L Y W : List Int} (h : rz b t (x :: L) (y :: Y) W) (hn : ¬ (x < 0 ∧ 0 < y)) : ∃ t1, t = t1 + 1 ∧ rz b t1 (y :: x :: L) Y W := by
  match t, h with
  | 0, h => exact absurd h.1 (by simp)
  | t + 1, Or.inl ⟨y', Y', h1, _⟩ => exact absurd h1 (by simp)
  | t + 1, Or.inr ⟨x', L', y', Y', h1, h2, h3⟩ =>
    injection h1 with e1 e2
    injection h2 with e3 e4
    subst e1 e2 e3 e4
    rcases h3 with h3 | h3
    · exact ⟨t, rfl, h3.2⟩
    · exact absurd ⟨h3.1, h3.2.1⟩ hn
theorem rz_inv_nil {b t : Nat} {L W : List Int} (h : rz b t L [] W) : W = L.reverse := by
  match t, h with
  | 0, h => exact h.2
  | t + 1, Or.inl ⟨y', Y', _, h2, _⟩ => exact absurd h2 (by simp)
  | t + 1, Or.inr ⟨x', L', y', Y', _, h2, _⟩ => exact absurd h2 (by simp)
theorem rz_inv_it {b t : Nat} {y : Int} {Y W : List Int} (h : rz b t [] (y :: Y) W) : ∃ t1, t = t1 + 1 ∧ rz b t1 [y] Y W := by
  match t, h with
  | 0, h => exact absurd h.1 (by simp)
  | t + 1, Or.inl ⟨y', Y', _, h2, h3⟩ =>
    injection h2 with e3 e4
    subst e3 e4
    exact ⟨t, rfl, h3⟩
  | t + 1, Or.inr ⟨x', L', y', Y', h1, _, _⟩ => exact absurd h1 (by simp)
/-- from the chain's beginning -/
theorem ch_b0 {nx bf : Nat → Nat} {md fe s t : Nat} {r fs : List Nat} {sg : Bool} {lf : Nat → Int} {W : List Int} (h : ch_I nx bf md fe [] r fs) (ht : t < s + 1) (hz : rz 8000 t [] (ch_w sg lf r) W) : ∃ l2 r2, ch_I nx bf md fe l2 r2 fs ∧ ch_st sg s (nx 0) l2 r2 lf W ∧ l2.reverse ++ r2 = r := by
  have e : nx 0 = ch_h r 1 := h.1.2.1
  match r, h, hz, e with
  | [], h, hz, e => exact ⟨[], [], h, Or.inl ⟨e, rfl, rz_inv_nil hz⟩, rfl⟩
  | y :: r, h, hz, e =>
    have e : nx 0 = y := e
    obtain ⟨t1, e1, h1⟩ := rz_inv_it (show rz 8000 t [] (ch_u sg (lf y) :: ch_w sg lf r) W from hz)
    exact ⟨[y], r, ch_sh.mp h, Or.inr ⟨[], t1, by omega, by rw [e], h1⟩, rfl⟩
/-- from a node that is left of the cut -/
theorem ch_b1 {nx bf : Nat → Nat} {md fe s t : Nat} {l r fs : List Nat} {sg : Bool} {lf : Nat → Int} {W : List Int} (h : ch_I nx bf md fe l r fs) (ht : t < s) (h0 : ch_h l 0 ≠ 0) (hz : rz 8000 t (ch_w sg lf l) (ch_w sg lf r) W) : ∃ l2 r2, ch_I nx bf md fe l2 r2 fs ∧ ch_st sg s (ch_h l 0) l2 r2 lf W ∧ l2.reverse ++ r2 = l.reverse ++ r := by
  match l, h, hz, h0 with
  | [], h, hz, h0 => exact absurd rfl h0
  | x :: l, h, hz, h0 => exact ⟨x :: l, r, h, Or.inr ⟨l, t, ht, rfl, hz⟩, rfl⟩
/-- one node on -/
theorem ch_mv {nx bf : Nat → Nat} {md fe s t k : Nat} {l r fs : List Nat} {sg : Bool} {lf : Nat → Int} {W : List Int} (h : ch_I nx bf md fe (k :: l) r fs) (ht : t < s + 1) (hz : rz 8000 t (ch_w sg lf (k :: l)) (ch_w sg lf r) W) (hn : ¬ (ch_u sg (lf k) < 0 ∧ 0 < ch_u sg (lf (nx k)))) : ∃ l2 r2, ch_I nx bf md fe l2 r2 fs ∧ ch_st sg s (nx k) l2 r2 lf W ∧ l2.reverse ++ r2 = (k :: l).reverse ++ r := by
  have e : nx k = ch_h r 1 := h.1.2.1
  match r, h, hz, e with
  | [], h, hz, e => exact ⟨k :: l, [], h, Or.inl ⟨e, rfl, rz_inv_nil hz⟩, rfl⟩
  | y :: r, h, hz, e =>
    have e : nx k = y := e
    rw [e] at hn
    obtain ⟨t1, e1, h1⟩ := rz_inv_mv (show rz 8000 t (ch_u sg (lf k) :: ch_w sg lf l) (ch_u sg (lf y) :: ch_w sg lf r) W from hz) hn
    exact ⟨y :: k :: l, r, ch_sh.mp h, Or.inr ⟨k :: l, t1, by omega, by rw [e], h1⟩, by simp⟩
/-- the letters after a node was put in -/
theorem ch_mp {nx bf : Nat → Nat} {md fe k : Nat} {l r fs : List Nat} (sg : Bool) {lf lf1 : Nat → Int} {x : Int} (h : ch_I nx bf md fe (k :: l) r fs) (h1 : lf1 k = x) (h2 : ∀ z, z ≠ k → lf1 z = lf z) : ch_w sg lf1 (k :: l) = ch_u sg x :: ch_w sg lf l ∧ ch_w sg lf1 r = ch_w sg lf r := by
  have nd := List.nodup_cons.mp (show (k :: (l ++ (r ++ fs))).Nodup from h.2.1.1)
  refine ⟨?_, ch_w_cg fun z hz => h2 z (fun q => nd.1 (by rw [← q]; simp [hz]))⟩
  show ch_u sg (lf1 k) :: ch_w sg lf1 l = _
  rw [h1, ch_w_cg (lf := lf) fun z hz => h2 z (fun q => nd.1 (by rw [← q]; simp [hz]))]
theorem ch_e0 {x y : Int} (h : y = -x) : [] = rz_p x y := by unfold rz_p; rw [if_pos h]
theorem ch_e2 {x y a b : Int} (h : y ≠ -x) (h2 : ¬ (x + y = 1 ∨ x + y = -1)) (ha : a = y) (hb : b = x) : [a, b] = rz_p x y := by unfold rz_p; rw [if_neg h, if_neg h2, ha, hb]
theorem ch_e4 {x y a b c d : Int} (h : y ≠ -x) (h2 : x + y = 1 ∨ x + y = -1) (ha : a = y) (hb : b = -x) (hc : c = -y) (hd : d = x) : [a, b, c, d] = rz_p x y := by unfold rz_p; rw [if_neg h, if_pos h2, ha, hb, hc, hd]
theorem ch_x2 {sg : Bool} {lf lf0 : Nat → Int} {a b : Nat} {l r : List Nat} {x y : Int} (h : ch_w sg lf (b :: a :: l) = y :: x :: ch_w sg lf0 l) (hr : ch_w sg lf r = ch_w sg lf0 r) : ch_w sg lf l = ch_w sg lf0 l ∧ ch_w sg lf (a :: b :: r) = [x, y] ++ ch_w sg lf0 r := by
  have h : ch_u sg (lf b) :: ch_u sg (lf a) :: ch_w sg lf l = _ := h
  injection h with e1 h
  injection h with e2 h
  refine ⟨h, ?_⟩
  show ch_u sg (lf a) :: ch_u sg (lf b) :: ch_w sg lf r = _
  rw [e1, e2, hr]
  rfl
theorem ch_x4 {sg : Bool} {lf lf0 : Nat → Int} {a b c d : Nat} {l r : List Nat} {x y z w : Int} (h : ch_w sg lf (d :: c :: b :: a :: l) = w :: z :: y :: x :: ch_w sg lf0 l) (hr : ch_w sg lf r = ch_w sg lf0 r) : ch_w sg lf l = ch_w sg lf0 l ∧ ch_w sg lf (a :: b :: c :: d :: r) = [x, y, z, w] ++ ch_w sg lf0 r := by
  have h : ch_u sg (lf d) :: ch_u sg (lf c) :: ch_u sg (lf b) :: ch_u sg (lf a) :: ch_w sg lf l = _ := h
  injection h with e1 h
  injection h with e2 h
  injection h with e3 h
  injection h with e4 h
  refine ⟨h, ?_⟩
  show ch_u sg (lf a) :: ch_u sg (lf b) :: ch_u sg (lf c) :: ch_u sg (lf d) :: ch_w sg lf r = _
  rw [e1, e2, e3, e4, hr]
  rfl
theorem ch_w_len (sg : Bool) (lf : Nat → Int) (l : List Nat) : (ch_w sg lf l).length = l.length := by simp [ch_w]
theorem ch_lb {l r l2 r2 : List Nat} {lf : Nat → Int} (e : l2.reverse ++ r2 = l.reverse ++ r) (h : ∀ z, z ∈ l ++ r → -10 < lf z ∧ lf z < 10) : ∀ z, z ∈ l2 ++ r2 → -10 < lf z ∧ lf z < 10 := fun z hz => h z (by
  have h1 : z ∈ l2.reverse ++ r2 := by simpa using hz
  rw [e] at h1
  simpa using h1)
theorem ch_kb {nx bf : Nat → Nat} {md fe s k : Nat} {l r fs : List Nat} {sg : Bool} {lf : Nat → Int} {W : List Int} (h : ch_st sg s k l r lf W) (hI : ch_I nx bf md fe l r fs) (hm : md ≤ 8192) : k < 8192 := by
  rcases h with h | ⟨l', t, _, e, _⟩
  · omega
  · have := (hI.2.1.2.1 k (by rw [e]; simp)).2
    omega
