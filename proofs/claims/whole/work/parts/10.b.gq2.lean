/-! Turning a word of negative and positive letters: pairs -i, j are replaced, the first one first. A row L of letters behind, the last one first, and a row Y ahead. -/
def rz_p (x y : Int) : List Int := if y = -x then [] else if x + y = 1 ∨ x + y = -1 then [y, -x, -y, x] else [y, x]
def rz (b : Nat) : Nat → List Int → List Int → List Int → Prop
  | 0, L, Y, W => Y = [] ∧ W = L.reverse
  | t + 1, L, Y, W => (∃ y Y', L = [] ∧ Y = y :: Y' ∧ rz b t [y] Y' W) ∨ ∃ x L' y Y', L = x :: L' ∧ Y = y :: Y' ∧ ((¬ (x < 0 ∧ 0 < y) ∧ rz b t (y :: x :: L') Y' W) ∨ (x < 0 ∧ 0 < y ∧ L'.length + (rz_p x y ++ Y').length ≤ b ∧ rz b t L' (rz_p x y ++ Y') W))
theorem rz_dn {b : Nat} (L : List Int) : rz b 0 L [] L.reverse := ⟨rfl, rfl⟩
theorem rz_it {b t : Nat} {y : Int} {Y W : List Int} (h : rz b t [y] Y W) : rz b (t + 1) [] (y :: Y) W := Or.inl ⟨y, Y, rfl, rfl, h⟩
theorem rz_mv {b t : Nat} {x y : Int} {L Y W : List Int} (h : ¬ (x < 0 ∧ 0 < y)) (h2 : rz b t (y :: x :: L) Y W) : rz b (t + 1) (x :: L) (y :: Y) W := Or.inr ⟨x, L, y, Y, rfl, rfl, Or.inl ⟨h, h2⟩⟩
theorem rz_rp {b t : Nat} {x y : Int} {L Y W : List Int} (h : x < 0) (h0 : 0 < y) (h1 : L.length + (rz_p x y ++ Y).length ≤ b) (h2 : rz b t L (rz_p x y ++ Y) W) : rz b (t + 1) (x :: L) (y :: Y) W := Or.inr ⟨x, L, y, Y, rfl, rfl, Or.inr ⟨h, h0, h1, h2⟩⟩
def rz_ng (N : List Nat) : List Int := N.map (fun i : Nat => -(i : Int))
def rz_ps (Z : List Nat) : List Int := Z.map (fun i : Nat => (i : Int))
def rz_in (n : Nat) (u : List Nat) : Prop := ∀ y, y ∈ u → 1 ≤ y ∧ y < n
theorem rz_mvn {b t : Nat} {y : Int} {L Y W : List Int} (hy : y ≤ 0) (h : rz b t (y :: L) Y W) : ∃ t', rz b t' L (y :: Y) W := by
  match L, h with
  | [], h => exact ⟨_, rz_it h⟩
  | x :: L, h => exact ⟨_, rz_mv (fun q => by omega) h⟩
theorem rz_mvp {b t : Nat} {y : Int} {L Y W : List Int} (hL : ∀ x, x ∈ L → 0 ≤ x) (h : rz b t (y :: L) Y W) : ∃ t', rz b t' L (y :: Y) W := by
  match L, hL, h with
  | [], _, h => exact ⟨_, rz_it h⟩
  | x :: L, hL, h => exact ⟨_, rz_mv (fun q => by have := hL x (by simp); omega) h⟩
theorem rz_mvs {b : Nat} : ∀ (Z : List Nat) {t : Nat} {L Y W : List Int}, (∀ x, x ∈ L → 0 ≤ x) → rz b t ((rz_ps Z).reverse ++ L) Y W → ∃ t', rz b t' L (rz_ps Z ++ Y) W
  | [], t, L, Y, W, _, h => ⟨t, by simpa [rz_ps] using h⟩
  | j :: Z, t, L, Y, W, hL, h => by
    obtain ⟨t1, h1⟩ := rz_mvs Z (L := (j : Int) :: L) (Y := Y) (W := W) (t := t) (fun x hx => by
      rcases List.mem_cons.mp hx with e | e
      · omega
      · exact hL x e) (by simpa [rz_ps] using h)
    exact rz_mvp hL h1
theorem rz_p_eq {i : Nat} : rz_p (-(i : Int)) (i : Int) = [] := by unfold rz_p; rw [if_pos (by omega)]
theorem rz_p_far {i j : Nat} (h : i + 2 ≤ j ∨ j + 2 ≤ i) : rz_p (-(i : Int)) (j : Int) = [(j : Int), -(i : Int)] := by unfold rz_p; rw [if_neg (by omega), if_neg (by omega)]
theorem rz_p_near {i j : Nat} (h : i = j + 1 ∨ j = i + 1) : rz_p (-(i : Int)) (j : Int) = [(j : Int), (i : Int), -(j : Int), -(i : Int)] := by
  unfold rz_p; rw [if_neg (by omega), if_pos (by omega)]; simp
theorem rz_all {n bd : Nat} : ∀ (l : Nat) (N Z x z : List Nat), N.length + x.length ≤ l → rz_in n N → rz_in n Z → bq (N ++ x) (Z ++ z) →
    ∃ A B, rz_in n A ∧ rz_in n B ∧ bq (N ++ A) (Z ++ B) ∧ (∀ x' z', bq (N ++ x') (Z ++ z') → ∃ c, bq x' (A ++ c) ∧ bq z' (B ++ c)) ∧
      ∀ (P b W : List Int) (t : Nat), (∀ y, y ∈ P → 0 ≤ y) → P.length + x.length + 3 * (N.length + x.length) + Z.length + b.length ≤ bd → rz bd t (rz_ng B ++ ((rz_ps A).reverse ++ P)) b W → ∃ t', rz bd t' (rz_ng N ++ P) (rz_ps Z ++ b) W := by
  intro l
  induction l with
  | zero =>
    intro N Z x z hl _ hZ hb
    have e1 : N = [] := List.length_eq_zero_iff.mp (by omega)
    have e2 : x = [] := List.length_eq_zero_iff.mp (by omega)
    subst e1 e2
    have h1 := hb.len
    simp at h1
    have e3 : Z = [] := List.length_eq_zero_iff.mp (by omega)
    subst e3
    exact ⟨[], [], hZ, hZ, bq.rf _, fun x' z' h => ⟨x', bq.rf _, h.sy⟩, fun P b W t _ _ h => ⟨t, h⟩⟩
  | succ l ih =>
    intro N Z x z hl hN hZ hb
    match N, Z, hN, hZ, hb, hl with
    | N, [], hN, hZ, hb, hl =>
      exact ⟨[], N, hZ, hN, by simpa using bq.rf N, fun x' z' h => ⟨x', bq.rf _, h.sy⟩, fun P b W t _ _ h => ⟨t, by simpa [rz_ps] using h⟩⟩
    | [], j :: Z, hN, hZ, hb, hl =>
      refine ⟨j :: Z, [], hZ, hN, by simpa using bq.rf (j :: Z), fun x' z' h => ⟨z', h, bq.rf _⟩, fun P b W t hP _ h => rz_mvs (j :: Z) (L := P) hP (by simpa [rz_ng] using h)⟩
    | i :: N, j :: Z, hN, hZ, hb, hl =>
      have hi := hN i (by simp)
      have hj := hZ j (by simp)
      have hN' : rz_in n N := fun y hy => hN y (by simp [hy])
      have hZ' : rz_in n Z := fun y hy => hZ y (by simp [hy])
      simp only [List.length_cons] at hl
      have hlen := hb.len
      simp only [List.length_append, List.length_cons] at hlen
      by_cases e : i = j
      · subst e
        have q := (bq_ld (i := i) (j := i) hb).1 rfl
        obtain ⟨A, B, hA, hB, hAB, hmin, hp⟩ := ih N Z x z (by omega) hN' hZ' q
        refine ⟨A, B, hA, hB, hAB.c1 i, fun x' z' h => hmin x' z' ((bq_ld (i := i) (j := i) h).1 rfl), fun P b W t hP hbd h => ?_⟩
        simp only [List.length_cons] at hbd
        obtain ⟨t', h'⟩ := hp P b W t hP (by omega) h
        refine ⟨t' + 1, rz_rp (x := -(i : Int)) (y := (i : Int)) (by omega) (by omega) ?_ ?_⟩
        · rw [rz_p_eq]; simp [rz_ng, rz_ps]; omega
        · rw [rz_p_eq]; exact h'
      · by_cases f : i + 2 ≤ j ∨ j + 2 ≤ i
        · obtain ⟨c, c1, c2⟩ : ∃ c, bq (N ++ x) (j :: c) ∧ bq (Z ++ z) (i :: c) := (bq_ld (i := i) (j := j) hb).2.1 f
          have lc1 := c1.len
          have lc2 := c2.len
          simp only [List.length_append, List.length_cons] at lc1 lc2
          obtain ⟨A1, B1, hA1, hB1, hAB1, hm1, hp1⟩ := ih N [j] x c (by omega) hN' (fun y hy => by simp at hy; omega) c1
          obtain ⟨d, d1, d2⟩ := hm1 x c c1
          have ld1 := d1.len
          have ld2 := d2.len
          simp only [List.length_append] at ld1 ld2
          obtain ⟨A2, B2, hA2, hB2, hAB2, hm2, hp2⟩ := ih (i :: B1) Z d z (by simp only [List.length_cons]; omega) (fun y hy => by
            rcases List.mem_cons.mp hy with q | q
            · omega
            · exact hB1 y q) hZ' ((d2.c1 i).sy.tr c2.sy)
          refine ⟨A1 ++ A2, B2, fun y hy => (List.mem_append.mp hy).elim (hA1 y) (hA2 y), hB2, ?_, fun x' z' h => ?_, fun P b W t hP hbd h => ?_⟩
          · have s1 : bq (i :: (N ++ (A1 ++ A2))) (i :: j :: (B1 ++ A2)) := by
              have := (hAB1.cr A2).c1 i
              simpa using this
            exact s1.tr ((bq_f f _).tr (hAB2.c1 j))
          · obtain ⟨c', e1, e2⟩ := (bq_ld (i := i) (j := j) h).2.1 f
            obtain ⟨d', g1, g2⟩ := hm1 x' c' e1
            obtain ⟨k, k1, k2⟩ := hm2 d' z' ((g2.c1 i).sy.tr e2.sy)
            exact ⟨k, g1.tr (by simpa using k1.cl A1), k2⟩
          · simp only [List.length_cons] at hbd
            have hP1 : ∀ y, y ∈ (rz_ps A1).reverse ++ P → 0 ≤ y := fun y hy => by
              rcases List.mem_append.mp hy with q | q
              · simp [rz_ps] at q
                obtain ⟨a, -, ea⟩ := q
                omega
              · exact hP y q
            obtain ⟨t2, h2⟩ := hp2 ((rz_ps A1).reverse ++ P) b W t hP1 (by simp [rz_ps]; omega) (by simpa [rz_ps] using h)
            obtain ⟨t3, h3⟩ := rz_mvn (y := -(i : Int)) (L := rz_ng B1 ++ ((rz_ps A1).reverse ++ P)) (by omega) (by simpa [rz_ng] using h2)
            obtain ⟨t4, h4⟩ := hp1 P (-(i : Int) :: (rz_ps Z ++ b)) W t3 hP (by simp [rz_ps]; omega) h3
            refine ⟨t4 + 1, rz_rp (x := -(i : Int)) (y := (j : Int)) (by omega) (by omega) ?_ ?_⟩
            · rw [rz_p_far f]; simp [rz_ng, rz_ps]; omega
            · rw [rz_p_far f]; exact h4
        · have g : i = j + 1 ∨ j = i + 1 := by omega
          obtain ⟨c, c1, c2⟩ : ∃ c, bq (N ++ x) (j :: i :: c) ∧ bq (Z ++ z) (i :: j :: c) := (bq_ld (i := i) (j := j) hb).2.2 g
          have lc1 := c1.len
          have lc2 := c2.len
          simp only [List.length_append, List.length_cons] at lc1 lc2
          obtain ⟨A1, B1, hA1, hB1, hAB1, hm1, hp1⟩ := ih N [j, i] x c (by omega) hN' (fun y hy => by simp at hy; omega) c1
          obtain ⟨d, d1, d2⟩ := hm1 x c c1
          have ld1 := d1.len
          have ld2 := d2.len
          simp only [List.length_append] at ld1 ld2
          obtain ⟨A2, B2, hA2, hB2, hAB2, hm2, hp2⟩ := ih (i :: j :: B1) Z d z (by simp only [List.length_cons]; omega) (fun y hy => by
            rcases List.mem_cons.mp hy with q | q
            · omega
            · rcases List.mem_cons.mp q with q | q
              · omega
              · exact hB1 y q) hZ' ((d2.c2 i j).sy.tr c2.sy)
          refine ⟨A1 ++ A2, B2, fun y hy => (List.mem_append.mp hy).elim (hA1 y) (hA2 y), hB2, ?_, fun x' z' h => ?_, fun P b W t hP hbd h => ?_⟩
          · have s1 : bq (i :: (N ++ (A1 ++ A2))) (i :: j :: i :: (B1 ++ A2)) := by
              have := (hAB1.cr A2).c1 i
              simpa using this
            exact s1.tr ((bq_n g _).tr (hAB2.c1 j))
          · obtain ⟨c', e1, e2⟩ := (bq_ld (i := i) (j := j) h).2.2 g
            obtain ⟨d', g1, g2⟩ := hm1 x' c' e1
            obtain ⟨k, k1, k2⟩ := hm2 d' z' ((g2.c2 i j).sy.tr e2.sy)
            exact ⟨k, g1.tr (by simpa using k1.cl A1), k2⟩
          · simp only [List.length_cons] at hbd
            have hP1 : ∀ y, y ∈ (rz_ps A1).reverse ++ P → 0 ≤ y := fun y hy => by
              rcases List.mem_append.mp hy with q | q
              · simp [rz_ps] at q
                obtain ⟨a, -, ea⟩ := q
                omega
              · exact hP y q
            obtain ⟨t2, h2⟩ := hp2 ((rz_ps A1).reverse ++ P) b W t hP1 (by simp [rz_ps]; omega) (by simpa [rz_ps] using h)
            obtain ⟨t3, h3⟩ := rz_mvn (y := -(i : Int)) (L := -(j : Int) :: (rz_ng B1 ++ ((rz_ps A1).reverse ++ P))) (by omega) (by simpa [rz_ng] using h2)
            obtain ⟨t5, h5⟩ := rz_mvn (y := -(j : Int)) (L := rz_ng B1 ++ ((rz_ps A1).reverse ++ P)) (by omega) h3
            obtain ⟨t4, h4⟩ := hp1 P (-(j : Int) :: -(i : Int) :: (rz_ps Z ++ b)) W t5 hP (by simp [rz_ps]; omega) h5
            refine ⟨t4 + 1, rz_rp (x := -(i : Int)) (y := (j : Int)) (by omega) (by omega) ?_ ?_⟩
            · rw [rz_p_near g]; simp [rz_ng, rz_ps]; omega
            · rw [rz_p_near g]; exact h4
