/-! Positive words and the braid relations; what two words that are one braid begin with. -/
def bq_1 (u v : List Nat) : Prop := ∃ (a b : List Nat) (i j : Nat), ((i + 2 ≤ j ∨ j + 2 ≤ i) ∧ u = a ++ i :: j :: b ∧ v = a ++ j :: i :: b) ∨ ((i = j + 1 ∨ j = i + 1) ∧ u = a ++ i :: j :: i :: b ∧ v = a ++ j :: i :: j :: b)
def bq_k : Nat → List Nat → List Nat → Prop
  | 0, u, v => u = v
  | k + 1, u, w => ∃ v, bq_1 u v ∧ bq_k k v w
def bq (u v : List Nat) : Prop := ∃ k, bq_k k u v
theorem bq_k_app : ∀ (k : Nat) {l : Nat} {u v w : List Nat}, bq_k k u v → bq_k l v w → bq_k (k + l) u w
  | 0, l, u, v, w, e, h => by rw [show 0 + l = l by omega, (show u = v from e)]; exact h
  | k + 1, l, u, v, w, ⟨x, h1, h2⟩, h => by
    rw [show k + 1 + l = (k + l) + 1 by omega]
    exact ⟨x, h1, bq_k_app k h2 h⟩
theorem bq.rf (u : List Nat) : bq u u := ⟨0, rfl⟩
theorem bq.tr {u v w : List Nat} (h1 : bq u v) (h2 : bq v w) : bq u w := by
  obtain ⟨k, h1⟩ := h1
  obtain ⟨l, h2⟩ := h2
  exact ⟨k + l, bq_k_app k h1 h2⟩
theorem bq.far {i j : Nat} (h : i + 2 ≤ j ∨ j + 2 ≤ i) (a b : List Nat) : bq (a ++ i :: j :: b) (a ++ j :: i :: b) := ⟨1, _, ⟨a, b, i, j, Or.inl ⟨h, rfl, rfl⟩⟩, rfl⟩
theorem bq.near {i j : Nat} (h : i = j + 1 ∨ j = i + 1) (a b : List Nat) : bq (a ++ i :: j :: i :: b) (a ++ j :: i :: j :: b) := ⟨1, _, ⟨a, b, i, j, Or.inr ⟨h, rfl, rfl⟩⟩, rfl⟩
theorem bq.ind {motive : (u v : List Nat) → bq u v → Prop} (rf : ∀ u, motive u u (bq.rf u)) (tr : ∀ {u v w : List Nat} (h1 : bq u v) (h2 : bq v w), motive u v h1 → motive v w h2 → motive u w (h1.tr h2)) (far : ∀ {i j : Nat} (h : i + 2 ≤ j ∨ j + 2 ≤ i) (a b : List Nat), motive (a ++ i :: j :: b) (a ++ j :: i :: b) (bq.far h a b)) (near : ∀ {i j : Nat} (h : i = j + 1 ∨ j = i + 1) (a b : List Nat), motive (a ++ i :: j :: i :: b) (a ++ j :: i :: j :: b) (bq.near h a b)) {u v : List Nat} (h : bq u v) : motive u v h := by
  obtain ⟨k, hk⟩ := h
  induction k generalizing u with
  | zero =>
    have e : u = v := hk
    subst e
    exact rf u
  | succ k ih =>
    obtain ⟨w, h1, h2⟩ := hk
    have h3 := ih h2
    obtain ⟨a, b, i, j, q | q⟩ := h1
    · obtain ⟨q1, rfl, rfl⟩ := q
      exact tr (bq.far q1 a b) ⟨k, h2⟩ (far q1 a b) h3
    · obtain ⟨q1, rfl, rfl⟩ := q
      exact tr (bq.near q1 a b) ⟨k, h2⟩ (near q1 a b) h3
theorem bq.sy {u v : List Nat} (h : bq u v) : bq v u := by
  induction h using bq.ind with
  | rf u => exact bq.rf u
  | tr _ _ h1 h2 => exact bq.tr h2 h1
  | far h a b => exact bq.far (by omega) a b
  | near h a b => exact bq.near (by omega) a b
theorem bq.len {u v : List Nat} (h : bq u v) : u.length = v.length := by
  induction h using bq.ind with
  | rf u => rfl
  | tr _ _ h1 h2 => exact h1.trans h2
  | far h a b => simp
  | near h a b => simp
theorem bq.mem {u v : List Nat} (h : bq u v) : ∀ x, x ∈ u → x ∈ v := by
  induction h using bq.ind with
  | rf u => exact fun _ h => h
  | tr _ _ h1 h2 => exact fun x h => h2 x (h1 x h)
  | far h a b => intro x hx; simp at hx ⊢; rcases hx with h | h | h | h <;> simp [h]
  | near h a b => intro x hx; simp at hx ⊢; rcases hx with h | h | h | h | h <;> simp [h]
theorem bq.cg {u v : List Nat} (h : bq u v) (a b : List Nat) : bq (a ++ u ++ b) (a ++ v ++ b) := by
  induction h using bq.ind with
  | rf u => exact bq.rf _
  | tr _ _ h1 h2 => exact bq.tr h1 h2
  | far h c d =>
    have := bq.far h (a ++ c) (d ++ b)
    simpa using this
  | near h c d =>
    have := bq.near h (a ++ c) (d ++ b)
    simpa using this
theorem bq.cl {u v : List Nat} (h : bq u v) (a : List Nat) : bq (a ++ u) (a ++ v) := by
  have := h.cg a []
  simpa using this
theorem bq.cr {u v : List Nat} (h : bq u v) (b : List Nat) : bq (u ++ b) (v ++ b) := by
  have := h.cg [] b
  simpa using this
theorem bq.c1 {u v : List Nat} (h : bq u v) (i : Nat) : bq (i :: u) (i :: v) := h.cl [i]
theorem bq.c2 {u v : List Nat} (h : bq u v) (i j : Nat) : bq (i :: j :: u) (i :: j :: v) := h.cl [i, j]
theorem bq.ap {u v u' v' : List Nat} (h : bq u v) (h' : bq u' v') : bq (u ++ u') (v ++ v') := (h.cr u').tr (h'.cl v)
theorem bq.rv {u v : List Nat} (h : bq u v) : bq u.reverse v.reverse := by
  induction h using bq.ind with
  | rf u => exact bq.rf _
  | tr _ _ h1 h2 => exact bq.tr h1 h2
  | far h a b =>
    have := bq.far h.symm b.reverse a.reverse
    simpa using this
  | near h a b =>
    have := bq.near h b.reverse a.reverse
    simpa using this
theorem bq_f {i j : Nat} (h : i + 2 ≤ j ∨ j + 2 ≤ i) (b : List Nat) : bq (i :: j :: b) (j :: i :: b) := bq.far h [] b
theorem bq_n {i j : Nat} (h : i = j + 1 ∨ j = i + 1) (b : List Nat) : bq (i :: j :: i :: b) (j :: i :: j :: b) := bq.near h [] b
/-- i u and j v have what i and j have in common behind them -/
def bq_Q (i : Nat) (u : List Nat) (j : Nat) (v : List Nat) : Prop :=
  (i = j → bq u v) ∧ ((i + 2 ≤ j ∨ j + 2 ≤ i) → ∃ c, bq u (j :: c) ∧ bq v (i :: c)) ∧ ((i = j + 1 ∨ j = i + 1) → ∃ c, bq u (j :: i :: c) ∧ bq v (i :: j :: c))
theorem bq_Q.sy {i j : Nat} {u v : List Nat} (h : bq_Q i u j v) : bq_Q j v i u := by
  refine ⟨fun e => (h.1 e.symm).sy, fun e => ?_, fun e => ?_⟩
  · obtain ⟨c, h1, h2⟩ := h.2.1 (by omega); exact ⟨c, h2, h1⟩
  · obtain ⟨c, h1, h2⟩ := h.2.2 (by omega); exact ⟨c, h2, h1⟩
theorem bq_Q.l {i j : Nat} {u u' v : List Nat} (e : bq u' u) (h : bq_Q i u j v) : bq_Q i u' j v := by
  refine ⟨fun q => e.tr (h.1 q), fun q => ?_, fun q => ?_⟩
  · obtain ⟨c, h1, h2⟩ := h.2.1 q; exact ⟨c, e.tr h1, h2⟩
  · obtain ⟨c, h1, h2⟩ := h.2.2 q; exact ⟨c, e.tr h1, h2⟩
theorem bq_Q.r {i j : Nat} {u v v' : List Nat} (h : bq_Q i u j v) (e : bq v' v) : bq_Q i u j v' := (h.sy.l e).sy
/-- the third case of three letters, none of them the other -/
theorem bq_c3 {L : Nat} (P : ∀ (i j : Nat) (u v : List Nat), u.length < L → bq (i :: u) (j :: v) → bq_Q i u j v) {i k j : Nat} {u x v : List Nat} (hu : u.length = L) (hx : x.length = L) (h1 : bq_Q i u k x) (h2 : bq_Q k x j v) (hik : i = k + 1 ∨ k = i + 1) (hkj : k + 2 ≤ j ∨ j + 2 ≤ k) : bq_Q i u j v := by
  obtain ⟨c, uc, xc⟩ := h1.2.2 hik
  obtain ⟨d, xd, vd⟩ := h2.2.1 hkj
  have l1 := xc.len
  have l2 := xd.len
  simp only [List.length_cons] at l1 l2
  have e1 : bq (i :: k :: c) (j :: d) := xc.sy.tr xd
  have q1 := P i j (k :: c) d (by simp only [List.length_cons]; omega) e1
  refine ⟨fun e => absurd e (by omega), fun e => ?_, fun e => ?_⟩
  · obtain ⟨e', a1, a2⟩ := q1.2.1 e
    have l3 := a1.len
    simp only [List.length_cons] at l3
    obtain ⟨f, b1, b2⟩ := (P k j c e' (by omega) a1).2.1 hkj
    refine ⟨k :: i :: f, ?_, ?_⟩
    · exact uc.tr ((b1.c2 k i).tr (((bq_f (i := i) (j := j) e f).c1 k).tr (bq_f (i := k) (j := j) hkj (i :: f))))
    · exact vd.tr ((a2.c1 k).tr ((b2.c2 k i).tr (bq_n (i := k) (j := i) (by omega) f)))
  · obtain ⟨e', a1, a2⟩ := q1.2.2 e
    have l3 := a1.len
    simp only [List.length_cons] at l3
    obtain ⟨f, b1, b2⟩ := (P k j c (i :: e') (by omega) a1).2.1 hkj
    have l4 := b2.len
    simp only [List.length_cons] at l4
    obtain ⟨g, g1, g2⟩ := (P i k e' f (by omega) b2).2.2 hik
    refine ⟨k :: i :: j :: g, ?_, ?_⟩
    · -- u ~ k i c ~ k i j f ~ k i j i k g ~ k j i j k g ~ j k i j k g ~ j k i k j g ~ j i k i j g
      refine uc.tr ((b1.c2 k i).tr (((g2.c1 j).c2 k i).tr ?_))
      refine ((bq_n (i := i) (j := j) e (k :: g)).c1 k).tr ?_
      refine (bq_f (i := k) (j := j) hkj (i :: j :: k :: g)).tr ?_
      refine ((bq_f (i := j) (j := k) (by omega) g).cl [j, k, i]).tr ?_
      exact (bq_n (i := k) (j := i) (by omega) (j :: g)).c1 j
    · -- v ~ k d ~ k i j e ~ k i j k i g ~ k i k j i g ~ i k i j i g ~ i k j i j g ~ i j k i j g
      refine vd.tr ((a2.c1 k).tr ((g1.cl [k, i, j]).tr ?_))
      refine ((bq_f (i := j) (j := k) (by omega) (i :: g)).c2 k i).tr ?_
      refine (bq_n (i := k) (j := i) (by omega) (j :: i :: g)).tr ?_
      refine ((bq_n (i := i) (j := j) e g).c2 i k).tr ?_
      exact (bq_f (i := k) (j := j) hkj (i :: j :: g)).c1 i
theorem bq_cube {L : Nat} (P : ∀ (i j : Nat) (u v : List Nat), u.length < L → bq (i :: u) (j :: v) → bq_Q i u j v) {i k j : Nat} {u x v : List Nat} (hu : u.length = L) (hx : x.length = L) (hv : v.length = L) (h1 : bq_Q i u k x) (h2 : bq_Q k x j v) : bq_Q i u j v := by
  by_cases e1 : i = k
  · subst e1; exact h2.l (h1.1 rfl)
  by_cases e2 : k = j
  · subst e2; exact h1.r (h2.1 rfl).sy
  by_cases e3 : i = j
  · subst e3
    refine ⟨fun _ => ?_, fun q => absurd q (by omega), fun q => absurd q (by omega)⟩
    by_cases f : i + 2 ≤ k ∨ k + 2 ≤ i
    · obtain ⟨c, uc, xc⟩ := h1.2.1 f
      obtain ⟨d, xd, vd⟩ := h2.2.1 (by omega)
      have l1 := xc.len
      simp only [List.length_cons] at l1
      have := (P i i c d (by omega) (xc.sy.tr xd)).1 rfl
      exact uc.tr ((this.c1 k).tr vd.sy)
    · obtain ⟨c, uc, xc⟩ := h1.2.2 (by omega)
      obtain ⟨d, xd, vd⟩ := h2.2.2 (by omega)
      have l1 := xc.len
      simp only [List.length_cons] at l1
      have a1 := (P i i (k :: c) (k :: d) (by simp only [List.length_cons]; omega) (xc.sy.tr xd)).1 rfl
      have a2 := (P k k c d (by omega) a1).1 rfl
      exact uc.tr ((a2.c2 k i).tr vd.sy)
  by_cases f1 : i + 2 ≤ k ∨ k + 2 ≤ i
  · by_cases f2 : k + 2 ≤ j ∨ j + 2 ≤ k
    · obtain ⟨c, uc, xc⟩ := h1.2.1 f1
      obtain ⟨d, xd, vd⟩ := h2.2.1 f2
      have l1 := xc.len
      simp only [List.length_cons] at l1
      have q := P i j c d (by omega) (xc.sy.tr xd)
      refine ⟨fun e => absurd e e3, fun e => ?_, fun e => ?_⟩
      · obtain ⟨e', a1, a2⟩ := q.2.1 e
        exact ⟨k :: e', uc.tr ((a1.c1 k).tr (bq_f f2 e')), vd.tr ((a2.c1 k).tr (bq_f (i := k) (j := i) (by omega) e'))⟩
      · obtain ⟨e', a1, a2⟩ := q.2.2 e
        refine ⟨k :: e', uc.tr ((a1.c1 k).tr ((bq_f f2 (i :: e')).tr ((bq_f (i := k) (j := i) (by omega) e').c1 j))), vd.tr ((a2.c1 k).tr ((bq_f (i := k) (j := i) (by omega) (j :: e')).tr ((bq_f f2 e').c1 i)))⟩
    · exact (bq_c3 P hv hx h2.sy h1.sy (by omega) (by omega)).sy
  · by_cases f2 : k + 2 ≤ j ∨ j + 2 ≤ k
    · exact bq_c3 P hu hx h1 h2 (by omega) f2
    · refine ⟨fun e => absurd e e3, fun e => ?_, fun e => absurd e (by omega)⟩
      obtain ⟨c, uc, xc⟩ := h1.2.2 (by omega)
      obtain ⟨d, xd, vd⟩ := h2.2.2 (by omega)
      have l1 := xc.len
      have l2 := xd.len
      simp only [List.length_cons] at l1 l2
      obtain ⟨e', a1, a2⟩ := (P i j (k :: c) (k :: d) (by simp only [List.length_cons]; omega) (xc.sy.tr xd)).2.1 e
      have l3 := a1.len
      simp only [List.length_cons] at l3
      obtain ⟨f, b1, b2⟩ := (P k j c e' (by omega) a1).2.2 (by omega)
      obtain ⟨h, g1, g2⟩ := (P k i d e' (by omega) a2).2.2 (by omega)
      have l4 := b2.len
      simp only [List.length_cons] at l4
      have k1 := (P k k (j :: f) (i :: h) (by simp only [List.length_cons]; omega) (b2.sy.tr g2)).1 rfl
      obtain ⟨g, m1, m2⟩ := (P j i f h (by omega) k1).2.1 (by omega)
      refine ⟨k :: j :: i :: k :: g, ?_, ?_⟩
      · -- u ~ k i c ~ k i j k f ~ k i j k i g ~ k j i k i g ~ k j k i k g ~ j k j i k g
        refine uc.tr ((b1.c2 k i).tr ((m1.cl [k, i, j, k]).tr ?_))
        refine ((bq_f (i := i) (j := j) e (k :: i :: g)).c1 k).tr ?_
        refine ((bq_n (i := i) (j := k) (by omega) g).c2 k j).tr ?_
        exact bq_n (i := k) (j := j) (by omega) (i :: k :: g)
      · -- v ~ k j d ~ k j i k h ~ k j i k j g ~ k i j k j g ~ k i k j k g ~ i k i j k g ~ i k j i k g
        refine vd.tr ((g1.c2 k j).tr ((m2.cl [k, j, i, k]).tr ?_))
        refine ((bq_f (i := j) (j := i) (by omega) (k :: j :: g)).c1 k).tr ?_
        refine ((bq_n (i := j) (j := k) (by omega) g).c2 k i).tr ?_
        refine (bq_n (i := k) (j := i) (by omega) (j :: k :: g)).tr ?_
        exact (bq_f (i := i) (j := j) e (k :: g)).c2 i k
theorem bq_ld1 {L : Nat} (P : ∀ (i j : Nat) (u v : List Nat), u.length < L → bq (i :: u) (j :: v) → bq_Q i u j v) {x y : List Nat} (h : bq x y) : ∀ (i j : Nat) (u v : List Nat), u.length = L → x = i :: u → y = j :: v → bq_Q i u j v := by
  induction h using bq.ind with
  | rf w =>
    intro i j u v _ e1 e2
    rw [e1] at e2
    injection e2 with e3 e4
    subst e3 e4
    exact ⟨fun _ => bq.rf _, fun q => absurd q (by omega), fun q => absurd q (by omega)⟩
  | tr h1 h2 ih1 ih2 =>
    rename_i a b c
    intro i j u v hu e1 e2
    have l1 := h1.len
    have l2 := h2.len
    rw [e1] at l1
    rw [e2] at l2
    match b, h1, h2, ih1, ih2, l1, l2 with
    | [], _, _, _, _, l1, _ => simp at l1
    | k :: z, h1, h2, ih1, ih2, l1, l2 =>
      simp only [List.length_cons] at l1 l2
      exact bq_cube P hu (x := z) (by omega) (by omega) (ih1 i k u z hu e1 rfl) (ih2 k j z v (by omega) rfl e2)
  | far h a b =>
    rename_i i' j'
    intro i j u v hu e1 e2
    match a, e1, e2 with
    | [], e1, e2 =>
      injection e1 with e3 e4
      injection e2 with e5 e6
      subst e3 e4 e5 e6
      exact ⟨fun q => absurd q (by omega), fun _ => ⟨b, bq.rf _, bq.rf _⟩, fun q => absurd q (by omega)⟩
    | k :: a, e1, e2 =>
      injection e1 with e3 e4
      injection e2 with e5 e6
      subst e3 e4 e5 e6
      exact ⟨fun _ => bq.far h a b, fun q => absurd q (by omega), fun q => absurd q (by omega)⟩
  | near h a b =>
    rename_i i' j'
    intro i j u v hu e1 e2
    match a, e1, e2 with
    | [], e1, e2 =>
      injection e1 with e3 e4
      injection e2 with e5 e6
      subst e3 e4 e5 e6
      exact ⟨fun q => absurd q (by omega), fun q => absurd q (by omega), fun _ => ⟨b, bq.rf _, bq.rf _⟩⟩
    | k :: a, e1, e2 =>
      injection e1 with e3 e4
      injection e2 with e5 e6
      subst e3 e4 e5 e6
      exact ⟨fun _ => bq.near h a b, fun q => absurd q (by omega), fun q => absurd q (by omega)⟩
theorem bq_ldL : ∀ (L : Nat) (i j : Nat) (u v : List Nat), u.length < L → bq (i :: u) (j :: v) → bq_Q i u j v := by
  intro L
  induction L with
  | zero => intro i j u v h; omega
  | succ L ih =>
    intro i j u v h hb
    by_cases e : u.length = L
    · exact bq_ld1 ih hb i j u v e rfl rfl
    · exact ih i j u v (by omega) hb
/-- Garside's lemma -/
theorem bq_ld {i j : Nat} {u v : List Nat} (h : bq (i :: u) (j :: v)) : bq_Q i u j v := bq_ldL (u.length + 1) i j u v (by omega) h
theorem bq_can : ∀ (a : List Nat) {u v : List Nat}, bq (a ++ u) (a ++ v) → bq u v
  | [], _, _, h => h
  | i :: a, _, _, h => bq_can a ((bq_ld (i := i) (j := i) h).1 rfl)
