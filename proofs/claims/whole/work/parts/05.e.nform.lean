/-! NONE and TURN; a simple braid goes past NONEs; irreducible rows have TURNs first and NONEs last. -/
def gs_id : gs_P := (fun p => p, fun p => p)
def gs_tn (w p : Nat) : Nat := if 1 ≤ p ∧ p ≤ w then w + 1 - p else p
def gs_T (w : Nat) : gs_P := (gs_tn w, gs_tn w)
theorem gs_tn_in {w p : Nat} (h1 : 1 ≤ p) (h2 : p ≤ w) : gs_tn w p = w + 1 - p := by unfold gs_tn; rw [if_pos ⟨h1, h2⟩]
theorem gs_tn_out {w p : Nat} (h : p < 1 ∨ w < p) : gs_tn w p = p := by unfold gs_tn; rw [if_neg (by omega)]
theorem gs_tn_tn (w p : Nat) : gs_tn w (gs_tn w p) = p := by
  by_cases h : 1 ≤ p ∧ p ≤ w
  · rw [gs_tn_in h.1 h.2, gs_tn_in (by omega) (by omega)]; omega
  · rw [gs_tn_out (p := p) (by omega), gs_tn_out (by omega)]
theorem gs_ok_id (w : Nat) : gs_ok w gs_id := ⟨fun _ => rfl, fun _ => rfl, fun _ _ => rfl⟩
theorem gs_ok_T (w : Nat) : gs_ok w (gs_T w) := ⟨gs_tn_tn w, gs_tn_tn w, fun _ h => gs_tn_out h⟩
theorem gs_ext {n : Nat} {S T : gs_P} (hS : gs_ok n S) (hT : gs_ok n T) (h : ∀ p, 1 ≤ p → p ≤ n → S.1 p = T.1 p) : S = T := by
  have e : ∀ p, S.1 p = T.1 p := fun p => by
    by_cases q : 1 ≤ p ∧ p ≤ n
    · exact h p q.1 q.2
    · rw [hS.2.2 p (by omega), hT.2.2 p (by omega)]
  refine Prod.ext (funext e) (funext fun q => ?_)
  have := hS.2.1 q
  rw [← hT.1 (S.2 q), ← e, hS.2.1]
theorem gs_id_of {n : Nat} {T : gs_P} (hT : gs_ok n T) (h : ∀ i, 1 ≤ i → i < n → ¬ T.1 (i + 1) < T.1 i) : T = gs_id := by
  have hlt : ∀ i, 1 ≤ i → i < n → T.1 i < T.1 (i + 1) := fun i h1 h2 => by
    have := h i h1 h2
    have hne : T.1 i ≠ T.1 (i + 1) := fun e => by have := congrArg T.2 e; rw [hT.1, hT.1] at this; omega
    omega
  have lo : ∀ p, 1 ≤ p → p ≤ n → p ≤ T.1 p := by
    intro p
    induction p with
    | zero => intro h; omega
    | succ p ih =>
      intro _ h2
      by_cases e : p = 0
      · subst e; exact (gs_rng hT (by omega) h2).1
      · have := ih (by omega) (by omega)
        have := hlt p (by omega) (by omega)
        omega
  have hi : ∀ d p, p + d = n → 1 ≤ p → T.1 p ≤ p := by
    intro d
    induction d with
    | zero => intro p h1 h2; have := (gs_rng hT h2 (by omega)).2; omega
    | succ d ih =>
      intro p h1 h2
      have := ih (p + 1) (by omega) (by omega)
      have := hlt p h2 (by omega)
      omega
  refine gs_ext hT (gs_ok_id n) (fun p h1 h2 => ?_)
  have := lo p h1 h2
  have := hi (n - p) p (by omega) h1
  show T.1 p = p
  omega
theorem gs_T_of {n : Nat} {T : gs_P} (hT : gs_ok n T) (h : ∀ i, 1 ≤ i → i < n → T.1 (i + 1) < T.1 i) : T = gs_T n := by
  have hi : ∀ p, 1 ≤ p → p ≤ n → T.1 p + p ≤ n + 1 := by
    intro p
    induction p with
    | zero => intro h; omega
    | succ p ih =>
      intro _ h2
      by_cases e : p = 0
      · subst e; have := (gs_rng hT (by omega) h2).2; omega
      · have := ih (by omega) (by omega)
        have := h p (by omega) (by omega)
        omega
  have lo : ∀ d p, p + d = n → 1 ≤ p → n + 1 ≤ T.1 p + p := by
    intro d
    induction d with
    | zero => intro p h1 h2; have := (gs_rng hT h2 (by omega)).1; omega
    | succ d ih =>
      intro p h1 h2
      have := ih (p + 1) (by omega) (by omega)
      have := h p h2 (by omega)
      omega
  refine gs_ext hT (gs_ok_T n) (fun p h1 h2 => ?_)
  have := hi p h1 h2
  have := lo (n - p) p (by omega) h1
  show T.1 p = gs_tn n p
  rw [gs_tn_in h1 h2]
  omega
/-- behind NONE comes NONE -/
theorem gs_lw_id {n : Nat} {T : gs_P} (hT : gs_ok n T) (h : gs_lw n gs_id T) : T = gs_id := gs_id_of hT (fun i h1 h2 hd => h i h1 h2 ⟨by show i < i + 1; omega, hd⟩)
/-- ahead of TURN comes TURN -/
theorem gs_lw_T {n : Nat} {S : gs_P} (hS : gs_ok n S) (h : gs_lw n S (gs_T n)) : S = gs_T n := by
  have hd : ∀ i, 1 ≤ i → i < n → S.2 (i + 1) < S.2 i := fun i h1 h2 => by
    have hn := h i h1 h2
    unfold gs_can at hn
    have e : (gs_T n).1 (i + 1) < (gs_T n).1 i := by
      show gs_tn n (i + 1) < gs_tn n i
      rw [gs_tn_in (by omega) (by omega), gs_tn_in (by omega) (by omega)]; omega
    have hne : S.2 i ≠ S.2 (i + 1) := fun e => by have := congrArg S.1 e; rw [hS.2.1, hS.2.1] at this; omega
    have hn2 : ¬ S.2 i < S.2 (i + 1) := fun q => hn ⟨q, e⟩
    omega
  have hS2 : gs_ok n (S.2, S.1) := ⟨hS.2.1, hS.1, fun p hp => by have := congrArg S.2 (hS.2.2 p hp); rw [hS.1] at this; exact this.symm⟩
  have e := gs_T_of hS2 hd
  have e1 : S.2 = gs_tn n := congrArg Prod.fst e
  have e2 : S.1 = gs_tn n := congrArg Prod.snd e
  exact Prod.ext e2 e1
theorem gs_lw_Tl {n : Nat} (T : gs_P) : gs_lw n (gs_T n) T := fun i h1 h2 hc => by
  have : gs_tn n i < gs_tn n (i + 1) := hc.1
  rw [gs_tn_in (by omega) (by omega), gs_tn_in (by omega) (by omega)] at this
  omega
theorem gs_lw_idr {n : Nat} (S : gs_P) : gs_lw n S gs_id := fun i _ _ hc => by
  have : i + 1 < i := hc.2
  omega
theorem gs_push {n : Nat} : ∀ (N : Nat) {S T : gs_P}, gs_ok n S → gs_ok n T → gs_inv n T.1 ≤ N → (∀ x y, x < y → T.1 y < T.1 x → S.2 x < S.2 y) → ∃ (k : Nat) (S' : gs_P), gs_pr n k S T S' gs_id := by
  intro N
  induction N with
  | zero =>
    intro S T hS hT hN _
    refine ⟨0, S, rfl, gs_id_of hT (fun i h1 h2 hd => ?_)⟩
    have := gs_inv_R h1 h2 hd
    omega
  | succ N ih =>
    intro S T hS hT hN hc
    by_cases hx : ∃ i, 1 ≤ i ∧ i < n ∧ T.1 (i + 1) < T.1 i
    · obtain ⟨i, h1, h2, hd⟩ := hx
      have hcan : gs_can i S T := ⟨hc i (i + 1) (by omega) hd, hd⟩
      have hi := gs_inv_R h1 h2 hd
      obtain ⟨k, S', hk⟩ := ih (gs_ok_L hS h1 h2) (gs_ok_R hT h1 h2) (show gs_inv n (fun p => T.1 (gs_sw i p)) ≤ N by omega) (fun x y hxy hl => by
        show S.2 (gs_sw i x) < S.2 (gs_sw i y)
        have hl : T.1 (gs_sw i y) < T.1 (gs_sw i x) := hl
        by_cases q : x = i ∧ y = i + 1
        · rw [q.1, q.2, gs_sw_a, gs_sw_b] at hl
          omega
        · exact hc _ _ (gs_sw_lt hxy q) hl)
      exact ⟨k + 1, S', i, h1, h2, hcan, hk⟩
    · exact ⟨0, S, rfl, gs_id_of hT (fun i h1 h2 hd => hx ⟨i, h1, h2, hd⟩)⟩
theorem gs_past {n : Nat} {T : gs_P} (hT : gs_ok n T) : ∃ k, gs_pr n k gs_id T T gs_id := by
  obtain ⟨k, S', h⟩ := gs_push (gs_inv n T.1) (gs_ok_id n) hT (Nat.le_refl _) (fun x y hxy _ => hxy)
  obtain ⟨a, b, ba, ab, e1, e2, e3, e4, -⟩ := gs_pr_way k h
  have h1 : ∀ p, S'.1 p = T.1 p := fun p => by
    have e : gs_id.1 (a p) = T.1 (b (a p)) := e3 (a p)
    rw [ba] at e
    rw [e1 p]
    exact e
  have h2 : ∀ q, S'.2 q = T.2 q := fun q => by
    have e : gs_id.2 q = a (T.2 q) := e4 q
    have e' : q = a (T.2 q) := e
    rw [e2 q]
    show b q = T.2 q
    rw [e', ba, ← e']
  have : S' = T := Prod.ext (funext h1) (funext h2)
  rw [this] at h
  exact ⟨k, h⟩
/-- moves on a pair within a row -/
def gs_set2 (A : Nat → gs_P) (j : Nat) (S T : gs_P) : Nat → gs_P := fun k => if k = j then S else if k = j + 1 then T else A k
theorem gs_pr_to {n m j : Nat} (hj : j + 1 < m) : ∀ (k : Nat) {A : Nat → gs_P} {S T : gs_P}, gs_pr n k (A j) (A (j + 1)) S T → gs_to n m k A (gs_set2 A j S T)
  | 0, A, S, T, h => by
    obtain ⟨rfl, rfl⟩ := h
    show A = _
    funext k
    unfold gs_set2
    by_cases e : k = j
    · rw [if_pos e, e]
    · by_cases e2 : k = j + 1
      · rw [if_neg e, if_pos e2, e2]
      · rw [if_neg e, if_neg e2]
  | k + 1, A, S, T, ⟨i, h1, h2, hc, h⟩ => by
    refine ⟨gs_mv A j i, ⟨j, i, hj, h1, h2, hc, rfl⟩, ?_⟩
    have h' : gs_pr n k (gs_mv A j i j) (gs_mv A j i (j + 1)) S T := by rw [gs_mv_0, gs_mv_1]; exact h
    have := gs_pr_to hj k h'
    have e : gs_set2 (gs_mv A j i) j S T = gs_set2 A j S T := by
      funext q
      unfold gs_set2
      by_cases e : q = j
      · rw [if_pos e, if_pos e]
      · by_cases e2 : q = j + 1
        · rw [if_neg e, if_neg e, if_pos e2, if_pos e2]
        · rw [if_neg e, if_neg e, if_neg e2, if_neg e2, gs_mv_n _ _ e e2]
    rw [e] at this
    exact this
theorem gs_st_mono {n m m' : Nat} (h : m ≤ m') {A B : Nat → gs_P} (hs : gs_st n m A B) : gs_st n m' A B := by
  obtain ⟨j, i, hj, r⟩ := hs
  exact ⟨j, i, by omega, r⟩
theorem gs_to_mono {n m m' : Nat} (h : m ≤ m') : ∀ (k : Nat) {A B : Nat → gs_P}, gs_to n m k A B → gs_to n m' k A B
  | 0, _, _, e => e
  | k + 1, _, _, ⟨C, hs, ht⟩ => ⟨C, gs_st_mono h hs, gs_to_mono h k ht⟩
theorem gs_to_out {n m : Nat} : ∀ (k : Nat) {A B : Nat → gs_P}, gs_to n m k A B → ∀ j, m ≤ j → B j = A j
  | 0, _, _, e, j, _ => by rw [(show _ = _ from e)]
  | k + 1, A, B, ⟨C, hs, ht⟩, j, hj => by
    rw [gs_to_out k ht j hj]
    obtain ⟨j', i, h1, -, -, -, rfl⟩ := hs
    exact gs_mv_n _ _ (by omega) (by omega)
/-- a simple braid at place k goes past the NONEs at to .. k - 1 -/
theorem gs_tr {n m : Nat} {T : gs_P} (hT : gs_ok n T) : ∀ (e to : Nat) {A : Nat → gs_P}, to + e < m → (∀ j, to ≤ j → j < to + e → A j = gs_id) → A (to + e) = T → ∃ (d : Nat) (A' : Nat → gs_P), gs_to n m d A A' ∧ A' to = T ∧ (∀ j, to < j → j ≤ to + e → A' j = gs_id) ∧ ∀ j, j < to ∨ to + e < j → A' j = A j
  | 0, to, A, _, _, h2 => ⟨0, A, rfl, h2, fun j h1 h3 => by omega, fun _ _ => rfl⟩
  | e + 1, to, A, hm, h1, h2 => by
    obtain ⟨k, hk⟩ := gs_past hT
    have e1 : A (to + e) = gs_id := h1 _ (by omega) (by omega)
    have e2 : A (to + e + 1) = T := h2
    have hp := gs_pr_to (m := m) (j := to + e) (by omega) k (A := A) (by rw [e1, e2]; exact hk)
    obtain ⟨d, A', g1, g2, g3, g4⟩ := gs_tr (m := m) hT e to (A := gs_set2 A (to + e) T gs_id) (by omega) (fun j q1 q2 => by unfold gs_set2; rw [if_neg (by omega), if_neg (by omega)]; exact h1 j q1 (by omega)) (by unfold gs_set2; rw [if_pos rfl])
    refine ⟨k + d, A', gs_to_app k hp g1, g2, fun j q1 q2 => ?_, fun j q => ?_⟩
    · by_cases q : j = to + e + 1
      · rw [g4 j (by omega)]
        unfold gs_set2
        rw [if_neg (by omega), if_pos q]
      · exact g3 j q1 (by omega)
    · rw [g4 j (by omega)]
      unfold gs_set2
      rw [if_neg (by omega), if_neg (by omega)]
/-- the simple braid of a letter: i, or TURN and then -i -/
def gs_si (w i : Nat) (ng : Bool) : gs_P := if ng then (fun p => gs_tn w (gs_sw (w - i) p), fun q => gs_sw (w - i) (gs_tn w q)) else (gs_sw i, gs_sw i)
theorem gs_ok_si {w i : Nat} (ng : Bool) (h1 : 1 ≤ i) (h2 : i < w) : gs_ok w (gs_si w i ng) := by
  cases ng with
  | false => exact ⟨gs_sw_sw i, gs_sw_sw i, fun p hp => gs_sw_n (by omega) (by omega)⟩
  | true => exact ⟨fun p => by show gs_sw (w - i) (gs_tn w (gs_tn w (gs_sw (w - i) p))) = p; rw [gs_tn_tn, gs_sw_sw], fun q => by show gs_tn w (gs_sw (w - i) (gs_sw (w - i) (gs_tn w q))) = q; rw [gs_sw_sw, gs_tn_tn], fun p hp => by show gs_tn w (gs_sw (w - i) p) = p; rw [gs_sw_n (by omega) (by omega), gs_tn_out hp]⟩
/-- the row before the swap -/
def bn_pre (w : Nat) (ng : Bool) (r : Nat) : Int := if ng then (w : Int) + 1 - r else (r : Int)
theorem bn_si_t {w i : Nat} {g : Nat → Int} (h1 : 1 ≤ i) (h2 : i < w) (hg : ∀ r, 1 ≤ r → r < w + 1 → g r = bn_pre w true r) : bn_h w (bw_sw g (w - i)) (gs_si w i true).1 := fun p h3 h4 => by
  have := gs_sw_rng (i := w - i) (by omega) (by omega) h3 h4
  rw [bn_sw, hg _ this.1 (by omega)]
  show (w : Int) + 1 - ((gs_sw (w - i) p : Nat) : Int) = ((gs_tn w (gs_sw (w - i) p) : Nat) : Int)
  rw [gs_tn_in this.1 this.2]
  omega
theorem bn_si_f {w i : Nat} {g : Nat → Int} (h1 : 1 ≤ i) (h2 : i < w) (hg : ∀ r, 1 ≤ r → r < w + 1 → g r = bn_pre w false r) : bn_h w (bw_sw g i) (gs_si w i false).1 := fun p h3 h4 => by
  have := gs_sw_rng h1 h2 h3 h4
  rw [bn_sw, hg _ this.1 (by omega)]
  rfl
theorem bn_isT {w : Nat} {g : Nat → Int} {S : gs_P} (hS : gs_ok w S) (h : bn_h w g S.1) : (∀ p : Nat, p < w + 1 → 1 ≤ p → g p = (w : Int) + 1 - p) ↔ S = gs_T w := by
  constructor
  · intro q
    refine gs_ext hS (gs_ok_T w) (fun p h1 h2 => ?_)
    have e1 := h p h1 h2
    have e2 := q p (by omega) h1
    show S.1 p = gs_tn w p
    rw [gs_tn_in h1 h2]
    omega
  · intro q p h1 h2
    have e1 := h p h2 (by omega)
    rw [q] at e1
    rw [e1]
    show ((gs_tn w p : Nat) : Int) = _
    rw [gs_tn_in h2 (by omega)]
    omega
theorem bn_isN {w : Nat} {g : Nat → Int} {S : gs_P} (hS : gs_ok w S) (h : bn_h w g S.1) : (∀ p : Nat, p < w + 1 → 1 ≤ p → g p = (p : Int)) ↔ S = gs_id := by
  constructor
  · intro q
    refine gs_ext hS (gs_ok_id w) (fun p h1 h2 => ?_)
    have e1 := h p h1 h2
    have e2 := q p (by omega) h1
    show S.1 p = p
    omega
  · intro q p h1 h2
    have e1 := h p h2 (by omega)
    rw [q] at e1
    exact e1
abbrev oR (E : hp_E) (b : Nat) : va_E := hp_aq (E.2 4) 32 (fun i => if i < 32 then some (b + 4 + i) else none)
