/-! Where strands end, again and again: the rounds of a word's permutation -/
theorem bw_php : ∀ (n : Nat) (g : Nat → Int), (∀ i, i ≤ n → 1 ≤ g i ∧ g i ≤ n) → ∃ i j, i < j ∧ j ≤ n ∧ g i = g j
  | 0, g, h => by have := h 0 (Nat.le_refl 0); omega
  | n + 1, g, h => by
    by_cases hx : ∃ i, i ≤ n ∧ g i = g (n + 1)
    · obtain ⟨i, h1, h2⟩ := hx
      exact ⟨i, n + 1, by omega, by omega, h2⟩
    · have hne : ∀ i, i ≤ n → g i ≠ g (n + 1) := fun i hi e => hx ⟨i, hi, e⟩
      have hl := h (n + 1) (Nat.le_refl _)
      obtain ⟨i, j, h1, h2, h3⟩ := bw_php n (fun i => if g i = ((n + 1 : Nat) : Int) then g (n + 1) else g i) (fun i hi => by
        have h1 := h i (by omega)
        have h2 := hne i hi
        show 1 ≤ (if g i = ((n + 1 : Nat) : Int) then g (n + 1) else g i) ∧ (if g i = ((n + 1 : Nat) : Int) then g (n + 1) else g i) ≤ n
        split <;> omega)
      have h3 : (if g i = ((n + 1 : Nat) : Int) then g (n + 1) else g i) = (if g j = ((n + 1 : Nat) : Int) then g (n + 1) else g j) := h3
      have e1 := hne i (by omega)
      have e2 := hne j h2
      refine ⟨i, j, h1, by omega, ?_⟩
      split at h3 <;> split at h3 <;> omega
theorem bw_stp_stp (v q : Int) : bw_stp v (bw_stp v q) = q := by
  unfold bw_stp
  split
  · split <;> (try split) <;> omega
  · split
    · split <;> (try split) <;> omega
    · rfl
theorem bw_end_inj (f : Nat → Int) : ∀ (k : Nat) {p q : Int}, bw_end f k p = bw_end f k q → p = q
  | 0, _, _, h => h
  | k + 1, _, _, h => bw_end_inj f k (by have := congrArg (bw_stp ((f k).natAbs : Int)) h; simp only [bw_end] at this; rwa [bw_stp_stp, bw_stp_stp] at this)
theorem bw_end_in {f : Nat → Int} {w c : Nat} (hf : okw w c f) {p : Int} (h1 : 1 ≤ p) (h2 : p ≤ w) : ∀ k : Nat, k ≤ c → 1 ≤ bw_end f k p ∧ bw_end f k p ≤ w
  | 0, _ => ⟨h1, h2⟩
  | k + 1, hk => by
    have := bw_end_in hf h1 h2 k (by omega)
    have h3 := hf k (by omega)
    simp only [bw_end, bw_stp]
    split
    · omega
    · split <;> omega
theorem bw_end_congr {f g : Nat → Int} (p : Int) : ∀ k : Nat, (∀ j, j < k → f j = g j) → bw_end f k p = bw_end g k p
  | 0, _ => rfl
  | k + 1, h => by
    simp only [bw_end]
    rw [bw_end_congr p k (fun j hj => h j (by omega)), h k (by omega)]
def bw_it (f : Nat → Int) (c : Nat) : Nat → Int → Int
  | 0, p => p
  | m + 1, p => bw_end f c (bw_it f c m p)
theorem bw_it_add (f : Nat → Int) (c : Nat) (a : Nat) (p : Int) : ∀ b, bw_it f c (a + b) p = bw_it f c b (bw_it f c a p)
  | 0 => rfl
  | b + 1 => by
    show bw_end f c (bw_it f c (a + b) p) = bw_end f c (bw_it f c b (bw_it f c a p))
    rw [bw_it_add f c a p b]
theorem bw_it_inj (f : Nat → Int) (c : Nat) : ∀ (m : Nat) {p q : Int}, bw_it f c m p = bw_it f c m q → p = q
  | 0, _, _, h => h
  | m + 1, _, _, h => bw_it_inj f c m (bw_end_inj f c h)
theorem bw_it_in {f : Nat → Int} {w c : Nat} (hf : okw w c f) {p : Int} (h1 : 1 ≤ p) (h2 : p ≤ w) : ∀ m : Nat, 1 ≤ bw_it f c m p ∧ bw_it f c m p ≤ w
  | 0 => ⟨h1, h2⟩
  | m + 1 => by
    have := bw_it_in hf h1 h2 m
    exact bw_end_in hf this.1 this.2 c (Nat.le_refl c)
/-- each place comes again, after at most as many steps as there are places -/
theorem bw_back {f : Nat → Int} {w c : Nat} (hf : okw w c f) {p : Int} (h1 : 1 ≤ p) (h2 : p ≤ w) : ∃ N, 0 < N ∧ N ≤ w ∧ bw_it f c N p = p := by
  obtain ⟨i, j, hij, hj, e⟩ := bw_php w (fun m => bw_it f c m p) (fun m _ => bw_it_in hf h1 h2 m)
  refine ⟨j - i, by omega, by omega, ?_⟩
  have e : bw_it f c i p = bw_it f c j p := e
  rw [show j = (j - i) + i by omega, bw_it_add] at e
  exact (bw_it_inj f c i e).symm
theorem bw_it_mul {f : Nat → Int} {c N : Nat} {p : Int} (h : bw_it f c N p = p) : ∀ k, bw_it f c (N * k) p = p
  | 0 => rfl
  | k + 1 => by rw [Nat.mul_succ, bw_it_add, bw_it_mul h k, h]
/-- who is reached reaches back -/
theorem bw_sym {f : Nat → Int} {w c m : Nat} (hf : okw w c f) {p q : Int} (h1 : 1 ≤ p) (h2 : p ≤ w) (h : bw_it f c m p = q) : ∃ m', bw_it f c m' q = p := by
  obtain ⟨N, g1, g2, g3⟩ := bw_back hf h1 h2
  refine ⟨N * m - m, ?_⟩
  have hle : m ≤ N * m := Nat.le_mul_of_pos_left m g1
  rw [← h, ← bw_it_add, show m + (N * m - m) = N * m by omega]
  exact bw_it_mul g3 m
def bw_lst (f : Nat → Int) (c : Nat) (p : Int) : Prop := ∀ m, p ≤ bw_it f c m p
noncomputable def bw_cmp (f : Nat → Int) (c : Nat) : Nat → Int
  | 0 => 0
  | k + 1 => bw_cmp f c k + @ite Int (bw_lst f c ((k + 1 : Nat) : Int)) (Classical.propDecidable _) 1 0
theorem bw_cmp_t {f : Nat → Int} {c k : Nat} (h : bw_lst f c ((k + 1 : Nat) : Int)) : bw_cmp f c (k + 1) = bw_cmp f c k + 1 := by
  show bw_cmp f c k + @ite Int _ (Classical.propDecidable _) 1 0 = _
  rw [if_pos h]
theorem bw_cmp_f {f : Nat → Int} {c k : Nat} (h : ¬ bw_lst f c ((k + 1 : Nat) : Int)) : bw_cmp f c (k + 1) = bw_cmp f c k := by
  show bw_cmp f c k + @ite Int _ (Classical.propDecidable _) 1 0 = _
  rw [if_neg h]
  omega
theorem bw_it_congr {f g : Nat → Int} {c : Nat} (h : ∀ j, j < c → f j = g j) (p : Int) : ∀ m, bw_it f c m p = bw_it g c m p
  | 0 => rfl
  | m + 1 => by
    show bw_end f c (bw_it f c m p) = bw_end g c (bw_it g c m p)
    rw [bw_it_congr h p m, bw_end_congr _ c h]
theorem bw_lst_congr {f g : Nat → Int} {c : Nat} (h : ∀ j, j < c → f j = g j) (p : Int) : bw_lst f c p ↔ bw_lst g c p := by
  unfold bw_lst
  constructor
  · intro q m; rw [← bw_it_congr h]; exact q m
  · intro q m; rw [bw_it_congr h]; exact q m
theorem bw_cmp_congr {f g : Nat → Int} {c : Nat} (h : ∀ j, j < c → f j = g j) : ∀ k, bw_cmp f c k = bw_cmp g c k
  | 0 => rfl
  | k + 1 => by
    have e := bw_lst_congr h ((k + 1 : Nat) : Int)
    have ih := bw_cmp_congr h k
    by_cases q : bw_lst f c ((k + 1 : Nat) : Int)
    · rw [bw_cmp_t q, bw_cmp_t (e.mp q), ih]
    · rw [bw_cmp_f q, bw_cmp_f (fun z => q (e.mpr z)), ih]
theorem bw_cmp_rng (f : Nat → Int) (c : Nat) : ∀ k : Nat, 0 ≤ bw_cmp f c k ∧ bw_cmp f c k ≤ k
  | 0 => by simp [bw_cmp]
  | k + 1 => by
    have := bw_cmp_rng f c k
    by_cases q : bw_lst f c ((k + 1 : Nat) : Int)
    · rw [bw_cmp_t q]; omega
    · rw [bw_cmp_f q]; omega
/-! bits of a small mask -/
theorem bb_shr {n p : Nat} (hn : n < 2147483648) (hp : p < 16) : nI n >>> (nI p &&& 31) = nI (n / 2 ^ p) := pk_shrN hn _ p (by
  have : ∀ p, p < 16 → ((nI p &&& 31).toBitVec.smod 32).toNat = p := by decide
  exact this p hp)
theorem bb_shl {p : Nat} (hp : p < 16) : nI 1 <<< (nI p &&& 31) = nI (2 ^ p) := by
  have : ∀ p, p < 16 → nI 1 <<< (nI p &&& 31) = nI (2 ^ p) := by decide
  exact this p hp
theorem bb_and1 {n : Nat} (hn : n < 4294967296) : nI n &&& 1 = nI (n % 2) := pk_andN hn 1 (by decide)
theorem bb_or (a b : Nat) : nI a ||| nI b = nI (a ||| b) := by
  apply Int32.toBitVec_inj.1
  show BitVec.ofNat 32 a ||| BitVec.ofNat 32 b = BitVec.ofNat 32 (a ||| b)
  exact BitVec.ofNat_or.symm
section HJ
variable {p : Program} {l : Launch} {e : Env} {R : Room} {s : State} {m : MethodId} {args : Array Value} {below : List Frame} {meth : Method} {c : Code} {H : Heap} {locs : List Loc} {cells slots : Nat} {Q : State → Prop}
variable {cc : ByteArray} {pc : Nat} {ls : Array Slot} {rest : List Value}
theorem hp_bit (hexec : p.tables.exec = Jvm.exec) (hb : c.code = cc) {n q : Nat} (hn : n < 1024) (hq : q < 16) (h1 : decode cc pc = .ok (.ishr, 1)) (h2 : decode cc (pc + 1) = .ok (.iconst 1, 1)) (h3 : decode cc (pc + 1 + 1) = .ok (.iand, 1)) (k : W p l e R s m args below meth c H locs cells slots Q (F0 m (pc + 1 + 1 + 1) ls (.int (iI (bI (n.testBit q))) :: rest))) : W p l e R s m args below meth c H locs cells slots Q (F0 m pc ls (.int (iI (q : Int)) :: .int (iI (n : Int)) :: rest)) := by
  refine lv_ishr hexec hb h1 ?_
  refine lv_iconst (v := 1) hexec hb h2 rfl ?_
  refine lv_iand hexec hb h3 ?_
  have hlt : n / 2 ^ q < 4294967296 := Nat.lt_of_le_of_lt (Nat.div_le_self _ _) (by omega)
  have hm : n / 2 ^ q % 2 < 2 := Nat.mod_lt _ (by omega)
  rw [iI_nI, iI_nI, bb_shr (by omega) hq, bb_and1 hlt]
  have e : nI (n / 2 ^ q % 2) = iI (bI (n.testBit q)) := by
    rw [Nat.testBit_eq_decide_div_mod_eq]
    by_cases z : n / 2 ^ q % 2 = 1
    · rw [decide_eq_true z, z]; rfl
    · rw [decide_eq_false z, show n / 2 ^ q % 2 = 0 by omega]; rfl
  rw [e]
  exact k
theorem hp_setbit (hexec : p.tables.exec = Jvm.exec) (hb : c.code = cc) {n q : Nat} (hq : q < 16) (h1 : decode cc pc = .ok (.ishl, 1)) (h2 : decode cc (pc + 1) = .ok (.ior, 1)) (k : W p l e R s m args below meth c H locs cells slots Q (F0 m (pc + 1 + 1) ls (.int (iI ((n ||| 2 ^ q : Nat) : Int)) :: rest))) : W p l e R s m args below meth c H locs cells slots Q (F0 m pc ls (.int (iI (q : Int)) :: .int (iI 1) :: .int (iI (n : Int)) :: rest)) := by
  refine lv_ishl hexec hb h1 ?_
  refine lv_ior hexec hb h2 ?_
  rw [iI_nI, iI_nI, show iI 1 = nI 1 from rfl, bb_shl hq, bb_or, ← iI_nI]
  exact k
end HJ
theorem bb_lt {n q : Nat} (hn : n < 1024) (hq : q < 10) : n ||| 2 ^ q < 1024 := Nat.or_lt_two_pow (n := 10) hn (Nat.pow_lt_pow_right (by omega) hq)
theorem bb_tb (n q x : Nat) : (n ||| 2 ^ q).testBit x = (n.testBit x || decide (q = x)) := by rw [Nat.testBit_or, Nat.testBit_two_pow]
theorem bw_it_mod {f : Nat → Int} {c N : Nat} {p : Int} (h : bw_it f c N p = p) (m : Nat) : bw_it f c m p = bw_it f c (m % N) p := by
  have e : m = N * (m / N) + m % N := (Nat.div_add_mod m N).symm
  rw [e, bw_it_add, bw_it_mul h, ← e]
def bw_sn (f : Nat → Int) (w c q sn : Nat) : Prop := ∀ x : Nat, 1 ≤ x → x ≤ w → (sn.testBit x = true ↔ ∃ r : Nat, 1 ≤ r ∧ r < q ∧ ∃ m, bw_it f c m (r : Int) = (x : Int))
theorem bw_first {f : Nat → Int} {w c q sn : Nat} (hf : okw w c f) (h : bw_sn f w c q sn) (h1 : 1 ≤ q) (h2 : q ≤ w) : sn.testBit q = true ↔ ¬ bw_lst f c (q : Int) := by
  rw [h q h1 h2]
  constructor
  · intro g
    obtain ⟨r, r1, r2, m, e⟩ := g
    intro hl
    obtain ⟨m', e'⟩ := bw_sym hf (p := (r : Int)) (by omega) (by omega) e
    have := hl m'
    omega
  · intro g
    have hx : ∃ m, ¬ (q : Int) ≤ bw_it f c m q := Classical.not_forall.mp g
    obtain ⟨m, hm⟩ := hx
    have hr := bw_it_in hf (p := (q : Int)) (by omega) (by omega) m
    obtain ⟨m', e'⟩ := bw_sym hf (p := (q : Int)) (m := m) (by omega) (by omega) rfl
    refine ⟨(bw_it f c m q).toNat, by omega, by omega, m', ?_⟩
    rw [show (((bw_it f c m q).toNat : Nat) : Int) = bw_it f c m q by omega]
    exact e'
theorem bw_close {f : Nat → Int} {w c q j sn sm : Nat} (hf : okw w c f) (h : bw_sn f w c q sn) (h1 : 1 ≤ q) (h2 : q ≤ w) (hm : ∀ x : Nat, 1 ≤ x → x ≤ w → (sm.testBit x = true ↔ sn.testBit x = true ∨ ∃ i, i < j ∧ bw_it f c i (q : Int) = (x : Int))) (hex : w ≤ j ∨ ∃ pl : Nat, (pl : Int) = bw_it f c j (q : Int) ∧ sm.testBit pl = true) : bw_sn f w c (q + 1) sm := by
  have key : ∀ m, ∃ x : Nat, 1 ≤ x ∧ x ≤ w ∧ (x : Int) = bw_it f c m (q : Int) ∧ sm.testBit x = true := by
    intro m
    have hr := bw_it_in hf (p := (q : Int)) (by omega) (by omega) m
    refine ⟨(bw_it f c m q).toNat, by omega, by omega, by omega, ?_⟩
    rw [hm _ (by omega) (by omega), show (((bw_it f c m q).toNat : Nat) : Int) = bw_it f c m q by omega]
    have per : ∀ N, 0 < N → N ≤ j → bw_it f c N (q : Int) = q → ∃ i, i < j ∧ bw_it f c i (q : Int) = bw_it f c m q := fun N g1 g2 g3 => ⟨m % N, Nat.lt_of_lt_of_le (Nat.mod_lt _ g1) g2, (bw_it_mod g3 m).symm⟩
    rcases hex with hex | ⟨pl, e1, e2⟩
    · obtain ⟨N, g1, g2, g3⟩ := bw_back hf (p := (q : Int)) (by omega) (by omega)
      exact Or.inr (per N g1 (by omega) g3)
    · have hrp := bw_it_in hf (p := (q : Int)) (by omega) (by omega) j
      rcases (hm pl (by omega) (by omega)).mp e2 with g | ⟨i, g1, g2⟩
      · obtain ⟨r, r1, r2, m1, e3⟩ := (h pl (by omega) (by omega)).mp g
        obtain ⟨m2, e4⟩ := bw_sym hf (p := (q : Int)) (m := j) (by omega) (by omega) rfl
        left
        rw [h _ (by omega) (by omega)]
        refine ⟨r, r1, r2, m1 + (m2 + m), ?_⟩
        rw [bw_it_add, e3, e1, bw_it_add, e4]
        omega
      · right
        have e5 : bw_it f c (j - i) (q : Int) = q := by
          have e6 : bw_it f c i (bw_it f c (j - i) (q : Int)) = bw_it f c i q := by rw [← bw_it_add, show j - i + i = j by omega, ← e1, g2]
          exact bw_it_inj f c i e6
        exact per (j - i) (by omega) (by omega) e5
  intro x x1 x2
  constructor
  · intro g
    rcases (hm x x1 x2).mp g with g | ⟨i, g1, g2⟩
    · obtain ⟨r, r1, r2, m, e⟩ := (h x x1 x2).mp g
      exact ⟨r, r1, by omega, m, e⟩
    · exact ⟨q, h1, by omega, i, g2⟩
  · intro g
    obtain ⟨r, r1, r2, m, e⟩ := g
    by_cases er : r = q
    · subst er
      obtain ⟨y, -, -, y3, y4⟩ := key m
      have : x = y := by omega
      rw [this]; exact y4
    · exact (hm x x1 x2).mpr (Or.inl ((h x x1 x2).mpr ⟨r, r1, by omega, m, e⟩))
