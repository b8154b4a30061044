/-! A chain of nodes between 0 and 1, cut in two (l: what is left of the cut, the last one first; r: what is right of it), and the chain of free nodes -/
def ch_h (l : List Nat) (d : Nat) : Nat := match l with
  | [] => d
  | x :: _ => x
def ch_l (nx bf : Nat → Nat) : List Nat → Prop
  | [] => True
  | x :: l => nx (ch_h l 0) = x ∧ bf x = ch_h l 0 ∧ ch_l nx bf l
def ch_r (nx bf : Nat → Nat) : List Nat → Prop
  | [] => True
  | y :: r => nx y = ch_h r 1 ∧ bf (ch_h r 1) = y ∧ ch_r nx bf r
def ch_f (nx : Nat → Nat) : Nat → List Nat → Prop
  | x, [] => x = 0
  | x, y :: f => x = y ∧ ch_f nx (nx y) f
def ch_n (md : Nat) (l r fs : List Nat) : Prop := (l ++ (r ++ fs)).Nodup ∧ (∀ z, z ∈ l ++ (r ++ fs) → 2 ≤ z ∧ z < md) ∧ l.length + r.length + fs.length + 2 = md
def ch_I (nx bf : Nat → Nat) (md fe : Nat) (l r fs : List Nat) : Prop := (ch_l nx bf l ∧ nx (ch_h l 0) = ch_h r 1 ∧ bf (ch_h r 1) = ch_h l 0 ∧ ch_r nx bf r) ∧ ch_n md l r fs ∧ ch_f nx fe fs
theorem ch_h_in (l : List Nat) (d : Nat) : ch_h l d = d ∨ ch_h l d ∈ l := by
  match l with
  | [] => exact Or.inl rfl
  | x :: l => exact Or.inr (by simp [ch_h])
theorem ch_l_nx {nx bf : Nat → Nat} {z v : Nat} : ∀ {l : List Nat}, z ∉ l.tail → (l = [] ∨ z ≠ 0) → ch_l nx bf l → ch_l (hp_up nx z v) bf l
  | [], _, _, _ => trivial
  | x :: l, h1, h2, h => by
    have hz : z ≠ 0 := h2.elim (fun q => by simp at q) id
    have h1 : z ∉ l := by simpa using h1
    refine ⟨?_, h.2.1, ch_l_nx (fun q => h1 (List.mem_of_mem_tail q)) (Or.inr hz) h.2.2⟩
    rw [hp_up_n]
    · exact h.1
    · rcases ch_h_in l 0 with e | e
      · rw [e]; exact hz.symm
      · exact fun q => h1 (q ▸ e)
theorem ch_l_bf {nx bf : Nat → Nat} {z v : Nat} : ∀ {l : List Nat}, z ∉ l → ch_l nx bf l → ch_l nx (hp_up bf z v) l
  | [], _, _ => trivial
  | x :: l, h1, h => by
    simp only [List.mem_cons, not_or] at h1
    exact ⟨h.1, by rw [hp_up_n _ _ (fun q => h1.1 q.symm)]; exact h.2.1, ch_l_bf h1.2 h.2.2⟩
theorem ch_r_nx {nx bf : Nat → Nat} {z v : Nat} : ∀ {r : List Nat}, z ∉ r → ch_r nx bf r → ch_r (hp_up nx z v) bf r
  | [], _, _ => trivial
  | x :: r, h1, h => by
    simp only [List.mem_cons, not_or] at h1
    exact ⟨by rw [hp_up_n _ _ (fun q => h1.1 q.symm)]; exact h.1, h.2.1, ch_r_nx h1.2 h.2.2⟩
theorem ch_r_bf {nx bf : Nat → Nat} {z v : Nat} : ∀ {r : List Nat}, z ∉ r.tail → (r = [] ∨ z ≠ 1) → ch_r nx bf r → ch_r nx (hp_up bf z v) r
  | [], _, _, _ => trivial
  | x :: r, h1, h2, h => by
    have hz : z ≠ 1 := h2.elim (fun q => by simp at q) id
    have h1 : z ∉ r := by simpa using h1
    refine ⟨h.1, ?_, ch_r_bf (fun q => h1 (List.mem_of_mem_tail q)) (Or.inr hz) h.2.2⟩
    rw [hp_up_n]
    · exact h.2.1
    · rcases ch_h_in r 1 with e | e
      · rw [e]; exact hz.symm
      · exact fun q => h1 (q ▸ e)
theorem ch_f_nx {nx : Nat → Nat} {z v : Nat} : ∀ {x : Nat} {f : List Nat}, z ∉ f → ch_f nx x f → ch_f (hp_up nx z v) x f
  | _, [], _, h => h
  | x, y :: f, h1, h => by
    simp only [List.mem_cons, not_or] at h1
    refine ⟨h.1, ?_⟩
    rw [hp_up_n _ _ (fun q => h1.1 q.symm)]
    exact ch_f_nx h1.2 h.2
/-- the cut moved over one node -/
theorem ch_sh {nx bf : Nat → Nat} {md fe : Nat} {l r fs : List Nat} {y : Nat} : ch_I nx bf md fe l (y :: r) fs ↔ ch_I nx bf md fe (y :: l) r fs := by
  have hp : (l ++ ((y :: r) ++ fs)).Perm ((y :: l) ++ (r ++ fs)) := by
    simp only [List.cons_append]
    exact List.perm_middle
  have hn : ch_n md l (y :: r) fs ↔ ch_n md (y :: l) r fs := by
    unfold ch_n
    rw [hp.nodup_iff]
    refine and_congr Iff.rfl (and_congr ⟨fun h z hz => h z (hp.mem_iff.mpr hz), fun h z hz => h z (hp.mem_iff.mp hz)⟩ ?_)
    simp only [List.length_cons]
    omega
  unfold ch_I
  rw [hn]
  simp only [ch_l, ch_r, ch_h]
  constructor
  · intro ⟨⟨a, b, c, d, e, f⟩, g⟩
    exact ⟨⟨⟨b, c, a⟩, d, e, f⟩, g⟩
  · intro ⟨⟨⟨b, c, a⟩, d, e, f⟩, g⟩
    exact ⟨⟨a, b, c, d, e, f⟩, g⟩
theorem ch_all {nx bf : Nat → Nat} {md fe : Nat} {fs : List Nat} : ∀ {l r : List Nat}, ch_I nx bf md fe l r fs → ch_I nx bf md fe [] (l.reverse ++ r) fs
  | [], _, h => h
  | x :: l, r, h => by
    have := ch_all (ch_sh.mpr h)
    simpa using this
theorem ch_rng {nx bf : Nat → Nat} {md fe : Nat} {l r fs : List Nat} (h : ch_I nx bf md fe l r fs) : ch_h l 0 < md ∧ ch_h r 1 < md ∧ ch_h l 0 ≠ 1 ∧ ch_h r 1 ≠ 0 := by
  obtain ⟨-, ⟨-, h2, h3⟩, -⟩ := h
  refine ⟨?_, ?_, ?_, ?_⟩
  · rcases ch_h_in l 0 with e | e
    · omega
    · exact (h2 _ (by simp [e])).2
  · rcases ch_h_in r 1 with e | e
    · omega
    · exact (h2 _ (by simp [e])).2
  · rcases ch_h_in l 0 with e | e
    · omega
    · have := (h2 (ch_h l 0) (by simp [e])).1; omega
  · rcases ch_h_in r 1 with e | e
    · omega
    · have := (h2 (ch_h r 1) (by simp [e])).1; omega
/-- a node put in at the cut -/
theorem ch_put {nx bf nx0 : Nat → Nat} {md fe md1 fe1 k : Nat} {l r fs fs1 : List Nat} (h : ch_I nx bf md fe l r fs) (hk : k ∉ l ++ r) (hk2 : 2 ≤ k) (hn : ch_n md1 (k :: l) r fs1) (hf : ch_f nx fe1 fs1) (e0 : nx0 = hp_up nx k (nx (ch_h l 0))) : ch_I (hp_up nx0 (ch_h l 0) k) (hp_up (hp_up bf k (ch_h l 0)) (nx0 (ch_h l 0)) k) md1 fe1 (k :: l) r fs1 := by
  subst e0
  have hr := ch_rng h
  obtain ⟨⟨a, b, c, d⟩, ⟨n1, n2, n3⟩, f⟩ := h
  simp only [List.mem_append, not_or] at hk
  have hlk : ch_h l 0 ≠ k := by
    rcases ch_h_in l 0 with e | e
    · omega
    · exact fun q => hk.1 (q ▸ e)
  have hrk : ch_h r 1 ≠ k := by
    rcases ch_h_in r 1 with e | e
    · omega
    · exact fun q => hk.2 (q ▸ e)
  have nd := List.nodup_append.mp n1
  have ndr := List.nodup_append.mp nd.2.1
  have hx1 : ch_h l 0 ∉ l.tail := by
    match l, nd.1 with
    | [], _ => simp
    | x :: l, hnd => exact (List.nodup_cons.mp hnd).1
  have hx2 : ch_h l 0 ∉ r := fun q => by
    rcases ch_h_in l 0 with e | e
    · have := (n2 (ch_h l 0) (by simp [q])).1; omega
    · exact nd.2.2 _ e _ (by simp [q]) rfl
  have hy1 : ch_h r 1 ∉ r.tail := by
    match r, ndr.1 with
    | [], _ => simp
    | x :: r, hnd => exact (List.nodup_cons.mp hnd).1
  have hy2 : ch_h r 1 ∉ l := fun q => by
    rcases ch_h_in r 1 with e | e
    · have := (n2 (ch_h r 1) (by simp [q])).1; omega
    · exact nd.2.2 _ q _ (by simp [e]) rfl
  have hl0 : l = [] ∨ ch_h l 0 ≠ 0 := by
    match l, n2 with
    | [], _ => exact Or.inl rfl
    | x :: l, n2 => have := (n2 x (by simp)).1; exact Or.inr (by show x ≠ 0; omega)
  have hr0 : r = [] ∨ ch_h r 1 ≠ 1 := by
    match r, n2 with
    | [], _ => exact Or.inl rfl
    | x :: r, n2 => have := (n2 x (by simp)).1; exact Or.inr (by show x ≠ 1; omega)
  have hxf : ch_h l 0 ∉ fs1 := fun q => by
    rcases ch_h_in l 0 with e | e
    · have := (hn.2.1 (ch_h l 0) (by simp [q])).1; omega
    · exact (List.nodup_append.mp hn.1).2.2 (ch_h l 0) (by simp [e]) (ch_h l 0) (by simp [q]) rfl
  have hkf : k ∉ fs1 := fun q => (List.nodup_append.mp hn.1).2.2 k (by simp) k (by simp [q]) rfl
  have ey : hp_up nx k (nx (ch_h l 0)) (ch_h l 0) = ch_h r 1 := by rw [hp_up_n _ _ hlk]; exact b
  rw [ey]
  refine ⟨⟨⟨hp_up_s _ _ _, ?_, ?_⟩, ?_, ?_, ?_⟩, hn, ?_⟩
  · rw [hp_up_n _ _ (fun q => hrk q.symm), hp_up_s]
  · refine ch_l_bf hy2 (ch_l_bf hk.1 (ch_l_nx hx1 hl0 (ch_l_nx (fun q => hk.1 (List.mem_of_mem_tail q)) (Or.inr (by omega)) a)))
  · show hp_up (hp_up nx k (nx (ch_h l 0))) (ch_h l 0) k k = ch_h r 1
    rw [hp_up_n _ _ (fun q => hlk q.symm), hp_up_s]
    exact b
  · show hp_up (hp_up bf k (ch_h l 0)) (ch_h r 1) k (ch_h r 1) = k
    exact hp_up_s _ _ _
  · exact ch_r_bf hy1 hr0 (ch_r_bf (fun q => hk.2 (List.mem_of_mem_tail q)) (Or.inr (by omega)) (ch_r_nx hx2 (ch_r_nx hk.2 d)))
  · exact ch_f_nx hxf (ch_f_nx hkf hf)
/-- a node taken off, left of the cut -/
theorem ch_off {nx bf : Nat → Nat} {md fe k : Nat} {l r fs : List Nat} (h : ch_I nx bf md fe (k :: l) r fs) : bf k = ch_h l 0 ∧ nx k = ch_h r 1 ∧ ch_I (hp_up (hp_up nx (ch_h l 0) (ch_h r 1)) k fe) (hp_up bf (ch_h r 1) (ch_h l 0)) md k l r (k :: fs) := by
  have hr := ch_rng h
  obtain ⟨⟨⟨a1, a2, a3⟩, b, c, d⟩, ⟨n1, n2, n3⟩, f⟩ := h
  have b : nx k = ch_h r 1 := b
  have nd := List.nodup_cons.mp (show (k :: (l ++ (r ++ fs))).Nodup from n1)
  have hk : k ∉ l ∧ k ∉ r ∧ k ∉ fs := by
    refine ⟨fun q => nd.1 (by simp [q]), fun q => nd.1 (by simp [q]), fun q => nd.1 (by simp [q])⟩
  have hk2 := (n2 k (by simp)).1
  have nd2 := List.nodup_append.mp nd.2
  have ndr := List.nodup_append.mp nd2.2.1
  have hlk : ch_h l 0 ≠ k := by
    rcases ch_h_in l 0 with e | e
    · omega
    · exact fun q => hk.1 (q ▸ e)
  have hx1 : ch_h l 0 ∉ l.tail := by
    match l, nd2.1 with
    | [], _ => simp
    | x :: l, hnd => exact (List.nodup_cons.mp hnd).1
  have hx2 : ch_h l 0 ∉ r := fun q => by
    rcases ch_h_in l 0 with e | e
    · have := (n2 (ch_h l 0) (by simp [q])).1; omega
    · exact nd2.2.2 _ e _ (by simp [q]) rfl
  have hy1 : ch_h r 1 ∉ r.tail := by
    match r, ndr.1 with
    | [], _ => simp
    | x :: r, hnd => exact (List.nodup_cons.mp hnd).1
  have hy2 : ch_h r 1 ∉ l := fun q => by
    rcases ch_h_in r 1 with e | e
    · have := (n2 (ch_h r 1) (by simp [q])).1; omega
    · exact nd2.2.2 _ q _ (by simp [e]) rfl
  have hl0 : l = [] ∨ ch_h l 0 ≠ 0 := by
    match l, n2 with
    | [], _ => exact Or.inl rfl
    | x :: l, n2 => have := (n2 x (by simp)).1; exact Or.inr (by show x ≠ 0; omega)
  have hr0 : r = [] ∨ ch_h r 1 ≠ 1 := by
    match r, n2 with
    | [], _ => exact Or.inl rfl
    | x :: r, n2 => have := (n2 x (by simp)).1; exact Or.inr (by show x ≠ 1; omega)
  have hxf : ch_h l 0 ∉ fs := fun q => by
    rcases ch_h_in l 0 with e | e
    · have := (n2 (ch_h l 0) (by simp [q])).1; omega
    · exact nd2.2.2 (ch_h l 0) e (ch_h l 0) (by simp [q]) rfl
  have hp : (l ++ (r ++ k :: fs)).Perm ((k :: l) ++ (r ++ fs)) := by
    have p1 : (r ++ k :: fs).Perm (k :: (r ++ fs)) := List.perm_middle
    exact (List.Perm.append_left l p1).trans List.perm_middle
  refine ⟨a2, b, ⟨?_, ?_, ?_, ?_⟩, ⟨hp.nodup_iff.mpr n1, fun z hz => n2 z (hp.mem_iff.mp hz), by simp only [List.length_cons] at n3 ⊢; omega⟩, rfl, ?_⟩
  · exact ch_l_bf hy2 (ch_l_nx (fun q => hk.1 (List.mem_of_mem_tail q)) (Or.inr (by omega)) (ch_l_nx hx1 hl0 a3))
  · rw [hp_up_n _ _ hlk, hp_up_s]
  · rw [hp_up_s]
  · exact ch_r_bf hy1 hr0 (ch_r_nx hk.2.1 (ch_r_nx hx2 d))
  · rw [hp_up_s]
    exact ch_f_nx hk.2.2 (ch_f_nx hxf f)
theorem ch_new1 {nx bf : Nat → Nat} {md fe k : Nat} {l r fs : List Nat} (h : ch_I nx bf md fe l r fs) (hk : fe = k) (h0 : 0 < k) : ∃ fs1, fs = k :: fs1 ∧ k ∉ l ++ r ∧ 2 ≤ k ∧ k < md ∧ ch_n md (k :: l) r fs1 ∧ ch_f nx (nx k) fs1 := by
  obtain ⟨-, ⟨n1, n2, n3⟩, f⟩ := h
  match fs, f with
  | [], f => have : fe = 0 := f; omega
  | y :: fs1, ⟨f1, f2⟩ =>
    have e : y = k := by omega
    subst e
    have hp : (l ++ (r ++ y :: fs1)).Perm ((y :: l) ++ (r ++ fs1)) := by
      have p1 : (r ++ y :: fs1).Perm (y :: (r ++ fs1)) := List.perm_middle
      exact (List.Perm.append_left l p1).trans List.perm_middle
    have nd := List.nodup_cons.mp (show (y :: (l ++ (r ++ fs1))).Nodup from hp.nodup_iff.mp n1)
    have hb := n2 y (by simp)
    refine ⟨fs1, rfl, fun q => nd.1 ?_, hb.1, hb.2, ⟨hp.nodup_iff.mp n1, fun z hz => n2 z (hp.mem_iff.mpr hz), by simp only [List.length_cons] at n3 ⊢; omega⟩, f2⟩
    rcases List.mem_append.mp q with q | q
    · simp [q]
    · simp [q]
theorem ch_new2 {nx bf : Nat → Nat} {md fe : Nat} {l r fs : List Nat} (h : ch_I nx bf md fe l r fs) (h0 : ¬ 0 < fe) : md = l.length + r.length + 2 ∧ md ∉ l ++ r ∧ ch_n (md + 1) (md :: l) r [] ∧ ch_f nx fe [] := by
  obtain ⟨-, ⟨n1, n2, n3⟩, f⟩ := h
  have e : fs = [] := by
    match fs, f with
    | [], _ => rfl
    | y :: fs1, ⟨f1, f2⟩ =>
      have := (n2 y (by simp)).1
      omega
  subst e
  simp only [List.append_nil, List.length_nil] at n1 n2 n3
  have hm : md ∉ l ++ r := fun q => by have := (n2 md q).2; omega
  refine ⟨by omega, hm, ⟨?_, fun z hz => ?_, by simp only [List.length_cons, List.length_nil]; omega⟩, show fe = 0 by omega⟩
  · simp only [List.append_nil, List.cons_append]
    exact List.nodup_cons.mpr ⟨hm, n1⟩
  · simp only [List.append_nil, List.cons_append] at hz
    rcases List.mem_cons.mp hz with q | q
    · omega
    · have := n2 z q; omega
