/-! Words stay words -/
theorem bAt.word0 {E : hp_E} {H H1 : Heap} {o s : Nat} {w c : Nat → Nat} {f : Nat → Nat → Int} (h : bAt E H o w c f) (hs : s < 4) (hq : ∀ q, ¬ (q = o + 3 + 39 * s ∨ q = o + 3 + 39 * s + 1) → H1[q]? = H[q]?) (hw : wAt E H1 (o + 3 + 39 * s) (w s) (c s) (f s)) : bAt E H1 o w c f := by
  have := h.word hs hq hw (h.2.2.2.1 s hs).2
  have e : ∀ {α : Type} (g : Nat → α), hp_up g s (g s) = g := fun g => by funext i; unfold hp_up; split <;> simp_all
  rwa [e, e, e] at this
theorem vW_app {w c : Nat} {f : Nat → Int} {x : Int} (h : vW w c f) (h0 : x ≠ 0) (h1 : -(w : Int) < x) (h2 : x < (w : Int)) (h3 : c < 32) : vW w (c + 1) (hp_up f c x) := by
  obtain ⟨g1, g2, g3, g4, g5⟩ := h
  refine ⟨g1, g2, by omega, bd_up g4 (by omega) (by omega), fun k hk => ?_⟩
  by_cases e : k = c
  · subst e; rw [hp_up_s]; omega
  · rw [hp_up_n _ _ e]; exact g5 k (by omega)
theorem vW_cpy {w c : Nat} {f g : Nat → Int} (h : vW w c f) (hg : bd g) : vW w c (va_cpy f g 0 0 c) := by
  obtain ⟨g1, g2, g3, g4, g5⟩ := h
  refine ⟨g1, g2, g3, bd_cpy g4 hg, fun k hk => ?_⟩
  rw [pk_cpy_in (Nat.zero_le k) (by omega), show 0 + (k - 0) = k by omega]
  exact g5 k hk
theorem bw_iv_all {f : Nat → Int} {c k : Nat} (h : k < c) : bw_iv f c c k = -f (c - 1 - k) := by unfold bw_iv; rw [if_pos ⟨h, Or.inl h⟩]
theorem vW_iv {w c : Nat} {f : Nat → Int} (h : vW w c f) : vW w c (bw_iv f c c) := by
  obtain ⟨g1, g2, g3, g4, g5⟩ := h
  refine ⟨g1, g2, g3, bw_iv_bd g4, fun k hk => ?_⟩
  rw [bw_iv_all hk]
  have := g5 (c - 1 - k) (by omega)
  omega
theorem vW_red {w c : Nat} {f g : Nat → Int} (h : vW w c f) (hg : bd g) (hs : bw_st g (bw_rs f c).length (bw_rs f c)) : vW w (bw_rs f c).length g := by
  obtain ⟨g1, g2, g3, g4, g5⟩ := h
  refine ⟨g1, g2, Nat.le_trans (bw_rs_len f c) g3, hg, fun k hk => ?_⟩
  rw [hs.2 k hk]
  have hm : (bw_rs f c).getD ((bw_rs f c).length - 1 - k) 0 ∈ bw_rs f c := by
    rw [List.getD_eq_getElem?_getD, List.getElem?_eq_getElem (by omega)]
    exact List.getElem_mem _
  obtain ⟨j, hj, e⟩ := bw_rs_mem hm
  rw [e]
  exact g5 j hj
theorem vW_ends {w c n : Nat} {f : Nat → Int} (h : vW w c f) (hn : 2 * n ≤ c) : vW w (c - 2 * n) (va_cpy f f n 0 (c - 2 * n)) := by
  obtain ⟨g1, g2, g3, g4, g5⟩ := h
  refine ⟨g1, g2, by omega, bd_cpy g4 g4, fun k hk => ?_⟩
  rw [pk_cpy_in (Nat.zero_le k) (by omega)]
  exact g5 _ (by omega)
theorem bw_ftb {f : Nat → Int} {c k : Nat} (hk : k < c) : hp_up (va_cpy f f 1 0 (c - 1)) (c - 1) (f 0) k = if k + 1 < c then f (k + 1) else f 0 := by
  by_cases e : k = c - 1
  · rw [e, hp_up_s, if_neg (by omega)]
  · rw [hp_up_n _ _ e, if_pos (by omega), pk_cpy_in (Nat.zero_le k) (by omega)]
    congr 1; omega
theorem bw_ltf {f : Nat → Int} {c k : Nat} (hk : k < c) : hp_up (va_cpy f f 0 1 (c - 1)) 0 (f (c - 1)) k = if k = 0 then f (c - 1) else f (k - 1) := by
  by_cases e : k = 0
  · rw [e, hp_up_s, if_pos rfl]
  · rw [hp_up_n _ _ e, if_neg e, pk_cpy_in (by omega) (by omega)]
    congr 1; omega
theorem vW_ftb {w c : Nat} {f : Nat → Int} (h : vW w c f) (hc : 0 < c) : vW w c (hp_up (va_cpy f f 1 0 (c - 1)) (c - 1) (f 0)) := by
  obtain ⟨g1, g2, g3, g4, g5⟩ := h
  refine ⟨g1, g2, g3, bd_up (bd_cpy g4 g4) (g4 0).1 (g4 0).2, fun k hk => ?_⟩
  rw [bw_ftb hk]
  split
  · exact g5 _ (by omega)
  · exact g5 _ (by omega)
theorem vW_ltf {w c : Nat} {f : Nat → Int} (h : vW w c f) (hc : 0 < c) : vW w c (hp_up (va_cpy f f 0 1 (c - 1)) 0 (f (c - 1))) := by
  obtain ⟨g1, g2, g3, g4, g5⟩ := h
  refine ⟨g1, g2, g3, bd_up (bd_cpy g4 g4) (g4 _).1 (g4 _).2, fun k hk => ?_⟩
  rw [bw_ltf hk]
  split
  · exact g5 _ (by omega)
  · exact g5 _ (by omega)
theorem vW_sw {w c k : Nat} {f : Nat → Int} (h : vW w c f) (hk : k + 1 < c) : vW w c (bw_sw f k) := by
  obtain ⟨g1, g2, g3, g4, g5⟩ := h
  refine ⟨g1, g2, g3, fun j => by rw [bn_sw]; exact g4 _, fun j hj => ?_⟩
  rw [bn_sw]
  have := gs_sw_cases k j
  exact g5 _ (by omega)
theorem bw_sgn_ne {z : Int} (h : z ≠ 0) : bw_sgn z = 1 ∨ bw_sgn z = -1 := by
  unfold bw_sgn
  split
  · exact Or.inl rfl
  · rw [if_pos (by omega)]; exact Or.inr rfl
theorem vW_pas {w c k : Nat} {f : Nat → Int} (h : vW w c f) (hk : k + 2 < c) : vW w c (bw_pas f k) := by
  obtain ⟨g1, g2, g3, g4, g5⟩ := h
  have a0 := g5 k (by omega)
  have a1 := g5 (k + 1) (by omega)
  have a2 := g5 (k + 2) (by omega)
  have s0 := bw_sgn_ne a0.1
  have s1 := bw_sgn_ne a1.1
  have s2 := bw_sgn_ne a2.1
  have e0 : ∀ (x : Int) (v : Nat), (x = 1 ∨ x = -1) → v ≠ 0 → v < w → x * (v : Int) ≠ 0 ∧ (x * (v : Int)).natAbs < w ∧ -8 < x * (v : Int) ∧ x * (v : Int) < 8 := by
    intro x v hx hv hw
    rcases hx with rfl | rfl <;> omega
  have b1 := e0 _ _ s2 (show (f (k + 1)).natAbs ≠ 0 by omega) a1.2
  have b2 := e0 _ _ s1 (show (f k).natAbs ≠ 0 by omega) a0.2
  have b3 := e0 _ _ s0 (show (f (k + 1)).natAbs ≠ 0 by omega) a1.2
  unfold bw_pas
  refine ⟨g1, g2, g3, bd_up (bd_up (bd_up g4 b1.2.2.1 b1.2.2.2) b2.2.2.1 b2.2.2.2) b3.2.2.1 b3.2.2.2, fun j hj => ?_⟩
  unfold hp_up
  split
  · exact ⟨b3.1, b3.2.1⟩
  · split
    · exact ⟨b2.1, b2.2.1⟩
    · split
      · exact ⟨b1.1, b1.2.1⟩
      · exact g5 j hj
theorem vW_grow {w c : Nat} {f : Nat → Int} {x : Int} (h : vW w c f) (hx : x = 1 ∨ x = -1) (hw : w < 8) (hc : c < 32) : vW (w + 1) (c + 1) (hp_up f c (x * (w : Int))) := by
  obtain ⟨g1, g2, g3, g4, g5⟩ := h
  have e : x * (w : Int) = w ∨ x * (w : Int) = -w := by rcases hx with rfl | rfl <;> omega
  refine ⟨by omega, by omega, by omega, bd_up g4 (by omega) (by omega), fun k hk => ?_⟩
  by_cases q : k = c
  · subst q; rw [hp_up_s]; omega
  · rw [hp_up_n _ _ q]
    have := g5 k (by omega)
    omega
theorem vW_drop {w c : Nat} {f : Nat → Int} (h : vW w c f) (hc : 0 < c) (h1 : (f (c - 1)).natAbs + 1 = w) (h2 : ∀ i, i < c - 1 → (f i).natAbs + 1 ≠ w) : vW (w - 1) (c - 1) f := by
  obtain ⟨g1, g2, g3, g4, g5⟩ := h
  have := g5 (c - 1) (by omega)
  refine ⟨by omega, by omega, by omega, g4, fun k hk => ?_⟩
  have := g5 k (by omega)
  have := h2 k hk
  omega
section HH
variable {p : Program} {l : Launch} {e : Env} {R : Room} {s : State} {m : MethodId} {args : Array Value} {below : List Frame} {meth : Method} {c : Code} {H : Heap} {locs : List Loc}
variable {cc : ByteArray} {pc : Nat} {ls : Array Slot} {M : Nat → Prop}
theorem hp_aretQ (hexec : p.tables.exec = Jvm.exec) (hb : c.code = cc) {nm : String} (hr : meth.sig.returnType = some (.object nm)) (hlocks : meth.locks = false) (hdg : decode cc pc = .ok (.areturn, 1)) {post : Nat → Heap → Prop} {a : Nat} (hS : va_S M s.heap H locs) (hZ : H.size = s.heap.size) (hp : post a H) : W p l e R s m args below meth c H locs 0 0 (MQ below (hp_Qr M post) args s 0 0 M) (F0 m pc ls [.ref a]) :=
  W.aret hexec hb hr (Or.inl ⟨nm, rfl⟩) (Or.inr ⟨a, rfl⟩) (fun t ht _ => ⟨a, rfl, by rw [ht]; exact hp, by rw [ht]; exact hZ, fun q h => by rw [ht]; exact hp_fr hS hZ q h⟩) hS.2.2 hdg
end HH
theorem hp_up_up {α : Type} (g : Nat → α) (k : Nat) (v v' : α) : hp_up (hp_up g k v) k v' = hp_up g k v' := by
  funext j
  unfold hp_up
  split <;> rfl
theorem hp_up_self {α : Type} (g : Nat → α) (k : Nat) : hp_up g k (g k) = g := by
  funext i
  unfold hp_up
  split <;> simp_all
theorem nfS_rng {w c : Nat} {f : Nat → Int} {fr to : Nat} {pw : Int} {X : Nat → Nat → Int} (h : nfS w c f fr to pw X) : fr ≤ to ∧ to ≤ c := by
  obtain ⟨A, h1, -⟩ := h
  exact h1.2.2.2.2.2
theorem nfS_X {w c : Nat} {f : Nat → Int} {fr to : Nat} {pw : Int} {X : Nat → Nat → Int} (hok : okw w c f) (h : nfS w c f fr to pw X) {i p : Nat} (hi : i < to) (h1 : 1 ≤ p) (h2 : p ≤ w) : 1 ≤ X i p ∧ X i p ≤ w := by
  obtain ⟨A, ⟨⟨d, g1⟩, -⟩, g2, -⟩ := h
  have o := nf_ok g1 (bn_X_ok hok) i
  have r := gs_rng o h1 h2
  have e := g2 i hi p h1 h2
  omega
