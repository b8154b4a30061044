/-! The object of the class: four words and four normal forms at fixed distances from its address o -/
def nOk (E : hp_E) (H : Heap) (b : Nat) : Prop := ∃ (w c : Nat) (f : Nat → Int) (fr to : Nat) (pw : Int) (X : Nat → Nat → Int) (sf : Nat → Int), nAt E H b w c f fr to pw X sf ∧ w ≤ 8 ∧ c ≤ 32 ∧ bd f ∧ nfS w c f fr to pw X
def vW (w c : Nat) (f : Nat → Int) : Prop := 1 ≤ w ∧ w ≤ 8 ∧ c ≤ 32 ∧ bd f ∧ okw w c f
abbrev oB (o : Nat) : va_E := .inr (2, [.ref (o + 1), .ref (o + 2)])
abbrev oBw (E : hp_E) (o : Nat) : va_E := hp_aq (E.2 2) 4 (fun i => if i < 4 then some (o + 3 + 39 * i) else none)
abbrev oBn (E : hp_E) (o : Nat) : va_E := hp_aq (E.2 3) 4 (fun i => if i < 4 then some (o + 5 + 39 * i) else none)
def bAt (E : hp_E) (H : Heap) (o : Nat) (w c : Nat → Nat) (f : Nat → Nat → Int) : Prop := ca E H o (oB o) ∧ ca E H (o + 1) (oBw E o) ∧ ca E H (o + 2) (oBn E o) ∧ (∀ i, i < 4 → wAt E H (o + 3 + 39 * i) (w i) (c i) (f i) ∧ vW (w i) (c i) (f i)) ∧ ∀ i, i < 4 → nOk E H (o + 5 + 39 * i)
theorem wAt.keep {E : hp_E} {H H1 : Heap} {a w c : Nat} {f : Nat → Int} (h : wAt E H a w c f) (h0 : H1[a]? = H[a]?) (h1 : H1[a + 1]? = H[a + 1]?) : wAt E H1 a w c f := ⟨h.1.keep h0, h.2.keep h1⟩
theorem nAt.keep {E : hp_E} {H H1 : Heap} {b w c : Nat} {f : Nat → Int} {fr to : Nat} {pw : Int} {X : Nat → Nat → Int} {sf : Nat → Int} (h : nAt E H b w c f fr to pw X sf) (hq : ∀ q, b ≤ q → q ≤ b + 36 → H1[q]? = H[q]?) : nAt E H1 b w c f fr to pw X sf :=
  ⟨h.1.keep (hq _ (by omega) (by omega)), h.2.1.keep (hq _ (by omega) (by omega)) (hq _ (by omega) (by omega)), h.2.2.1.keep (hq _ (by omega) (by omega)), h.2.2.2.1.keep (hq _ (by omega) (by omega)), fun i hi => (h.2.2.2.2 i hi).keep (hq _ (by omega) (by omega))⟩
theorem nOk.keep {E : hp_E} {H H1 : Heap} {b : Nat} (h : nOk E H b) (hq : ∀ q, b ≤ q → q ≤ b + 36 → H1[q]? = H[q]?) : nOk E H1 b := by
  obtain ⟨w, c, f, fr, to, pw, X, sf, h1, h2⟩ := h
  exact ⟨w, c, f, fr, to, pw, X, sf, h1.keep hq, h2⟩
/-- one word has changed -/
theorem bAt.word {E : hp_E} {H H1 : Heap} {o s w1 c1 : Nat} {w c : Nat → Nat} {f : Nat → Nat → Int} {f1 : Nat → Int} (h : bAt E H o w c f) (hs : s < 4) (hq : ∀ q, ¬ (q = o + 3 + 39 * s ∨ q = o + 3 + 39 * s + 1) → H1[q]? = H[q]?) (hw : wAt E H1 (o + 3 + 39 * s) w1 c1 f1) (hv : vW w1 c1 f1) : bAt E H1 o (hp_up w s w1) (hp_up c s c1) (hp_up f s f1) := by
  refine ⟨h.1.keep (hq _ (by omega)), h.2.1.keep (hq _ (by omega)), h.2.2.1.keep (hq _ (by omega)), fun i hi => ?_, fun i hi => (h.2.2.2.2 i hi).keep (fun q g1 g2 => hq q (by omega))⟩
  by_cases e : i = s
  · subst e
    rw [hp_up_s, hp_up_s, hp_up_s]
    exact ⟨hw, hv⟩
  · rw [hp_up_n _ _ e, hp_up_n _ _ e, hp_up_n _ _ e]
    exact ⟨(h.2.2.2.1 i hi).1.keep (hq _ (by omega)) (hq _ (by omega)), (h.2.2.2.1 i hi).2⟩
/-- one normal form has changed -/
theorem bAt.nform {E : hp_E} {H H1 : Heap} {o s : Nat} {w c : Nat → Nat} {f : Nat → Nat → Int} (h : bAt E H o w c f) (hs : s < 4) (hq : ∀ q, ¬ (o + 5 + 39 * s ≤ q ∧ q ≤ o + 5 + 39 * s + 36) → H1[q]? = H[q]?) (hn : nOk E H1 (o + 5 + 39 * s)) : bAt E H1 o w c f := by
  refine ⟨h.1.keep (hq _ (by omega)), h.2.1.keep (hq _ (by omega)), h.2.2.1.keep (hq _ (by omega)), fun i hi => ?_, fun i hi => ?_⟩
  · exact ⟨(h.2.2.2.1 i hi).1.keep (hq _ (by omega)) (hq _ (by omega)), (h.2.2.2.1 i hi).2⟩
  · by_cases e : i = s
    · subst e; exact hn
    · exact (h.2.2.2.2 i hi).keep (fun q g1 g2 => hq q (by omega))
theorem bAt.same {E : hp_E} {H : Heap} {o s : Nat} {w c : Nat → Nat} {f : Nat → Nat → Int} (h : bAt E H o w c f) : bAt E H o (hp_up w s (w s)) (hp_up c s (c s)) (hp_up f s (f s)) := by
  have e : ∀ {α : Type} (g : Nat → α), hp_up g s (g s) = g := fun g => by funext i; unfold hp_up; split <;> simp_all
  rw [e, e, e]; exact h
