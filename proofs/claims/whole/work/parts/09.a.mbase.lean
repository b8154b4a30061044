/-! The reference: boolean arrays, and its object -/
abbrev hp_az (cZ : ClassId) (n : Nat) (f : Nat → Bool) : va_E := .inl (cZ, n, .inl (fun k => iI (bI (f k))))
section HZ
variable {p : Program} {l : Launch} {e : Env} {R : Room} {s : State} {m : MethodId} {args : Array Value} {below : List Frame} {meth : Method} {c : Code} {H : Heap} {locs : List Loc} {cells slots : Nat} {Q : State → Prop}
variable {cc : ByteArray} {pc : Nat} {ls : Array Slot} {rest : List Value} {D : va_G} {cl : List vw_C} {A : Nat → Prop} {a : Nat} {tys : List (ClassId × FieldType)} {H0 : Heap}
theorem hp_zald (hexec : p.tables.exec = Jvm.exec) (hb : c.code = cc) (hK : va_K D cl tys s) (t0 : Nat) {cZ : ClassId} {n : Nat} {f : Nat → Bool} (hP : va_at D cl (a, hp_az cZ n f) H) (ht : tys[t0]? = some (cZ, .boolean)) (hdg : decode cc pc = .ok (.baload, 1)) (hn : n < 2147483648) {z : Int} (k : Nat) (hz : z = (k : Int)) (hk : k < n)
    (kk : W p l e R s m args below meth c H locs cells slots Q (F0 m (pc + 1) ls (.int (iI (bI (f k))) :: rest))) : W p l e R s m args below meth c H locs cells slots Q (F0 m pc ls (.int (iI z) :: .ref a :: rest)) := by
  refine va_zald hexec hb hK (hp_one hP) 0 t0 rfl ht (iI_in hz hk hn) hdg ?_
  rw [iI_cl hz (by omega)]
  exact kk
theorem hp_zast (hexec : p.tables.exec = Jvm.exec) (hb : c.code = cc) (hK : va_K D cl tys s) (t0 : Nat) {cZ : ClassId} {n : Nat} {f : Nat → Bool} (hP : va_at D cl (a, hp_az cZ n f) H) (hS : va_S A H0 H locs) (hA : A a) (ht : tys[t0]? = some (cZ, .boolean)) (hdg : decode cc pc = .ok (.bastore, 1)) (hn : n < 2147483648) {z : Int} (b : Bool) (k : Nat) (hz : z = (k : Int)) (hk : k < n)
    (kk : ∀ (H1 : Heap) (locs1 : List Loc), va_at D cl (a, hp_az cZ n (hp_up f k b)) H1 → H1.size = H.size → (∀ q, q ≠ a → H1[q]? = H[q]?) → va_S A H0 H1 locs1 → W p l e R s m args below meth c H1 locs1 cells slots Q (F0 m (pc + 1) ls rest)) : W p l e R s m args below meth c H locs cells slots Q (F0 m pc ls (.int (iI (bI b)) :: .int (iI z) :: .ref a :: rest)) := by
  have hi := iI_in hz hk hn
  have hc := iI_cl hz (show k < 2147483648 by omega)
  refine W.zast hexec hb hP ((hK.2 t0 _ ht).1 n (fun j => .int (iI (bI (f j))))) (fun q => by cases q) (by show ¬ (iI z < 0 ∨ (arrV _ _ _).slots.size ≤ _); rw [arrV_size]; exact hi) rfl rfl hdg fun H1 e1 z1 oq => ?_
  refine kk H1 _ ?_ z1 oq (hS.put z1 oq hA)
  show H1[a]? = some (vp_cell _ _)
  have hnar : narrow .boolean (.int (iI (bI b))) = .int (iI (bI b)) := by cases b <;> rfl
  rw [e1, hnar, vp_cell_i, vp_cell_i, arrV_store, hc]
  congr 2
  funext q
  by_cases hq : q = k
  · subst hq
    simp [updV, hp_up]
  · simp [updV, hp_up, hq]
end HZ
theorem nn_up (w : Nat → Nat) (t n : Nat) : hp_up (fun k => (w k : Int)) t (n : Int) = fun k => ((hp_up w t n k : Nat) : Int) := by
  funext k
  unfold hp_up
  split <;> rfl
abbrev oM (m : Nat) (th md fe ps : Int) : va_E := .inr (3, [.int (iI th), .ref (m + 1), .ref (m + 2), .ref (m + 3), .ref (m + 4), .ref (m + 5), .ref (m + 6), .int (iI md), .int (iI fe), .int (iI ps), .ref (m + 7), .ref (m + 8), .ref (m + 9), .ref (m + 10), .ref (m + 11), .ref (m + 12), .ref (m + 13), .ref (m + 14), .ref (m + 15)])
/-- the words of the reference: strands, sizes, letters (slot i's letter k at 32 i + k), and what is known -/
def mW (E : hp_E) (H : Heap) (m : Nat) (th md fe ps : Int) (w c : Nat → Nat) (g : Nat → Int) (kz : Nat → Bool) : Prop := ca E H m (oM m th md fe ps) ∧ ca E H (m + 1) (ai E 4 (fun k => (w k : Int))) ∧ ca E H (m + 2) (ai E 4 (fun k => (c k : Int))) ∧ ca E H (m + 3) (ai E 128 g) ∧ ca E H (m + 10) (hp_az (E.2 1) 4 kz)
