/-! Making: new cells come at the heap's end -/
def hp_AO (U : State) : Prop := va_AO R_W U ∧ va_AO R_N U ∧ (Cond.arrayOver (.array .int)).before #[] U = true
theorem hp_AO.moved {u U : State} (h : u.vm.Alike U.vm) (q : hp_AO u) : hp_AO U := ⟨va_AO.moved h q.1, va_AO.moved h q.2.1, over_moved (a := #[]) (a' := #[]) h q.2.2⟩
def hp_PN (E : hp_E) (av : List Value) (B : Heap → Prop) : Array Value → State → Prop := fun v U => v = av.toArray ∧ B U.heap ∧ hp_K E U ∧ hp_AO U
theorem hp_preN {E : hp_E} {As : List Value} {B : Heap → Prop} {s : State} {H : Heap} (hK : hp_K E s) (hO : hp_AO s) (hB : B H) : PreS s H (hp_PN E As B) As := ⟨fun a U g mk h => ⟨h.1, h.2.1, h.2.2.1.call hp_nsn g mk a, hp_AO.moved (u := U) (U := U.calling g mk a) (Vm.Alike.refl U.vm) h.2.2.2⟩, fun U hU hW => ⟨rfl, by rw [hU]; exact hB, hK.warm hp_nsn hW, hp_AO.moved hW.alike hO⟩⟩
def hp_Qn (n : Nat) (M : Nat → Prop) (post : Heap → Prop) : Array Value → State → Outcome → State → Prop := fun _ st oc t => oc = .returned none ∧ post t.heap ∧ t.heap.size = st.heap.size + n ∧ ∀ q, q < st.heap.size → ¬ M q → t.heap[q]? = st.heap[q]?
section HN
variable {p : Program} {l : Launch} {e : Env} {R : Room} {s : State} {m : MethodId} {args : Array Value} {below : List Frame} {meth : Method} {c : Code} {H : Heap} {locs : List Loc} {cells slots : Nat} {Q : State → Prop}
variable {cc : ByteArray} {pc : Nat} {ls : Array Slot} {rest st0 : List Value} {D : va_G} {cl : List vw_C} {A M F : Nat → Prop} {a : Nat} {tys : List (ClassId × FieldType)} {H0 : Heap} {av : Array Value}
theorem hp_calln {n mc ms : Nat} {post : Heap → Prop} (hr : CallRun p l e R s m args below meth c H locs cells slots mc ms (F0 m pc ls st0) rest (hp_Qn n M post av) F) (hS : va_S A H0 H locs) (hF : ∀ q, F q → A q) (hM : ∀ q, M q → A q)
    (kk : ∀ (H1 : Heap) (locs1 : List Loc), post H1 → H1.size = H.size + n → (∀ q, q < H.size → ¬ M q → H1[q]? = H[q]?) → va_S A H0 H1 locs1 → W p l e R s m args below meth c H1 locs1 (cells + mc) (slots + ms) Q (F0 m (pc + 3) ls rest)) : W p l e R s m args below meth c H locs cells slots Q (F0 m pc ls st0) := by
  intro T hT X
  obtain ⟨v, st₀, t, T', L, h0, X', hL, e1, ⟨hv, hp, hz, hk⟩, st⟩ := hr T hT X
  cases hv
  rw [h0] at hz hk
  obtain ⟨t2, a1, b1⟩ := kk t.heap (locs ++ L) hp hz hk ⟨by rw [hz]; exact Nat.le_trans hS.1 (by omega), fun q h1 h2 => (hk q (Nat.lt_of_lt_of_le h1 hS.1) (fun z => h2 (hM q z))).trans (hS.2.1 q h1 h2), fun q hq => by
    rcases List.mem_append.mp hq with h | h
    · exact hS.2.2 q h
    · exact hF _ (hL q h)⟩ T' e1 X'
  exact ⟨t2, st t2 a1, b1⟩
theorem hp_vretN (hexec : p.tables.exec = Jvm.exec) (hb : c.code = cc) (hr : meth.sig.returnType = none) (hlocks : meth.locks = false) (hdg : decode cc pc = .ok (.return_, 1)) {n : Nat} {post : Heap → Prop} (hS : va_S F s.heap H locs) (hM : ∀ q, q < s.heap.size → F q → M q) (hZ : H.size = s.heap.size + n) (hp : post H) : W p l e R s m args below meth c H locs cells slots (MQ below (hp_Qn n M post) args s cells slots F) (F0 m pc ls []) :=
  W.vret hexec hb hr (fun t ht _ => ⟨rfl, by rw [ht]; exact hp, by rw [ht]; exact hZ, fun q h1 h2 => by rw [ht]; exact hS.2.1 q h1 (fun z => h2 (hM q h1 z))⟩) hS.2.2 hdg
theorem hp_newz (hexec : p.tables.exec = Jvm.exec) (hb : c.code = cc) (harr : (Cond.arrayClass .boolean).before args s = true) (hK : va_K D cl tys s) (t0 : Nat) {cI : ClassId} (ht : tys[t0]? = some (cI, .boolean)) (hS : va_S A H0 H locs) (hA : ∀ q, H0.size ≤ q → A q) {z : Int} (n : Nat) (hz : z = (n : Int)) (hn : n < 100000000) (hcells : cells + 1 ≤ R.cells) (hslots : slots + n ≤ R.slots) (hdg : decode cc pc = .ok (.newarray .boolean, 2))
    (kk : ∀ (H1 : Heap), va_at D cl (H.size, hp_az cI n (fun _ => false)) H1 → H1.size = H.size + 1 → (∀ q, q < H.size → H1[q]? = H[q]?) → va_S A H0 H1 locs → W p l e R s m args below meth c H1 locs (cells + 1) (slots + n) Q (F0 m (pc + 2) ls (.ref H.size :: rest))) : W p l e R s m args below meth c H locs cells slots Q (F0 m pc ls (.int (iI z) :: rest)) := by
  have hcl := iI_cl hz (show n < 2147483648 by omega)
  refine va_newaK (atype := .boolean) hexec hb harr rfl hdg rfl (fun h => (iI_in hz (Nat.lt_succ_self n) (by omega)) (Or.inl h)) hcl (by show n * 1 ≤ _; omega) hcells hslots rfl fun H1 cA e1 z1 o1 hAr hNm => ?_
  have hc : cA = cI := by
    have h2 : s.vm.findClass ("[" ++ FieldType.boolean.toString) = some cI := (hK.2 t0 _ ht).2
    exact Option.some.inj (hNm.symm.trans h2)
  subst hc
  refine kk H1 ?_ z1 o1 ⟨Nat.le_trans hS.1 (by omega), fun x h1 h2 => (o1 x (Nat.lt_of_lt_of_le h1 hS.1)).trans (hS.2.1 x h1 h2), hS.2.2⟩
  show H1[H.size]? = some (vp_cell _ _)
  rw [vp_cell_i]
  exact e1
theorem hp_newq (hexec : p.tables.exec = Jvm.exec) (hb : c.code = cc) {own C : String} {index : Nat} (hown : s.vm.findClass own = some m.cls) (hclink : (Cond.classLink own index C).before args s = true) (hover : va_AO C s) (hK : va_K D cl tys s) (t0 : Nat) {cA : ClassId} (ht : tys[t0]? = some (cA, .object C)) (hS : va_S A H0 H locs) {z : Int} (n : Nat) (hz : z = (n : Int)) (hn : n < 100000000) (hcells : cells + 1 ≤ R.cells) (hslots : slots + n ≤ R.slots) (hdg : decode cc pc = .ok (.anewarray index, 3))
    (kk : ∀ (H1 : Heap), va_at D cl (H.size, hp_aq cA n (fun _ => none)) H1 → H1.size = H.size + 1 → (∀ q, q < H.size → H1[q]? = H[q]?) → va_S A H0 H1 locs → W p l e R s m args below meth c H1 locs (cells + 1) (slots + n) Q (F0 m (pc + 3) ls (.ref H.size :: rest))) : W p l e R s m args below meth c H locs cells slots Q (F0 m pc ls (.int (iI z) :: rest)) := by
  have hcl := iI_cl hz (show n < 2147483648 by omega)
  refine W.anew hexec hb hown hclink (va_AO.use hover) rfl hdg rfl (fun h => (iI_in hz (Nat.lt_succ_self n) (by omega)) (Or.inl h)) (by rw [hcl]; omega) hcells (by rw [hcl]; exact hslots) fun cA' kA comp f1 f2 f3 f4 => ?_
  rw [hcl]
  have hc : cA' = cA := by
    obtain ⟨_, _, _, _, _, h2⟩ := (hK.2 t0 _ ht).2
    exact Option.some.inj (f1.symm.trans h2)
  subst hc
  generalize hH1 : H.push ({ cls := cA', slots := Array.replicate n .null, vm := .none } : Cell) = H1
  have z1 : H1.size = H.size + 1 := by rw [← hH1, Array.size_push]
  have e1 : H1[H.size]? = some (arrV cA' n (fun _ => .null)) := by rw [← hH1, Array.getElem?_push_size, ← arrV_new]
  have o1 : ∀ q : Nat, q < H.size → H1[q]? = H[q]? := fun q hq => by rw [← hH1, Array.getElem?_push, if_neg (Nat.ne_of_lt hq)]
  refine kk H1 ?_ z1 o1 ⟨Nat.le_trans hS.1 (by omega), fun x h1 h2 => (o1 x (Nat.lt_of_lt_of_le h1 hS.1)).trans (hS.2.1 x h1 h2), hS.2.2⟩
  show H1[H.size]? = some (vp_cell _ _)
  rw [vp_cell_q]
  exact e1
theorem hp_aast (hexec : p.tables.exec = Jvm.exec) (hb : c.code = cc) (hK : va_K D cl tys s) (t0 ci : Nat) {cA : ClassId} {r : vw_C} {n v : Nat} {vs : List Value} {f : Nat → Option Nat} (hP : va_at D cl (a, hp_aq cA n f) H) (hV : va_at D cl (v, .inr (ci, vs)) H) (hS : va_S A H0 H locs) (hAa : A a) (ht : tys[t0]? = some (cA, .object r.1)) (hc : cl[ci]? = some r) (hdg : decode cc pc = .ok (.aastore, 1)) (hn : n < 2147483648) {z : Int} (k : Nat) (hz : z = (k : Int)) (hk : k < n)
    (kk : ∀ (H1 : Heap) (locs1 : List Loc), va_at D cl (a, hp_aq cA n (hp_up f k (some v))) H1 → H1.size = H.size → (∀ q, q ≠ a → H1[q]? = H[q]?) → va_S A H0 H1 locs1 → W p l e R s m args below meth c H1 locs1 cells slots Q (F0 m (pc + 1) ls rest)) : W p l e R s m args below meth c H locs cells slots Q (F0 m pc ls (.ref v :: .int (iI z) :: .ref a :: rest)) := by
  have hi := iI_in hz hk hn
  have hcl := iI_cl hz (show k < 2147483648 by omega)
  obtain ⟨r', hr', cellV, g1, g2, g3, -⟩ := hV
  have hcls := (hK.1 ci r hc).2
  obtain ⟨kA, comp, k1, k2, k3, -⟩ := (hK.2 t0 _ ht).2
  have hcomp : comp = D.1 ci := Option.some.inj (k3.symm.trans hcls.1)
  subst hcomp
  obtain ⟨kC, hkC, -⟩ := hcls.2
  refine W.aast hexec hb hP (fun q h => by cases h) (fun h => by cases h) k1 k2 rfl hkC ⟨fun h => hi (Or.inl h), by show _ < (arrV _ _ _).slots.size; rw [arrV_size, hcl]; exact hk⟩ g1 (fun q h => by rw [g3] at h; cases h) (by rw [g2]; exact hkC) (by rw [g2]; exact va_assign hcls) rfl rfl hdg fun H1 e1 z1 oq => ?_
  refine kk H1 _ ?_ z1 oq (hS.put z1 oq hAa)
  show H1[a]? = some (vp_cell _ _)
  rw [e1, vp_cell_q, vp_cell_q, arrV_store, hcl]
  congr 2
  funext q
  by_cases hq : q = k
  · subst hq
    simp [updV, hp_up, va_rf]
  · simp [updV, hp_up, hq]
theorem hp_outer (c : ClassId) (N h0 : Nat) : ∀ i : Nat, Jvm.Free.Multi.outerC c N h0 i = arrV c N (fun j => va_rf (if j < i then some (h0 + 1 + j) else none))
  | 0 => by
    show ({ cls := c, slots := Array.replicate N .null, vm := .none } : Cell) = _
    rw [arrV_new]
    refine congrArg (arrV c N) (funext fun j => ?_)
    simp [va_rf]
  | i + 1 => by
    show (Jvm.Free.Multi.outerC c N h0 i).setSlot i (.ref (h0 + 1 + i)) = _
    rw [hp_outer c N h0 i, arrV_store]
    refine congrArg (arrV c N) (funext fun j => ?_)
    by_cases e : j = i
    · subst e
      simp [updV, va_rf]
    · by_cases h : j < i
      · simp [updV, e, h, Nat.lt_succ_of_lt h]
      · simp [updV, e, h, show ¬ j < i + 1 by omega]
theorem hp_mna (hexec : p.tables.exec = Jvm.exec) (hb : c.code = cc) {own : String} {index : Nat} (hown : s.vm.findClass own = some m.cls) (hclink : (Cond.classLink own index ("[" ++ (FieldType.array .int).toString)).before args s = true) (hover : (Cond.arrayOver (.array .int)).before args s = true) (harr : (Cond.arrayClass .int).before args s = true) (hK : va_K D cl tys s) (t0 t1 : Nat) {cI cA : ClassId} (ht0 : tys[t0]? = some (cI, .int)) (ht1 : tys[t1]? = some (cA, .array .int)) (hS : va_S A H0 H locs) {y1 y2 : Int} (N K : Nat) (hy1 : y1 = (N : Int)) (hy2 : y2 = (K : Int)) (hN : N < 100000) (hKb : K < 100000) (hcells : cells + (1 + N) ≤ R.cells) (hslots : slots + (N + N * K) ≤ R.slots) (hdg : decode cc pc = .ok (.multianewarray index 2, 4))
    (kk : ∀ (H1 : Heap), va_at D cl (H.size, hp_aq cA N (fun i => if i < N then some (H.size + 1 + i) else none)) H1 → (∀ j, j < N → va_at D cl (H.size + 1 + j, hp_ai cI K (fun _ => 0)) H1) → H1.size = H.size + 1 + N → (∀ q, q < H.size → H1[q]? = H[q]?) → va_S A H0 H1 locs → W p l e R s m args below meth c H1 locs (cells + 1 + N) (slots + N + N * K) Q (F0 m (pc + 4) ls (.ref H.size :: rest))) : W p l e R s m args below meth c H locs cells slots Q (F0 m pc ls (.int (iI y2) :: .int (iI y1) :: rest)) := by
  have e1 := iI_cl hy1 (show N < 2147483648 by omega)
  have e2 := iI_cl hy2 (show K < 2147483648 by omega)
  intro T hT Xs
  obtain ⟨vm₁, cA', comp, -, fA, fC, hO, -, X', step⟩ := Xs.multianewarray2F hexec hown hclink hover harr (g := F0 m pc ls (.int (iI y2) :: .int (iI y1) :: rest)) rfl (by rw [hb]; exact hdg) rfl (fun h => (iI_in hy1 (Nat.lt_succ_self N) (by omega)) (Or.inl h)) (fun h => (iI_in hy2 (Nat.lt_succ_self K) (by omega)) (Or.inl h)) (by rw [e1]; omega) (by rw [e2]; show K * 4 ≤ _; omega) (by rw [e2]; omega) rfl rfl (by rw [e1]; exact hcells) (by rw [e1, e2]; exact hslots)
  rw [e1, e2] at X' step
  have hc1 : cA' = cA := by
    have h2 : s.vm.findClass ("[" ++ (FieldType.array .int).toString) = some cA := (hK.2 t1 _ ht1).2
    exact Option.some.inj (fA.symm.trans h2)
  have hc2 : comp = cI := by
    have h2 : s.vm.findClass ("[" ++ FieldType.int.toString) = some cI := (hK.2 t0 _ ht0).2
    exact Option.some.inj (fC.symm.trans h2)
  subst hc1
  subst hc2
  generalize hF : Jvm.Free.Multi.fill (T.setVm vm₁) cA' comp N K (defaultValue .int) N = G at X' step
  have hTh : (T.setVm vm₁).heap = H := hT
  obtain ⟨f1, f2, -, -⟩ := Jvm.Free.Multi.fill_facts (T.setVm vm₁) cA' comp N K (defaultValue .int) N
  rw [hF, hTh] at f1 f2
  have hold : ∀ x : Nat, x < H.size → G.heap[x]? = H[x]? := fun x hx => by
    have := Jvm.Free.Multi.fill_old (T.setVm vm₁) cA' comp N K (defaultValue .int) (a := x) (by rw [hTh]; exact hx) N
    rw [hF, hTh] at this
    exact this
  have hrow : ∀ j : Nat, j < N → G.heap[H.size + 1 + j]? = some (arrV comp K (fun _ => defaultValue .int)) := fun j hj => by
    have := Jvm.Free.Multi.fill_inner (T.setVm vm₁) cA' comp N K (defaultValue .int) N j hj
    rw [hF, hTh] at this
    rw [this]
    show some ({ cls := comp, slots := Array.replicate K _, vm := .none } : Cell) = _
    rw [arrV_new]
  rw [hp_outer] at f2
  obtain ⟨t2, a1, b1⟩ := kk G.heap (by show G.heap[H.size]? = some (vp_cell _ _); rw [vp_cell_q]; exact f2) (fun j hj => by show G.heap[H.size + 1 + j]? = some (vp_cell _ _); rw [vp_cell_i]; exact hrow j hj) f1 hold ⟨by rw [f1]; have := hS.1; omega, fun x h1 h2 => (hold x (Nat.lt_of_lt_of_le h1 hS.1)).trans (hS.2.1 x h1 h2), hS.2.2⟩ G rfl X'
  refine ⟨t2, step t2 ?_, b1⟩
  have e : T.heap.size = H.size := by rw [hT]
  rw [e]
  exact a1
end HN
