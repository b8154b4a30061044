/-! Calls: of a method that changes nothing, and of one that writes cells of M alone. -/
abbrev hp_Si (r : Int) : Array Value → State → Outcome → State → Prop := vp_Si (fun x => x = iI r)
def hp_Qv (M : Nat → Prop) (post : Heap → Prop) : Array Value → State → Outcome → State → Prop := fun _ st oc t => oc = .returned none ∧ post t.heap ∧ t.heap.size = st.heap.size ∧ ∀ q, ¬ M q → t.heap[q]? = st.heap[q]?
def hp_Qi (M : Nat → Prop) (post : Int → Heap → Prop) : Array Value → State → Outcome → State → Prop := fun _ st oc t => ∃ r : Int, oc = .returned (some (.int (iI r))) ∧ post r t.heap ∧ t.heap.size = st.heap.size ∧ ∀ q, ¬ M q → t.heap[q]? = st.heap[q]?
def hp_Qr (M : Nat → Prop) (post : Nat → Heap → Prop) : Array Value → State → Outcome → State → Prop := fun _ st oc t => ∃ r : Nat, oc = .returned (some (.ref r)) ∧ post r t.heap ∧ t.heap.size = st.heap.size ∧ ∀ q, ¬ M q → t.heap[q]? = st.heap[q]?
def hp_KK (D : va_G) (cl : List vw_C) (tys : List (ClassId × FieldType)) (ns : List Cond) (U : State) : Prop := va_K D cl tys U ∧ ∀ w ∈ ns, va_Nw w U
def hp_nest (ns : List Cond) : Prop := ∀ w ∈ ns, ∃ (a : String) (i : Nat) (x : MethodName) (h : String), w = Cond.methodLinkNest a i x h
theorem hp_KK.warm {D : va_G} {cl : List vw_C} {tys : List (ClassId × FieldType)} {ns : List Cond} (hn : hp_nest ns) {s U : State} (hW : s.WarmedH U.vm) (h : hp_KK D cl tys ns s) : hp_KK D cl tys ns U := ⟨va_K.moved hW.alike h.1, fun w hw => by
  obtain ⟨a, i, x, y, rfl⟩ := hn w hw
  exact va_Nw.warmM hW (h.2 _ hw)⟩
theorem hp_KK.call {D : va_G} {cl : List vw_C} {tys : List (ClassId × FieldType)} {ns : List Cond} (hn : hp_nest ns) {U : State} (h : hp_KK D cl tys ns U) (g : JFrame) (mk : MethodId) (a : Array Value) : hp_KK D cl tys ns (U.calling g mk a) := ⟨va_K.moved (u := U) (U := U.calling g mk a) (Vm.Alike.refl U.vm) h.1, fun w hw => by
  obtain ⟨a, i, x, y, rfl⟩ := hn w hw
  exact va_Nw.same rfl (u := U) rfl (h.2 _ hw)⟩
/-- the start of a contract: the arguments, what lies in the heap, the tables -/
def hp_Pc (D : va_G) (cl : List vw_C) (tys : List (ClassId × FieldType)) (ns : List Cond) (av : List Value) (B : Heap → Prop) : Array Value → State → Prop := fun v U => v = av.toArray ∧ B U.heap ∧ hp_KK D cl tys ns U
theorem hp_blind {D : va_G} {cl : List vw_C} {tys : List (ClassId × FieldType)} {ns : List Cond} (hn : hp_nest ns) {av : List Value} {B : Heap → Prop} : FrameBlind (hp_Pc D cl tys ns av B) := fun a _ g mk h => ⟨h.1, h.2.1, h.2.2.call hn g mk a⟩
theorem hp_preS {D : va_G} {cl : List vw_C} {tys : List (ClassId × FieldType)} {ns : List Cond} (hn : hp_nest ns) {As : List Value} {B : Heap → Prop} {s : State} {H : Heap} (hK : hp_KK D cl tys ns s) (hB : B H) : PreS s H (hp_Pc D cl tys ns As B) As := ⟨hp_blind hn, fun U hU hW => ⟨rfl, by rw [hU]; exact hB, hK.warm hn hW⟩⟩
theorem hp_preV {D : va_G} {cl : List vw_C} {tys : List (ClassId × FieldType)} {ns : List Cond} (hn : hp_nest ns) {b ci : Nat} {fs : List Value} {q : vw_C} {As : List Value} {B : Heap → Prop} {s : State} {H : Heap} (hK : hp_KK D cl tys ns s) (hc : cl[ci]? = some q) (hP : va_at D cl (b, .inr (ci, fs)) H) (hB : B H) : PreV s H q.1 b (hp_Pc D cl tys ns (.ref b :: As) B) As := ⟨hp_blind hn, va_recv hK.1 (hp_one hP) hc (q0 := 0) rfl, fun U hU hW => ⟨rfl, by rw [hU]; exact hB, hK.warm hn hW⟩⟩
section HC
variable {p : Program} {l : Launch} {e : Env} {R : Room} {s : State} {m : MethodId} {args : Array Value} {below : List Frame} {meth : Method} {c : Code} {H : Heap} {locs : List Loc} {cells slots : Nat} {Q : State → Prop}
variable {pc : Nat} {ls : Array Slot} {rest st0 : List Value} {A M : Nat → Prop} {H0 : Heap} {a : Array Value}
theorem hp_callS {r : Int} (hr : CallRun p l e R s m args below meth c H locs cells slots 0 0 (F0 m pc ls st0) rest (hp_Si r a) (fun _ => False))
    (kk : W p l e R s m args below meth c H locs cells slots Q (F0 m (pc + 3) ls (.int (iI r) :: rest))) : W p l e R s m args below meth c H locs cells slots Q (F0 m pc ls st0) := vp_callSi hr (fun x hx => by rw [hx]; exact kk)
theorem hp_callv {post : Heap → Prop} (hr : CallRun p l e R s m args below meth c H locs cells slots 0 0 (F0 m pc ls st0) rest (hp_Qv M post a) M) (hS : va_S A H0 H locs) (hM : ∀ q, M q → A q)
    (kk : ∀ (H1 : Heap) (locs1 : List Loc), post H1 → H1.size = H.size → (∀ q, ¬ M q → H1[q]? = H[q]?) → va_S A H0 H1 locs1 → W p l e R s m args below meth c H1 locs1 cells slots Q (F0 m (pc + 3) ls rest)) : W p l e R s m args below meth c H locs cells slots Q (F0 m pc ls st0) := by
  intro T hT X
  obtain ⟨v, st₀, t, T', L, h0, X', hL, e1, ⟨hv, hp, hz, hk⟩, st⟩ := hr T hT X
  cases hv
  rw [h0] at hz hk
  obtain ⟨t2, a1, b1⟩ := kk t.heap (locs ++ L) hp hz hk ⟨by rw [hz]; exact hS.1, fun q _ h2 => (hk q (fun z => h2 (hM q z))).trans (hS.2.1 q (by assumption) h2), fun q hq => by
    rcases List.mem_append.mp hq with h | h
    · exact hS.2.2 q h
    · exact hM _ (hL q h)⟩ T' e1 X'
  exact ⟨t2, st t2 a1, b1⟩
theorem hp_calli {post : Int → Heap → Prop} (hr : CallRun p l e R s m args below meth c H locs cells slots 0 0 (F0 m pc ls st0) rest (hp_Qi M post a) M) (hS : va_S A H0 H locs) (hM : ∀ q, M q → A q)
    (kk : ∀ (r : Int) (H1 : Heap) (locs1 : List Loc), post r H1 → H1.size = H.size → (∀ q, ¬ M q → H1[q]? = H[q]?) → va_S A H0 H1 locs1 → W p l e R s m args below meth c H1 locs1 cells slots Q (F0 m (pc + 3) ls (.int (iI r) :: rest))) : W p l e R s m args below meth c H locs cells slots Q (F0 m pc ls st0) := by
  intro T hT X
  obtain ⟨v, st₀, t, T', L, h0, X', hL, e1, ⟨r, hv, hp, hz, hk⟩, st⟩ := hr T hT X
  cases hv
  rw [h0] at hz hk
  obtain ⟨t2, a1, b1⟩ := kk r t.heap (locs ++ L) hp hz hk ⟨by rw [hz]; exact hS.1, fun q _ h2 => (hk q (fun z => h2 (hM q z))).trans (hS.2.1 q (by assumption) h2), fun q hq => by
    rcases List.mem_append.mp hq with h | h
    · exact hS.2.2 q h
    · exact hM _ (hL q h)⟩ T' e1 X'
  exact ⟨t2, st t2 a1, b1⟩
theorem hp_callr {post : Nat → Heap → Prop} (hr : CallRun p l e R s m args below meth c H locs cells slots 0 0 (F0 m pc ls st0) rest (hp_Qr M post a) M) (hS : va_S A H0 H locs) (hM : ∀ q, M q → A q)
    (kk : ∀ (r : Nat) (H1 : Heap) (locs1 : List Loc), post r H1 → H1.size = H.size → (∀ q, ¬ M q → H1[q]? = H[q]?) → va_S A H0 H1 locs1 → W p l e R s m args below meth c H1 locs1 cells slots Q (F0 m (pc + 3) ls (.ref r :: rest))) : W p l e R s m args below meth c H locs cells slots Q (F0 m pc ls st0) := by
  intro T hT X
  obtain ⟨v, st₀, t, T', L, h0, X', hL, e1, ⟨r, hv, hp, hz, hk⟩, st⟩ := hr T hT X
  cases hv
  rw [h0] at hz hk
  obtain ⟨t2, a1, b1⟩ := kk r t.heap (locs ++ L) hp hz hk ⟨by rw [hz]; exact hS.1, fun q _ h2 => (hk q (fun z => h2 (hM q z))).trans (hS.2.1 q (by assumption) h2), fun q hq => by
    rcases List.mem_append.mp hq with h | h
    · exact hS.2.2 q h
    · exact hM _ (hL q h)⟩ T' e1 X'
  exact ⟨t2, st t2 a1, b1⟩
end HC
/-- the end of a method that changes nothing -/
theorem hp_endS {s t : State} {as : Array Value} {r : Int} (ht : t.heap = s.heap) : hp_Si r as s (.returned (some (.int (iI r)))) t := ⟨iI r, rfl, rfl, ht⟩
