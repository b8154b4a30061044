/-! The words of this claim: what the tables give, array classes, a cell at an address, ends of methods. -/
abbrev hp_E : Type := va_G × (Nat → ClassId)
def hp_tys (E : hp_E) : List (ClassId × FieldType) := [(E.2 0, .int), (E.2 1, .boolean), (E.2 2, .object R_W), (E.2 3, .object R_N), (E.2 4, .array .int)]
def hp_ns : List Cond := [Cond.methodLinkNest R_B 21 y_W_init R_B, Cond.methodLinkNest R_B 22 y_N_init R_B, Cond.methodLinkNest R_N 11 y_W_init R_B, Cond.methodLinkNest R_W 59 y_B_swapAt R_B, Cond.methodLinkNest R_N 80 y_B_swapAt R_B]
theorem hp_nsn : hp_nest hp_ns := by
  intro w hw
  simp only [hp_ns, List.mem_cons, List.not_mem_nil, or_false] at hw
  rcases hw with rfl | rfl | rfl | rfl | rfl <;> exact ⟨_, _, _, _, rfl⟩
theorem ns_B_21 : Cond.methodLinkNest R_B 21 y_W_init R_B ∈ hp_ns := List.mem_of_getElem? (i := 0) rfl
theorem ns_B_22 : Cond.methodLinkNest R_B 22 y_N_init R_B ∈ hp_ns := List.mem_of_getElem? (i := 1) rfl
theorem ns_N_11 : Cond.methodLinkNest R_N 11 y_W_init R_B ∈ hp_ns := List.mem_of_getElem? (i := 2) rfl
theorem ns_W_59 : Cond.methodLinkNest R_W 59 y_B_swapAt R_B ∈ hp_ns := List.mem_of_getElem? (i := 3) rfl
theorem ns_N_80 : Cond.methodLinkNest R_N 80 y_B_swapAt R_B ∈ hp_ns := List.mem_of_getElem? (i := 4) rfl
abbrev hp_K (E : hp_E) (U : State) : Prop := hp_KK E.1 classes (hp_tys E) hp_ns U
abbrev hp_P (E : hp_E) (av : List Value) (B : Heap → Prop) : Array Value → State → Prop := hp_Pc E.1 classes (hp_tys E) hp_ns av B
abbrev ca (E : hp_E) (H : Heap) (a : Nat) (x : va_E) : Prop := va_at E.1 classes (a, x) H
abbrev ai (E : hp_E) (n : Nat) (f : Nat → Int) : va_E := hp_ai (E.2 0) n f
theorem ca.keep {E : hp_E} {H H1 : Heap} {a : Nat} {x : va_E} (h : ca E H a x) (hq : H1[a]? = H[a]?) : ca E H1 a x := va_at.kept h hq
theorem G0_in {w : Cond} (h : w ∈ G0) : w ∈ G0 ∧ ((w.onTables && w.keeps) = true ∨ ∃ ty, w = .arrayClass ty) := ⟨h, good_of_word (G0_good w h)⟩
theorem hp_goodC {y : MethodName} {b : ByteArray} {n : Nat} {ret : Option FieldType} (h : Cond.code y b n ret ∈ G0) : GoodIn G0 (Cond.code y b n ret :: G0) := fun w hw => by
  rcases List.mem_cons.mp hw with rfl | h2
  · exact G0_in h
  · exact G0_in h2
theorem hp_goodV {own C : String} {ix : Nat} {y : MethodName} {b : ByteArray} {n : Nat} {ret : Option FieldType} (h1 : Cond.methodLink own ix y ∈ G0) (h2 : Cond.instanceMethod y ∈ G0) (h3 : Cond.selects C y y ∈ G0) (h4 : Cond.initialized C ∈ G0) (h5 : Cond.code y b n ret ∈ G0) : GoodIn G0 (wsV own ix C y (Cond.code y b n ret :: G0)) := by
  intro w hw
  unfold wsV at hw
  rcases List.mem_append.mp hw with h | h
  · simp only [List.mem_cons, List.not_mem_nil, or_false] at h
    rcases h with rfl | rfl | rfl | rfl
    · exact G0_in h1
    · exact G0_in h2
    · exact G0_in h3
    · exact G0_in h4
  · exact hp_goodC h5 w h
theorem hp_goodS {own : String} {ix : Nat} {y : MethodName} {b : ByteArray} {n : Nat} {ret : Option FieldType} (h1 : Cond.methodLink own ix y ∈ G0) (h2 : Cond.static y ∈ G0) (h3 : Cond.initialized own ∈ G0) (h5 : Cond.code y b n ret ∈ G0) : GoodIn G0 (wsS own ix y (Cond.code y b n ret :: G0)) := by
  intro w hw
  unfold wsS at hw
  rcases List.mem_append.mp hw with h | h
  · simp only [List.mem_cons, List.not_mem_nil, or_false] at h
    rcases h with rfl | rfl | rfl
    · exact G0_in h1
    · exact G0_in h2
    · exact G0_in h3
  · exact hp_goodC h5 w h
theorem hp_goodT {own : String} {ix : Nat} {y : MethodName} {b : ByteArray} {n : Nat} {ret : Option FieldType} (h1 : Cond.methodLink own ix y ∈ G0) (h2 : Cond.static y ∈ G0) (h3 : Cond.initialized y.cls ∈ G0) (h5 : Cond.code y b n ret ∈ G0) : GoodIn G0 (va_wsS own ix y (Cond.code y b n ret :: G0)) := by
  intro w hw
  unfold va_wsS at hw
  rcases List.mem_append.mp hw with h | h
  · simp only [List.mem_cons, List.not_mem_nil, or_false] at h
    rcases h with rfl | rfl | rfl
    · exact G0_in h1
    · exact G0_in h2
    · exact G0_in h3
  · exact hp_goodC h5 w h
theorem hp_fr {M : Nat → Prop} {H0 H : Heap} {locs : List Loc} (hS : va_S M H0 H locs) (hZ : H.size = H0.size) (q : Nat) (h : ¬ M q) : H[q]? = H0[q]? := by
  by_cases hq : q < H0.size
  · exact hS.2.1 q hq h
  · rw [Array.getElem?_eq_none (by omega), Array.getElem?_eq_none (by omega)]
section HD
variable {p : Program} {l : Launch} {e : Env} {R : Room} {s : State} {m : MethodId} {args : Array Value} {below : List Frame} {meth : Method} {c : Code} {H : Heap} {locs : List Loc}
variable {cc : ByteArray} {pc : Nat} {ls : Array Slot} {M : Nat → Prop}
theorem hp_iretS (hexec : p.tables.exec = Jvm.exec) (hb : c.code = cc) (hr : meth.sig.returnType = some .int) (hlocks : meth.locks = false) (hdg : decode cc pc = .ok (.ireturn, 1)) {z r : Int} (heq : z = r) : W p l e R s m args below meth c s.heap [] 0 0 (MQ below (hp_Si r) args s 0 0 (fun _ => False)) (F0 m pc ls [.int (iI z)]) := by
  subst heq
  exact W.iret hexec hb hr (fun t ht _ => hp_endS ht) (fun q h => by cases h) hdg
theorem hp_zretS (hexec : p.tables.exec = Jvm.exec) (hb : c.code = cc) (hr : meth.sig.returnType = some .boolean) (hlocks : meth.locks = false) (hdg : decode cc pc = .ok (.ireturn, 1)) {z : Int} {b : Bool} (heq : z = bI b) : W p l e R s m args below meth c s.heap [] 0 0 (MQ below (hp_Si (bI b)) args s 0 0 (fun _ => False)) (F0 m pc ls [.int (iI z)]) := by
  subst heq
  exact W.zret hexec hb hr (by cases b <;> rfl) (fun t ht _ => hp_endS ht) (fun q h => by cases h) hdg
theorem hp_vretQ (hexec : p.tables.exec = Jvm.exec) (hb : c.code = cc) (hr : meth.sig.returnType = none) (hlocks : meth.locks = false) (hdg : decode cc pc = .ok (.return_, 1)) {post : Heap → Prop} (hS : va_S M s.heap H locs) (hZ : H.size = s.heap.size) (hp : post H) : W p l e R s m args below meth c H locs 0 0 (MQ below (hp_Qv M post) args s 0 0 M) (F0 m pc ls []) :=
  W.vret hexec hb hr (fun t ht _ => ⟨rfl, by rw [ht]; exact hp, by rw [ht]; exact hZ, fun q h => by rw [ht]; exact hp_fr hS hZ q h⟩) hS.2.2 hdg
theorem hp_iretQ (hexec : p.tables.exec = Jvm.exec) (hb : c.code = cc) (hr : meth.sig.returnType = some .int) (hlocks : meth.locks = false) (hdg : decode cc pc = .ok (.ireturn, 1)) {post : Int → Heap → Prop} {z : Int} (hS : va_S M s.heap H locs) (hZ : H.size = s.heap.size) (hp : post z H) : W p l e R s m args below meth c H locs 0 0 (MQ below (hp_Qi M post) args s 0 0 M) (F0 m pc ls [.int (iI z)]) :=
  W.iret hexec hb hr (fun t ht _ => ⟨z, rfl, by rw [ht]; exact hp, by rw [ht]; exact hZ, fun q h => by rw [ht]; exact hp_fr hS hZ q h⟩) hS.2.2 hdg
theorem hp_zretQ (hexec : p.tables.exec = Jvm.exec) (hb : c.code = cc) (hr : meth.sig.returnType = some .boolean) (hlocks : meth.locks = false) (hdg : decode cc pc = .ok (.ireturn, 1)) {post : Int → Heap → Prop} {z : Int} (b : Bool) (hz : z = bI b) (hS : va_S M s.heap H locs) (hZ : H.size = s.heap.size) (hp : post z H) : W p l e R s m args below meth c H locs 0 0 (MQ below (hp_Qi M post) args s 0 0 M) (F0 m pc ls [.int (iI z)]) :=
  W.zret hexec hb hr (by subst hz; cases b <;> rfl) (fun t ht _ => ⟨z, rfl, by rw [ht]; exact hp, by rw [ht]; exact hZ, fun q h => by rw [ht]; exact hp_fr hS hZ q h⟩) hS.2.2 hdg
theorem hp_mabs (hexec : p.tables.exec = Jvm.exec) (hb : c.code = cc) (hml : c.maxLocals = ls.size) {own : String} {index cells slots : Nat} {rest : List Value} {Q : State → Prop} (hown : s.vm.findClass own = some m.cls) (hlink : (Cond.methodLink own index Lib.Math.abs.name).before args s = true) (hstat : (Cond.static Lib.Math.abs.name).before args s = true) (hini : (Cond.initialized "java/lang/Math").before args s = true) (hcode : (Cond.code Lib.Math.abs.name Lib.Math.abs.code 1 (some .int)).before args s = true)
    (hframes : 1 ≤ R.frames) (hlocals : (rest.map fun v => v.category).sum + 13 ≤ R.locals) (hc : cells ≤ R.cells) (hs : slots ≤ R.slots) (hdg : decode cc pc = .ok (.invokestatic index, 3)) {z : Int} (hz : iR z)
    (kk : W p l e R s m args below meth c H locs cells slots Q (F0 m (pc + 3) ls (.int (iI (z.natAbs : Int)) :: rest))) : W p l e R s m args below meth c H locs cells slots Q (F0 m pc ls (.int (iI z) :: rest)) := by
  refine va_mabs hexec hb hml hown hlink hstat hini hcode hframes hlocals hc hs hdg ?_
  have e : (if 0 ≤ iI z then iI z else 0 - iI z) = iI (z.natAbs : Int) := by
    have h0 : (0 ≤ iI z) ↔ 0 ≤ z := by rw [← iI_0]; exact iI_le iR_0 hz
    by_cases h : 0 ≤ z
    · rw [if_pos (h0.mpr h), show ((z.natAbs : Nat) : Int) = z by omega]
    · rw [if_neg (fun q => h (h0.mp q)), ← iI_0, iI_sub, show (0 : Int) - z = (z.natAbs : Int) by omega]
  rw [e]
  exact kk
end HD
/-- a Word at a (its letters at a + 1): w strands, k letters, f its letters -/
abbrev oW (a : Nat) (w k : Nat) : va_E := .inr (0, [.ref (a + 1), .int (iI (w : Int)), .int (iI (k : Int))])
def wAt (E : hp_E) (H : Heap) (a w k : Nat) (f : Nat → Int) : Prop := ca E H a (oW a w k) ∧ ca E H (a + 1) (ai E 32 f)
/-- letters are small -/
def bd (f : Nat → Int) : Prop := ∀ j, -8 < f j ∧ f j < 8

