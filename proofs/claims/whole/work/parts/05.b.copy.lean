/-! System.arraycopy between int arrays known as whole numbers -/
theorem va_cpy_iI (f g : Nat → Int) (sp dp n : Nat) : va_cpy (fun k => iI (f k)) (fun k => iI (g k)) sp dp n = fun k => iI (va_cpy f g sp dp n k) := by
  funext k
  unfold va_cpy
  split <;> rfl
section HF
variable {p : Program} {l : Launch} {e : Env} {R : Room} {s : State} {m : MethodId} {args : Array Value} {below : List Frame} {meth : Method} {c : Code} {H : Heap} {locs : List Loc} {cells slots : Nat} {Q : State → Prop}
variable {cc : ByteArray} {pc : Nat} {ls : Array Slot} {rest : List Value} {D : va_G} {cl : List vw_C} {A : Nat → Prop} {a : Nat} {tys : List (ClassId × FieldType)} {H0 : Heap}
theorem hp_copy (hexec : p.tables.exec = Jvm.exec) (hb : c.code = cc) (hml : c.maxLocals = ls.size) {own : String} {index : Nat} (hown : s.vm.findClass own = some m.cls) (hlink : (Cond.methodLink own index arraycopyName).before args s = true) (hnat : (Cond.native arraycopyName).before args s = true) (hstat : (Cond.static arraycopyName).before args s = true) (hini : (Cond.initialized "java/lang/System").before args s = true)
    (hK : va_K D cl tys s) (t0 : Nat) {a0 : Nat} {cI : ClassId} {n0 n1 : Nat} {f g : Nat → Int} (hP0 : va_at D cl (a0, hp_ai cI n0 f) H) (hP1 : va_at D cl (a, hp_ai cI n1 g) H) (hS : va_S A H0 H locs) (hA : A a) (ht0 : tys[t0]? = some (cI, .int))
    (hframes : 1 ≤ R.frames) (hlocals : (rest.map fun v => v.category).sum + (nativeFrameWords "java/lang/System" "arraycopy" 5 + 11) ≤ R.locals) (hdg : decode cc pc = .ok (.invokestatic index, 3))
    {sp dp n : Int} (i j k : Nat) (e1 : sp = (i : Int)) (e2 : dp = (j : Int)) (e3 : n = (k : Int)) (h4 : i + k ≤ n0) (h5 : j + k ≤ n1) (h6 : n0 < 2147483000) (h7 : n1 < 2147483000)
    (kk : ∀ (H1 : Heap) (locs1 : List Loc), va_at D cl (a, hp_ai cI n1 (va_cpy f g i j k)) H1 → H1.size = H.size → (∀ q, q ≠ a → H1[q]? = H[q]?) → va_S A H0 H1 locs1 → W p l e R s m args below meth c H1 locs1 cells slots Q (F0 m (pc + 3) ls rest)) : W p l e R s m args below meth c H locs cells slots Q (F0 m pc ls (.int (iI n) :: .int (iI dp) :: .ref a :: .int (iI sp) :: .ref a0 :: rest)) := by
  have c1 := iI_cl e1 (show i < 2147483648 by omega)
  have c2 := iI_cl e2 (show j < 2147483648 by omega)
  have c3 := iI_cl e3 (show k < 2147483648 by omega)
  have g1 : ¬ iI sp < 0 := fun h => iI_in e1 (Nat.lt_succ_self i) (by omega) (Or.inl h)
  have g2 : ¬ iI dp < 0 := fun h => iI_in e2 (Nat.lt_succ_self j) (by omega) (Or.inl h)
  have g3 : ¬ iI n < 0 := fun h => iI_in e3 (Nat.lt_succ_self k) (by omega) (Or.inl h)
  have t1 : (iI sp).toInt = (i : Int) := by rw [e1]; exact iI_toInt ⟨by omega, by omega⟩
  have t2 : (iI dp).toInt = (j : Int) := by rw [e2]; exact iI_toInt ⟨by omega, by omega⟩
  have t3 : (iI n).toInt = (k : Int) := by rw [e3]; exact iI_toInt ⟨by omega, by omega⟩
  intro T hT X
  have hc0 : H[a0]? = some (vp_cell cI (n0, .inl (fun k => iI (f k)))) := hP0
  have hc1 : H[a]? = some (vp_cell cI (n1, .inl (fun k => iI (g k)))) := hP1
  obtain ⟨-, k0, hk0, cm0, hkk0⟩ := (hK.2 t0 _ ht0).1 n0 (fun j => .int (iI (f j)))
  obtain ⟨-, k1, hk1, cm1, hkk1⟩ := (hK.2 t0 _ ht0).1 n1 (fun j => .int (iI (g j)))
  obtain ⟨vm', X', step⟩ := X.arraycopy hexec hown hlink hnat hstat hini (src := a0) (dst := a) (cs := vp_cell cI (n0, .inl (fun k => iI (f k)))) (cd := vp_cell cI (n1, .inl (fun k => iI (g k)))) (srcPos := iI sp) (destPos := iI dp) (n := iI n) (by rw [hT]; exact hc0) (by rw [hT]; exact hc1)
    (fun _ h => by cases h) (fun _ h => by cases h) (fun h => by cases h) (fun h => by cases h) hk0 hk1 hkk0 hkk1 (by simp [refKind]) g1 g2 g3
    (by rw [t1, t3]; show ¬ _ > ((arrV cI n0 (fun j => .int (iI (f j)))).slots.size : Int); rw [arrV_size]; omega)
    (by rw [t2, t3]; show ¬ _ > ((arrV cI n1 (fun j => .int (iI (g j)))).slots.size : Int); rw [arrV_size]; omega)
    (fun vm₁ _ x hx => by
      rw [c3] at hx
      have e : (vp_cell cI (n0, .inl (fun k => iI (f k)))).slots.getD ((iI sp).toNatClampNeg + x) .null = .int (iI (f ((iI sp).toNatClampNeg + x))) := by
        show (arrV cI n0 (fun j => .int (iI (f j)))).slots.getD _ _ = _
        rw [Array.getD_eq_getD_getElem?, arrV_read _ _ (by rw [c1]; omega)]
        rfl
      refine ⟨?_, ?_⟩
      · rw [e]
        rfl
      · rw [e]
        exact trivial)
    (g := F0 m pc ls (.int (iI n) :: .int (iI dp) :: .ref a :: .int (iI sp) :: .ref a0 :: rest)) rfl (by rw [hml]) (rest := rest) rfl (by rw [hb]; exact hdg) hframes (by show 2 * 0 + _ + _ ≤ _; omega)
  have ec : copied (vp_cell cI (n0, .inl (fun k => iI (f k)))) (vp_cell cI (n1, .inl (fun k => iI (g k)))) (iI sp) (iI dp) (iI n) = vp_cell cI (n1, .inl (fun x => iI (va_cpy f g i j k x))) := by
    have h := va_copied (fun z => Value.int z) cI cI (n0 := n0) (n1 := n1) (sp := (iI sp).toNatClampNeg) (dp := (iI dp).toNatClampNeg) (n := (iI n).toNatClampNeg) (fun k => iI (f k)) (fun k => iI (g k)) (by rw [c1, c3]; exact h4)
    have h2 : copied (vp_cell cI (n0, .inl (fun k => iI (f k)))) (vp_cell cI (n1, .inl (fun k => iI (g k)))) (iI sp) (iI dp) (iI n) = arrV cI n1 (fun j => .int (va_cpy (fun k => iI (f k)) (fun k => iI (g k)) (iI sp).toNatClampNeg (iI dp).toNatClampNeg (iI n).toNatClampNeg j)) := h
    rw [h2, c1, c2, c3, va_cpy_iI]
    rfl
  rw [ec] at X' step
  have hl : a < H.size := (Array.getElem?_eq_some_iff.mp hc1).1
  have hheap : ((T.setVm vm').setCell a (vp_cell cI (n1, .inl (fun x => iI (va_cpy f g i j k x))))).heap = H.setIfInBounds a (vp_cell cI (n1, .inl (fun x => iI (va_cpy f g i j k x)))) := by rw [← hT]; rfl
  have oq : ∀ q : Nat, q ≠ a → (H.setIfInBounds a (vp_cell cI (n1, .inl (fun x => iI (va_cpy f g i j k x)))))[q]? = H[q]? := fun q hq => by simp [Array.getElem?_setIfInBounds, Ne.symm hq]
  obtain ⟨t, a1, b1⟩ := kk _ _ (show (H.setIfInBounds a _)[a]? = some _ by simp [Array.getElem?_setIfInBounds, hl]) (by simp) oq ⟨by simp; exact hS.1, fun q g1 g2 => by
      rw [oq q (fun e => g2 (by rw [e]; exact hA))]
      exact hS.2.1 q g1 g2, fun q hq => by
      rcases List.mem_append.mp hq with h | h
      · exact hS.2.2 q h
      · obtain ⟨z, -, hz⟩ := List.mem_map.mp h
        rw [← hz]
        exact hA⟩ _ hheap X'
  exact ⟨t, step t a1, b1⟩
end HF
