-- ===== PART A: goes FIRST, ahead of the names: the tables' words, and 'selects' of the private methods out of them =====
/-- a private method of a class that the tables say can be made, by its rows of tables_1 -/
def lw_okq (q : MethodName × Nat) : Prop := (q.1.cls ≠ "java/lang/invoke/MethodHandle" ∧ q.1.cls ≠ "java/lang/invoke/VarHandle") ∧ Cond.instantiable q.1.cls q.2 ∈ tables_1 ∧ Cond.privateMethod q.1 ∈ tables_1 ∧ Cond.instanceMethod q.1 ∈ tables_1
theorem lw_p0 : lw_okq (⟨"BraidWords$Word", "canPass", "(I)Z"⟩, 3) := ⟨⟨by decide +kernel, by decide +kernel⟩, List.mem_of_getElem? (i := 20) (by decide +kernel), List.mem_of_getElem? (i := 212) (by decide +kernel), List.mem_of_getElem? (i := 213) (by decide +kernel)⟩
theorem lw_p1 : lw_okq (⟨"BraidWords", "formOf", "(I)LBraidWords$NormalForm;"⟩, 2) := ⟨⟨by decide +kernel, by decide +kernel⟩, List.mem_of_getElem? (i := 9) (by decide +kernel), List.mem_of_getElem? (i := 236) (by decide +kernel), List.mem_of_getElem? (i := 237) (by decide +kernel)⟩
theorem lw_p2 : lw_okq (⟨"BraidWords$NormalForm", "appendSimple", "(IZ)V"⟩, 6) := ⟨⟨by decide +kernel, by decide +kernel⟩, List.mem_of_getElem? (i := 42) (by decide +kernel), List.mem_of_getElem? (i := 255) (by decide +kernel), List.mem_of_getElem? (i := 256) (by decide +kernel)⟩
theorem lw_p3 : lw_okq (⟨"BraidWords$NormalForm", "settle", "()V"⟩, 6) := ⟨⟨by decide +kernel, by decide +kernel⟩, List.mem_of_getElem? (i := 42) (by decide +kernel), List.mem_of_getElem? (i := 260) (by decide +kernel), List.mem_of_getElem? (i := 261) (by decide +kernel)⟩
theorem lw_p4 : lw_okq (⟨"BraidWords$NormalForm", "moveOver", "([I[I)Z"⟩, 6) := ⟨⟨by decide +kernel, by decide +kernel⟩, List.mem_of_getElem? (i := 42) (by decide +kernel), List.mem_of_getElem? (i := 264) (by decide +kernel), List.mem_of_getElem? (i := 265) (by decide +kernel)⟩
theorem lw_p5 : lw_okq (⟨"BraidWords$NormalForm", "sweepOver", "([I)Z"⟩, 6) := ⟨⟨by decide +kernel, by decide +kernel⟩, List.mem_of_getElem? (i := 42) (by decide +kernel), List.mem_of_getElem? (i := 268) (by decide +kernel), List.mem_of_getElem? (i := 269) (by decide +kernel)⟩
theorem lw_p6 : lw_okq (⟨"BraidWords$NormalForm", "isTurn", "([I)Z"⟩, 6) := ⟨⟨by decide +kernel, by decide +kernel⟩, List.mem_of_getElem? (i := 42) (by decide +kernel), List.mem_of_getElem? (i := 272) (by decide +kernel), List.mem_of_getElem? (i := 273) (by decide +kernel)⟩
theorem lw_p7 : lw_okq (⟨"BraidWords$NormalForm", "isNone", "([I)Z"⟩, 6) := ⟨⟨by decide +kernel, by decide +kernel⟩, List.mem_of_getElem? (i := 42) (by decide +kernel), List.mem_of_getElem? (i := 276) (by decide +kernel), List.mem_of_getElem? (i := 277) (by decide +kernel)⟩
theorem lw_p8 : lw_okq (⟨"BraidWords$Word", "labelAbove", "(II)I"⟩, 3) := ⟨⟨by decide +kernel, by decide +kernel⟩, List.mem_of_getElem? (i := 20) (by decide +kernel), List.mem_of_getElem? (i := 312) (by decide +kernel), List.mem_of_getElem? (i := 313) (by decide +kernel)⟩
theorem lw_p9 : lw_okq (⟨"BraidWords$Word", "madeLabel", "(II)I"⟩, 3) := ⟨⟨by decide +kernel, by decide +kernel⟩, List.mem_of_getElem? (i := 20) (by decide +kernel), List.mem_of_getElem? (i := 316) (by decide +kernel), List.mem_of_getElem? (i := 317) (by decide +kernel)⟩
theorem lw_p10 : lw_okq (⟨"BraidWords$Word", "labelBelow", "(II)I"⟩, 3) := ⟨⟨by decide +kernel, by decide +kernel⟩, List.mem_of_getElem? (i := 20) (by decide +kernel), List.mem_of_getElem? (i := 320) (by decide +kernel), List.mem_of_getElem? (i := 321) (by decide +kernel)⟩
theorem lw_p11 : lw_okq (⟨"BraidWordsModel", "letterAt", "(II)I"⟩, 19) := ⟨⟨by decide +kernel, by decide +kernel⟩, List.mem_of_getElem? (i := 324) (by decide +kernel), List.mem_of_getElem? (i := 403) (by decide +kernel), List.mem_of_getElem? (i := 404) (by decide +kernel)⟩
theorem lw_p12 : lw_okq (⟨"BraidWordsModel", "endOf", "(II)I"⟩, 19) := ⟨⟨by decide +kernel, by decide +kernel⟩, List.mem_of_getElem? (i := 324) (by decide +kernel), List.mem_of_getElem? (i := 411) (by decide +kernel), List.mem_of_getElem? (i := 412) (by decide +kernel)⟩
theorem lw_p13 : lw_okq (⟨"BraidWordsModel", "signs", "(I)I"⟩, 19) := ⟨⟨by decide +kernel, by decide +kernel⟩, List.mem_of_getElem? (i := 324) (by decide +kernel), List.mem_of_getElem? (i := 422) (by decide +kernel), List.mem_of_getElem? (i := 423) (by decide +kernel)⟩
theorem lw_p14 : lw_okq (⟨"BraidWordsModel", "rounds", "(I)I"⟩, 19) := ⟨⟨by decide +kernel, by decide +kernel⟩, List.mem_of_getElem? (i := 324) (by decide +kernel), List.mem_of_getElem? (i := 426) (by decide +kernel), List.mem_of_getElem? (i := 427) (by decide +kernel)⟩
theorem lw_p15 : lw_okq (⟨"BraidWordsModel", "untouched", "(I)I"⟩, 19) := ⟨⟨by decide +kernel, by decide +kernel⟩, List.mem_of_getElem? (i := 324) (by decide +kernel), List.mem_of_getElem? (i := 430) (by decide +kernel), List.mem_of_getElem? (i := 431) (by decide +kernel)⟩
def lw_privs_1 : List (MethodName × Nat) := [(⟨"BraidWords$Word", "canPass", "(I)Z"⟩, 3), (⟨"BraidWords", "formOf", "(I)LBraidWords$NormalForm;"⟩, 2), (⟨"BraidWords$NormalForm", "appendSimple", "(IZ)V"⟩, 6), (⟨"BraidWords$NormalForm", "settle", "()V"⟩, 6), (⟨"BraidWords$NormalForm", "moveOver", "([I[I)Z"⟩, 6), (⟨"BraidWords$NormalForm", "sweepOver", "([I)Z"⟩, 6), (⟨"BraidWords$NormalForm", "isTurn", "([I)Z"⟩, 6), (⟨"BraidWords$NormalForm", "isNone", "([I)Z"⟩, 6), (⟨"BraidWords$Word", "labelAbove", "(II)I"⟩, 3), (⟨"BraidWords$Word", "madeLabel", "(II)I"⟩, 3), (⟨"BraidWords$Word", "labelBelow", "(II)I"⟩, 3), (⟨"BraidWordsModel", "letterAt", "(II)I"⟩, 19), (⟨"BraidWordsModel", "endOf", "(II)I"⟩, 19), (⟨"BraidWordsModel", "signs", "(I)I"⟩, 19), (⟨"BraidWordsModel", "rounds", "(I)I"⟩, 19), (⟨"BraidWordsModel", "untouched", "(I)I"⟩, 19)]
theorem lw_r1 : ∀ q ∈ lw_privs_1, lw_okq q := List.forall_mem_cons.mpr ⟨lw_p0, List.forall_mem_cons.mpr ⟨lw_p1, List.forall_mem_cons.mpr ⟨lw_p2, List.forall_mem_cons.mpr ⟨lw_p3, List.forall_mem_cons.mpr ⟨lw_p4, List.forall_mem_cons.mpr ⟨lw_p5, List.forall_mem_cons.mpr ⟨lw_p6, List.forall_mem_cons.mpr ⟨lw_p7, List.forall_mem_cons.mpr ⟨lw_p8, List.forall_mem_cons.mpr ⟨lw_p9, List.forall_mem_cons.mpr ⟨lw_p10, List.forall_mem_cons.mpr ⟨lw_p11, List.forall_mem_cons.mpr ⟨lw_p12, List.forall_mem_cons.mpr ⟨lw_p13, List.forall_mem_cons.mpr ⟨lw_p14, List.forall_mem_cons.mpr ⟨lw_p15, fun _ h => absurd h List.not_mem_nil⟩⟩⟩⟩⟩⟩⟩⟩⟩⟩⟩⟩⟩⟩⟩⟩
theorem lw_p16 : lw_okq (⟨"BraidWordsModel", "remove", "(II)V"⟩, 19) := ⟨⟨by decide +kernel, by decide +kernel⟩, List.mem_of_getElem? (i := 324) (by decide +kernel), List.mem_of_getElem? (i := 442) (by decide +kernel), List.mem_of_getElem? (i := 443) (by decide +kernel)⟩
theorem lw_p17 : lw_okq (⟨"BraidWordsModel", "know", "(I)V"⟩, 19) := ⟨⟨by decide +kernel, by decide +kernel⟩, List.mem_of_getElem? (i := 324) (by decide +kernel), List.mem_of_getElem? (i := 470) (by decide +kernel), List.mem_of_getElem? (i := 471) (by decide +kernel)⟩
theorem lw_p18 : lw_okq (⟨"BraidWordsModel", "makePositive", "(I)V"⟩, 19) := ⟨⟨by decide +kernel, by decide +kernel⟩, List.mem_of_getElem? (i := 324) (by decide +kernel), List.mem_of_getElem? (i := 474) (by decide +kernel), List.mem_of_getElem? (i := 475) (by decide +kernel)⟩
theorem lw_p19 : lw_okq (⟨"BraidWordsModel", "writeSimple", "(I)V"⟩, 19) := ⟨⟨by decide +kernel, by decide +kernel⟩, List.mem_of_getElem? (i := 324) (by decide +kernel), List.mem_of_getElem? (i := 478) (by decide +kernel), List.mem_of_getElem? (i := 479) (by decide +kernel)⟩
theorem lw_p20 : lw_okq (⟨"BraidWordsModel", "takeSimple", "(I)V"⟩, 19) := ⟨⟨by decide +kernel, by decide +kernel⟩, List.mem_of_getElem? (i := 324) (by decide +kernel), List.mem_of_getElem? (i := 482) (by decide +kernel), List.mem_of_getElem? (i := 483) (by decide +kernel)⟩
theorem lw_p21 : lw_okq (⟨"BraidWordsModel", "clearChain", "()V"⟩, 19) := ⟨⟨by decide +kernel, by decide +kernel⟩, List.mem_of_getElem? (i := 324) (by decide +kernel), List.mem_of_getElem? (i := 486) (by decide +kernel), List.mem_of_getElem? (i := 487) (by decide +kernel)⟩
theorem lw_p22 : lw_okq (⟨"BraidWordsModel", "writeTurn", "(I)V"⟩, 19) := ⟨⟨by decide +kernel, by decide +kernel⟩, List.mem_of_getElem? (i := 324) (by decide +kernel), List.mem_of_getElem? (i := 490) (by decide +kernel), List.mem_of_getElem? (i := 491) (by decide +kernel)⟩
theorem lw_p23 : lw_okq (⟨"BraidWordsModel", "insert", "(II)I"⟩, 19) := ⟨⟨by decide +kernel, by decide +kernel⟩, List.mem_of_getElem? (i := 324) (by decide +kernel), List.mem_of_getElem? (i := 494) (by decide +kernel), List.mem_of_getElem? (i := 495) (by decide +kernel)⟩
theorem lw_p24 : lw_okq (⟨"BraidWordsModel", "turnRight", "()V"⟩, 19) := ⟨⟨by decide +kernel, by decide +kernel⟩, List.mem_of_getElem? (i := 324) (by decide +kernel), List.mem_of_getElem? (i := 498) (by decide +kernel), List.mem_of_getElem? (i := 499) (by decide +kernel)⟩
theorem lw_p25 : lw_okq (⟨"BraidWordsModel", "take", "(I)V"⟩, 19) := ⟨⟨by decide +kernel, by decide +kernel⟩, List.mem_of_getElem? (i := 324) (by decide +kernel), List.mem_of_getElem? (i := 502) (by decide +kernel), List.mem_of_getElem? (i := 503) (by decide +kernel)⟩
theorem lw_p26 : lw_okq (⟨"BraidWordsModel", "turnLeft", "()V"⟩, 19) := ⟨⟨by decide +kernel, by decide +kernel⟩, List.mem_of_getElem? (i := 324) (by decide +kernel), List.mem_of_getElem? (i := 509) (by decide +kernel), List.mem_of_getElem? (i := 510) (by decide +kernel)⟩
theorem lw_p27 : lw_okq (⟨"BraidWordsModel", "close", "(I)V"⟩, 19) := ⟨⟨by decide +kernel, by decide +kernel⟩, List.mem_of_getElem? (i := 324) (by decide +kernel), List.mem_of_getElem? (i := 525) (by decide +kernel), List.mem_of_getElem? (i := 526) (by decide +kernel)⟩
def lw_privs_2 : List (MethodName × Nat) := [(⟨"BraidWordsModel", "remove", "(II)V"⟩, 19), (⟨"BraidWordsModel", "know", "(I)V"⟩, 19), (⟨"BraidWordsModel", "makePositive", "(I)V"⟩, 19), (⟨"BraidWordsModel", "writeSimple", "(I)V"⟩, 19), (⟨"BraidWordsModel", "takeSimple", "(I)V"⟩, 19), (⟨"BraidWordsModel", "clearChain", "()V"⟩, 19), (⟨"BraidWordsModel", "writeTurn", "(I)V"⟩, 19), (⟨"BraidWordsModel", "insert", "(II)I"⟩, 19), (⟨"BraidWordsModel", "turnRight", "()V"⟩, 19), (⟨"BraidWordsModel", "take", "(I)V"⟩, 19), (⟨"BraidWordsModel", "turnLeft", "()V"⟩, 19), (⟨"BraidWordsModel", "close", "(I)V"⟩, 19)]
theorem lw_r2 : ∀ q ∈ lw_privs_2, lw_okq q := List.forall_mem_cons.mpr ⟨lw_p16, List.forall_mem_cons.mpr ⟨lw_p17, List.forall_mem_cons.mpr ⟨lw_p18, List.forall_mem_cons.mpr ⟨lw_p19, List.forall_mem_cons.mpr ⟨lw_p20, List.forall_mem_cons.mpr ⟨lw_p21, List.forall_mem_cons.mpr ⟨lw_p22, List.forall_mem_cons.mpr ⟨lw_p23, List.forall_mem_cons.mpr ⟨lw_p24, List.forall_mem_cons.mpr ⟨lw_p25, List.forall_mem_cons.mpr ⟨lw_p26, List.forall_mem_cons.mpr ⟨lw_p27, fun _ h => absurd h List.not_mem_nil⟩⟩⟩⟩⟩⟩⟩⟩⟩⟩⟩⟩
def lw_privs : List (MethodName × Nat) := lw_privs_1 ++ (lw_privs_2)
def lw_tbl : List Cond := k2_sels lw_privs ++ tables_1
theorem lw_privs_ok : ∀ q ∈ lw_privs, lw_okq q := by
  show ∀ q ∈ lw_privs_1 ++ (lw_privs_2), lw_okq q
  exact List.forall_mem_append.mpr ⟨lw_r1, lw_r2⟩
def R_B : String := "BraidWords"
def R_W : String := "BraidWords$Word"
def R_N : String := "BraidWords$NormalForm"
def R_M : String := "BraidWordsModel"
def R_L : String := "BraidWordsLaw"
def R_JI : String := "java/lang/Integer"
def R_JM : String := "java/lang/Math"
def R_JS : String := "java/lang/System"
def F_W : u_T := fun k => match k with
  | 0 => ("BraidWords$Word", "letters", "[I", true)
  | 1 => ("BraidWords$Word", "width", "I", false)
  | _ => ("BraidWords$Word", "count", "I", false)
def t_W : Nat → FieldType := fun k => match k with
  | 0 => .array .int
  | 1 => .int
  | _ => .int
theorem n_W : ∀ a, a < 3 → ∀ b, b < 3 → a ≠ b → (F_W a).2.1 ≠ (F_W b).2.1 := by decide +kernel
theorem tk_W : ∀ k, k < 3 → parseFieldDescriptor (F_W k).2.2.1 = some (t_W k) := by decide +kernel
def F_N : u_T := fun k => match k with
  | 0 => ("BraidWords$NormalForm", "source", "LBraidWords$Word;", true)
  | 1 => ("BraidWords$NormalForm", "rows", "[[I", true)
  | 2 => ("BraidWords$NormalForm", "startOf", "[I", true)
  | 3 => ("BraidWords$NormalForm", "from", "I", false)
  | 4 => ("BraidWords$NormalForm", "to", "I", false)
  | _ => ("BraidWords$NormalForm", "power", "I", false)
def t_N : Nat → FieldType := fun k => match k with
  | 0 => .object "BraidWords$Word"
  | 1 => .array (.array .int)
  | 2 => .array .int
  | 3 => .int
  | 4 => .int
  | _ => .int
theorem n_N : ∀ a, a < 6 → ∀ b, b < 6 → a ≠ b → (F_N a).2.1 ≠ (F_N b).2.1 := by decide +kernel
theorem tk_N : ∀ k, k < 6 → parseFieldDescriptor (F_N k).2.2.1 = some (t_N k) := by decide +kernel
def F_B : u_T := fun k => match k with
  | 0 => ("BraidWords", "words", "[LBraidWords$Word;", true)
  | _ => ("BraidWords", "forms", "[LBraidWords$NormalForm;", true)
def t_B : Nat → FieldType := fun k => match k with
  | 0 => .array (.object "BraidWords$Word")
  | _ => .array (.object "BraidWords$NormalForm")
theorem n_B : ∀ a, a < 2 → ∀ b, b < 2 → a ≠ b → (F_B a).2.1 ≠ (F_B b).2.1 := by decide +kernel
theorem tk_B : ∀ k, k < 2 → parseFieldDescriptor (F_B k).2.2.1 = some (t_B k) := by decide +kernel
def F_M : u_T := fun k => match k with
  | 0 => ("BraidWordsModel", "thrown", "I", false)
  | 1 => ("BraidWordsModel", "strands", "[I", true)
  | 2 => ("BraidWordsModel", "size", "[I", true)
  | 3 => ("BraidWordsModel", "word", "[I", true)
  | 4 => ("BraidWordsModel", "letterOf", "[I", true)
  | 5 => ("BraidWordsModel", "next", "[I", true)
  | 6 => ("BraidWordsModel", "before", "[I", true)
  | 7 => ("BraidWordsModel", "made", "I", false)
  | 8 => ("BraidWordsModel", "free", "I", false)
  | 9 => ("BraidWordsModel", "positives", "I", false)
  | 10 => ("BraidWordsModel", "positive", "[I", true)
  | 11 => ("BraidWordsModel", "target", "[I", true)
  | 12 => ("BraidWordsModel", "ended", "[I", true)
  | 13 => ("BraidWordsModel", "known", "[Z", true)
  | 14 => ("BraidWordsModel", "turns", "[I", true)
  | 15 => ("BraidWordsModel", "simples", "[I", true)
  | 16 => ("BraidWordsModel", "simple", "[I", true)
  | 17 => ("BraidWordsModel", "label", "[I", true)
  | _ => ("BraidWordsModel", "corner", "[I", true)
def t_M : Nat → FieldType := fun k => match k with
  | 0 => .int
  | 1 => .array .int
  | 2 => .array .int
  | 3 => .array .int
  | 4 => .array .int
  | 5 => .array .int
  | 6 => .array .int
  | 7 => .int
  | 8 => .int
  | 9 => .int
  | 10 => .array .int
  | 11 => .array .int
  | 12 => .array .int
  | 13 => .array .boolean
  | 14 => .array .int
  | 15 => .array .int
  | 16 => .array .int
  | 17 => .array .int
  | _ => .array .int
theorem n_M : ∀ a, a < 19 → ∀ b, b < 19 → a ≠ b → (F_M a).2.1 ≠ (F_M b).2.1 := by decide +kernel
theorem tk_M : ∀ k, k < 19 → parseFieldDescriptor (F_M k).2.2.1 = some (t_M k) := by decide +kernel
abbrev classes : List vw_C := [(R_W, F_W, 3), (R_N, F_N, 6), (R_B, F_B, 2), (R_M, F_M, 19)]
abbrev b_B_init : ByteArray := prog_1_method_1_code
def y_B_init : MethodName := ⟨R_B, "<init>", "()V"⟩
abbrev b_W_init : ByteArray := prog_3_method_1_code
def y_W_init : MethodName := ⟨R_W, "<init>", "()V"⟩
abbrev b_N_init : ByteArray := prog_2_method_1_code
def y_N_init : MethodName := ⟨R_N, "<init>", "()V"⟩
abbrev b_B_strands : ByteArray := prog_1_method_2_code
def y_B_strands : MethodName := ⟨R_B, "strands", "(II)Z"⟩
abbrev b_B_isSlot : ByteArray := prog_1_method_18_code
def y_B_isSlot : MethodName := ⟨R_B, "isSlot", "(I)Z"⟩
abbrev b_W_clear : ByteArray := prog_3_method_2_code
def y_W_clear : MethodName := ⟨R_W, "clear", "(I)V"⟩
abbrev b_B_letter : ByteArray := prog_1_method_3_code
def y_B_letter : MethodName := ⟨R_B, "letter", "(II)I"⟩
abbrev b_W_append : ByteArray := prog_3_method_3_code
def y_W_append : MethodName := ⟨R_W, "append", "(I)Z"⟩
abbrev b_B_copy : ByteArray := prog_1_method_4_code
def y_B_copy : MethodName := ⟨R_B, "copy", "(IIZ)Z"⟩
abbrev b_W_take : ByteArray := prog_3_method_4_code
def y_W_take : MethodName := ⟨R_W, "take", "(LBraidWords$Word;)V"⟩
abbrev b_W_invert : ByteArray := prog_3_method_6_code
def y_W_invert : MethodName := ⟨R_W, "invert", "()V"⟩
abbrev b_B_many : ByteArray := prog_1_method_5_code
def y_B_many : MethodName := ⟨R_B, "many", "(II)I"⟩
abbrev b_W_signSum : ByteArray := prog_3_method_10_code
def y_W_signSum : MethodName := ⟨R_W, "signSum", "()I"⟩
abbrev b_JI_signum : ByteArray := prog_6_method_56_code
def y_JI_signum : MethodName := ⟨R_JI, "signum", "(I)I"⟩
abbrev b_W_components : ByteArray := prog_3_method_13_code
def y_W_components : MethodName := ⟨R_W, "components", "()I"⟩
abbrev b_W_endOf : ByteArray := prog_3_method_12_code
def y_W_endOf : MethodName := ⟨R_W, "endOf", "(I)I"⟩
abbrev b_W_value : ByteArray := prog_3_method_9_code
def y_W_value : MethodName := ⟨R_W, "value", "(I)I"⟩
abbrev b_JM_abs : ByteArray := prog_7_method_59_code
def y_JM_abs : MethodName := ⟨R_JM, "abs", "(I)I"⟩
abbrev b_W_circles : ByteArray := prog_3_method_14_code
def y_W_circles : MethodName := ⟨R_W, "circles", "()I"⟩
abbrev b_W_touchedFrom : ByteArray := prog_3_method_16_code
def y_W_touchedFrom : MethodName := ⟨R_W, "touchedFrom", "(II)Z"⟩
abbrev b_W_touches : ByteArray := prog_3_method_15_code
def y_W_touches : MethodName := ⟨R_W, "touches", "(II)Z"⟩
abbrev b_B_at : ByteArray := prog_1_method_6_code
def y_B_at : MethodName := ⟨R_B, "at", "(II)I"⟩
abbrev b_W_hasLetters : ByteArray := prog_3_method_8_code
def y_W_hasLetters : MethodName := ⟨R_W, "hasLetters", "(II)Z"⟩
abbrev b_B_end : ByteArray := prog_1_method_7_code
def y_B_end : MethodName := ⟨R_B, "end", "(II)I"⟩
abbrev b_W_hasPlace : ByteArray := prog_3_method_7_code
def y_W_hasPlace : MethodName := ⟨R_W, "hasPlace", "(I)Z"⟩
abbrev b_B_reduce : ByteArray := prog_1_method_8_code
def y_B_reduce : MethodName := ⟨R_B, "reduce", "(IZ)I"⟩
abbrev b_W_cancelNeighbours : ByteArray := prog_3_method_17_code
def y_W_cancelNeighbours : MethodName := ⟨R_W, "cancelNeighbours", "()V"⟩
abbrev b_W_cancelEnds : ByteArray := prog_3_method_18_code
def y_W_cancelEnds : MethodName := ⟨R_W, "cancelEnds", "()V"⟩
abbrev b_B_round : ByteArray := prog_1_method_9_code
def y_B_round : MethodName := ⟨R_B, "round", "(IZ)Z"⟩
abbrev b_W_lastToFront : ByteArray := prog_3_method_20_code
def y_W_lastToFront : MethodName := ⟨R_W, "lastToFront", "()Z"⟩
abbrev b_W_firstToBack : ByteArray := prog_3_method_19_code
def y_W_firstToBack : MethodName := ⟨R_W, "firstToBack", "()Z"⟩
abbrev b_B_exchange : ByteArray := prog_1_method_10_code
def y_B_exchange : MethodName := ⟨R_B, "exchange", "(II)Z"⟩
abbrev b_W_swapFar : ByteArray := prog_3_method_21_code
def y_W_swapFar : MethodName := ⟨R_W, "swapFar", "(I)Z"⟩
abbrev b_B_swapAt : ByteArray := prog_1_method_20_code
def y_B_swapAt : MethodName := ⟨R_B, "swapAt", "([II)V"⟩
abbrev b_B_pass : ByteArray := prog_1_method_11_code
def y_B_pass : MethodName := ⟨R_B, "pass", "(II)Z"⟩
abbrev b_W_passOver : ByteArray := prog_3_method_22_code
def y_W_passOver : MethodName := ⟨R_W, "passOver", "(I)Z"⟩
abbrev b_W_canPass : ByteArray := prog_3_method_23_code
def y_W_canPass : MethodName := ⟨R_W, "canPass", "(I)Z"⟩
abbrev b_B_grow : ByteArray := prog_1_method_12_code
def y_B_grow : MethodName := ⟨R_B, "grow", "(II)Z"⟩
abbrev b_W_addStrand : ByteArray := prog_3_method_24_code
def y_W_addStrand : MethodName := ⟨R_W, "addStrand", "(I)Z"⟩
abbrev b_B_shrink : ByteArray := prog_1_method_13_code
def y_B_shrink : MethodName := ⟨R_B, "shrink", "(I)Z"⟩
abbrev b_W_dropStrand : ByteArray := prog_3_method_25_code
def y_W_dropStrand : MethodName := ⟨R_W, "dropStrand", "()Z"⟩
abbrev b_B_same : ByteArray := prog_1_method_14_code
def y_B_same : MethodName := ⟨R_B, "same", "(II)Z"⟩
abbrev b_B_formOf : ByteArray := prog_1_method_19_code
def y_B_formOf : MethodName := ⟨R_B, "formOf", "(I)LBraidWords$NormalForm;"⟩
abbrev b_N_follow : ByteArray := prog_2_method_2_code
def y_N_follow : MethodName := ⟨R_N, "follow", "(LBraidWords$Word;)V"⟩
abbrev b_W_equalTo : ByteArray := prog_3_method_5_code
def y_W_equalTo : MethodName := ⟨R_W, "equalTo", "(LBraidWords$Word;)Z"⟩
abbrev b_W_negatives : ByteArray := prog_3_method_11_code
def y_W_negatives : MethodName := ⟨R_W, "negatives", "()I"⟩
abbrev b_N_appendSimple : ByteArray := prog_2_method_6_code
def y_N_appendSimple : MethodName := ⟨R_N, "appendSimple", "(IZ)V"⟩
abbrev b_N_settle : ByteArray := prog_2_method_7_code
def y_N_settle : MethodName := ⟨R_N, "settle", "()V"⟩
abbrev b_N_moveOver : ByteArray := prog_2_method_8_code
def y_N_moveOver : MethodName := ⟨R_N, "moveOver", "([I[I)Z"⟩
abbrev b_N_sweepOver : ByteArray := prog_2_method_9_code
def y_N_sweepOver : MethodName := ⟨R_N, "sweepOver", "([I)Z"⟩
abbrev b_N_isTurn : ByteArray := prog_2_method_10_code
def y_N_isTurn : MethodName := ⟨R_N, "isTurn", "([I)Z"⟩
abbrev b_N_isNone : ByteArray := prog_2_method_11_code
def y_N_isNone : MethodName := ⟨R_N, "isNone", "([I)Z"⟩
abbrev b_N_equalTo : ByteArray := prog_2_method_5_code
def y_N_equalTo : MethodName := ⟨R_N, "equalTo", "(LBraidWords$NormalForm;)Z"⟩
abbrev b_N_size : ByteArray := prog_2_method_3_code
def y_N_size : MethodName := ⟨R_N, "size", "()I"⟩
abbrev b_N_image : ByteArray := prog_2_method_4_code
def y_N_image : MethodName := ⟨R_N, "image", "(II)I"⟩
abbrev b_B_form : ByteArray := prog_1_method_15_code
def y_B_form : MethodName := ⟨R_B, "form", "(III)I"⟩
abbrev b_B_length : ByteArray := prog_1_method_16_code
def y_B_length : MethodName := ⟨R_B, "length", "(I)I"⟩
abbrev b_B_crossing : ByteArray := prog_1_method_17_code
def y_B_crossing : MethodName := ⟨R_B, "crossing", "(III)I"⟩
abbrev b_W_cornerLabel : ByteArray := prog_3_method_26_code
def y_W_cornerLabel : MethodName := ⟨R_W, "cornerLabel", "(II)I"⟩
abbrev b_W_labelAbove : ByteArray := prog_3_method_27_code
def y_W_labelAbove : MethodName := ⟨R_W, "labelAbove", "(II)I"⟩
abbrev b_W_madeLabel : ByteArray := prog_3_method_29_code
def y_W_madeLabel : MethodName := ⟨R_W, "madeLabel", "(II)I"⟩
abbrev b_W_labelBelow : ByteArray := prog_3_method_28_code
def y_W_labelBelow : MethodName := ⟨R_W, "labelBelow", "(II)I"⟩
abbrev b_M_init : ByteArray := prog_5_method_1_code
def y_M_init : MethodName := ⟨R_M, "<init>", "()V"⟩
abbrev b_M_strands : ByteArray := prog_5_method_6_code
def y_M_strands : MethodName := ⟨R_M, "strands", "(II)Z"⟩
abbrev b_M_isSlot : ByteArray := prog_5_method_3_code
def y_M_isSlot : MethodName := ⟨R_M, "isSlot", "(I)Z"⟩
abbrev b_M_letter : ByteArray := prog_5_method_7_code
def y_M_letter : MethodName := ⟨R_M, "letter", "(II)I"⟩
abbrev b_M_copy : ByteArray := prog_5_method_8_code
def y_M_copy : MethodName := ⟨R_M, "copy", "(IIZ)Z"⟩
abbrev b_M_letterAt : ByteArray := prog_5_method_5_code
def y_M_letterAt : MethodName := ⟨R_M, "letterAt", "(II)I"⟩
abbrev b_M_end : ByteArray := prog_5_method_10_code
def y_M_end : MethodName := ⟨R_M, "end", "(II)I"⟩
abbrev b_M_endOf : ByteArray := prog_5_method_9_code
def y_M_endOf : MethodName := ⟨R_M, "endOf", "(II)I"⟩
abbrev b_M_value : ByteArray := prog_5_method_4_code
def y_M_value : MethodName := ⟨R_M, "value", "(I)I"⟩
abbrev b_M_many : ByteArray := prog_5_method_14_code
def y_M_many : MethodName := ⟨R_M, "many", "(II)I"⟩
abbrev b_M_signs : ByteArray := prog_5_method_13_code
def y_M_signs : MethodName := ⟨R_M, "signs", "(I)I"⟩
abbrev b_M_rounds : ByteArray := prog_5_method_11_code
def y_M_rounds : MethodName := ⟨R_M, "rounds", "(I)I"⟩
abbrev b_M_untouched : ByteArray := prog_5_method_12_code
def y_M_untouched : MethodName := ⟨R_M, "untouched", "(I)I"⟩
abbrev b_M_at : ByteArray := prog_5_method_15_code
def y_M_at : MethodName := ⟨R_M, "at", "(II)I"⟩
abbrev b_M_reduce : ByteArray := prog_5_method_17_code
def y_M_reduce : MethodName := ⟨R_M, "reduce", "(IZ)I"⟩
abbrev b_M_remove : ByteArray := prog_5_method_16_code
def y_M_remove : MethodName := ⟨R_M, "remove", "(II)V"⟩
abbrev b_M_round : ByteArray := prog_5_method_18_code
def y_M_round : MethodName := ⟨R_M, "round", "(IZ)Z"⟩
abbrev b_M_exchange : ByteArray := prog_5_method_19_code
def y_M_exchange : MethodName := ⟨R_M, "exchange", "(II)Z"⟩
abbrev b_M_pass : ByteArray := prog_5_method_20_code
def y_M_pass : MethodName := ⟨R_M, "pass", "(II)Z"⟩
abbrev b_M_grow : ByteArray := prog_5_method_21_code
def y_M_grow : MethodName := ⟨R_M, "grow", "(II)Z"⟩
abbrev b_M_shrink : ByteArray := prog_5_method_22_code
def y_M_shrink : MethodName := ⟨R_M, "shrink", "(I)Z"⟩
abbrev b_M_same : ByteArray := prog_5_method_34_code
def y_M_same : MethodName := ⟨R_M, "same", "(II)Z"⟩
abbrev b_M_know : ByteArray := prog_5_method_33_code
def y_M_know : MethodName := ⟨R_M, "know", "(I)V"⟩
abbrev b_M_makePositive : ByteArray := prog_5_method_31_code
def y_M_makePositive : MethodName := ⟨R_M, "makePositive", "(I)V"⟩
abbrev b_M_writeSimple : ByteArray := prog_5_method_29_code
def y_M_writeSimple : MethodName := ⟨R_M, "writeSimple", "(I)V"⟩
abbrev b_M_takeSimple : ByteArray := prog_5_method_32_code
def y_M_takeSimple : MethodName := ⟨R_M, "takeSimple", "(I)V"⟩
abbrev b_M_clearChain : ByteArray := prog_5_method_23_code
def y_M_clearChain : MethodName := ⟨R_M, "clearChain", "()V"⟩
abbrev b_M_writeTurn : ByteArray := prog_5_method_30_code
def y_M_writeTurn : MethodName := ⟨R_M, "writeTurn", "(I)V"⟩
abbrev b_M_insert : ByteArray := prog_5_method_24_code
def y_M_insert : MethodName := ⟨R_M, "insert", "(II)I"⟩
abbrev b_M_turnRight : ByteArray := prog_5_method_27_code
def y_M_turnRight : MethodName := ⟨R_M, "turnRight", "()V"⟩
abbrev b_M_take : ByteArray := prog_5_method_25_code
def y_M_take : MethodName := ⟨R_M, "take", "(I)V"⟩
abbrev b_M_isNear : ByteArray := prog_5_method_26_code
def y_M_isNear : MethodName := ⟨R_M, "isNear", "(II)Z"⟩
abbrev b_M_turnLeft : ByteArray := prog_5_method_28_code
def y_M_turnLeft : MethodName := ⟨R_M, "turnLeft", "()V"⟩
abbrev b_M_form : ByteArray := prog_5_method_35_code
def y_M_form : MethodName := ⟨R_M, "form", "(III)I"⟩
abbrev b_M_length : ByteArray := prog_5_method_36_code
def y_M_length : MethodName := ⟨R_M, "length", "(I)I"⟩
abbrev b_M_crossing : ByteArray := prog_5_method_38_code
def y_M_crossing : MethodName := ⟨R_M, "crossing", "(III)I"⟩
abbrev b_M_close : ByteArray := prog_5_method_37_code
def y_M_close : MethodName := ⟨R_M, "close", "(I)V"⟩
def G0 : List Cond := lw_tbl.filter goodWord
theorem G0_good : ∀ w ∈ G0, goodWord w = true := fun _ h => (List.mem_filter.mp h).2
theorem G0_of {w : Cond} {i : Nat} (h : tables_1[i]? = some w) (g : goodWord w = true) : w ∈ G0 := List.mem_filter.mpr ⟨List.mem_append_right _ (List.mem_of_getElem? h), g⟩
theorem G0_sel {q : MethodName × Nat} (h : q ∈ lw_privs) : Cond.selects q.1.cls q.1 q.1 ∈ k2_sels lw_privs → goodWord (Cond.selects q.1.cls q.1 q.1) = true → Cond.selects q.1.cls q.1 q.1 ∈ G0 := fun m g => List.mem_filter.mpr ⟨List.mem_append_left _ m, g⟩
