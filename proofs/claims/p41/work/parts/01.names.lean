-- ===== PART A: goes FIRST, ahead of the names: the tables' words, and 'selects' of the private methods out of them =====
/-- a private method of a class that the tables say can be made, by its rows of tables_1 -/
def lw_okq (q : MethodName × Nat) : Prop := (q.1.cls ≠ "java/lang/invoke/MethodHandle" ∧ q.1.cls ≠ "java/lang/invoke/VarHandle") ∧ Cond.instantiable q.1.cls q.2 ∈ tables_1 ∧ Cond.privateMethod q.1 ∈ tables_1 ∧ Cond.instanceMethod q.1 ∈ tables_1
theorem lw_p0 : lw_okq (⟨"NineHeaps", "walkerOf", "(I)LNineHeaps$Walker;"⟩, 20) := ⟨⟨by decide +kernel, by decide +kernel⟩, List.mem_of_getElem? (i := 26) (by decide +kernel), List.mem_of_getElem? (i := 297) (by decide +kernel), List.mem_of_getElem? (i := 298) (by decide +kernel)⟩
theorem lw_p1 : lw_okq (⟨"NineHeaps", "layPlain", "()V"⟩, 20) := ⟨⟨by decide +kernel, by decide +kernel⟩, List.mem_of_getElem? (i := 26) (by decide +kernel), List.mem_of_getElem? (i := 340) (by decide +kernel), List.mem_of_getElem? (i := 341) (by decide +kernel)⟩
theorem lw_p2 : lw_okq (⟨"NineHeaps", "layWithout", "(I)V"⟩, 20) := ⟨⟨by decide +kernel, by decide +kernel⟩, List.mem_of_getElem? (i := 26) (by decide +kernel), List.mem_of_getElem? (i := 344) (by decide +kernel), List.mem_of_getElem? (i := 345) (by decide +kernel)⟩
theorem lw_p3 : lw_okq (⟨"NineHeaps", "layHeaps", "()V"⟩, 20) := ⟨⟨by decide +kernel, by decide +kernel⟩, List.mem_of_getElem? (i := 26) (by decide +kernel), List.mem_of_getElem? (i := 348) (by decide +kernel), List.mem_of_getElem? (i := 349) (by decide +kernel)⟩
theorem lw_p4 : lw_okq (⟨"NineHeaps", "textOf", "(I)LNineHeaps$Law;"⟩, 20) := ⟨⟨by decide +kernel, by decide +kernel⟩, List.mem_of_getElem? (i := 26) (by decide +kernel), List.mem_of_getElem? (i := 352) (by decide +kernel), List.mem_of_getElem? (i := 353) (by decide +kernel)⟩
theorem lw_p5 : lw_okq (⟨"NineHeaps$Going", "moveOn", "(LNineHeaps$Walker;)V"⟩, 13) := ⟨⟨by decide +kernel, by decide +kernel⟩, List.mem_of_getElem? (i := 79) (by decide +kernel), List.mem_of_getElem? (i := 382) (by decide +kernel), List.mem_of_getElem? (i := 383) (by decide +kernel)⟩
theorem lw_p6 : lw_okq (⟨"NineHeaps$Going", "endTaking", "(LNineHeaps$Walker;LNineHeaps$Heap;)V"⟩, 13) := ⟨⟨by decide +kernel, by decide +kernel⟩, List.mem_of_getElem? (i := 79) (by decide +kernel), List.mem_of_getElem? (i := 393) (by decide +kernel), List.mem_of_getElem? (i := 394) (by decide +kernel)⟩
theorem lw_p7 : lw_okq (⟨"NineHeaps$Going", "endProgramme", "(LNineHeaps$Walker;)V"⟩, 13) := ⟨⟨by decide +kernel, by decide +kernel⟩, List.mem_of_getElem? (i := 79) (by decide +kernel), List.mem_of_getElem? (i := 401) (by decide +kernel), List.mem_of_getElem? (i := 402) (by decide +kernel)⟩
theorem lw_p8 : lw_okq (⟨"NineHeaps$Law", "read", "(I)I"⟩, 5) := ⟨⟨by decide +kernel, by decide +kernel⟩, List.mem_of_getElem? (i := 168) (by decide +kernel), List.mem_of_getElem? (i := 413) (by decide +kernel), List.mem_of_getElem? (i := 414) (by decide +kernel)⟩
theorem lw_p9 : lw_okq (⟨"NineHeaps", "orderByNumbers", "()V"⟩, 20) := ⟨⟨by decide +kernel, by decide +kernel⟩, List.mem_of_getElem? (i := 26) (by decide +kernel), List.mem_of_getElem? (i := 487) (by decide +kernel), List.mem_of_getElem? (i := 488) (by decide +kernel)⟩
theorem lw_p10 : lw_okq (⟨"NineHeaps", "layByOrder", "()V"⟩, 20) := ⟨⟨by decide +kernel, by decide +kernel⟩, List.mem_of_getElem? (i := 26) (by decide +kernel), List.mem_of_getElem? (i := 491) (by decide +kernel), List.mem_of_getElem? (i := 492) (by decide +kernel)⟩
theorem lw_p11 : lw_okq (⟨"NineHeaps", "orderAsDigits", "()I"⟩, 20) := ⟨⟨by decide +kernel, by decide +kernel⟩, List.mem_of_getElem? (i := 26) (by decide +kernel), List.mem_of_getElem? (i := 496) (by decide +kernel), List.mem_of_getElem? (i := 497) (by decide +kernel)⟩
theorem lw_p12 : lw_okq (⟨"NineHeaps", "nextOrder", "()Z"⟩, 20) := ⟨⟨by decide +kernel, by decide +kernel⟩, List.mem_of_getElem? (i := 26) (by decide +kernel), List.mem_of_getElem? (i := 500) (by decide +kernel), List.mem_of_getElem? (i := 501) (by decide +kernel)⟩
theorem lw_p13 : lw_okq (⟨"NineHeaps", "swapInOrder", "(II)V"⟩, 20) := ⟨⟨by decide +kernel, by decide +kernel⟩, List.mem_of_getElem? (i := 26) (by decide +kernel), List.mem_of_getElem? (i := 504) (by decide +kernel), List.mem_of_getElem? (i := 505) (by decide +kernel)⟩
theorem lw_p14 : lw_okq (⟨"NineHeaps", "refusedJudging", "(II)I"⟩, 20) := ⟨⟨by decide +kernel, by decide +kernel⟩, List.mem_of_getElem? (i := 26) (by decide +kernel), List.mem_of_getElem? (i := 516) (by decide +kernel), List.mem_of_getElem? (i := 517) (by decide +kernel)⟩
theorem lw_p15 : lw_okq (⟨"NineHeaps", "refusedTelling", "(I)I"⟩, 20) := ⟨⟨by decide +kernel, by decide +kernel⟩, List.mem_of_getElem? (i := 26) (by decide +kernel), List.mem_of_getElem? (i := 520) (by decide +kernel), List.mem_of_getElem? (i := 521) (by decide +kernel)⟩
def lw_privs_1 : List (MethodName × Nat) := [(⟨"NineHeaps", "walkerOf", "(I)LNineHeaps$Walker;"⟩, 20), (⟨"NineHeaps", "layPlain", "()V"⟩, 20), (⟨"NineHeaps", "layWithout", "(I)V"⟩, 20), (⟨"NineHeaps", "layHeaps", "()V"⟩, 20), (⟨"NineHeaps", "textOf", "(I)LNineHeaps$Law;"⟩, 20), (⟨"NineHeaps$Going", "moveOn", "(LNineHeaps$Walker;)V"⟩, 13), (⟨"NineHeaps$Going", "endTaking", "(LNineHeaps$Walker;LNineHeaps$Heap;)V"⟩, 13), (⟨"NineHeaps$Going", "endProgramme", "(LNineHeaps$Walker;)V"⟩, 13), (⟨"NineHeaps$Law", "read", "(I)I"⟩, 5), (⟨"NineHeaps", "orderByNumbers", "()V"⟩, 20), (⟨"NineHeaps", "layByOrder", "()V"⟩, 20), (⟨"NineHeaps", "orderAsDigits", "()I"⟩, 20), (⟨"NineHeaps", "nextOrder", "()Z"⟩, 20), (⟨"NineHeaps", "swapInOrder", "(II)V"⟩, 20), (⟨"NineHeaps", "refusedJudging", "(II)I"⟩, 20), (⟨"NineHeaps", "refusedTelling", "(I)I"⟩, 20)]
theorem lw_r1 : ∀ q ∈ lw_privs_1, lw_okq q := List.forall_mem_cons.mpr ⟨lw_p0, List.forall_mem_cons.mpr ⟨lw_p1, List.forall_mem_cons.mpr ⟨lw_p2, List.forall_mem_cons.mpr ⟨lw_p3, List.forall_mem_cons.mpr ⟨lw_p4, List.forall_mem_cons.mpr ⟨lw_p5, List.forall_mem_cons.mpr ⟨lw_p6, List.forall_mem_cons.mpr ⟨lw_p7, List.forall_mem_cons.mpr ⟨lw_p8, List.forall_mem_cons.mpr ⟨lw_p9, List.forall_mem_cons.mpr ⟨lw_p10, List.forall_mem_cons.mpr ⟨lw_p11, List.forall_mem_cons.mpr ⟨lw_p12, List.forall_mem_cons.mpr ⟨lw_p13, List.forall_mem_cons.mpr ⟨lw_p14, List.forall_mem_cons.mpr ⟨lw_p15, fun _ h => absurd h List.not_mem_nil⟩⟩⟩⟩⟩⟩⟩⟩⟩⟩⟩⟩⟩⟩⟩⟩
theorem lw_p16 : lw_okq (⟨"NineHeaps", "sheetOf", "(I)LNineHeaps$Sheet;"⟩, 20) := ⟨⟨by decide +kernel, by decide +kernel⟩, List.mem_of_getElem? (i := 26) (by decide +kernel), List.mem_of_getElem? (i := 524) (by decide +kernel), List.mem_of_getElem? (i := 525) (by decide +kernel)⟩
theorem lw_p17 : lw_okq (⟨"NineHeaps", "firstOtherwise", "(I)I"⟩, 20) := ⟨⟨by decide +kernel, by decide +kernel⟩, List.mem_of_getElem? (i := 26) (by decide +kernel), List.mem_of_getElem? (i := 532) (by decide +kernel), List.mem_of_getElem? (i := 533) (by decide +kernel)⟩
theorem lw_p18 : lw_okq (⟨"NineHeaps", "changeWant", "(I)I"⟩, 20) := ⟨⟨by decide +kernel, by decide +kernel⟩, List.mem_of_getElem? (i := 26) (by decide +kernel), List.mem_of_getElem? (i := 568) (by decide +kernel), List.mem_of_getElem? (i := 569) (by decide +kernel)⟩
theorem lw_p19 : lw_okq (⟨"NineHeaps$Tape", "nextToken", "()V"⟩, 10) := ⟨⟨by decide +kernel, by decide +kernel⟩, List.mem_of_getElem? (i := 38) (by decide +kernel), List.mem_of_getElem? (i := 1033) (by decide +kernel), List.mem_of_getElem? (i := 1034) (by decide +kernel)⟩
theorem lw_p20 : lw_okq (⟨"NineHeaps$Tape", "byteAt", "(I)I"⟩, 10) := ⟨⟨by decide +kernel, by decide +kernel⟩, List.mem_of_getElem? (i := 38) (by decide +kernel), List.mem_of_getElem? (i := 1037) (by decide +kernel), List.mem_of_getElem? (i := 1038) (by decide +kernel)⟩
theorem lw_p21 : lw_okq (⟨"NineHeaps$Tape", "takeWord", "()V"⟩, 10) := ⟨⟨by decide +kernel, by decide +kernel⟩, List.mem_of_getElem? (i := 38) (by decide +kernel), List.mem_of_getElem? (i := 1044) (by decide +kernel), List.mem_of_getElem? (i := 1045) (by decide +kernel)⟩
theorem lw_p22 : lw_okq (⟨"NineHeaps$Tape", "spells", "(Ljava/lang/String;)Z"⟩, 10) := ⟨⟨by decide +kernel, by decide +kernel⟩, List.mem_of_getElem? (i := 38) (by decide +kernel), List.mem_of_getElem? (i := 1049) (by decide +kernel), List.mem_of_getElem? (i := 1050) (by decide +kernel)⟩
theorem lw_p23 : lw_okq (⟨"NineHeaps$Tape", "takeNumber", "()V"⟩, 10) := ⟨⟨by decide +kernel, by decide +kernel⟩, List.mem_of_getElem? (i := 38) (by decide +kernel), List.mem_of_getElem? (i := 1069) (by decide +kernel), List.mem_of_getElem? (i := 1070) (by decide +kernel)⟩
theorem lw_p24 : lw_okq (⟨"NineHeaps$Tape", "readPart", "(II)V"⟩, 10) := ⟨⟨by decide +kernel, by decide +kernel⟩, List.mem_of_getElem? (i := 38) (by decide +kernel), List.mem_of_getElem? (i := 1076) (by decide +kernel), List.mem_of_getElem? (i := 1077) (by decide +kernel)⟩
theorem lw_p25 : lw_okq (⟨"NineHeaps$Tape", "expect", "(I)V"⟩, 10) := ⟨⟨by decide +kernel, by decide +kernel⟩, List.mem_of_getElem? (i := 38) (by decide +kernel), List.mem_of_getElem? (i := 1080) (by decide +kernel), List.mem_of_getElem? (i := 1081) (by decide +kernel)⟩
theorem lw_p26 : lw_okq (⟨"NineHeaps$Tape", "fail", "()V"⟩, 10) := ⟨⟨by decide +kernel, by decide +kernel⟩, List.mem_of_getElem? (i := 38) (by decide +kernel), List.mem_of_getElem? (i := 1084) (by decide +kernel), List.mem_of_getElem? (i := 1085) (by decide +kernel)⟩
theorem lw_p27 : lw_okq (⟨"NineHeaps$Tape", "readOr", "(I)V"⟩, 10) := ⟨⟨by decide +kernel, by decide +kernel⟩, List.mem_of_getElem? (i := 38) (by decide +kernel), List.mem_of_getElem? (i := 1088) (by decide +kernel), List.mem_of_getElem? (i := 1089) (by decide +kernel)⟩
theorem lw_p28 : lw_okq (⟨"NineHeaps$Tape", "readAnd", "(I)V"⟩, 10) := ⟨⟨by decide +kernel, by decide +kernel⟩, List.mem_of_getElem? (i := 38) (by decide +kernel), List.mem_of_getElem? (i := 1092) (by decide +kernel), List.mem_of_getElem? (i := 1093) (by decide +kernel)⟩
theorem lw_p29 : lw_okq (⟨"NineHeaps$Tape", "readNot", "(I)V"⟩, 10) := ⟨⟨by decide +kernel, by decide +kernel⟩, List.mem_of_getElem? (i := 38) (by decide +kernel), List.mem_of_getElem? (i := 1096) (by decide +kernel), List.mem_of_getElem? (i := 1097) (by decide +kernel)⟩
theorem lw_p30 : lw_okq (⟨"NineHeaps$Tape", "mayOpen", "(I)Z"⟩, 10) := ⟨⟨by decide +kernel, by decide +kernel⟩, List.mem_of_getElem? (i := 38) (by decide +kernel), List.mem_of_getElem? (i := 1100) (by decide +kernel), List.mem_of_getElem? (i := 1101) (by decide +kernel)⟩
theorem lw_p31 : lw_okq (⟨"NineHeaps$Tape", "put", "(I)V"⟩, 10) := ⟨⟨by decide +kernel, by decide +kernel⟩, List.mem_of_getElem? (i := 38) (by decide +kernel), List.mem_of_getElem? (i := 1104) (by decide +kernel), List.mem_of_getElem? (i := 1105) (by decide +kernel)⟩
def lw_privs_2 : List (MethodName × Nat) := [(⟨"NineHeaps", "sheetOf", "(I)LNineHeaps$Sheet;"⟩, 20), (⟨"NineHeaps", "firstOtherwise", "(I)I"⟩, 20), (⟨"NineHeaps", "changeWant", "(I)I"⟩, 20), (⟨"NineHeaps$Tape", "nextToken", "()V"⟩, 10), (⟨"NineHeaps$Tape", "byteAt", "(I)I"⟩, 10), (⟨"NineHeaps$Tape", "takeWord", "()V"⟩, 10), (⟨"NineHeaps$Tape", "spells", "(Ljava/lang/String;)Z"⟩, 10), (⟨"NineHeaps$Tape", "takeNumber", "()V"⟩, 10), (⟨"NineHeaps$Tape", "readPart", "(II)V"⟩, 10), (⟨"NineHeaps$Tape", "expect", "(I)V"⟩, 10), (⟨"NineHeaps$Tape", "fail", "()V"⟩, 10), (⟨"NineHeaps$Tape", "readOr", "(I)V"⟩, 10), (⟨"NineHeaps$Tape", "readAnd", "(I)V"⟩, 10), (⟨"NineHeaps$Tape", "readNot", "(I)V"⟩, 10), (⟨"NineHeaps$Tape", "mayOpen", "(I)Z"⟩, 10), (⟨"NineHeaps$Tape", "put", "(I)V"⟩, 10)]
theorem lw_r2 : ∀ q ∈ lw_privs_2, lw_okq q := List.forall_mem_cons.mpr ⟨lw_p16, List.forall_mem_cons.mpr ⟨lw_p17, List.forall_mem_cons.mpr ⟨lw_p18, List.forall_mem_cons.mpr ⟨lw_p19, List.forall_mem_cons.mpr ⟨lw_p20, List.forall_mem_cons.mpr ⟨lw_p21, List.forall_mem_cons.mpr ⟨lw_p22, List.forall_mem_cons.mpr ⟨lw_p23, List.forall_mem_cons.mpr ⟨lw_p24, List.forall_mem_cons.mpr ⟨lw_p25, List.forall_mem_cons.mpr ⟨lw_p26, List.forall_mem_cons.mpr ⟨lw_p27, List.forall_mem_cons.mpr ⟨lw_p28, List.forall_mem_cons.mpr ⟨lw_p29, List.forall_mem_cons.mpr ⟨lw_p30, List.forall_mem_cons.mpr ⟨lw_p31, fun _ h => absurd h List.not_mem_nil⟩⟩⟩⟩⟩⟩⟩⟩⟩⟩⟩⟩⟩⟩⟩⟩
theorem lw_p32 : lw_okq (⟨"NineHeaps$Tape", "readSum", "(I)V"⟩, 10) := ⟨⟨by decide +kernel, by decide +kernel⟩, List.mem_of_getElem? (i := 38) (by decide +kernel), List.mem_of_getElem? (i := 1108) (by decide +kernel), List.mem_of_getElem? (i := 1109) (by decide +kernel)⟩
theorem lw_p33 : lw_okq (⟨"NineHeaps$Tape", "readTerm", "(I)V"⟩, 10) := ⟨⟨by decide +kernel, by decide +kernel⟩, List.mem_of_getElem? (i := 38) (by decide +kernel), List.mem_of_getElem? (i := 1112) (by decide +kernel), List.mem_of_getElem? (i := 1113) (by decide +kernel)⟩
theorem lw_p34 : lw_okq (⟨"NineHeaps$Tape", "readOne", "(I)V"⟩, 10) := ⟨⟨by decide +kernel, by decide +kernel⟩, List.mem_of_getElem? (i := 38) (by decide +kernel), List.mem_of_getElem? (i := 1116) (by decide +kernel), List.mem_of_getElem? (i := 1117) (by decide +kernel)⟩
def lw_privs_3 : List (MethodName × Nat) := [(⟨"NineHeaps$Tape", "readSum", "(I)V"⟩, 10), (⟨"NineHeaps$Tape", "readTerm", "(I)V"⟩, 10), (⟨"NineHeaps$Tape", "readOne", "(I)V"⟩, 10)]
theorem lw_r3 : ∀ q ∈ lw_privs_3, lw_okq q := List.forall_mem_cons.mpr ⟨lw_p32, List.forall_mem_cons.mpr ⟨lw_p33, List.forall_mem_cons.mpr ⟨lw_p34, fun _ h => absurd h List.not_mem_nil⟩⟩⟩
def lw_privs : List (MethodName × Nat) := lw_privs_1 ++ (lw_privs_2 ++ (lw_privs_3))
def lw_tbl : List Cond := k2_sels lw_privs ++ tables_1
theorem lw_privs_ok : ∀ q ∈ lw_privs, lw_okq q := by
  show ∀ q ∈ lw_privs_1 ++ (lw_privs_2 ++ (lw_privs_3)), lw_okq q
  exact List.forall_mem_append.mpr ⟨lw_r1, List.forall_mem_append.mpr ⟨lw_r2, lw_r3⟩⟩

def RX0 : String := "NineHeaps$Going"
def TX0 : u_T := fun k => match k with
  | 0 => ("NineHeaps$Going", "heaps", "[LNineHeaps$Heap;", true)
  | 1 => ("NineHeaps$Going", "goers", "[LNineHeaps$Walker;", true)
  | 2 => ("NineHeaps$Going", "goerCount", "I", false)
  | 3 => ("NineHeaps$Going", "many", "I", false)
  | 4 => ("NineHeaps$Going", "want", "I", false)
  | 5 => ("NineHeaps$Going", "second", "I", false)
  | 6 => ("NineHeaps$Going", "off", "[I", true)
  | 7 => ("NineHeaps$Going", "law", "LNineHeaps$Law;", false)
  | 8 => ("NineHeaps$Going", "offCount", "I", false)
  | 9 => ("NineHeaps$Going", "programmes", "I", false)
  | 10 => ("NineHeaps$Going", "wrong", "I", false)
  | 11 => ("NineHeaps$Going", "lacking", "I", false)
  | _ => ("NineHeaps$Going", "wantedIn", "I", false)
def tyX0 : Nat → FieldType := fun k => match k with
  | 0 => .array (.object "NineHeaps$Heap")
  | 1 => .array (.object "NineHeaps$Walker")
  | 2 => .int
  | 3 => .int
  | 4 => .int
  | 5 => .int
  | 6 => .array .int
  | 7 => .object "NineHeaps$Law"
  | 8 => .int
  | 9 => .int
  | 10 => .int
  | 11 => .int
  | _ => .int
theorem nmX0 : ∀ a, a < 13 → ∀ b, b < 13 → a ≠ b → (TX0 a).2.1 ≠ (TX0 b).2.1 := by decide +kernel
theorem tyX0_ok : ∀ k, k < 13 → parseFieldDescriptor (TX0 k).2.2.1 = some (tyX0 k) := by decide +kernel
abbrev cX0_init : ByteArray := prog_2_method_1_code
def yX0_init : MethodName := ⟨RX0, "<init>", "()V"⟩
abbrev cX0_lay : ByteArray := prog_2_method_2_code
def yX0_lay : MethodName := ⟨RX0, "lay", "([I[ILNineHeaps$Law;II)V"⟩
abbrev cX0_join : ByteArray := prog_2_method_3_code
def yX0_join : MethodName := ⟨RX0, "join", "(LNineHeaps$Walker;)V"⟩
abbrev cX0_heapAt : ByteArray := prog_2_method_4_code
def yX0_heapAt : MethodName := ⟨RX0, "heapAt", "(I)LNineHeaps$Heap;"⟩
abbrev cX0_badness : ByteArray := prog_2_method_7_code
def yX0_badness : MethodName := ⟨RX0, "badness", "()I"⟩
abbrev cX0_pass : ByteArray := prog_2_method_8_code
def yX0_pass : MethodName := ⟨RX0, "pass", "(I)V"⟩
abbrev cX0_moveOn : ByteArray := prog_2_method_9_code
def yX0_moveOn : MethodName := ⟨RX0, "moveOn", "(LNineHeaps$Walker;)V"⟩
abbrev cX0_endTaking : ByteArray := prog_2_method_10_code
def yX0_endTaking : MethodName := ⟨RX0, "endTaking", "(LNineHeaps$Walker;LNineHeaps$Heap;)V"⟩
abbrev cX0_endProgramme : ByteArray := prog_2_method_11_code
def yX0_endProgramme : MethodName := ⟨RX0, "endProgramme", "(LNineHeaps$Walker;)V"⟩
abbrev cX0_takesOf : ByteArray := prog_2_method_12_code
def yX0_takesOf : MethodName := ⟨RX0, "takesOf", "(LNineHeaps$Walker;LNineHeaps$Heap;I)I"⟩
abbrev cX0_stepOf : ByteArray := prog_2_method_13_code
def yX0_stepOf : MethodName := ⟨RX0, "stepOf", "(LNineHeaps$Walker;LNineHeaps$Heap;I)I"⟩
def RX1 : String := "NineHeaps$Grandfather"
def TX1 : u_T := fun k => match k with
  | 0 => ("NineHeaps$Walker", "number", "I", true)
  | 1 => ("NineHeaps$Walker", "more", "I", true)
  | 2 => ("NineHeaps$Walker", "from", "I", false)
  | 3 => ("NineHeaps$Walker", "at", "I", false)
  | 4 => ("NineHeaps$Walker", "doing", "I", false)
  | 5 => ("NineHeaps$Walker", "left", "I", false)
  | 6 => ("NineHeaps$Walker", "done", "I", false)
  | 7 => ("NineHeaps$Walker", "waited", "I", false)
  | 8 => ("NineHeaps$Walker", "has", "I", false)
  | 9 => ("NineHeaps$Walker", "blotted", "Z", false)
  | _ => ("NineHeaps$Walker", "lacks", "Z", false)
def tyX1 : Nat → FieldType := fun k => match k with
  | 0 => .int
  | 1 => .int
  | 2 => .int
  | 3 => .int
  | 4 => .int
  | 5 => .int
  | 6 => .int
  | 7 => .int
  | 8 => .int
  | 9 => .boolean
  | _ => .boolean
theorem nmX1 : ∀ a, a < 11 → ∀ b, b < 11 → a ≠ b → (TX1 a).2.1 ≠ (TX1 b).2.1 := by decide +kernel
theorem tyX1_ok : ∀ k, k < 11 → parseFieldDescriptor (TX1 k).2.2.1 = some (tyX1 k) := by decide +kernel
abbrev cX1_init : ByteArray := prog_3_method_1_code
def yX1_init : MethodName := ⟨RX1, "<init>", "(III)V"⟩
abbrev cX1_kind : ByteArray := prog_3_method_2_code
def yX1_kind : MethodName := ⟨RX1, "kind", "()I"⟩
abbrev cX1_takesFor : ByteArray := prog_3_method_4_code
def yX1_takesFor : MethodName := ⟨RX1, "takesFor", "(II)I"⟩
abbrev cX1_stepFor : ByteArray := prog_3_method_5_code
def yX1_stepFor : MethodName := ⟨RX1, "stepFor", "(I)I"⟩
def RX2 : String := "NineHeaps$Heap"
def TX2 : u_T := fun k => match k with
  | 0 => ("NineHeaps$Heap", "number", "I", true)
  | 1 => ("NineHeaps$Heap", "high", "I", false)
  | 2 => ("NineHeaps$Heap", "stick", "I", false)
  | 3 => ("NineHeaps$Heap", "takings", "I", false)
  | 4 => ("NineHeaps$Heap", "takers", "I", false)
  | 5 => ("NineHeaps$Heap", "ranOut", "I", false)
  | _ => ("NineHeaps$Heap", "missed", "Z", false)
def tyX2 : Nat → FieldType := fun k => match k with
  | 0 => .int
  | 1 => .int
  | 2 => .int
  | 3 => .int
  | 4 => .int
  | 5 => .int
  | _ => .boolean
theorem nmX2 : ∀ a, a < 7 → ∀ b, b < 7 → a ≠ b → (TX2 a).2.1 ≠ (TX2 b).2.1 := by decide +kernel
theorem tyX2_ok : ∀ k, k < 7 → parseFieldDescriptor (TX2 k).2.2.1 = some (tyX2 k) := by decide +kernel
abbrev cX2_init : ByteArray := prog_4_method_1_code
def yX2_init : MethodName := ⟨RX2, "<init>", "(I)V"⟩
abbrev cX2_beginGoing : ByteArray := prog_4_method_2_code
def yX2_beginGoing : MethodName := ⟨RX2, "beginGoing", "(II)V"⟩
abbrev cX2_lift : ByteArray := prog_4_method_3_code
def yX2_lift : MethodName := ⟨RX2, "lift", "(I)I"⟩
def RX3 : String := "NineHeaps$Law"
def TX3 : u_T := fun k => match k with
  | 0 => ("NineHeaps$Law", "words", "[I", true)
  | 1 => ("NineHeaps$Law", "starts", "[I", true)
  | 2 => ("NineHeaps$Law", "stack", "[I", true)
  | 3 => ("NineHeaps$Law", "names", "[I", true)
  | _ => ("NineHeaps$Law", "lone", "[I", true)
def tyX3 : Nat → FieldType := fun k => match k with
  | 0 => .array .int
  | 1 => .array .int
  | 2 => .array .int
  | 3 => .array .int
  | _ => .array .int
theorem nmX3 : ∀ a, a < 5 → ∀ b, b < 5 → a ≠ b → (TX3 a).2.1 ≠ (TX3 b).2.1 := by decide +kernel
theorem tyX3_ok : ∀ k, k < 5 → parseFieldDescriptor (TX3 k).2.2.1 = some (tyX3 k) := by decide +kernel
abbrev cX3_init : ByteArray := prog_5_method_1_code
def yX3_init : MethodName := ⟨RX3, "<init>", "([I[I)V"⟩
abbrev cX3_says : ByteArray := prog_5_method_2_code
def yX3_says : MethodName := ⟨RX3, "says", "(ILNineHeaps$Walker;IIII)I"⟩
abbrev cX3_bounded : ByteArray := prog_5_method_3_code
def yX3_bounded : MethodName := ⟨RX3, "bounded", "(II)I"⟩
abbrev cX3_read : ByteArray := prog_5_method_4_code
def yX3_read : MethodName := ⟨RX3, "read", "(I)I"⟩
abbrev cX3_worked : ByteArray := prog_5_method_5_code
def yX3_worked : MethodName := ⟨RX3, "worked", "(III)I"⟩
def RX4 : String := "NineHeaps$Passing"
def TX4 : u_T := fun k => match k with
  | 0 => ("NineHeaps$Walker", "number", "I", true)
  | 1 => ("NineHeaps$Walker", "more", "I", true)
  | 2 => ("NineHeaps$Walker", "from", "I", false)
  | 3 => ("NineHeaps$Walker", "at", "I", false)
  | 4 => ("NineHeaps$Walker", "doing", "I", false)
  | 5 => ("NineHeaps$Walker", "left", "I", false)
  | 6 => ("NineHeaps$Walker", "done", "I", false)
  | 7 => ("NineHeaps$Walker", "waited", "I", false)
  | 8 => ("NineHeaps$Walker", "has", "I", false)
  | 9 => ("NineHeaps$Walker", "blotted", "Z", false)
  | _ => ("NineHeaps$Walker", "lacks", "Z", false)
def tyX4 : Nat → FieldType := fun k => match k with
  | 0 => .int
  | 1 => .int
  | 2 => .int
  | 3 => .int
  | 4 => .int
  | 5 => .int
  | 6 => .int
  | 7 => .int
  | 8 => .int
  | 9 => .boolean
  | _ => .boolean
theorem nmX4 : ∀ a, a < 11 → ∀ b, b < 11 → a ≠ b → (TX4 a).2.1 ≠ (TX4 b).2.1 := by decide +kernel
theorem tyX4_ok : ∀ k, k < 11 → parseFieldDescriptor (TX4 k).2.2.1 = some (tyX4 k) := by decide +kernel
abbrev cX4_init : ByteArray := prog_6_method_1_code
def yX4_init : MethodName := ⟨RX4, "<init>", "(III)V"⟩
abbrev cX4_kind : ByteArray := prog_6_method_2_code
def yX4_kind : MethodName := ⟨RX4, "kind", "()I"⟩
abbrev cX4_takesFor : ByteArray := prog_6_method_4_code
def yX4_takesFor : MethodName := ⟨RX4, "takesFor", "(II)I"⟩
abbrev cX4_waits : ByteArray := prog_6_method_5_code
def yX4_waits : MethodName := ⟨RX4, "waits", "()Z"⟩
def RX5 : String := "NineHeaps$Quick"
def TX5 : u_T := fun k => match k with
  | 0 => ("NineHeaps$Walker", "number", "I", true)
  | 1 => ("NineHeaps$Walker", "more", "I", true)
  | 2 => ("NineHeaps$Walker", "from", "I", false)
  | 3 => ("NineHeaps$Walker", "at", "I", false)
  | 4 => ("NineHeaps$Walker", "doing", "I", false)
  | 5 => ("NineHeaps$Walker", "left", "I", false)
  | 6 => ("NineHeaps$Walker", "done", "I", false)
  | 7 => ("NineHeaps$Walker", "waited", "I", false)
  | 8 => ("NineHeaps$Walker", "has", "I", false)
  | 9 => ("NineHeaps$Walker", "blotted", "Z", false)
  | _ => ("NineHeaps$Walker", "lacks", "Z", false)
def tyX5 : Nat → FieldType := fun k => match k with
  | 0 => .int
  | 1 => .int
  | 2 => .int
  | 3 => .int
  | 4 => .int
  | 5 => .int
  | 6 => .int
  | 7 => .int
  | 8 => .int
  | 9 => .boolean
  | _ => .boolean
theorem nmX5 : ∀ a, a < 11 → ∀ b, b < 11 → a ≠ b → (TX5 a).2.1 ≠ (TX5 b).2.1 := by decide +kernel
theorem tyX5_ok : ∀ k, k < 11 → parseFieldDescriptor (TX5 k).2.2.1 = some (tyX5 k) := by decide +kernel
abbrev cX5_init : ByteArray := prog_7_method_1_code
def yX5_init : MethodName := ⟨RX5, "<init>", "(III)V"⟩
abbrev cX5_kind : ByteArray := prog_7_method_2_code
def yX5_kind : MethodName := ⟨RX5, "kind", "()I"⟩
abbrev cX5_stepFor : ByteArray := prog_7_method_4_code
def yX5_stepFor : MethodName := ⟨RX5, "stepFor", "(I)I"⟩
def RX6 : String := "NineHeaps$Sheet"
def TX6 : u_T := fun k => match k with
  | 0 => ("NineHeaps$Sheet", "sort", "I", false)
  | 1 => ("NineHeaps$Sheet", "size", "I", false)
  | _ => ("NineHeaps$Sheet", "cell", "[I", true)
def tyX6 : Nat → FieldType := fun k => match k with
  | 0 => .int
  | 1 => .int
  | _ => .array .int
theorem nmX6 : ∀ a, a < 3 → ∀ b, b < 3 → a ≠ b → (TX6 a).2.1 ≠ (TX6 b).2.1 := by decide +kernel
theorem tyX6_ok : ∀ k, k < 3 → parseFieldDescriptor (TX6 k).2.2.1 = some (tyX6 k) := by decide +kernel
abbrev cX6_init : ByteArray := prog_8_method_1_code
def yX6_init : MethodName := ⟨RX6, "<init>", "()V"⟩
abbrev cX6_become : ByteArray := prog_8_method_2_code
def yX6_become : MethodName := ⟨RX6, "become", "(II)V"⟩
abbrev cX6_missing : ByteArray := prog_8_method_3_code
def yX6_missing : MethodName := ⟨RX6, "missing", "()Z"⟩
abbrev cX6_holds : ByteArray := prog_8_method_4_code
def yX6_holds : MethodName := ⟨RX6, "holds", "(II)Z"⟩
abbrev cX6_put : ByteArray := prog_8_method_5_code
def yX6_put : MethodName := ⟨RX6, "put", "(II)V"⟩
def RX7 : String := "NineHeaps$Tape"
def TX7 : u_T := fun k => match k with
  | 0 => ("NineHeaps$Tape", "bytes", "[I", true)
  | 1 => ("NineHeaps$Tape", "size", "I", false)
  | 2 => ("NineHeaps$Tape", "place", "I", false)
  | 3 => ("NineHeaps$Tape", "token", "I", false)
  | 4 => ("NineHeaps$Tape", "tokenAt", "I", false)
  | 5 => ("NineHeaps$Tape", "tokenWord", "I", false)
  | 6 => ("NineHeaps$Tape", "fault", "I", false)
  | 7 => ("NineHeaps$Tape", "words", "[I", true)
  | 8 => ("NineHeaps$Tape", "wordCount", "I", false)
  | _ => ("NineHeaps$Tape", "starts", "[I", true)
def tyX7 : Nat → FieldType := fun k => match k with
  | 0 => .array .int
  | 1 => .int
  | 2 => .int
  | 3 => .int
  | 4 => .int
  | 5 => .int
  | 6 => .int
  | 7 => .array .int
  | 8 => .int
  | _ => .array .int
theorem nmX7 : ∀ a, a < 10 → ∀ b, b < 10 → a ≠ b → (TX7 a).2.1 ≠ (TX7 b).2.1 := by decide +kernel
theorem tyX7_ok : ∀ k, k < 10 → parseFieldDescriptor (TX7 k).2.2.1 = some (tyX7 k) := by decide +kernel
abbrev cX7_init : ByteArray := prog_9_method_1_code
def yX7_init : MethodName := ⟨RX7, "<init>", "()V"⟩
abbrev cX7_add : ByteArray := prog_9_method_2_code
def yX7_add : MethodName := ⟨RX7, "add", "(I)V"⟩
abbrev cX7_read : ByteArray := prog_9_method_3_code
def yX7_read : MethodName := ⟨RX7, "read", "()I"⟩
abbrev cX7_lastRead : ByteArray := prog_9_method_4_code
def yX7_lastRead : MethodName := ⟨RX7, "lastRead", "()LNineHeaps$Law;"⟩
abbrev cX7_readPart : ByteArray := prog_9_method_5_code
def yX7_readPart : MethodName := ⟨RX7, "readPart", "(II)V"⟩
abbrev cX7_readOr : ByteArray := prog_9_method_6_code
def yX7_readOr : MethodName := ⟨RX7, "readOr", "(I)V"⟩
abbrev cX7_readAnd : ByteArray := prog_9_method_7_code
def yX7_readAnd : MethodName := ⟨RX7, "readAnd", "(I)V"⟩
abbrev cX7_readNot : ByteArray := prog_9_method_8_code
def yX7_readNot : MethodName := ⟨RX7, "readNot", "(I)V"⟩
abbrev cX7_readSum : ByteArray := prog_9_method_9_code
def yX7_readSum : MethodName := ⟨RX7, "readSum", "(I)V"⟩
abbrev cX7_readTerm : ByteArray := prog_9_method_10_code
def yX7_readTerm : MethodName := ⟨RX7, "readTerm", "(I)V"⟩
abbrev cX7_readOne : ByteArray := prog_9_method_11_code
def yX7_readOne : MethodName := ⟨RX7, "readOne", "(I)V"⟩
abbrev cX7_mayOpen : ByteArray := prog_9_method_12_code
def yX7_mayOpen : MethodName := ⟨RX7, "mayOpen", "(I)Z"⟩
abbrev cX7_expect : ByteArray := prog_9_method_13_code
def yX7_expect : MethodName := ⟨RX7, "expect", "(I)V"⟩
abbrev cX7_fail : ByteArray := prog_9_method_14_code
def yX7_fail : MethodName := ⟨RX7, "fail", "()V"⟩
abbrev cX7_put : ByteArray := prog_9_method_15_code
def yX7_put : MethodName := ⟨RX7, "put", "(I)V"⟩
abbrev cX7_nextToken : ByteArray := prog_9_method_16_code
def yX7_nextToken : MethodName := ⟨RX7, "nextToken", "()V"⟩
abbrev cX7_takeWord : ByteArray := prog_9_method_17_code
def yX7_takeWord : MethodName := ⟨RX7, "takeWord", "()V"⟩
abbrev cX7_takeNumber : ByteArray := prog_9_method_18_code
def yX7_takeNumber : MethodName := ⟨RX7, "takeNumber", "()V"⟩
abbrev cX7_spells : ByteArray := prog_9_method_19_code
def yX7_spells : MethodName := ⟨RX7, "spells", "(Ljava/lang/String;)Z"⟩
abbrev cX7_byteAt : ByteArray := prog_9_method_20_code
def yX7_byteAt : MethodName := ⟨RX7, "byteAt", "(I)I"⟩
abbrev cX7_isLetter : ByteArray := prog_9_method_21_code
def yX7_isLetter : MethodName := ⟨RX7, "isLetter", "(I)Z"⟩
abbrev cX7_isDigit : ByteArray := prog_9_method_22_code
def yX7_isDigit : MethodName := ⟨RX7, "isDigit", "(I)Z"⟩
abbrev cX7_isSign : ByteArray := prog_9_method_23_code
def yX7_isSign : MethodName := ⟨RX7, "isSign", "(I)Z"⟩
def RX8 : String := "NineHeaps$Thumbed"
def TX8 : u_T := fun k => match k with
  | 0 => ("NineHeaps$Walker", "number", "I", true)
  | 1 => ("NineHeaps$Walker", "more", "I", true)
  | 2 => ("NineHeaps$Walker", "from", "I", false)
  | 3 => ("NineHeaps$Walker", "at", "I", false)
  | 4 => ("NineHeaps$Walker", "doing", "I", false)
  | 5 => ("NineHeaps$Walker", "left", "I", false)
  | 6 => ("NineHeaps$Walker", "done", "I", false)
  | 7 => ("NineHeaps$Walker", "waited", "I", false)
  | 8 => ("NineHeaps$Walker", "has", "I", false)
  | 9 => ("NineHeaps$Walker", "blotted", "Z", false)
  | _ => ("NineHeaps$Walker", "lacks", "Z", false)
def tyX8 : Nat → FieldType := fun k => match k with
  | 0 => .int
  | 1 => .int
  | 2 => .int
  | 3 => .int
  | 4 => .int
  | 5 => .int
  | 6 => .int
  | 7 => .int
  | 8 => .int
  | 9 => .boolean
  | _ => .boolean
theorem nmX8 : ∀ a, a < 11 → ∀ b, b < 11 → a ≠ b → (TX8 a).2.1 ≠ (TX8 b).2.1 := by decide +kernel
theorem tyX8_ok : ∀ k, k < 11 → parseFieldDescriptor (TX8 k).2.2.1 = some (tyX8 k) := by decide +kernel
abbrev cX8_init : ByteArray := prog_10_method_1_code
def yX8_init : MethodName := ⟨RX8, "<init>", "(III)V"⟩
abbrev cX8_kind : ByteArray := prog_10_method_2_code
def yX8_kind : MethodName := ⟨RX8, "kind", "()I"⟩
abbrev cX8_takesFor : ByteArray := prog_10_method_4_code
def yX8_takesFor : MethodName := ⟨RX8, "takesFor", "(II)I"⟩
def RX9 : String := "NineHeaps$Two"
def TX9 : u_T := fun k => match k with
  | 0 => ("NineHeaps$Walker", "number", "I", true)
  | 1 => ("NineHeaps$Walker", "more", "I", true)
  | 2 => ("NineHeaps$Walker", "from", "I", false)
  | 3 => ("NineHeaps$Walker", "at", "I", false)
  | 4 => ("NineHeaps$Walker", "doing", "I", false)
  | 5 => ("NineHeaps$Walker", "left", "I", false)
  | 6 => ("NineHeaps$Walker", "done", "I", false)
  | 7 => ("NineHeaps$Walker", "waited", "I", false)
  | 8 => ("NineHeaps$Walker", "has", "I", false)
  | 9 => ("NineHeaps$Walker", "blotted", "Z", false)
  | _ => ("NineHeaps$Walker", "lacks", "Z", false)
def tyX9 : Nat → FieldType := fun k => match k with
  | 0 => .int
  | 1 => .int
  | 2 => .int
  | 3 => .int
  | 4 => .int
  | 5 => .int
  | 6 => .int
  | 7 => .int
  | 8 => .int
  | 9 => .boolean
  | _ => .boolean
theorem nmX9 : ∀ a, a < 11 → ∀ b, b < 11 → a ≠ b → (TX9 a).2.1 ≠ (TX9 b).2.1 := by decide +kernel
theorem tyX9_ok : ∀ k, k < 11 → parseFieldDescriptor (TX9 k).2.2.1 = some (tyX9 k) := by decide +kernel
abbrev cX9_init : ByteArray := prog_11_method_1_code
def yX9_init : MethodName := ⟨RX9, "<init>", "(III)V"⟩
abbrev cX9_kind : ByteArray := prog_11_method_2_code
def yX9_kind : MethodName := ⟨RX9, "kind", "()I"⟩
abbrev cX9_takesFor : ByteArray := prog_11_method_4_code
def yX9_takesFor : MethodName := ⟨RX9, "takesFor", "(II)I"⟩
def RX10 : String := "NineHeaps$Walker"
def TX10 : u_T := fun k => match k with
  | 0 => ("NineHeaps$Walker", "number", "I", true)
  | 1 => ("NineHeaps$Walker", "more", "I", true)
  | 2 => ("NineHeaps$Walker", "from", "I", false)
  | 3 => ("NineHeaps$Walker", "at", "I", false)
  | 4 => ("NineHeaps$Walker", "doing", "I", false)
  | 5 => ("NineHeaps$Walker", "left", "I", false)
  | 6 => ("NineHeaps$Walker", "done", "I", false)
  | 7 => ("NineHeaps$Walker", "waited", "I", false)
  | 8 => ("NineHeaps$Walker", "has", "I", false)
  | 9 => ("NineHeaps$Walker", "blotted", "Z", false)
  | _ => ("NineHeaps$Walker", "lacks", "Z", false)
def tyX10 : Nat → FieldType := fun k => match k with
  | 0 => .int
  | 1 => .int
  | 2 => .int
  | 3 => .int
  | 4 => .int
  | 5 => .int
  | 6 => .int
  | 7 => .int
  | 8 => .int
  | 9 => .boolean
  | _ => .boolean
theorem nmX10 : ∀ a, a < 11 → ∀ b, b < 11 → a ≠ b → (TX10 a).2.1 ≠ (TX10 b).2.1 := by decide +kernel
theorem tyX10_ok : ∀ k, k < 11 → parseFieldDescriptor (TX10 k).2.2.1 = some (tyX10 k) := by decide +kernel
abbrev cX10_init : ByteArray := prog_12_method_1_code
def yX10_init : MethodName := ⟨RX10, "<init>", "(III)V"⟩
abbrev cX10_kind : ByteArray := prog_12_method_2_code
def yX10_kind : MethodName := ⟨RX10, "kind", "()I"⟩
abbrev cX10_takesFor : ByteArray := prog_12_method_4_code
def yX10_takesFor : MethodName := ⟨RX10, "takesFor", "(II)I"⟩
abbrev cX10_stepFor : ByteArray := prog_12_method_5_code
def yX10_stepFor : MethodName := ⟨RX10, "stepFor", "(I)I"⟩
abbrev cX10_waits : ByteArray := prog_12_method_6_code
def yX10_waits : MethodName := ⟨RX10, "waits", "()Z"⟩
abbrev cX10_beginGoing : ByteArray := prog_12_method_7_code
def yX10_beginGoing : MethodName := ⟨RX10, "beginGoing", "()V"⟩
def RX11 : String := "NineHeaps"
def TX11 : u_T := fun k => match k with
  | 0 => ("NineHeaps", "high", "[I", true)
  | 1 => ("NineHeaps", "stick", "[I", true)
  | 2 => ("NineHeaps", "want", "I", false)
  | 3 => ("NineHeaps", "walkers", "[LNineHeaps$Walker;", true)
  | 4 => ("NineHeaps", "walkerCount", "I", false)
  | 5 => ("NineHeaps", "texts", "[LNineHeaps$Law;", true)
  | 6 => ("NineHeaps", "textCount", "I", false)
  | 7 => ("NineHeaps", "law", "I", false)
  | 8 => ("NineHeaps", "tape", "LNineHeaps$Tape;", true)
  | 9 => ("NineHeaps", "sheets", "[LNineHeaps$Sheet;", true)
  | 10 => ("NineHeaps", "going", "LNineHeaps$Going;", true)
  | 11 => ("NineHeaps", "order", "[I", true)
  | 12 => ("NineHeaps", "fewest", "[[I", true)
  | 13 => ("NineHeaps", "shares", "[I", true)
  | 14 => ("NineHeaps", "imageHigh", "[I", true)
  | 15 => ("NineHeaps", "imageStick", "[I", true)
  | 16 => ("NineHeaps", "imageFrom", "[I", true)
  | 17 => ("NineHeaps", "imageWant", "I", false)
  | 18 => ("NineHeaps", "imageWalkers", "I", false)
  | _ => ("NineHeaps", "imageLaw", "I", false)
def tyX11 : Nat → FieldType := fun k => match k with
  | 0 => .array .int
  | 1 => .array .int
  | 2 => .int
  | 3 => .array (.object "NineHeaps$Walker")
  | 4 => .int
  | 5 => .array (.object "NineHeaps$Law")
  | 6 => .int
  | 7 => .int
  | 8 => .object "NineHeaps$Tape"
  | 9 => .array (.object "NineHeaps$Sheet")
  | 10 => .object "NineHeaps$Going"
  | 11 => .array .int
  | 12 => .array (.array .int)
  | 13 => .array .int
  | 14 => .array .int
  | 15 => .array .int
  | 16 => .array .int
  | 17 => .int
  | 18 => .int
  | _ => .int
theorem nmX11 : ∀ a, a < 20 → ∀ b, b < 20 → a ≠ b → (TX11 a).2.1 ≠ (TX11 b).2.1 := by decide +kernel
theorem tyX11_ok : ∀ k, k < 20 → parseFieldDescriptor (TX11 k).2.2.1 = some (tyX11 k) := by decide +kernel
abbrev cX11_init : ByteArray := prog_1_method_1_code
def yX11_init : MethodName := ⟨RX11, "<init>", "()V"⟩
abbrev cX11_set : ByteArray := prog_1_method_3_code
def yX11_set : MethodName := ⟨RX11, "set", "(III)I"⟩
abbrev cX11_changeWant : ByteArray := prog_1_method_4_code
def yX11_changeWant : MethodName := ⟨RX11, "changeWant", "(I)I"⟩
abbrev cX11_heap : ByteArray := prog_1_method_5_code
def yX11_heap : MethodName := ⟨RX11, "heap", "(II)I"⟩
abbrev cX11_feed : ByteArray := prog_1_method_6_code
def yX11_feed : MethodName := ⟨RX11, "feed", "(IIIIII)I"⟩
abbrev cX11_text : ByteArray := prog_1_method_7_code
def yX11_text : MethodName := ⟨RX11, "text", "()I"⟩
abbrev cX11_force : ByteArray := prog_1_method_8_code
def yX11_force : MethodName := ⟨RX11, "force", "(I)I"⟩
abbrev cX11_walker : ByteArray := prog_1_method_10_code
def yX11_walker : MethodName := ⟨RX11, "walker", "(III)I"⟩
abbrev cX11_told : ByteArray := prog_1_method_12_code
def yX11_told : MethodName := ⟨RX11, "told", "(II)I"⟩
abbrev cX11_run : ByteArray := prog_1_method_13_code
def yX11_run : MethodName := ⟨RX11, "run", "(II)I"⟩
abbrev cX11_one : ByteArray := prog_1_method_14_code
def yX11_one : MethodName := ⟨RX11, "one", "(III)I"⟩
abbrev cX11_height : ByteArray := prog_1_method_15_code
def yX11_height : MethodName := ⟨RX11, "height", "(III)I"⟩
abbrev cX11_go : ByteArray := prog_1_method_16_code
def yX11_go : MethodName := ⟨RX11, "go", "(I)I"⟩
abbrev cX11_best : ByteArray := prog_1_method_19_code
def yX11_best : MethodName := ⟨RX11, "best", "(I)I"⟩
abbrev cX11_start : ByteArray := prog_1_method_20_code
def yX11_start : MethodName := ⟨RX11, "start", "(II)I"⟩
abbrev cX11_layByOrder : ByteArray := prog_1_method_24_code
def yX11_layByOrder : MethodName := ⟨RX11, "layByOrder", "()V"⟩
abbrev cX11_orderByNumbers : ByteArray := prog_1_method_25_code
def yX11_orderByNumbers : MethodName := ⟨RX11, "orderByNumbers", "()V"⟩
abbrev cX11_orderAsDigits : ByteArray := prog_1_method_26_code
def yX11_orderAsDigits : MethodName := ⟨RX11, "orderAsDigits", "()I"⟩
abbrev cX11_nextOrder : ByteArray := prog_1_method_27_code
def yX11_nextOrder : MethodName := ⟨RX11, "nextOrder", "()Z"⟩
abbrev cX11_swapInOrder : ByteArray := prog_1_method_28_code
def yX11_swapInOrder : MethodName := ⟨RX11, "swapInOrder", "(II)V"⟩
abbrev cX11_judge : ByteArray := prog_1_method_37_code
def yX11_judge : MethodName := ⟨RX11, "judge", "(II)I"⟩
abbrev cX11_film : ByteArray := prog_1_method_42_code
def yX11_film : MethodName := ⟨RX11, "film", "(II)I"⟩
abbrev cX11_refusedTelling : ByteArray := prog_1_method_43_code
def yX11_refusedTelling : MethodName := ⟨RX11, "refusedTelling", "(I)I"⟩
abbrev cX11_refusedJudging : ByteArray := prog_1_method_44_code
def yX11_refusedJudging : MethodName := ⟨RX11, "refusedJudging", "(II)I"⟩
abbrev cX11_firstOtherwise : ByteArray := prog_1_method_45_code
def yX11_firstOtherwise : MethodName := ⟨RX11, "firstOtherwise", "(I)I"⟩
abbrev cX11_noHeap : ByteArray := prog_1_method_58_code
def yX11_noHeap : MethodName := ⟨RX11, "noHeap", "(I)Z"⟩
abbrev cX11_noByte : ByteArray := prog_1_method_59_code
def yX11_noByte : MethodName := ⟨RX11, "noByte", "(I)Z"⟩
abbrev cX11_noSeconds : ByteArray := prog_1_method_60_code
def yX11_noSeconds : MethodName := ⟨RX11, "noSeconds", "(I)Z"⟩
abbrev cX11_walkerOf : ByteArray := prog_1_method_61_code
def yX11_walkerOf : MethodName := ⟨RX11, "walkerOf", "(I)LNineHeaps$Walker;"⟩
abbrev cX11_textOf : ByteArray := prog_1_method_62_code
def yX11_textOf : MethodName := ⟨RX11, "textOf", "(I)LNineHeaps$Law;"⟩
abbrev cX11_sheetOf : ByteArray := prog_1_method_63_code
def yX11_sheetOf : MethodName := ⟨RX11, "sheetOf", "(I)LNineHeaps$Sheet;"⟩
abbrev cX11_layPlain : ByteArray := prog_1_method_64_code
def yX11_layPlain : MethodName := ⟨RX11, "layPlain", "()V"⟩
abbrev cX11_layWithout : ByteArray := prog_1_method_65_code
def yX11_layWithout : MethodName := ⟨RX11, "layWithout", "(I)V"⟩
abbrev cX11_layHeaps : ByteArray := prog_1_method_67_code
def yX11_layHeaps : MethodName := ⟨RX11, "layHeaps", "()V"⟩
abbrev cX11_newWalker : ByteArray := prog_1_method_68_code
def yX11_newWalker : MethodName := ⟨RX11, "newWalker", "(IIII)LNineHeaps$Walker;"⟩
def RX12 : String := "NineHeapsModel"
def TX12 : u_T := fun k => match k with
  | _ => ("", "", "", false)
def tyX12 : Nat → FieldType := fun k => match k with
  | _ => .int
theorem nmX12 : ∀ a, a < 0 → ∀ b, b < 0 → a ≠ b → (TX12 a).2.1 ≠ (TX12 b).2.1 := by decide +kernel
theorem tyX12_ok : ∀ k, k < 0 → parseFieldDescriptor (TX12 k).2.2.1 = some (tyX12 k) := by decide +kernel
def RJx145de : String := "java/io/Serializable"
def RJ5 : String := "java/lang/AbstractStringBuilder"
abbrev cJ5_init_d00df : ByteArray := prog_15_method_2_code
def yJ5_init_d00df : MethodName := ⟨RJ5, "<init>", "(I)V"⟩
abbrev cJ5_length_8abf5 : ByteArray := prog_15_method_6_code
def yJ5_length_8abf5 : MethodName := ⟨RJ5, "length", "()I"⟩
abbrev cJ5_ensureCapacityInternal_d00df : ByteArray := prog_15_method_9_code
def yJ5_ensureCapacityInternal_d00df : MethodName := ⟨RJ5, "ensureCapacityInternal", "(I)V"⟩
abbrev cJ5_newCapacity_0f7a4 : ByteArray := prog_15_method_10_code
def yJ5_newCapacity_0f7a4 : MethodName := ⟨RJ5, "newCapacity", "(I)I"⟩
abbrev cJ5_inflate_da8c8 : ByteArray := prog_15_method_11_code
def yJ5_inflate_da8c8 : MethodName := ⟨RJ5, "inflate", "()V"⟩
abbrev cJ5_append_cf1ce : ByteArray := prog_15_method_22_code
def yJ5_append_cf1ce : MethodName := ⟨RJ5, "append", "(Ljava/lang/String;)Ljava/lang/AbstractStringBuilder;"⟩
abbrev cJ5_appendNull_278bc : ByteArray := prog_15_method_26_code
def yJ5_appendNull_278bc : MethodName := ⟨RJ5, "appendNull", "()Ljava/lang/AbstractStringBuilder;"⟩
abbrev cJ5_append_c97b9 : ByteArray := prog_15_method_32_code
def yJ5_append_c97b9 : MethodName := ⟨RJ5, "append", "(I)Ljava/lang/AbstractStringBuilder;"⟩
abbrev cJ5_getValue_6d5f1 : ByteArray := prog_15_method_64_code
def yJ5_getValue_6d5f1 : MethodName := ⟨RJ5, "getValue", "()[B"⟩
abbrev cJ5_isLatin1_aae02 : ByteArray := prog_15_method_68_code
def yJ5_isLatin1_aae02 : MethodName := ⟨RJ5, "isLatin1", "()Z"⟩
abbrev cJ5_inflateIfNeededFor_a7421 : ByteArray := prog_15_method_71_code
def yJ5_inflateIfNeededFor_a7421 : MethodName := ⟨RJ5, "inflateIfNeededFor", "(Ljava/lang/String;)V"⟩
abbrev cJ5_putStringAt_47b60 : ByteArray := prog_15_method_73_code
def yJ5_putStringAt_47b60 : MethodName := ⟨RJ5, "putStringAt", "(ILjava/lang/String;)V"⟩
def RJx2cfe8 : String := "java/lang/Appendable"
def RJx9f9b0 : String := "java/lang/CharSequence"
def RJx8e188 : String := "java/lang/Cloneable"
def RJxb160c : String := "java/lang/Comparable"
def RJ6 : String := "java/lang/Integer"
abbrev cJ6_getChars_ba4f3 : ByteArray := prog_17_method_12_code
def yJ6_getChars_ba4f3 : MethodName := ⟨RJ6, "getChars", "(II[B)I"⟩
abbrev cJ6_stringSize_0f7a4 : ByteArray := prog_17_method_13_code
def yJ6_stringSize_0f7a4 : MethodName := ⟨RJ6, "stringSize", "(I)I"⟩
def RJ9 : String := "java/lang/Math"
abbrev cJ9_floorMod_7cf53 : ByteArray := prog_18_method_50_code
def yJ9_floorMod_7cf53 : MethodName := ⟨RJ9, "floorMod", "(II)I"⟩
abbrev cJ9_max_7cf53 : ByteArray := prog_18_method_65_code
def yJ9_max_7cf53 : MethodName := ⟨RJ9, "max", "(II)I"⟩
abbrev cJ9_max_f86c9 : ByteArray := prog_18_method_66_code
def yJ9_max_f86c9 : MethodName := ⟨RJ9, "max", "(JJ)J"⟩
abbrev cJ9_min_7cf53 : ByteArray := prog_18_method_69_code
def yJ9_min_7cf53 : MethodName := ⟨RJ9, "min", "(II)I"⟩
abbrev cJ9_min_f86c9 : ByteArray := prog_18_method_70_code
def yJ9_min_f86c9 : MethodName := ⟨RJ9, "min", "(JJ)J"⟩
def RJxd2413 : String := "java/lang/Number"
def RJ0 : String := "java/lang/String"
def TJ0 : u_T := fun k => match k with
  | 0 => ("java/lang/String", "value", "[B", true)
  | 1 => ("java/lang/String", "coder", "B", true)
  | 2 => ("java/lang/String", "hash", "I", false)
  | _ => ("java/lang/String", "hashIsZero", "Z", false)
def tyJ0 : Nat → FieldType := fun k => match k with
  | 0 => .array .byte
  | 1 => .byte
  | 2 => .int
  | _ => .boolean
theorem nmJ0 : ∀ a, a < 4 → ∀ b, b < 4 → a ≠ b → (TJ0 a).2.1 ≠ (TJ0 b).2.1 := by decide +kernel
theorem tyJ0_ok : ∀ k, k < 4 → parseFieldDescriptor (TJ0 k).2.2.1 = some (tyJ0 k) := by decide +kernel
abbrev cJ0_init_81219 : ByteArray := prog_20_method_53_code
def yJ0_init_81219 : MethodName := ⟨RJ0, "<init>", "(Ljava/lang/StringBuilder;)V"⟩
abbrev cJ0_length_8abf5 : ByteArray := prog_20_method_54_code
def yJ0_length_8abf5 : MethodName := ⟨RJ0, "length", "()I"⟩
abbrev cJ0_charAt_5068e : ByteArray := prog_20_method_56_code
def yJ0_charAt_5068e : MethodName := ⟨RJ0, "charAt", "(I)C"⟩
abbrev cJ0_getBytes_840e7 : ByteArray := prog_20_method_147_code
def yJ0_getBytes_840e7 : MethodName := ⟨RJ0, "getBytes", "([BIB)V"⟩
abbrev cJ0_init_db425 : ByteArray := prog_20_method_150_code
def yJ0_init_db425 : MethodName := ⟨RJ0, "<init>", "(Ljava/lang/AbstractStringBuilder;Ljava/lang/Void;)V"⟩
abbrev cJ0_coder_7d493 : ByteArray := prog_20_method_152_code
def yJ0_coder_7d493 : MethodName := ⟨RJ0, "coder", "()B"⟩
abbrev cJ0_isLatin1_aae02 : ByteArray := prog_20_method_154_code
def yJ0_isLatin1_aae02 : MethodName := ⟨RJ0, "isLatin1", "()Z"⟩
abbrev cJ0_checkIndex_df160 : ByteArray := prog_20_method_155_code
def yJ0_checkIndex_df160 : MethodName := ⟨RJ0, "checkIndex", "(II)V"⟩
abbrev cJ0_checkBoundsOffCount_cabcc : ByteArray := prog_20_method_157_code
def yJ0_checkBoundsOffCount_cabcc : MethodName := ⟨RJ0, "checkBoundsOffCount", "(III)I"⟩
abbrev cJ0_checkBoundsBeginEnd_23922 : ByteArray := prog_20_method_158_code
def yJ0_checkBoundsBeginEnd_23922 : MethodName := ⟨RJ0, "checkBoundsBeginEnd", "(III)V"⟩
def RJ4 : String := "java/lang/StringBuilder"
def TJ4 : u_T := fun k => match k with
  | 0 => ("java/lang/AbstractStringBuilder", "value", "[B", false)
  | 1 => ("java/lang/AbstractStringBuilder", "coder", "B", false)
  | 2 => ("java/lang/AbstractStringBuilder", "maybeLatin1", "Z", false)
  | _ => ("java/lang/AbstractStringBuilder", "count", "I", false)
def tyJ4 : Nat → FieldType := fun k => match k with
  | 0 => .array .byte
  | 1 => .byte
  | 2 => .boolean
  | _ => .int
theorem nmJ4 : ∀ a, a < 4 → ∀ b, b < 4 → a ≠ b → (TJ4 a).2.1 ≠ (TJ4 b).2.1 := by decide +kernel
theorem tyJ4_ok : ∀ k, k < 4 → parseFieldDescriptor (TJ4 k).2.2.1 = some (tyJ4 k) := by decide +kernel
abbrev cJ4_init_da8c8 : ByteArray := prog_21_method_1_code
def yJ4_init_da8c8 : MethodName := ⟨RJ4, "<init>", "()V"⟩
abbrev cJ4_append_15ec4 : ByteArray := prog_21_method_7_code
def yJ4_append_15ec4 : MethodName := ⟨RJ4, "append", "(Ljava/lang/String;)Ljava/lang/StringBuilder;"⟩
abbrev cJ4_append_bf812 : ByteArray := prog_21_method_15_code
def yJ4_append_bf812 : MethodName := ⟨RJ4, "append", "(I)Ljava/lang/StringBuilder;"⟩
abbrev cJ4_toString_0e30d : ByteArray := prog_21_method_42_code
def yJ4_toString_0e30d : MethodName := ⟨RJ4, "toString", "()Ljava/lang/String;"⟩
abbrev cJ4_length_8abf5 : ByteArray := prog_21_method_93_code
def yJ4_length_8abf5 : MethodName := ⟨RJ4, "length", "()I"⟩
def RJ1 : String := "java/lang/StringLatin1"
abbrev cJ1_charAt_3b067 : ByteArray := prog_22_method_2_code
def yJ1_charAt_3b067 : MethodName := ⟨RJ1, "charAt", "([BI)C"⟩
abbrev cJ1_inflate_0e8fd : ByteArray := prog_22_method_50_code
def yJ1_inflate_0e8fd : MethodName := ⟨RJ1, "inflate", "([BI[BII)V"⟩
def RJ2 : String := "java/lang/StringUTF16"
abbrev cJ2_newBytesFor_77867 : ByteArray := prog_23_method_2_code
def yJ2_newBytesFor_77867 : MethodName := ⟨RJ2, "newBytesFor", "(I)[B"⟩
abbrev cJ2_newBytesLength_0f7a4 : ByteArray := prog_23_method_3_code
def yJ2_newBytesLength_0f7a4 : MethodName := ⟨RJ2, "newBytesLength", "(I)I"⟩
abbrev cJ2_putChar_b72d1 : ByteArray := prog_23_method_4_code
def yJ2_putChar_b72d1 : MethodName := ⟨RJ2, "putChar", "([BII)V"⟩
abbrev cJ2_getChar_3b067 : ByteArray := prog_23_method_5_code
def yJ2_getChar_3b067 : MethodName := ⟨RJ2, "getChar", "([BI)C"⟩
abbrev cJ2_length_9d52b : ByteArray := prog_23_method_6_code
def yJ2_length_9d52b : MethodName := ⟨RJ2, "length", "([B)I"⟩
abbrev cJ2_coderFromArrayLen_85cad : ByteArray := prog_23_method_15_code
def yJ2_coderFromArrayLen_85cad : MethodName := ⟨RJ2, "coderFromArrayLen", "([BI)B"⟩
abbrev cJ2_compress_39247 : ByteArray := prog_23_method_17_code
def yJ2_compress_39247 : MethodName := ⟨RJ2, "compress", "([BII)[B"⟩
abbrev cJ2_compress_5af95 : ByteArray := prog_23_method_22_code
def yJ2_compress_5af95 : MethodName := ⟨RJ2, "compress", "([BI[BII)I"⟩
abbrev cJ2_getChars_46870 : ByteArray := prog_23_method_77_code
def yJ2_getChars_46870 : MethodName := ⟨RJ2, "getChars", "(III[B)I"⟩
abbrev cJ2_putCharsAt_cd4e5 : ByteArray := prog_23_method_81_code
def yJ2_putCharsAt_cd4e5 : MethodName := ⟨RJ2, "putCharsAt", "([BICCCC)I"⟩
abbrev cJ2_charAt_3b067 : ByteArray := prog_23_method_83_code
def yJ2_charAt_3b067 : MethodName := ⟨RJ2, "charAt", "([BI)C"⟩
abbrev cJ2_inflate_0e8fd : ByteArray := prog_23_method_86_code
def yJ2_inflate_0e8fd : MethodName := ⟨RJ2, "inflate", "([BI[BII)V"⟩
abbrev cJ2_getChars_ba4f3 : ByteArray := prog_23_method_89_code
def yJ2_getChars_ba4f3 : MethodName := ⟨RJ2, "getChars", "(II[B)I"⟩
abbrev cJ2_checkIndex_2214a : ByteArray := prog_23_method_91_code
def yJ2_checkIndex_2214a : MethodName := ⟨RJ2, "checkIndex", "(I[B)V"⟩
abbrev cJ2_checkBoundsBeginEnd_d044e : ByteArray := prog_23_method_93_code
def yJ2_checkBoundsBeginEnd_d044e : MethodName := ⟨RJ2, "checkBoundsBeginEnd", "(II[B)V"⟩
abbrev cJ2_checkBoundsOffCount_d044e : ByteArray := prog_23_method_94_code
def yJ2_checkBoundsOffCount_d044e : MethodName := ⟨RJ2, "checkBoundsOffCount", "(II[B)V"⟩
def RJ10 : String := "java/lang/System"
def RJxfd54e : String := "java/lang/constant/Constable"
def RJx3cf43 : String := "java/lang/constant/ConstantDesc"
def RJ7 : String := "java/util/Arrays"
abbrev cJ7_fill_53178 : ByteArray := prog_25_method_103_code
def yJ7_fill_53178 : MethodName := ⟨RJ7, "fill", "([II)V"⟩
abbrev cJ7_copyOf_9075b : ByteArray := prog_25_method_121_code
def yJ7_copyOf_9075b : MethodName := ⟨RJ7, "copyOf", "([BI)[B"⟩
abbrev cJ7_copyOf_59c91 : ByteArray := prog_25_method_123_code
def yJ7_copyOf_59c91 : MethodName := ⟨RJ7, "copyOf", "([II)[I"⟩
abbrev cJ7_checkLength_df160 : ByteArray := prog_25_method_131_code
def yJ7_checkLength_df160 : MethodName := ⟨RJ7, "checkLength", "(II)V"⟩
abbrev cJ7_copyOfRange_39247 : ByteArray := prog_25_method_132_code
def yJ7_copyOfRange_39247 : MethodName := ⟨RJ7, "copyOfRange", "([BII)[B"⟩
abbrev cJ7_copyOfRangeByte_39247 : ByteArray := prog_25_method_133_code
def yJ7_copyOfRangeByte_39247 : MethodName := ⟨RJ7, "copyOfRangeByte", "([BII)[B"⟩
def RJ8 : String := "jdk/internal/util/ArraysSupport"
abbrev cJ8_newLength_cabcc : ByteArray := prog_26_method_27_code
def yJ8_newLength_cabcc : MethodName := ⟨RJ8, "newLength", "(III)I"⟩
abbrev cJ8_hugeLength_7cf53 : ByteArray := prog_26_method_28_code
def yJ8_hugeLength_7cf53 : MethodName := ⟨RJ8, "hugeLength", "(II)I"⟩
def RJ3 : String := "jdk/internal/util/Preconditions"
abbrev cJ3_checkIndex_8e157 : ByteArray := prog_27_method_11_code
def yJ3_checkIndex_8e157 : MethodName := ⟨RJ3, "checkIndex", "(IILjava/util/function/BiFunction;)I"⟩
abbrev cJ3_checkFromToIndex_8c36e : ByteArray := prog_27_method_12_code
def yJ3_checkFromToIndex_8c36e : MethodName := ⟨RJ3, "checkFromToIndex", "(IIILjava/util/function/BiFunction;)I"⟩
abbrev cJ3_checkFromIndexSize_8c36e : ByteArray := prog_27_method_13_code
def yJ3_checkFromIndexSize_8c36e : MethodName := ⟨RJ3, "checkFromIndexSize", "(IIILjava/util/function/BiFunction;)I"⟩
def RL : String := "NineHeapsLaw"
abbrev cL_at : ByteArray := method_2_code
def yL_at : MethodName := ⟨RL, "at", "([II)I"⟩
abbrev cL_text : ByteArray := method_3_code
def yL_text : MethodName := ⟨RL, "text", "(LNineHeaps;Ljava/lang/String;)V"⟩
abbrev cL_build : ByteArray := method_4_code
def yL_build : MethodName := ⟨RL, "build", "([I)LNineHeaps;"⟩
abbrev cL_plain : ByteArray := method_5_code
def yL_plain : MethodName := ⟨RL, "plain", "([I)Z"⟩
abbrev cL_many : ByteArray := method_6_code
def yL_many : MethodName := ⟨RL, "many", "([I)I"⟩
abbrev cL_want : ByteArray := method_7_code
def yL_want : MethodName := ⟨RL, "want", "([I)I"⟩
abbrev cL_high : ByteArray := method_8_code
def yL_high : MethodName := ⟨RL, "high", "([II)I"⟩
abbrev cL_stick : ByteArray := method_9_code
def yL_stick : MethodName := ⟨RL, "stick", "([II)I"⟩
abbrev cL_kind : ByteArray := method_10_code
def yL_kind : MethodName := ⟨RL, "kind", "([II)I"⟩
abbrev cL_more : ByteArray := method_11_code
def yL_more : MethodName := ⟨RL, "more", "([II)I"⟩
abbrev cL_from : ByteArray := method_12_code
def yL_from : MethodName := ⟨RL, "from", "([II)I"⟩
abbrev cL_held : ByteArray := method_13_code
def yL_held : MethodName := ⟨RL, "held", "(JII)I"⟩
abbrev cL_start : ByteArray := method_14_code
def yL_start : MethodName := ⟨RL, "start", "([I[J)V"⟩
abbrev cL_begin : ByteArray := method_15_code
def yL_begin : MethodName := ⟨RL, "begin", "([J)V"⟩
abbrev cL_takes : ByteArray := method_16_code
def yL_takes : MethodName := ⟨RL, "takes", "([I[JIJJ)I"⟩
abbrev cL_steps : ByteArray := method_17_code
def yL_steps : MethodName := ⟨RL, "steps", "([I[JIJ)I"⟩
abbrev cL_lift : ByteArray := method_18_code
def yL_lift : MethodName := ⟨RL, "lift", "([I[JII)V"⟩
abbrev cL_second : ByteArray := method_19_code
def yL_second : MethodName := ⟨RL, "second", "([I[JIII)V"⟩
abbrev cL_go : ByteArray := method_20_code
def yL_go : MethodName := ⟨RL, "go", "([I[JIII)I"⟩
abbrev cL_plainly : ByteArray := method_21_code
def yL_plainly : MethodName := ⟨RL, "plainly", "([I[JII)I"⟩
abbrev cL_law : ByteArray := code
def yL_law : MethodName := ⟨RL, "law", "([I)Z"⟩
abbrev vwCl : List vw_C := [(RX0, TX0, 13), (RX1, TX1, 11), (RX2, TX2, 7), (RX3, TX3, 5), (RX4, TX4, 11), (RX5, TX5, 11), (RX6, TX6, 3), (RX7, TX7, 10), (RX8, TX8, 11), (RX9, TX9, 11), (RX10, TX10, 11), (RX11, TX11, 20), (RJ4, TJ4, 4), (RJ0, TJ0, 4)]
