section
-- ===== PART A: goes FIRST, ahead of the names: the tables' words, and 'selects' of the private methods out of them =====
/-- a private method of a class that the tables say can be made, by its rows of tables_1 -/
def lw_okq (q : MethodName × Nat) : Prop := (q.1.cls ≠ "java/lang/invoke/MethodHandle" ∧ q.1.cls ≠ "java/lang/invoke/VarHandle") ∧ Cond.instantiable q.1.cls q.2 ∈ tables_1 ∧ Cond.privateMethod q.1 ∈ tables_1 ∧ Cond.instanceMethod q.1 ∈ tables_1
theorem lw_p0 : lw_okq (⟨"NineHeaps", "walkerOf", "(I)LNineHeaps$Walker;"⟩, 20) := ⟨⟨by decide +kernel, by decide +kernel⟩, List.mem_of_getElem? (i := 26) (by decide +kernel), List.mem_of_getElem? (i := 297) (by decide +kernel), List.mem_of_getElem? (i := 298) (by decide +kernel)⟩
theorem lw_p1 : lw_okq (⟨"NineHeaps", "layPlain", "()V"⟩, 20) := ⟨⟨by decide +kernel, by decide +kernel⟩, List.mem_of_getElem? (i := 26) (by decide +kernel), List.mem_of_getElem? (i := 340) (by decide +kernel), List.mem_of_getElem? (i := 341) (by decide +kernel)⟩
theorem lw_p2 : lw_okq (⟨"NineHeaps", "layWithout", "(I)V"⟩, 20) := ⟨⟨by decide +kernel, by decide +kernel⟩, List.mem_of_getElem? (i := 26) (by decide +kernel), List.mem_of_getElem? (i := 344) (by decide +kernel), List.mem_of_getElem? (i := 345) (by decide +kernel)⟩
theorem lw_p3 : lw_okq (⟨"NineHeaps", "layHeaps", "()V"⟩, 20) := ⟨⟨by decide +kernel, by decide +kernel⟩, List.mem_of_getElem? (i := 26) (by decide +kernel), List.mem_of_getElem? (i := 348) (by decide +kernel), List.mem_of_getElem? (i := 349) (by decide +kernel)⟩
theorem lw_p4 : lw_okq (⟨"NineHeaps", "textOf", "(I)LNineHeaps$Law;"⟩, 20) := ⟨⟨by decide +kernel, by decide +kernel⟩, List.mem_of_getElem? (i := 26) (by decide +kernel), List.mem_of_getElem? (i := 352) (by decide +kernel), List.mem_of_getElem? (i := 353) (by decide +kernel)⟩
theorem lw_p5 : lw_okq (⟨"NineHeaps$Going", "moveOn", "(LNineHeaps$Walker;)V"⟩, 13) := ⟨⟨by decide +kernel, by decide +kernel⟩, List.mem_of_getElem? (i := 79) (by decide +kernel), List.mem_of_getElem? (i := 382) (by decide +kernel), List.mem_of_getElem? (i := 383) (by decide +kernel)⟩
theorem lw_p6 : lw_okq (⟨"NineHeaps$Going", "endTaking", "(LNineHeaps$Walker;LNineHeaps$Heap;)V"⟩, 13) := ⟨⟨by decide +kernel, by decide +kernel⟩, List.mem_of_getElem? (i := 79) (by decide +kernel), List.mem_of_getElem? (i := 393) (by decide +kernel), List.mem_of_getElem? (i := 394) (by decide +kernel)⟩
theorem lw_p7 : lw_okq (⟨"NineHeaps$Going", "endProgramme", "(LNineHeaps$Walker;)V"⟩, 13) := ⟨⟨by decide +kernel, by decide +kernel⟩, List.mem_of_getElem? (i := 79) (by decide +kernel), List.mem_of_getElem? (i := 401) (by decide +kernel), List.mem_of_getElem? (i := 402) (by decide +kernel)⟩
theorem lw_p8 : lw_okq (⟨"NineHeaps$Law", "read", "(I)I"⟩, 5) := ⟨⟨by decide +kernel, by decide +kernel⟩, List.mem_of_getElem? (i := 168) (by decide +kernel), List.mem_of_getElem? (i := 413) (by decide +kernel), List.mem_of_getElem? (i := 414) (by decide +kernel)⟩
theorem lw_p9 : lw_okq (⟨"NineHeaps", "orderByNumbers", "()V"⟩, 20) := ⟨⟨by decide +kernel, by decide +kernel⟩, List.mem_of_getElem? (i := 26) (by decide +kernel), List.mem_of_getElem? (i := 487) (by decide +kernel), List.mem_of_getElem? (i := 488) (by decide +kernel)⟩
theorem lw_p10 : lw_okq (⟨"NineHeaps", "layByOrder", "()V"⟩, 20) := ⟨⟨by decide +kernel, by decide +kernel⟩, List.mem_of_getElem? (i := 26) (by decide +kernel), List.mem_of_getElem? (i := 491) (by decide +kernel), List.mem_of_getElem? (i := 492) (by decide +kernel)⟩
theorem lw_p11 : lw_okq (⟨"NineHeaps", "orderAsDigits", "()I"⟩, 20) := ⟨⟨by decide +kernel, by decide +kernel⟩, List.mem_of_getElem? (i := 26) (by decide +kernel), List.mem_of_getElem? (i := 496) (by decide +kernel), List.mem_of_getElem? (i := 497) (by decide +kernel)⟩
theorem lw_p12 : lw_okq (⟨"NineHeaps", "nextOrder", "()Z"⟩, 20) := ⟨⟨by decide +kernel, by decide +kernel⟩, List.mem_of_getElem? (i := 26) (by decide +kernel), List.mem_of_getElem? (i := 500) (by decide +kernel), List.mem_of_getElem? (i := 501) (by decide +kernel)⟩
theorem lw_p13 : lw_okq (⟨"NineHeaps", "swapInOrder", "(II)V"⟩, 20) := ⟨⟨by decide +kernel, by decide +kernel⟩, List.mem_of_getElem? (i := 26) (by decide +kernel), List.mem_of_getElem? (i := 504) (by decide +kernel), List.mem_of_getElem? (i := 505) (by decide +kernel)⟩
theorem lw_p14 : lw_okq (⟨"NineHeaps", "refusedJudging", "(II)I"⟩, 20) := ⟨⟨by decide +kernel, by decide +kernel⟩, List.mem_of_getElem? (i := 26) (by decide +kernel), List.mem_of_getElem? (i := 516) (by decide +kernel), List.mem_of_getElem? (i := 517) (by decide +kernel)⟩
theorem lw_p15 : lw_okq (⟨"NineHeaps", "refusedTelling", "(I)I"⟩, 20) := ⟨⟨by decide +kernel, by decide +kernel⟩, List.mem_of_getElem? (i := 26) (by decide +kernel), List.mem_of_getElem? (i := 520) (by decide +kernel), List.mem_of_getElem? (i := 521) (by decide +kernel)⟩
def lw_privs_1 : List (MethodName × Nat) := [(⟨"NineHeaps", "walkerOf", "(I)LNineHeaps$Walker;"⟩, 20), (⟨"NineHeaps", "layPlain", "()V"⟩, 20), (⟨"NineHeaps", "layWithout", "(I)V"⟩, 20), (⟨"NineHeaps", "layHeaps", "()V"⟩, 20), (⟨"NineHeaps", "textOf", "(I)LNineHeaps$Law;"⟩, 20), (⟨"NineHeaps$Going", "moveOn", "(LNineHeaps$Walker;)V"⟩, 13), (⟨"NineHeaps$Going", "endTaking", "(LNineHeaps$Walker;LNineHeaps$Heap;)V"⟩, 13), (⟨"NineHeaps$Going", "endProgramme", "(LNineHeaps$Walker;)V"⟩, 13), (⟨"NineHeaps$Law", "read", "(I)I"⟩, 5), (⟨"NineHeaps", "orderByNumbers", "()V"⟩, 20), (⟨"NineHeaps", "layByOrder", "()V"⟩, 20), (⟨"NineHeaps", "orderAsDigits", "()I"⟩, 20), (⟨"NineHeaps", "nextOrder", "()Z"⟩, 20), (⟨"NineHeaps", "swapInOrder", "(II)V"⟩, 20), (⟨"NineHeaps", "refusedJudging", "(II)I"⟩, 20), (⟨"NineHeaps", "refusedTelling", "(I)I"⟩, 20)]
theorem lw_r1 : ∀ q ∈ lw_privs_1, lw_okq q := List.forall_mem_cons.mpr ⟨lw_p0, List.forall_mem_cons.mpr ⟨lw_p1, List.forall_mem_cons.mpr ⟨lw_p2, List.forall_mem_cons.mpr ⟨lw_p3, List.forall_mem_cons.mpr ⟨lw_p4, List.forall_mem_cons.mpr ⟨lw_p5, List.forall_mem_cons.mpr ⟨lw_p6, List.forall_mem_cons.mpr ⟨lw_p7, List.forall_mem_cons.mpr ⟨lw_p8, List.forall_mem_cons.mpr ⟨lw_p9, List.forall_mem_cons.mpr ⟨lw_p10, List.forall_mem_cons.mpr ⟨lw_p11, List.forall_mem_cons.mpr ⟨lw_p12, List.forall_mem_cons.mpr ⟨lw_p13, List.forall_mem_cons.mpr ⟨lw_p14, List.forall_mem_cons.mpr ⟨lw_p15, fun _ h => absurd h List.not_mem_nil⟩⟩⟩⟩⟩⟩⟩⟩⟩⟩⟩⟩⟩⟩⟩⟩
theorem lw_p16 : lw_okq (⟨"NineHeaps", "sheetOf", "(I)LNineHeaps$Sheet;"⟩, 20) := ⟨⟨by decide +kernel, by decide +kernel⟩, List.mem_of_getElem? (i := 26) (by decide +kernel), List.mem_of_getElem? (i := 524) (by decide +kernel), List.mem_of_getElem? (i := 525) (by decide +kernel)⟩
theorem lw_p17 : lw_okq (⟨"NineHeaps", "firstOtherwise", "(I)I"⟩, 20) := ⟨⟨by decide +kernel, by decide +kernel⟩, List.mem_of_getElem? (i := 26) (by decide +kernel), List.mem_of_getElem? (i := 532) (by decide +kernel), List.mem_of_getElem? (i := 533) (by decide +kernel)⟩
theorem lw_p18 : lw_okq (⟨"NineHeaps", "changeWant", "(I)I"⟩, 20) := ⟨⟨by decide +kernel, by decide +kernel⟩, List.mem_of_getElem? (i := 26) (by decide +kernel), List.mem_of_getElem? (i := 568) (by decide +kernel), List.mem_of_getElem? (i := 569) (by decide +kernel)⟩
theorem lw_p19 : lw_okq (⟨"NineHeaps$Tape", "nextToken", "()V"⟩, 10) := ⟨⟨by decide +kernel, by decide +kernel⟩, List.mem_of_getElem? (i := 38) (by decide +kernel), List.mem_of_getElem? (i := 1033) (by decide +kernel), List.mem_of_getElem? (i := 1034) (by decide +kernel)⟩
theorem lw_p20 : lw_okq (⟨"NineHeaps$Tape", "byteAt", "(I)I"⟩, 10) := ⟨⟨by decide +kernel, by decide +kernel⟩, List.mem_of_getElem? (i := 38) (by decide +kernel), List.mem_of_getElem? (i := 1037) (by decide +kernel), List.mem_of_getElem? (i := 1038) (by decide +kernel)⟩
theorem lw_p21 : lw_okq (⟨"NineHeaps$Tape", "takeWord", "()V"⟩, 10) := ⟨⟨by decide +kernel, by decide +kernel⟩, List.mem_of_getElem? (i := 38) (by decide +kernel), List.mem_of_getElem? (i := 1044) (by decide +kernel), List.mem_of_getElem? (i := 1045) (by decide +kernel)⟩
theorem lw_p22 : lw_okq (⟨"NineHeaps$Tape", "spells", "(Ljava/lang/String;)Z"⟩, 10) := ⟨⟨by decide +kernel, by decide +kernel⟩, List.mem_of_getElem? (i := 38) (by decide +kernel), List.mem_of_getElem? (i := 1049) (by decide +kernel), List.mem_of_getElem? (i := 1050) (by decide +kernel)⟩
theorem lw_p23 : lw_okq (⟨"NineHeaps$Tape", "takeNumber", "()V"⟩, 10) := ⟨⟨by decide +kernel, by decide +kernel⟩, List.mem_of_getElem? (i := 38) (by decide +kernel), List.mem_of_getElem? (i := 1069) (by decide +kernel), List.mem_of_getElem? (i := 1070) (by decide +kernel)⟩
theorem lw_p24 : lw_okq (⟨"NineHeaps$Tape", "readPart", "(II)V"⟩, 10) := ⟨⟨by decide +kernel, by decide +kernel⟩, List.mem_of_getElem? (i := 38) (by decide +kernel), List.mem_of_getElem? (i := 1076) (by decide +kernel), List.mem_of_getElem? (i := 1077) (by decide +kernel)⟩
theorem lw_p25 : lw_okq (⟨"NineHeaps$Tape", "expect", "(I)V"⟩, 10) := ⟨⟨by decide +kernel, by decide +kernel⟩, List.mem_of_getElem? (i := 38) (by decide +kernel), List.mem_of_getElem? (i := 1080) (by decide +kernel), List.mem_of_getElem? (i := 1081) (by decide +kernel)⟩
theorem lw_p26 : lw_okq (⟨"NineHeaps$Tape", "fail", "()V"⟩, 10) := ⟨⟨by decide +kernel, by decide +kernel⟩, List.mem_of_getElem? (i := 38) (by decide +kernel), List.mem_of_getElem? (i := 1084) (by decide +kernel), List.mem_of_getElem? (i := 1085) (by decide +kernel)⟩
theorem lw_p27 : lw_okq (⟨"NineHeaps$Tape", "readOr", "(I)V"⟩, 10) := ⟨⟨by decide +kernel, by decide +kernel⟩, List.mem_of_getElem? (i := 38) (by decide +kernel), List.mem_of_getElem? (i := 1088) (by decide +kernel), List.mem_of_getElem? (i := 1089) (by decide +kernel)⟩
theorem lw_p28 : lw_okq (⟨"NineHeaps$Tape", "readAnd", "(I)V"⟩, 10) := ⟨⟨by decide +kernel, by decide +kernel⟩, List.mem_of_getElem? (i := 38) (by decide +kernel), List.mem_of_getElem? (i := 1092) (by decide +kernel), List.mem_of_getElem? (i := 1093) (by decide +kernel)⟩
theorem lw_p29 : lw_okq (⟨"NineHeaps$Tape", "readNot", "(I)V"⟩, 10) := ⟨⟨by decide +kernel, by decide +kernel⟩, List.mem_of_getElem? (i := 38) (by decide +kernel), List.mem_of_getElem? (i := 1096) (by decide +kernel), List.mem_of_getElem? (i := 1097) (by decide +kernel)⟩
theorem lw_p30 : lw_okq (⟨"NineHeaps$Tape", "mayOpen", "(I)Z"⟩, 10) := ⟨⟨by decide +kernel, by decide +kernel⟩, List.mem_of_getElem? (i := 38) (by decide +kernel), List.mem_of_getElem? (i := 1100) (by decide +kernel), List.mem_of_getElem? (i := 1101) (by decide +kernel)⟩
theorem lw_p31 : lw_okq (⟨"NineHeaps$Tape", "put", "(I)V"⟩, 10) := ⟨⟨by decide +kernel, by decide +kernel⟩, List.mem_of_getElem? (i := 38) (by decide +kernel), List.mem_of_getElem? (i := 1104) (by decide +kernel), List.mem_of_getElem? (i := 1105) (by decide +kernel)⟩
def lw_privs_2 : List (MethodName × Nat) := [(⟨"NineHeaps", "sheetOf", "(I)LNineHeaps$Sheet;"⟩, 20), (⟨"NineHeaps", "firstOtherwise", "(I)I"⟩, 20), (⟨"NineHeaps", "changeWant", "(I)I"⟩, 20), (⟨"NineHeaps$Tape", "nextToken", "()V"⟩, 10), (⟨"NineHeaps$Tape", "byteAt", "(I)I"⟩, 10), (⟨"NineHeaps$Tape", "takeWord", "()V"⟩, 10), (⟨"NineHeaps$Tape", "spells", "(Ljava/lang/String;)Z"⟩, 10), (⟨"NineHeaps$Tape", "takeNumber", "()V"⟩, 10), (⟨"NineHeaps$Tape", "readPart", "(II)V"⟩, 10), (⟨"NineHeaps$Tape", "expect", "(I)V"⟩, 10), (⟨"NineHeaps$Tape", "fail", "()V"⟩, 10), (⟨"NineHeaps$Tape", "readOr", "(I)V"⟩, 10), (⟨"NineHeaps$Tape", "readAnd", "(I)V"⟩, 10), (⟨"NineHeaps$Tape", "readNot", "(I)V"⟩, 10), (⟨"NineHeaps$Tape", "mayOpen", "(I)Z"⟩, 10), (⟨"NineHeaps$Tape", "put", "(I)V"⟩, 10)]
theorem lw_r2 : ∀ q ∈ lw_privs_2, lw_okq q := List.forall_mem_cons.mpr ⟨lw_p16, List.forall_mem_cons.mpr ⟨lw_p17, List.forall_mem_cons.mpr ⟨lw_p18, List.forall_mem_cons.mpr ⟨lw_p19, List.forall_mem_cons.mpr ⟨lw_p20, List.forall_mem_cons.mpr ⟨lw_p21, List.forall_mem_cons.mpr ⟨lw_p22, List.forall_mem_cons.mpr ⟨lw_p23, List.forall_mem_cons.mpr ⟨lw_p24, List.forall_mem_cons.mpr ⟨lw_p25, List.forall_mem_cons.mpr ⟨lw_p26, List.forall_mem_cons.mpr ⟨lw_p27, List.forall_mem_cons.mpr ⟨lw_p28, List.forall_mem_cons.mpr ⟨lw_p29, List.forall_mem_cons.mpr ⟨lw_p30, List.forall_mem_cons.mpr ⟨lw_p31, fun _ h => absurd h List.not_mem_nil⟩⟩⟩⟩⟩⟩⟩⟩⟩⟩⟩⟩⟩⟩⟩⟩
theorem lw_p32 : lw_okq (⟨"NineHeaps$Tape", "readSum", "(I)V"⟩, 10) := ⟨⟨by decide +kernel, by decide +kernel⟩, List.mem_of_getElem? (i := 38) (by decide +kernel), List.mem_of_getElem? (i := 1108) (by decide +kernel), List.mem_of_getElem? (i := 1109) (by decide +kernel)⟩
theorem lw_p33 : lw_okq (⟨"NineHeaps$Tape", "readTerm", "(I)V"⟩, 10) := ⟨⟨by decide +kernel, by decide +kernel⟩, List.mem_of_getElem? (i := 38) (by decide +kernel), List.mem_of_getElem? (i := 1112) (by decide +kernel), List.mem_of_getElem? (i := 1113) (by decide +kernel)⟩
theorem lw_p34 : lw_okq (⟨"NineHeaps$Tape", "readOne", "(I)V"⟩, 10) := ⟨⟨by decide +kernel, by decide +kernel⟩, List.mem_of_getElem? (i := 38) (by decide +kernel), List.mem_of_getElem? (i := 1116) (by decide +kernel), List.mem_of_getElem? (i := 1117) (by decide +kernel)⟩
def lw_privs_3 : List (MethodName × Nat) := [(⟨"NineHeaps$Tape", "readSum", "(I)V"⟩, 10), (⟨"NineHeaps$Tape", "readTerm", "(I)V"⟩, 10), (⟨"NineHeaps$Tape", "readOne", "(I)V"⟩, 10)]
theorem lw_r3 : ∀ q ∈ lw_privs_3, lw_okq q := List.forall_mem_cons.mpr ⟨lw_p32, List.forall_mem_cons.mpr ⟨lw_p33, List.forall_mem_cons.mpr ⟨lw_p34, fun _ h => absurd h List.not_mem_nil⟩⟩⟩
def lw_privs : List (MethodName × Nat) := lw_privs_1 ++ (lw_privs_2 ++ (lw_privs_3))
def lw_tbl : List Cond := k2_sels lw_privs ++ tables_1
theorem lw_privs_ok : ∀ q ∈ lw_privs, lw_okq q := by
  show ∀ q ∈ lw_privs_1 ++ (lw_privs_2 ++ (lw_privs_3)), lw_okq q
  exact List.forall_mem_append.mpr ⟨lw_r1, List.forall_mem_append.mpr ⟨lw_r2, lw_r3⟩⟩

def RX0 : String := "NineHeaps$Going"
def TX0 : u_T := fun k => match k with
  | 0 => ("NineHeaps$Going", "heaps", "[LNineHeaps$Heap;", true)
  | 1 => ("NineHeaps$Going", "goers", "[LNineHeaps$Walker;", true)
  | 2 => ("NineHeaps$Going", "goerCount", "I", false)
  | 3 => ("NineHeaps$Going", "many", "I", false)
  | 4 => ("NineHeaps$Going", "want", "I", false)
  | 5 => ("NineHeaps$Going", "second", "I", false)
  | 6 => ("NineHeaps$Going", "off", "[I", true)
  | 7 => ("NineHeaps$Going", "law", "LNineHeaps$Law;", false)
  | 8 => ("NineHeaps$Going", "offCount", "I", false)
  | 9 => ("NineHeaps$Going", "programmes", "I", false)
  | 10 => ("NineHeaps$Going", "wrong", "I", false)
  | 11 => ("NineHeaps$Going", "lacking", "I", false)
  | _ => ("NineHeaps$Going", "wantedIn", "I", false)
def tyX0 : Nat → FieldType := fun k => match k with
  | 0 => .array (.object "NineHeaps$Heap")
  | 1 => .array (.object "NineHeaps$Walker")
  | 2 => .int
  | 3 => .int
  | 4 => .int
  | 5 => .int
  | 6 => .array .int
  | 7 => .object "NineHeaps$Law"
  | 8 => .int
  | 9 => .int
  | 10 => .int
  | 11 => .int
  | _ => .int
theorem nmX0 : ∀ a, a < 13 → ∀ b, b < 13 → a ≠ b → (TX0 a).2.1 ≠ (TX0 b).2.1 := by decide +kernel
theorem tyX0_ok : ∀ k, k < 13 → parseFieldDescriptor (TX0 k).2.2.1 = some (tyX0 k) := by decide +kernel
abbrev cX0_init : ByteArray := prog_2_method_1_code
def yX0_init : MethodName := ⟨RX0, "<init>", "()V"⟩
abbrev cX0_lay : ByteArray := prog_2_method_2_code
def yX0_lay : MethodName := ⟨RX0, "lay", "([I[ILNineHeaps$Law;II)V"⟩
abbrev cX0_join : ByteArray := prog_2_method_3_code
def yX0_join : MethodName := ⟨RX0, "join", "(LNineHeaps$Walker;)V"⟩
abbrev cX0_heapAt : ByteArray := prog_2_method_4_code
def yX0_heapAt : MethodName := ⟨RX0, "heapAt", "(I)LNineHeaps$Heap;"⟩
abbrev cX0_badness : ByteArray := prog_2_method_7_code
def yX0_badness : MethodName := ⟨RX0, "badness", "()I"⟩
abbrev cX0_pass : ByteArray := prog_2_method_8_code
def yX0_pass : MethodName := ⟨RX0, "pass", "(I)V"⟩
abbrev cX0_moveOn : ByteArray := prog_2_method_9_code
def yX0_moveOn : MethodName := ⟨RX0, "moveOn", "(LNineHeaps$Walker;)V"⟩
abbrev cX0_endTaking : ByteArray := prog_2_method_10_code
def yX0_endTaking : MethodName := ⟨RX0, "endTaking", "(LNineHeaps$Walker;LNineHeaps$Heap;)V"⟩
abbrev cX0_endProgramme : ByteArray := prog_2_method_11_code
def yX0_endProgramme : MethodName := ⟨RX0, "endProgramme", "(LNineHeaps$Walker;)V"⟩
abbrev cX0_takesOf : ByteArray := prog_2_method_12_code
def yX0_takesOf : MethodName := ⟨RX0, "takesOf", "(LNineHeaps$Walker;LNineHeaps$Heap;I)I"⟩
abbrev cX0_stepOf : ByteArray := prog_2_method_13_code
def yX0_stepOf : MethodName := ⟨RX0, "stepOf", "(LNineHeaps$Walker;LNineHeaps$Heap;I)I"⟩
def RX1 : String := "NineHeaps$Grandfather"
def TX1 : u_T := fun k => match k with
  | 0 => ("NineHeaps$Walker", "number", "I", true)
  | 1 => ("NineHeaps$Walker", "more", "I", true)
  | 2 => ("NineHeaps$Walker", "from", "I", false)
  | 3 => ("NineHeaps$Walker", "at", "I", false)
  | 4 => ("NineHeaps$Walker", "doing", "I", false)
  | 5 => ("NineHeaps$Walker", "left", "I", false)
  | 6 => ("NineHeaps$Walker", "done", "I", false)
  | 7 => ("NineHeaps$Walker", "waited", "I", false)
  | 8 => ("NineHeaps$Walker", "has", "I", false)
  | 9 => ("NineHeaps$Walker", "blotted", "Z", false)
  | _ => ("NineHeaps$Walker", "lacks", "Z", false)
def tyX1 : Nat → FieldType := fun k => match k with
  | 0 => .int
  | 1 => .int
  | 2 => .int
  | 3 => .int
  | 4 => .int
  | 5 => .int
  | 6 => .int
  | 7 => .int
  | 8 => .int
  | 9 => .boolean
  | _ => .boolean
theorem nmX1 : ∀ a, a < 11 → ∀ b, b < 11 → a ≠ b → (TX1 a).2.1 ≠ (TX1 b).2.1 := by decide +kernel
theorem tyX1_ok : ∀ k, k < 11 → parseFieldDescriptor (TX1 k).2.2.1 = some (tyX1 k) := by decide +kernel
abbrev cX1_init : ByteArray := prog_3_method_1_code
def yX1_init : MethodName := ⟨RX1, "<init>", "(III)V"⟩
abbrev cX1_kind : ByteArray := prog_3_method_2_code
def yX1_kind : MethodName := ⟨RX1, "kind", "()I"⟩
abbrev cX1_takesFor : ByteArray := prog_3_method_4_code
def yX1_takesFor : MethodName := ⟨RX1, "takesFor", "(II)I"⟩
abbrev cX1_stepFor : ByteArray := prog_3_method_5_code
def yX1_stepFor : MethodName := ⟨RX1, "stepFor", "(I)I"⟩
def RX2 : String := "NineHeaps$Heap"
def TX2 : u_T := fun k => match k with
  | 0 => ("NineHeaps$Heap", "number", "I", true)
  | 1 => ("NineHeaps$Heap", "high", "I", false)
  | 2 => ("NineHeaps$Heap", "stick", "I", false)
  | 3 => ("NineHeaps$Heap", "takings", "I", false)
  | 4 => ("NineHeaps$Heap", "takers", "I", false)
  | 5 => ("NineHeaps$Heap", "ranOut", "I", false)
  | _ => ("NineHeaps$Heap", "missed", "Z", false)
def tyX2 : Nat → FieldType := fun k => match k with
  | 0 => .int
  | 1 => .int
  | 2 => .int
  | 3 => .int
  | 4 => .int
  | 5 => .int
  | _ => .boolean
theorem nmX2 : ∀ a, a < 7 → ∀ b, b < 7 → a ≠ b → (TX2 a).2.1 ≠ (TX2 b).2.1 := by decide +kernel
theorem tyX2_ok : ∀ k, k < 7 → parseFieldDescriptor (TX2 k).2.2.1 = some (tyX2 k) := by decide +kernel
abbrev cX2_init : ByteArray := prog_4_method_1_code
def yX2_init : MethodName := ⟨RX2, "<init>", "(I)V"⟩
abbrev cX2_beginGoing : ByteArray := prog_4_method_2_code
def yX2_beginGoing : MethodName := ⟨RX2, "beginGoing", "(II)V"⟩
abbrev cX2_lift : ByteArray := prog_4_method_3_code
def yX2_lift : MethodName := ⟨RX2, "lift", "(I)I"⟩
def RX3 : String := "NineHeaps$Law"
def TX3 : u_T := fun k => match k with
  | 0 => ("NineHeaps$Law", "words", "[I", true)
  | 1 => ("NineHeaps$Law", "starts", "[I", true)
  | 2 => ("NineHeaps$Law", "stack", "[I", true)
  | 3 => ("NineHeaps$Law", "names", "[I", true)
  | _ => ("NineHeaps$Law", "lone", "[I", true)
def tyX3 : Nat → FieldType := fun k => match k with
  | 0 => .array .int
  | 1 => .array .int
  | 2 => .array .int
  | 3 => .array .int
  | _ => .array .int
theorem nmX3 : ∀ a, a < 5 → ∀ b, b < 5 → a ≠ b → (TX3 a).2.1 ≠ (TX3 b).2.1 := by decide +kernel
theorem tyX3_ok : ∀ k, k < 5 → parseFieldDescriptor (TX3 k).2.2.1 = some (tyX3 k) := by decide +kernel
abbrev cX3_init : ByteArray := prog_5_method_1_code
def yX3_init : MethodName := ⟨RX3, "<init>", "([I[I)V"⟩
abbrev cX3_says : ByteArray := prog_5_method_2_code
def yX3_says : MethodName := ⟨RX3, "says", "(ILNineHeaps$Walker;IIII)I"⟩
abbrev cX3_bounded : ByteArray := prog_5_method_3_code
def yX3_bounded : MethodName := ⟨RX3, "bounded", "(II)I"⟩
abbrev cX3_read : ByteArray := prog_5_method_4_code
def yX3_read : MethodName := ⟨RX3, "read", "(I)I"⟩
abbrev cX3_worked : ByteArray := prog_5_method_5_code
def yX3_worked : MethodName := ⟨RX3, "worked", "(III)I"⟩
def RX4 : String := "NineHeaps$Passing"
def TX4 : u_T := fun k => match k with
  | 0 => ("NineHeaps$Walker", "number", "I", true)
  | 1 => ("NineHeaps$Walker", "more", "I", true)
  | 2 => ("NineHeaps$Walker", "from", "I", false)
  | 3 => ("NineHeaps$Walker", "at", "I", false)
  | 4 => ("NineHeaps$Walker", "doing", "I", false)
  | 5 => ("NineHeaps$Walker", "left", "I", false)
  | 6 => ("NineHeaps$Walker", "done", "I", false)
  | 7 => ("NineHeaps$Walker", "waited", "I", false)
  | 8 => ("NineHeaps$Walker", "has", "I", false)
  | 9 => ("NineHeaps$Walker", "blotted", "Z", false)
  | _ => ("NineHeaps$Walker", "lacks", "Z", false)
def tyX4 : Nat → FieldType := fun k => match k with
  | 0 => .int
  | 1 => .int
  | 2 => .int
  | 3 => .int
  | 4 => .int
  | 5 => .int
  | 6 => .int
  | 7 => .int
  | 8 => .int
  | 9 => .boolean
  | _ => .boolean
theorem nmX4 : ∀ a, a < 11 → ∀ b, b < 11 → a ≠ b → (TX4 a).2.1 ≠ (TX4 b).2.1 := by decide +kernel
theorem tyX4_ok : ∀ k, k < 11 → parseFieldDescriptor (TX4 k).2.2.1 = some (tyX4 k) := by decide +kernel
abbrev cX4_init : ByteArray := prog_6_method_1_code
def yX4_init : MethodName := ⟨RX4, "<init>", "(III)V"⟩
abbrev cX4_kind : ByteArray := prog_6_method_2_code
def yX4_kind : MethodName := ⟨RX4, "kind", "()I"⟩
abbrev cX4_takesFor : ByteArray := prog_6_method_4_code
def yX4_takesFor : MethodName := ⟨RX4, "takesFor", "(II)I"⟩
abbrev cX4_waits : ByteArray := prog_6_method_5_code
def yX4_waits : MethodName := ⟨RX4, "waits", "()Z"⟩
def RX5 : String := "NineHeaps$Quick"
def TX5 : u_T := fun k => match k with
  | 0 => ("NineHeaps$Walker", "number", "I", true)
  | 1 => ("NineHeaps$Walker", "more", "I", true)
  | 2 => ("NineHeaps$Walker", "from", "I", false)
  | 3 => ("NineHeaps$Walker", "at", "I", false)
  | 4 => ("NineHeaps$Walker", "doing", "I", false)
  | 5 => ("NineHeaps$Walker", "left", "I", false)
  | 6 => ("NineHeaps$Walker", "done", "I", false)
  | 7 => ("NineHeaps$Walker", "waited", "I", false)
  | 8 => ("NineHeaps$Walker", "has", "I", false)
  | 9 => ("NineHeaps$Walker", "blotted", "Z", false)
  | _ => ("NineHeaps$Walker", "lacks", "Z", false)
def tyX5 : Nat → FieldType := fun k => match k with
  | 0 => .int
  | 1 => .int
  | 2 => .int
  | 3 => .int
  | 4 => .int
  | 5 => .int
  | 6 => .int
  | 7 => .int
  | 8 => .int
  | 9 => .boolean
  | _ => .boolean
theorem nmX5 : ∀ a, a < 11 → ∀ b, b < 11 → a ≠ b → (TX5 a).2.1 ≠ (TX5 b).2.1 := by decide +kernel
theorem tyX5_ok : ∀ k, k < 11 → parseFieldDescriptor (TX5 k).2.2.1 = some (tyX5 k) := by decide +kernel
abbrev cX5_init : ByteArray := prog_7_method_1_code
def yX5_init : MethodName := ⟨RX5, "<init>", "(III)V"⟩
abbrev cX5_kind : ByteArray := prog_7_method_2_code
def yX5_kind : MethodName := ⟨RX5, "kind", "()I"⟩
abbrev cX5_stepFor : ByteArray := prog_7_method_4_code
def yX5_stepFor : MethodName := ⟨RX5, "stepFor", "(I)I"⟩
def RX6 : String := "NineHeaps$Sheet"
def TX6 : u_T := fun k => match k with
  | 0 => ("NineHeaps$Sheet", "sort", "I", false)
  | 1 => ("NineHeaps$Sheet", "size", "I", false)
  | _ => ("NineHeaps$Sheet", "cell", "[I", true)
def tyX6 : Nat → FieldType := fun k => match k with
  | 0 => .int
  | 1 => .int
  | _ => .array .int
theorem nmX6 : ∀ a, a < 3 → ∀ b, b < 3 → a ≠ b → (TX6 a).2.1 ≠ (TX6 b).2.1 := by decide +kernel
theorem tyX6_ok : ∀ k, k < 3 → parseFieldDescriptor (TX6 k).2.2.1 = some (tyX6 k) := by decide +kernel
abbrev cX6_init : ByteArray := prog_8_method_1_code
def yX6_init : MethodName := ⟨RX6, "<init>", "()V"⟩
abbrev cX6_become : ByteArray := prog_8_method_2_code
def yX6_become : MethodName := ⟨RX6, "become", "(II)V"⟩
abbrev cX6_missing : ByteArray := prog_8_method_3_code
def yX6_missing : MethodName := ⟨RX6, "missing", "()Z"⟩
abbrev cX6_holds : ByteArray := prog_8_method_4_code
def yX6_holds : MethodName := ⟨RX6, "holds", "(II)Z"⟩
abbrev cX6_put : ByteArray := prog_8_method_5_code
def yX6_put : MethodName := ⟨RX6, "put", "(II)V"⟩
def RX7 : String := "NineHeaps$Tape"
def TX7 : u_T := fun k => match k with
  | 0 => ("NineHeaps$Tape", "bytes", "[I", true)
  | 1 => ("NineHeaps$Tape", "size", "I", false)
  | 2 => ("NineHeaps$Tape", "place", "I", false)
  | 3 => ("NineHeaps$Tape", "token", "I", false)
  | 4 => ("NineHeaps$Tape", "tokenAt", "I", false)
  | 5 => ("NineHeaps$Tape", "tokenWord", "I", false)
  | 6 => ("NineHeaps$Tape", "fault", "I", false)
  | 7 => ("NineHeaps$Tape", "words", "[I", true)
  | 8 => ("NineHeaps$Tape", "wordCount", "I", false)
  | _ => ("NineHeaps$Tape", "starts", "[I", true)
def tyX7 : Nat → FieldType := fun k => match k with
  | 0 => .array .int
  | 1 => .int
  | 2 => .int
  | 3 => .int
  | 4 => .int
  | 5 => .int
  | 6 => .int
  | 7 => .array .int
  | 8 => .int
  | _ => .array .int
theorem nmX7 : ∀ a, a < 10 → ∀ b, b < 10 → a ≠ b → (TX7 a).2.1 ≠ (TX7 b).2.1 := by decide +kernel
theorem tyX7_ok : ∀ k, k < 10 → parseFieldDescriptor (TX7 k).2.2.1 = some (tyX7 k) := by decide +kernel
abbrev cX7_init : ByteArray := prog_9_method_1_code
def yX7_init : MethodName := ⟨RX7, "<init>", "()V"⟩
abbrev cX7_add : ByteArray := prog_9_method_2_code
def yX7_add : MethodName := ⟨RX7, "add", "(I)V"⟩
abbrev cX7_read : ByteArray := prog_9_method_3_code
def yX7_read : MethodName := ⟨RX7, "read", "()I"⟩
abbrev cX7_lastRead : ByteArray := prog_9_method_4_code
def yX7_lastRead : MethodName := ⟨RX7, "lastRead", "()LNineHeaps$Law;"⟩
abbrev cX7_readPart : ByteArray := prog_9_method_5_code
def yX7_readPart : MethodName := ⟨RX7, "readPart", "(II)V"⟩
abbrev cX7_readOr : ByteArray := prog_9_method_6_code
def yX7_readOr : MethodName := ⟨RX7, "readOr", "(I)V"⟩
abbrev cX7_readAnd : ByteArray := prog_9_method_7_code
def yX7_readAnd : MethodName := ⟨RX7, "readAnd", "(I)V"⟩
abbrev cX7_readNot : ByteArray := prog_9_method_8_code
def yX7_readNot : MethodName := ⟨RX7, "readNot", "(I)V"⟩
abbrev cX7_readSum : ByteArray := prog_9_method_9_code
def yX7_readSum : MethodName := ⟨RX7, "readSum", "(I)V"⟩
abbrev cX7_readTerm : ByteArray := prog_9_method_10_code
def yX7_readTerm : MethodName := ⟨RX7, "readTerm", "(I)V"⟩
abbrev cX7_readOne : ByteArray := prog_9_method_11_code
def yX7_readOne : MethodName := ⟨RX7, "readOne", "(I)V"⟩
abbrev cX7_mayOpen : ByteArray := prog_9_method_12_code
def yX7_mayOpen : MethodName := ⟨RX7, "mayOpen", "(I)Z"⟩
abbrev cX7_expect : ByteArray := prog_9_method_13_code
def yX7_expect : MethodName := ⟨RX7, "expect", "(I)V"⟩
abbrev cX7_fail : ByteArray := prog_9_method_14_code
def yX7_fail : MethodName := ⟨RX7, "fail", "()V"⟩
abbrev cX7_put : ByteArray := prog_9_method_15_code
def yX7_put : MethodName := ⟨RX7, "put", "(I)V"⟩
abbrev cX7_nextToken : ByteArray := prog_9_method_16_code
def yX7_nextToken : MethodName := ⟨RX7, "nextToken", "()V"⟩
abbrev cX7_takeWord : ByteArray := prog_9_method_17_code
def yX7_takeWord : MethodName := ⟨RX7, "takeWord", "()V"⟩
abbrev cX7_takeNumber : ByteArray := prog_9_method_18_code
def yX7_takeNumber : MethodName := ⟨RX7, "takeNumber", "()V"⟩
abbrev cX7_spells : ByteArray := prog_9_method_19_code
def yX7_spells : MethodName := ⟨RX7, "spells", "(Ljava/lang/String;)Z"⟩
abbrev cX7_byteAt : ByteArray := prog_9_method_20_code
def yX7_byteAt : MethodName := ⟨RX7, "byteAt", "(I)I"⟩
abbrev cX7_isLetter : ByteArray := prog_9_method_21_code
def yX7_isLetter : MethodName := ⟨RX7, "isLetter", "(I)Z"⟩
abbrev cX7_isDigit : ByteArray := prog_9_method_22_code
def yX7_isDigit : MethodName := ⟨RX7, "isDigit", "(I)Z"⟩
abbrev cX7_isSign : ByteArray := prog_9_method_23_code
def yX7_isSign : MethodName := ⟨RX7, "isSign", "(I)Z"⟩
def RX8 : String := "NineHeaps$Thumbed"
def TX8 : u_T := fun k => match k with
  | 0 => ("NineHeaps$Walker", "number", "I", true)
  | 1 => ("NineHeaps$Walker", "more", "I", true)
  | 2 => ("NineHeaps$Walker", "from", "I", false)
  | 3 => ("NineHeaps$Walker", "at", "I", false)
  | 4 => ("NineHeaps$Walker", "doing", "I", false)
  | 5 => ("NineHeaps$Walker", "left", "I", false)
  | 6 => ("NineHeaps$Walker", "done", "I", false)
  | 7 => ("NineHeaps$Walker", "waited", "I", false)
  | 8 => ("NineHeaps$Walker", "has", "I", false)
  | 9 => ("NineHeaps$Walker", "blotted", "Z", false)
  | _ => ("NineHeaps$Walker", "lacks", "Z", false)
def tyX8 : Nat → FieldType := fun k => match k with
  | 0 => .int
  | 1 => .int
  | 2 => .int
  | 3 => .int
  | 4 => .int
  | 5 => .int
  | 6 => .int
  | 7 => .int
  | 8 => .int
  | 9 => .boolean
  | _ => .boolean
theorem nmX8 : ∀ a, a < 11 → ∀ b, b < 11 → a ≠ b → (TX8 a).2.1 ≠ (TX8 b).2.1 := by decide +kernel
theorem tyX8_ok : ∀ k, k < 11 → parseFieldDescriptor (TX8 k).2.2.1 = some (tyX8 k) := by decide +kernel
abbrev cX8_init : ByteArray := prog_10_method_1_code
def yX8_init : MethodName := ⟨RX8, "<init>", "(III)V"⟩
abbrev cX8_kind : ByteArray := prog_10_method_2_code
def yX8_kind : MethodName := ⟨RX8, "kind", "()I"⟩
abbrev cX8_takesFor : ByteArray := prog_10_method_4_code
def yX8_takesFor : MethodName := ⟨RX8, "takesFor", "(II)I"⟩
def RX9 : String := "NineHeaps$Two"
def TX9 : u_T := fun k => match k with
  | 0 => ("NineHeaps$Walker", "number", "I", true)
  | 1 => ("NineHeaps$Walker", "more", "I", true)
  | 2 => ("NineHeaps$Walker", "from", "I", false)
  | 3 => ("NineHeaps$Walker", "at", "I", false)
  | 4 => ("NineHeaps$Walker", "doing", "I", false)
  | 5 => ("NineHeaps$Walker", "left", "I", false)
  | 6 => ("NineHeaps$Walker", "done", "I", false)
  | 7 => ("NineHeaps$Walker", "waited", "I", false)
  | 8 => ("NineHeaps$Walker", "has", "I", false)
  | 9 => ("NineHeaps$Walker", "blotted", "Z", false)
  | _ => ("NineHeaps$Walker", "lacks", "Z", false)
def tyX9 : Nat → FieldType := fun k => match k with
  | 0 => .int
  | 1 => .int
  | 2 => .int
  | 3 => .int
  | 4 => .int
  | 5 => .int
  | 6 => .int
  | 7 => .int
  | 8 => .int
  | 9 => .boolean
  | _ => .boolean
theorem nmX9 : ∀ a, a < 11 → ∀ b, b < 11 → a ≠ b → (TX9 a).2.1 ≠ (TX9 b).2.1 := by decide +kernel
theorem tyX9_ok : ∀ k, k < 11 → parseFieldDescriptor (TX9 k).2.2.1 = some (tyX9 k) := by decide +kernel
abbrev cX9_init : ByteArray := prog_11_method_1_code
def yX9_init : MethodName := ⟨RX9, "<init>", "(III)V"⟩
abbrev cX9_kind : ByteArray := prog_11_method_2_code
def yX9_kind : MethodName := ⟨RX9, "kind", "()I"⟩
abbrev cX9_takesFor : ByteArray := prog_11_method_4_code
def yX9_takesFor : MethodName := ⟨RX9, "takesFor", "(II)I"⟩
def RX10 : String := "NineHeaps$Walker"
def TX10 : u_T := fun k => match k with
  | 0 => ("NineHeaps$Walker", "number", "I", true)
  | 1 => ("NineHeaps$Walker", "more", "I", true)
  | 2 => ("NineHeaps$Walker", "from", "I", false)
  | 3 => ("NineHeaps$Walker", "at", "I", false)
  | 4 => ("NineHeaps$Walker", "doing", "I", false)
  | 5 => ("NineHeaps$Walker", "left", "I", false)
  | 6 => ("NineHeaps$Walker", "done", "I", false)
  | 7 => ("NineHeaps$Walker", "waited", "I", false)
  | 8 => ("NineHeaps$Walker", "has", "I", false)
  | 9 => ("NineHeaps$Walker", "blotted", "Z", false)
  | _ => ("NineHeaps$Walker", "lacks", "Z", false)
def tyX10 : Nat → FieldType := fun k => match k with
  | 0 => .int
  | 1 => .int
  | 2 => .int
  | 3 => .int
  | 4 => .int
  | 5 => .int
  | 6 => .int
  | 7 => .int
  | 8 => .int
  | 9 => .boolean
  | _ => .boolean
theorem nmX10 : ∀ a, a < 11 → ∀ b, b < 11 → a ≠ b → (TX10 a).2.1 ≠ (TX10 b).2.1 := by decide +kernel
theorem tyX10_ok : ∀ k, k < 11 → parseFieldDescriptor (TX10 k).2.2.1 = some (tyX10 k) := by decide +kernel
abbrev cX10_init : ByteArray := prog_12_method_1_code
def yX10_init : MethodName := ⟨RX10, "<init>", "(III)V"⟩
abbrev cX10_kind : ByteArray := prog_12_method_2_code
def yX10_kind : MethodName := ⟨RX10, "kind", "()I"⟩
abbrev cX10_takesFor : ByteArray := prog_12_method_4_code
def yX10_takesFor : MethodName := ⟨RX10, "takesFor", "(II)I"⟩
abbrev cX10_stepFor : ByteArray := prog_12_method_5_code
def yX10_stepFor : MethodName := ⟨RX10, "stepFor", "(I)I"⟩
abbrev cX10_waits : ByteArray := prog_12_method_6_code
def yX10_waits : MethodName := ⟨RX10, "waits", "()Z"⟩
abbrev cX10_beginGoing : ByteArray := prog_12_method_7_code
def yX10_beginGoing : MethodName := ⟨RX10, "beginGoing", "()V"⟩
def RX11 : String := "NineHeaps"
def TX11 : u_T := fun k => match k with
  | 0 => ("NineHeaps", "high", "[I", true)
  | 1 => ("NineHeaps", "stick", "[I", true)
  | 2 => ("NineHeaps", "want", "I", false)
  | 3 => ("NineHeaps", "walkers", "[LNineHeaps$Walker;", true)
  | 4 => ("NineHeaps", "walkerCount", "I", false)
  | 5 => ("NineHeaps", "texts", "[LNineHeaps$Law;", true)
  | 6 => ("NineHeaps", "textCount", "I", false)
  | 7 => ("NineHeaps", "law", "I", false)
  | 8 => ("NineHeaps", "tape", "LNineHeaps$Tape;", true)
  | 9 => ("NineHeaps", "sheets", "[LNineHeaps$Sheet;", true)
  | 10 => ("NineHeaps", "going", "LNineHeaps$Going;", true)
  | 11 => ("NineHeaps", "order", "[I", true)
  | 12 => ("NineHeaps", "fewest", "[[I", true)
  | 13 => ("NineHeaps", "shares", "[I", true)
  | 14 => ("NineHeaps", "imageHigh", "[I", true)
  | 15 => ("NineHeaps", "imageStick", "[I", true)
  | 16 => ("NineHeaps", "imageFrom", "[I", true)
  | 17 => ("NineHeaps", "imageWant", "I", false)
  | 18 => ("NineHeaps", "imageWalkers", "I", false)
  | _ => ("NineHeaps", "imageLaw", "I", false)
def tyX11 : Nat → FieldType := fun k => match k with
  | 0 => .array .int
  | 1 => .array .int
  | 2 => .int
  | 3 => .array (.object "NineHeaps$Walker")
  | 4 => .int
  | 5 => .array (.object "NineHeaps$Law")
  | 6 => .int
  | 7 => .int
  | 8 => .object "NineHeaps$Tape"
  | 9 => .array (.object "NineHeaps$Sheet")
  | 10 => .object "NineHeaps$Going"
  | 11 => .array .int
  | 12 => .array (.array .int)
  | 13 => .array .int
  | 14 => .array .int
  | 15 => .array .int
  | 16 => .array .int
  | 17 => .int
  | 18 => .int
  | _ => .int
theorem nmX11 : ∀ a, a < 20 → ∀ b, b < 20 → a ≠ b → (TX11 a).2.1 ≠ (TX11 b).2.1 := by decide +kernel
theorem tyX11_ok : ∀ k, k < 20 → parseFieldDescriptor (TX11 k).2.2.1 = some (tyX11 k) := by decide +kernel
abbrev cX11_init : ByteArray := prog_1_method_1_code
def yX11_init : MethodName := ⟨RX11, "<init>", "()V"⟩
abbrev cX11_set : ByteArray := prog_1_method_3_code
def yX11_set : MethodName := ⟨RX11, "set", "(III)I"⟩
abbrev cX11_changeWant : ByteArray := prog_1_method_4_code
def yX11_changeWant : MethodName := ⟨RX11, "changeWant", "(I)I"⟩
abbrev cX11_heap : ByteArray := prog_1_method_5_code
def yX11_heap : MethodName := ⟨RX11, "heap", "(II)I"⟩
abbrev cX11_feed : ByteArray := prog_1_method_6_code
def yX11_feed : MethodName := ⟨RX11, "feed", "(IIIIII)I"⟩
abbrev cX11_text : ByteArray := prog_1_method_7_code
def yX11_text : MethodName := ⟨RX11, "text", "()I"⟩
abbrev cX11_force : ByteArray := prog_1_method_8_code
def yX11_force : MethodName := ⟨RX11, "force", "(I)I"⟩
abbrev cX11_walker : ByteArray := prog_1_method_10_code
def yX11_walker : MethodName := ⟨RX11, "walker", "(III)I"⟩
abbrev cX11_told : ByteArray := prog_1_method_12_code
def yX11_told : MethodName := ⟨RX11, "told", "(II)I"⟩
abbrev cX11_run : ByteArray := prog_1_method_13_code
def yX11_run : MethodName := ⟨RX11, "run", "(II)I"⟩
abbrev cX11_one : ByteArray := prog_1_method_14_code
def yX11_one : MethodName := ⟨RX11, "one", "(III)I"⟩
abbrev cX11_height : ByteArray := prog_1_method_15_code
def yX11_height : MethodName := ⟨RX11, "height", "(III)I"⟩
abbrev cX11_go : ByteArray := prog_1_method_16_code
def yX11_go : MethodName := ⟨RX11, "go", "(I)I"⟩
abbrev cX11_best : ByteArray := prog_1_method_19_code
def yX11_best : MethodName := ⟨RX11, "best", "(I)I"⟩
abbrev cX11_start : ByteArray := prog_1_method_20_code
def yX11_start : MethodName := ⟨RX11, "start", "(II)I"⟩
abbrev cX11_layByOrder : ByteArray := prog_1_method_24_code
def yX11_layByOrder : MethodName := ⟨RX11, "layByOrder", "()V"⟩
abbrev cX11_orderByNumbers : ByteArray := prog_1_method_25_code
def yX11_orderByNumbers : MethodName := ⟨RX11, "orderByNumbers", "()V"⟩
abbrev cX11_orderAsDigits : ByteArray := prog_1_method_26_code
def yX11_orderAsDigits : MethodName := ⟨RX11, "orderAsDigits", "()I"⟩
abbrev cX11_nextOrder : ByteArray := prog_1_method_27_code
def yX11_nextOrder : MethodName := ⟨RX11, "nextOrder", "()Z"⟩
abbrev cX11_swapInOrder : ByteArray := prog_1_method_28_code
def yX11_swapInOrder : MethodName := ⟨RX11, "swapInOrder", "(II)V"⟩
abbrev cX11_judge : ByteArray := prog_1_method_37_code
def yX11_judge : MethodName := ⟨RX11, "judge", "(II)I"⟩
abbrev cX11_film : ByteArray := prog_1_method_42_code
def yX11_film : MethodName := ⟨RX11, "film", "(II)I"⟩
abbrev cX11_refusedTelling : ByteArray := prog_1_method_43_code
def yX11_refusedTelling : MethodName := ⟨RX11, "refusedTelling", "(I)I"⟩
abbrev cX11_refusedJudging : ByteArray := prog_1_method_44_code
def yX11_refusedJudging : MethodName := ⟨RX11, "refusedJudging", "(II)I"⟩
abbrev cX11_firstOtherwise : ByteArray := prog_1_method_45_code
def yX11_firstOtherwise : MethodName := ⟨RX11, "firstOtherwise", "(I)I"⟩
abbrev cX11_noHeap : ByteArray := prog_1_method_58_code
def yX11_noHeap : MethodName := ⟨RX11, "noHeap", "(I)Z"⟩
abbrev cX11_noByte : ByteArray := prog_1_method_59_code
def yX11_noByte : MethodName := ⟨RX11, "noByte", "(I)Z"⟩
abbrev cX11_noSeconds : ByteArray := prog_1_method_60_code
def yX11_noSeconds : MethodName := ⟨RX11, "noSeconds", "(I)Z"⟩
abbrev cX11_walkerOf : ByteArray := prog_1_method_61_code
def yX11_walkerOf : MethodName := ⟨RX11, "walkerOf", "(I)LNineHeaps$Walker;"⟩
abbrev cX11_textOf : ByteArray := prog_1_method_62_code
def yX11_textOf : MethodName := ⟨RX11, "textOf", "(I)LNineHeaps$Law;"⟩
abbrev cX11_sheetOf : ByteArray := prog_1_method_63_code
def yX11_sheetOf : MethodName := ⟨RX11, "sheetOf", "(I)LNineHeaps$Sheet;"⟩
abbrev cX11_layPlain : ByteArray := prog_1_method_64_code
def yX11_layPlain : MethodName := ⟨RX11, "layPlain", "()V"⟩
abbrev cX11_layWithout : ByteArray := prog_1_method_65_code
def yX11_layWithout : MethodName := ⟨RX11, "layWithout", "(I)V"⟩
abbrev cX11_layHeaps : ByteArray := prog_1_method_67_code
def yX11_layHeaps : MethodName := ⟨RX11, "layHeaps", "()V"⟩
abbrev cX11_newWalker : ByteArray := prog_1_method_68_code
def yX11_newWalker : MethodName := ⟨RX11, "newWalker", "(IIII)LNineHeaps$Walker;"⟩
def RX12 : String := "NineHeapsModel"
def TX12 : u_T := fun k => match k with
  | _ => ("", "", "", false)
def tyX12 : Nat → FieldType := fun k => match k with
  | _ => .int
theorem nmX12 : ∀ a, a < 0 → ∀ b, b < 0 → a ≠ b → (TX12 a).2.1 ≠ (TX12 b).2.1 := by decide +kernel
theorem tyX12_ok : ∀ k, k < 0 → parseFieldDescriptor (TX12 k).2.2.1 = some (tyX12 k) := by decide +kernel
def RJx145de : String := "java/io/Serializable"
def RJ5 : String := "java/lang/AbstractStringBuilder"
abbrev cJ5_init_d00df : ByteArray := prog_15_method_2_code
def yJ5_init_d00df : MethodName := ⟨RJ5, "<init>", "(I)V"⟩
abbrev cJ5_length_8abf5 : ByteArray := prog_15_method_6_code
def yJ5_length_8abf5 : MethodName := ⟨RJ5, "length", "()I"⟩
abbrev cJ5_ensureCapacityInternal_d00df : ByteArray := prog_15_method_9_code
def yJ5_ensureCapacityInternal_d00df : MethodName := ⟨RJ5, "ensureCapacityInternal", "(I)V"⟩
abbrev cJ5_newCapacity_0f7a4 : ByteArray := prog_15_method_10_code
def yJ5_newCapacity_0f7a4 : MethodName := ⟨RJ5, "newCapacity", "(I)I"⟩
abbrev cJ5_inflate_da8c8 : ByteArray := prog_15_method_11_code
def yJ5_inflate_da8c8 : MethodName := ⟨RJ5, "inflate", "()V"⟩
abbrev cJ5_append_cf1ce : ByteArray := prog_15_method_22_code
def yJ5_append_cf1ce : MethodName := ⟨RJ5, "append", "(Ljava/lang/String;)Ljava/lang/AbstractStringBuilder;"⟩
abbrev cJ5_appendNull_278bc : ByteArray := prog_15_method_26_code
def yJ5_appendNull_278bc : MethodName := ⟨RJ5, "appendNull", "()Ljava/lang/AbstractStringBuilder;"⟩
abbrev cJ5_append_c97b9 : ByteArray := prog_15_method_32_code
def yJ5_append_c97b9 : MethodName := ⟨RJ5, "append", "(I)Ljava/lang/AbstractStringBuilder;"⟩
abbrev cJ5_getValue_6d5f1 : ByteArray := prog_15_method_64_code
def yJ5_getValue_6d5f1 : MethodName := ⟨RJ5, "getValue", "()[B"⟩
abbrev cJ5_isLatin1_aae02 : ByteArray := prog_15_method_68_code
def yJ5_isLatin1_aae02 : MethodName := ⟨RJ5, "isLatin1", "()Z"⟩
abbrev cJ5_inflateIfNeededFor_a7421 : ByteArray := prog_15_method_71_code
def yJ5_inflateIfNeededFor_a7421 : MethodName := ⟨RJ5, "inflateIfNeededFor", "(Ljava/lang/String;)V"⟩
abbrev cJ5_putStringAt_47b60 : ByteArray := prog_15_method_73_code
def yJ5_putStringAt_47b60 : MethodName := ⟨RJ5, "putStringAt", "(ILjava/lang/String;)V"⟩
def RJx2cfe8 : String := "java/lang/Appendable"
def RJx9f9b0 : String := "java/lang/CharSequence"
def RJx8e188 : String := "java/lang/Cloneable"
def RJxb160c : String := "java/lang/Comparable"
def RJ6 : String := "java/lang/Integer"
abbrev cJ6_getChars_ba4f3 : ByteArray := prog_17_method_12_code
def yJ6_getChars_ba4f3 : MethodName := ⟨RJ6, "getChars", "(II[B)I"⟩
abbrev cJ6_stringSize_0f7a4 : ByteArray := prog_17_method_13_code
def yJ6_stringSize_0f7a4 : MethodName := ⟨RJ6, "stringSize", "(I)I"⟩
def RJ9 : String := "java/lang/Math"
abbrev cJ9_floorMod_7cf53 : ByteArray := prog_18_method_50_code
def yJ9_floorMod_7cf53 : MethodName := ⟨RJ9, "floorMod", "(II)I"⟩
abbrev cJ9_max_7cf53 : ByteArray := prog_18_method_65_code
def yJ9_max_7cf53 : MethodName := ⟨RJ9, "max", "(II)I"⟩
abbrev cJ9_max_f86c9 : ByteArray := prog_18_method_66_code
def yJ9_max_f86c9 : MethodName := ⟨RJ9, "max", "(JJ)J"⟩
abbrev cJ9_min_7cf53 : ByteArray := prog_18_method_69_code
def yJ9_min_7cf53 : MethodName := ⟨RJ9, "min", "(II)I"⟩
abbrev cJ9_min_f86c9 : ByteArray := prog_18_method_70_code
def yJ9_min_f86c9 : MethodName := ⟨RJ9, "min", "(JJ)J"⟩
def RJxd2413 : String := "java/lang/Number"
def RJ0 : String := "java/lang/String"
def TJ0 : u_T := fun k => match k with
  | 0 => ("java/lang/String", "value", "[B", true)
  | 1 => ("java/lang/String", "coder", "B", true)
  | 2 => ("java/lang/String", "hash", "I", false)
  | _ => ("java/lang/String", "hashIsZero", "Z", false)
def tyJ0 : Nat → FieldType := fun k => match k with
  | 0 => .array .byte
  | 1 => .byte
  | 2 => .int
  | _ => .boolean
theorem nmJ0 : ∀ a, a < 4 → ∀ b, b < 4 → a ≠ b → (TJ0 a).2.1 ≠ (TJ0 b).2.1 := by decide +kernel
theorem tyJ0_ok : ∀ k, k < 4 → parseFieldDescriptor (TJ0 k).2.2.1 = some (tyJ0 k) := by decide +kernel
abbrev cJ0_init_81219 : ByteArray := prog_20_method_53_code
def yJ0_init_81219 : MethodName := ⟨RJ0, "<init>", "(Ljava/lang/StringBuilder;)V"⟩
abbrev cJ0_length_8abf5 : ByteArray := prog_20_method_54_code
def yJ0_length_8abf5 : MethodName := ⟨RJ0, "length", "()I"⟩
abbrev cJ0_charAt_5068e : ByteArray := prog_20_method_56_code
def yJ0_charAt_5068e : MethodName := ⟨RJ0, "charAt", "(I)C"⟩
abbrev cJ0_getBytes_840e7 : ByteArray := prog_20_method_147_code
def yJ0_getBytes_840e7 : MethodName := ⟨RJ0, "getBytes", "([BIB)V"⟩
abbrev cJ0_init_db425 : ByteArray := prog_20_method_150_code
def yJ0_init_db425 : MethodName := ⟨RJ0, "<init>", "(Ljava/lang/AbstractStringBuilder;Ljava/lang/Void;)V"⟩
abbrev cJ0_coder_7d493 : ByteArray := prog_20_method_152_code
def yJ0_coder_7d493 : MethodName := ⟨RJ0, "coder", "()B"⟩
abbrev cJ0_isLatin1_aae02 : ByteArray := prog_20_method_154_code
def yJ0_isLatin1_aae02 : MethodName := ⟨RJ0, "isLatin1", "()Z"⟩
abbrev cJ0_checkIndex_df160 : ByteArray := prog_20_method_155_code
def yJ0_checkIndex_df160 : MethodName := ⟨RJ0, "checkIndex", "(II)V"⟩
abbrev cJ0_checkBoundsOffCount_cabcc : ByteArray := prog_20_method_157_code
def yJ0_checkBoundsOffCount_cabcc : MethodName := ⟨RJ0, "checkBoundsOffCount", "(III)I"⟩
abbrev cJ0_checkBoundsBeginEnd_23922 : ByteArray := prog_20_method_158_code
def yJ0_checkBoundsBeginEnd_23922 : MethodName := ⟨RJ0, "checkBoundsBeginEnd", "(III)V"⟩
def RJ4 : String := "java/lang/StringBuilder"
def TJ4 : u_T := fun k => match k with
  | 0 => ("java/lang/AbstractStringBuilder", "value", "[B", false)
  | 1 => ("java/lang/AbstractStringBuilder", "coder", "B", false)
  | 2 => ("java/lang/AbstractStringBuilder", "maybeLatin1", "Z", false)
  | _ => ("java/lang/AbstractStringBuilder", "count", "I", false)
def tyJ4 : Nat → FieldType := fun k => match k with
  | 0 => .array .byte
  | 1 => .byte
  | 2 => .boolean
  | _ => .int
theorem nmJ4 : ∀ a, a < 4 → ∀ b, b < 4 → a ≠ b → (TJ4 a).2.1 ≠ (TJ4 b).2.1 := by decide +kernel
theorem tyJ4_ok : ∀ k, k < 4 → parseFieldDescriptor (TJ4 k).2.2.1 = some (tyJ4 k) := by decide +kernel
abbrev cJ4_init_da8c8 : ByteArray := prog_21_method_1_code
def yJ4_init_da8c8 : MethodName := ⟨RJ4, "<init>", "()V"⟩
abbrev cJ4_append_15ec4 : ByteArray := prog_21_method_7_code
def yJ4_append_15ec4 : MethodName := ⟨RJ4, "append", "(Ljava/lang/String;)Ljava/lang/StringBuilder;"⟩
abbrev cJ4_append_bf812 : ByteArray := prog_21_method_15_code
def yJ4_append_bf812 : MethodName := ⟨RJ4, "append", "(I)Ljava/lang/StringBuilder;"⟩
abbrev cJ4_toString_0e30d : ByteArray := prog_21_method_42_code
def yJ4_toString_0e30d : MethodName := ⟨RJ4, "toString", "()Ljava/lang/String;"⟩
abbrev cJ4_length_8abf5 : ByteArray := prog_21_method_93_code
def yJ4_length_8abf5 : MethodName := ⟨RJ4, "length", "()I"⟩
def RJ1 : String := "java/lang/StringLatin1"
abbrev cJ1_charAt_3b067 : ByteArray := prog_22_method_2_code
def yJ1_charAt_3b067 : MethodName := ⟨RJ1, "charAt", "([BI)C"⟩
abbrev cJ1_inflate_0e8fd : ByteArray := prog_22_method_50_code
def yJ1_inflate_0e8fd : MethodName := ⟨RJ1, "inflate", "([BI[BII)V"⟩
def RJ2 : String := "java/lang/StringUTF16"
abbrev cJ2_newBytesFor_77867 : ByteArray := prog_23_method_2_code
def yJ2_newBytesFor_77867 : MethodName := ⟨RJ2, "newBytesFor", "(I)[B"⟩
abbrev cJ2_newBytesLength_0f7a4 : ByteArray := prog_23_method_3_code
def yJ2_newBytesLength_0f7a4 : MethodName := ⟨RJ2, "newBytesLength", "(I)I"⟩
abbrev cJ2_putChar_b72d1 : ByteArray := prog_23_method_4_code
def yJ2_putChar_b72d1 : MethodName := ⟨RJ2, "putChar", "([BII)V"⟩
abbrev cJ2_getChar_3b067 : ByteArray := prog_23_method_5_code
def yJ2_getChar_3b067 : MethodName := ⟨RJ2, "getChar", "([BI)C"⟩
abbrev cJ2_length_9d52b : ByteArray := prog_23_method_6_code
def yJ2_length_9d52b : MethodName := ⟨RJ2, "length", "([B)I"⟩
abbrev cJ2_coderFromArrayLen_85cad : ByteArray := prog_23_method_15_code
def yJ2_coderFromArrayLen_85cad : MethodName := ⟨RJ2, "coderFromArrayLen", "([BI)B"⟩
abbrev cJ2_compress_39247 : ByteArray := prog_23_method_17_code
def yJ2_compress_39247 : MethodName := ⟨RJ2, "compress", "([BII)[B"⟩
abbrev cJ2_compress_5af95 : ByteArray := prog_23_method_22_code
def yJ2_compress_5af95 : MethodName := ⟨RJ2, "compress", "([BI[BII)I"⟩
abbrev cJ2_getChars_46870 : ByteArray := prog_23_method_77_code
def yJ2_getChars_46870 : MethodName := ⟨RJ2, "getChars", "(III[B)I"⟩
abbrev cJ2_putCharsAt_cd4e5 : ByteArray := prog_23_method_81_code
def yJ2_putCharsAt_cd4e5 : MethodName := ⟨RJ2, "putCharsAt", "([BICCCC)I"⟩
abbrev cJ2_charAt_3b067 : ByteArray := prog_23_method_83_code
def yJ2_charAt_3b067 : MethodName := ⟨RJ2, "charAt", "([BI)C"⟩
abbrev cJ2_inflate_0e8fd : ByteArray := prog_23_method_86_code
def yJ2_inflate_0e8fd : MethodName := ⟨RJ2, "inflate", "([BI[BII)V"⟩
abbrev cJ2_getChars_ba4f3 : ByteArray := prog_23_method_89_code
def yJ2_getChars_ba4f3 : MethodName := ⟨RJ2, "getChars", "(II[B)I"⟩
abbrev cJ2_checkIndex_2214a : ByteArray := prog_23_method_91_code
def yJ2_checkIndex_2214a : MethodName := ⟨RJ2, "checkIndex", "(I[B)V"⟩
abbrev cJ2_checkBoundsBeginEnd_d044e : ByteArray := prog_23_method_93_code
def yJ2_checkBoundsBeginEnd_d044e : MethodName := ⟨RJ2, "checkBoundsBeginEnd", "(II[B)V"⟩
abbrev cJ2_checkBoundsOffCount_d044e : ByteArray := prog_23_method_94_code
def yJ2_checkBoundsOffCount_d044e : MethodName := ⟨RJ2, "checkBoundsOffCount", "(II[B)V"⟩
def RJ10 : String := "java/lang/System"
def RJxfd54e : String := "java/lang/constant/Constable"
def RJx3cf43 : String := "java/lang/constant/ConstantDesc"
def RJ7 : String := "java/util/Arrays"
abbrev cJ7_fill_53178 : ByteArray := prog_25_method_103_code
def yJ7_fill_53178 : MethodName := ⟨RJ7, "fill", "([II)V"⟩
abbrev cJ7_copyOf_9075b : ByteArray := prog_25_method_121_code
def yJ7_copyOf_9075b : MethodName := ⟨RJ7, "copyOf", "([BI)[B"⟩
abbrev cJ7_copyOf_59c91 : ByteArray := prog_25_method_123_code
def yJ7_copyOf_59c91 : MethodName := ⟨RJ7, "copyOf", "([II)[I"⟩
abbrev cJ7_checkLength_df160 : ByteArray := prog_25_method_131_code
def yJ7_checkLength_df160 : MethodName := ⟨RJ7, "checkLength", "(II)V"⟩
abbrev cJ7_copyOfRange_39247 : ByteArray := prog_25_method_132_code
def yJ7_copyOfRange_39247 : MethodName := ⟨RJ7, "copyOfRange", "([BII)[B"⟩
abbrev cJ7_copyOfRangeByte_39247 : ByteArray := prog_25_method_133_code
def yJ7_copyOfRangeByte_39247 : MethodName := ⟨RJ7, "copyOfRangeByte", "([BII)[B"⟩
def RJ8 : String := "jdk/internal/util/ArraysSupport"
abbrev cJ8_newLength_cabcc : ByteArray := prog_26_method_27_code
def yJ8_newLength_cabcc : MethodName := ⟨RJ8, "newLength", "(III)I"⟩
abbrev cJ8_hugeLength_7cf53 : ByteArray := prog_26_method_28_code
def yJ8_hugeLength_7cf53 : MethodName := ⟨RJ8, "hugeLength", "(II)I"⟩
def RJ3 : String := "jdk/internal/util/Preconditions"
abbrev cJ3_checkIndex_8e157 : ByteArray := prog_27_method_11_code
def yJ3_checkIndex_8e157 : MethodName := ⟨RJ3, "checkIndex", "(IILjava/util/function/BiFunction;)I"⟩
abbrev cJ3_checkFromToIndex_8c36e : ByteArray := prog_27_method_12_code
def yJ3_checkFromToIndex_8c36e : MethodName := ⟨RJ3, "checkFromToIndex", "(IIILjava/util/function/BiFunction;)I"⟩
abbrev cJ3_checkFromIndexSize_8c36e : ByteArray := prog_27_method_13_code
def yJ3_checkFromIndexSize_8c36e : MethodName := ⟨RJ3, "checkFromIndexSize", "(IIILjava/util/function/BiFunction;)I"⟩
def RL : String := "NineHeapsLaw"
abbrev cL_at : ByteArray := method_2_code
def yL_at : MethodName := ⟨RL, "at", "([II)I"⟩
abbrev cL_text : ByteArray := method_3_code
def yL_text : MethodName := ⟨RL, "text", "(LNineHeaps;Ljava/lang/String;)V"⟩
abbrev cL_build : ByteArray := method_4_code
def yL_build : MethodName := ⟨RL, "build", "([I)LNineHeaps;"⟩
abbrev cL_plain : ByteArray := method_5_code
def yL_plain : MethodName := ⟨RL, "plain", "([I)Z"⟩
abbrev cL_many : ByteArray := method_6_code
def yL_many : MethodName := ⟨RL, "many", "([I)I"⟩
abbrev cL_want : ByteArray := method_7_code
def yL_want : MethodName := ⟨RL, "want", "([I)I"⟩
abbrev cL_high : ByteArray := method_8_code
def yL_high : MethodName := ⟨RL, "high", "([II)I"⟩
abbrev cL_stick : ByteArray := method_9_code
def yL_stick : MethodName := ⟨RL, "stick", "([II)I"⟩
abbrev cL_kind : ByteArray := method_10_code
def yL_kind : MethodName := ⟨RL, "kind", "([II)I"⟩
abbrev cL_more : ByteArray := method_11_code
def yL_more : MethodName := ⟨RL, "more", "([II)I"⟩
abbrev cL_from : ByteArray := method_12_code
def yL_from : MethodName := ⟨RL, "from", "([II)I"⟩
abbrev cL_held : ByteArray := method_13_code
def yL_held : MethodName := ⟨RL, "held", "(JII)I"⟩
abbrev cL_start : ByteArray := method_14_code
def yL_start : MethodName := ⟨RL, "start", "([I[J)V"⟩
abbrev cL_begin : ByteArray := method_15_code
def yL_begin : MethodName := ⟨RL, "begin", "([J)V"⟩
abbrev cL_takes : ByteArray := method_16_code
def yL_takes : MethodName := ⟨RL, "takes", "([I[JIJJ)I"⟩
abbrev cL_steps : ByteArray := method_17_code
def yL_steps : MethodName := ⟨RL, "steps", "([I[JIJ)I"⟩
abbrev cL_lift : ByteArray := method_18_code
def yL_lift : MethodName := ⟨RL, "lift", "([I[JII)V"⟩
abbrev cL_second : ByteArray := method_19_code
def yL_second : MethodName := ⟨RL, "second", "([I[JIII)V"⟩
abbrev cL_go : ByteArray := method_20_code
def yL_go : MethodName := ⟨RL, "go", "([I[JIII)I"⟩
abbrev cL_plainly : ByteArray := method_21_code
def yL_plainly : MethodName := ⟨RL, "plainly", "([I[JII)I"⟩
abbrev cL_law : ByteArray := code
def yL_law : MethodName := ⟨RL, "law", "([I)Z"⟩
abbrev vwCl : List vw_C := [(RX0, TX0, 13), (RX1, TX1, 11), (RX2, TX2, 7), (RX3, TX3, 5), (RX4, TX4, 11), (RX5, TX5, 11), (RX6, TX6, 3), (RX7, TX7, 10), (RX8, TX8, 11), (RX9, TX9, 11), (RX10, TX10, 11), (RX11, TX11, 20), (RJ4, TJ4, 4), (RJ0, TJ0, 4)]
end
section
/-! THE ABSTRACT MACHINE: a whole world in numbered cells; EV: from a place in a method's code the machine comes to the method's end with Q -/
/-- the tables' words that hold of every state of the launch -/
def zGT : List Cond := lw_tbl.filter goodWord
theorem zin {c : Cond} (i : Nat) (h : lw_tbl[i]? = some c) (hg : goodWord c = true) : c ∈ zGT := List.mem_filter.mpr ⟨List.mem_of_getElem? h, hg⟩
theorem zGT_good : GoodIn zGT zGT := fun w h => ⟨h, good_of_word (List.mem_filter.mp h).2⟩
/-- a method: its name, code, locals, answer -/
abbrev zY : Type := MethodName × ByteArray × Nat × Option FieldType
/-- the abstract memory: how many cells, their kinds (and lengths), their ints, their references -/
abbrev zM : Type := Nat × (Nat → Nat × Nat) × (Nat → Nat → Int32) × (Nat → Nat → Option Nat)
def zn (μ : zM) : Nat := μ.1
def zk (μ : zM) (a : Nat) : Nat × Nat := μ.2.1 a
def zi (μ : zM) (a k : Nat) : Int32 := μ.2.2.1 a k
def zr (μ : zM) (a k : Nat) : Option Nat := μ.2.2.2 a k
/-- whole rows are changed: f is row a -/
def zA (μ : zM) (a : Nat) (f : Nat → Int32) : zM := (μ.1, μ.2.1, fun b => if b = a then f else μ.2.2.1 b, μ.2.2.2)
/-- one number -/
def zI (μ : zM) (a k : Nat) (x : Int32) : zM := zA μ a (upd (zi μ a) k x)
/-- one reference -/
def zR (μ : zM) (a k : Nat) (r : Option Nat) : zM := (μ.1, μ.2.1, μ.2.2.1, fun b => if b = a then va_up (μ.2.2.2 a) k r else μ.2.2.2 b)
/-- a new cell -/
def zN (μ : zM) (kd : Nat × Nat) : zM := (μ.1 + 1, fun b => if b = μ.1 then kd else μ.2.1 b, fun b => if b = μ.1 then fun _ => 0 else μ.2.2.1 b, fun b => if b = μ.1 then fun _ => none else μ.2.2.2 b)
/-- the world's constants: the heap's size at the law's entry, the state there, class numbers, array classes, old cells' addresses, what references never change, the script -/
abbrev zW : Type := Nat × State × va_G × (Nat → ClassId) × (Nat → Nat) × (Nat → Nat → Option (Option Nat)) × Nat × (Nat → Int32) × Option (Nat → Int64)
def zb0 (w : zW) : Nat := w.1
def zs0 (w : zW) : State := w.2.1
def zD (w : zW) : va_G := w.2.2.1
def zcA (w : zW) : Nat → ClassId := w.2.2.2.1
def zca (w : zW) : Nat → Nat := w.2.2.2.2.1
def zst (w : zW) : Nat → Nat → Option (Option Nat) := w.2.2.2.2.2.1
/-- what the row of longs holds, once it is never written again -/
def zhm (w : zW) : Option (Nat → Int64) := w.2.2.2.2.2.2.2.2
/-- 32 .. 80 and 114 on: cells; 81 .. 113: no cells of the heap (what the reference would hold), their numbers name old ones -/
def zrl (a : Nat) : Prop := 32 ≤ a ∧ (a < 81 ∨ 114 ≤ a)
def zix (a : Nat) : Nat := if a < 81 then a - 32 else a - 65
def zun (j : Nat) : Nat := if j < 49 then j + 32 else j + 65
def zsz (n : Nat) : Nat := if n ≤ 81 then n - 32 else if n < 114 then 49 else n - 65
def zvn (n : Nat) : Prop := 32 ≤ n ∧ (n ≤ 81 ∨ 114 ≤ n)
def zad (w : zW) (a : Nat) : Nat := if a < 32 then zca w a else if a < 81 then zb0 w + (a - 32) else if a < 114 then zca w a else zb0 w + (a - 65)
/-- a long in two ints -/
def zlo (x : Int64) : Int32 := Int32.ofInt x.toInt
def zhi (x : Int64) : Int32 := Int32.ofInt (x.toInt / 4294967296)
def zpk (lo hi : Int32) : Int64 := Int64.ofInt (hi.toInt * 4294967296 + lo.toInt % 4294967296)
theorem zpk_eq (x : Int64) : zpk (zlo x) (zhi x) = x := by
  have h1 := x.le_toInt
  have h2 := x.toInt_lt
  unfold zpk zlo zhi
  rw [Int32.toInt_ofInt, Int32.toInt_ofInt]
  have e : (x.toInt / 4294967296).bmod (2 ^ 32) = x.toInt / 4294967296 := by
    rw [Int.bmod_eq_of_le (by omega) (by omega)]
  have e2 : x.toInt.bmod (2 ^ 32) % 4294967296 = x.toInt % 4294967296 := by
    rw [Int.bmod_def]
    split <;> omega
  rw [e, e2, show x.toInt / 4294967296 * 4294967296 + x.toInt % 4294967296 = x.toInt by omega, Int64.ofInt_toInt]
/-- a row of longs in a row of ints -/
def zpr (h : Nat → Int64) : Nat → Int32 := fun j => if j % 2 = 0 then zlo (h (j / 2)) else zhi (h (j / 2))
def zlg (w : zW) (f : Nat → Int32) : Nat → Int64 := match zhm w with
  | none => fun k => zpk (f (2 * k)) (f (2 * k + 1))
  | some h => h
theorem zlg_w {w : zW} {h : Nat → Int64} (hw : zhm w = some h) (f : Nat → Int32) : zlg w f = h := by
  unfold zlg
  rw [hw]
theorem zlg_pr {w : zW} (hw : zhm w = none) (h : Nat → Int64) : zlg w (zpr h) = h := by
  unfold zlg
  rw [hw]
  funext k
  show zpk (zpr h (2 * k)) (zpr h (2 * k + 1)) = h k
  unfold zpr
  rw [if_pos (by omega), if_neg (by omega), show 2 * k / 2 = k by omega, show (2 * k + 1) / 2 = k by omega, zpk_eq]
def zva (w : zW) (v : Value) : Value := match v with
  | .ref a => .ref (zad w a)
  | v => v
theorem zva_int (w : zW) (x : Int32) : zva w (.int x) = .int x := rfl
theorem zva_long (w : zW) (x : Int64) : zva w (.long x) = .long x := rfl
theorem zva_ref (w : zW) (a : Nat) : zva w (.ref a) = .ref (zad w a) := rfl
theorem zva_null (w : zW) : zva w .null = .null := rfl
theorem zva_cat (w : zW) (v : Value) : (zva w v).category = v.category := by cases v <;> rfl
/-- classes: how many fields, of which types; is a field a reference -/
def zNf (c : Nat) : Nat := match c with
  | 0 => 13 | 1 => 11 | 2 => 7 | 3 => 5 | 4 => 11 | 5 => 11 | 6 => 3 | 7 => 10 | 8 => 11 | 9 => 11 | 10 => 11 | 11 => 20 | 12 => 4 | _ => 4
def zty (c : Nat) : Nat → FieldType := match c with
  | 0 => tyX0 | 1 => tyX1 | 2 => tyX2 | 3 => tyX3 | 4 => tyX4 | 5 => tyX5 | 6 => tyX6 | 7 => tyX7 | 8 => tyX8 | 9 => tyX9 | 10 => tyX10 | 11 => tyX11 | 12 => tyJ4 | _ => tyJ0
def zTf (c : Nat) : u_T := match c with
  | 0 => TX0 | 1 => TX1 | 2 => TX2 | 3 => TX3 | 4 => TX4 | 5 => TX5 | 6 => TX6 | 7 => TX7 | 8 => TX8 | 9 => TX9 | 10 => TX10 | 11 => TX11 | 12 => TJ4 | _ => TJ0
def zRf (c : Nat) : String := match c with
  | 0 => RX0 | 1 => RX1 | 2 => RX2 | 3 => RX3 | 4 => RX4 | 5 => RX5 | 6 => RX6 | 7 => RX7 | 8 => RX8 | 9 => RX9 | 10 => RX10 | 11 => RX11 | 12 => RJ4 | _ => RJ0
def zfl (c k : Nat) : Bool := match zty c k with
  | .int => false
  | .boolean => false
  | .byte => false
  | _ => true
theorem zcl_at : ∀ c, c < 14 → vwCl[c]? = some (zRf c, zTf c, zNf c) := fun c h => by
  match c, h with
  | 0, _ => rfl
  | 1, _ => rfl
  | 2, _ => rfl
  | 3, _ => rfl
  | 4, _ => rfl
  | 5, _ => rfl
  | 6, _ => rfl
  | 7, _ => rfl
  | 8, _ => rfl
  | 9, _ => rfl
  | 10, _ => rfl
  | 11, _ => rfl
  | 12, _ => rfl
  | 13, _ => rfl
/-- a reference as it stands: one that never changes, or the memory's -/
def zrr (w : zW) (μ : zM) (a k : Nat) : Option Nat := match zst w a k with
  | some r => r
  | none => zr μ a k
def zv (w : zW) (μ : zM) (a c k : Nat) : Value := if zfl c k = true then va_rf ((zrr w μ a k).map (zad w)) else .int (zi μ a k)
/-- a cell as the kit's worlds have it -/
def zE (w : zW) (μ : zM) (a : Nat) : va_E :=
  if (zk μ a).1 = 0 then .inl (zcA w 0, (zk μ a).2, .inl (zi μ a))
  else if (zk μ a).1 = 12 then .inl (zcA w 6, (zk μ a).2, .inl (zi μ a))
  else if (zk μ a).1 = 14 then .inl (zcA w 7, (zk μ a).2, .inr (.inl (zlg w (zi μ a))))
  else if (zk μ a).1 < 16 then .inl (zcA w (zk μ a).1, (zk μ a).2, .inr (.inr (.inr (.inr (fun k => (zrr w μ a k).map (zad w))))))
  else .inr ((zk μ a).1 - 16, (List.range (zNf ((zk μ a).1 - 16))).map (zv w μ a ((zk μ a).1 - 16)))
def zWs (w : zW) (μ : zM) : va_W := (List.range (zsz (zn μ))).map (fun j => (zb0 w + j, zE w μ (zun j)))
def zAq (w : zW) : Nat → Prop := fun q => zb0 w ≤ q
/-- the arrays' classes: ints, rows of ints, walkers, laws, sheets, heaps; bytes, longs -/
def zT (w : zW) : List (ClassId × FieldType) := [(zcA w 0, .int), (zcA w 1, .array .int), (zcA w 2, .object RX10), (zcA w 3, .object RX3), (zcA w 4, .object RX6), (zcA w 5, .object RX2), (zcA w 6, .byte), (zcA w 7, .long)]
theorem zun_ix {a : Nat} (h : zrl a) : zun (zix a) = a := by
  obtain ⟨h1, h2⟩ := h
  unfold zun zix
  split <;> split <;> omega
theorem zix_un (j : Nat) : zix (zun j) = j := by
  unfold zun zix
  split <;> split <;> omega
theorem zun_rl (j : Nat) : zrl (zun j) := by
  unfold zrl zun
  split <;> omega
theorem zix_lt {a n : Nat} (h : zrl a) (hn : a < n) : zix a < zsz n := by
  obtain ⟨h1, h2⟩ := h
  unfold zix zsz
  split <;> split <;> (try split) <;> omega
theorem zun_lt {j n : Nat} (h : j < zsz n) : zun j < n := by
  unfold zun
  unfold zsz at h
  split at h <;> split <;> (try split at h) <;> omega
theorem zad_rl (w : zW) {a : Nat} (h : zrl a) : zad w a = zb0 w + zix a := by
  obtain ⟨h1, h2⟩ := h
  unfold zad zix
  rw [if_neg (by omega)]
  by_cases c : a < 81
  · rw [if_pos c, if_pos c]
  · rw [if_neg c, if_neg c, if_neg (by omega)]
theorem zsz_push {n : Nat} (h : zrl n) : zsz (n + 1) = zsz n + 1 := by
  obtain ⟨h1, h2⟩ := h
  unfold zsz
  split <;> split <;> (try split) <;> (try split) <;> omega
theorem zsz_ix {n : Nat} (h : zrl n) : zsz n = zix n := by
  obtain ⟨h1, h2⟩ := h
  unfold zsz zix
  split <;> split <;> (try split) <;> omega
theorem zrl_vn {n : Nat} (h : zrl n) : zvn n ∧ zvn (n + 1) ∧ n ≠ 0 := by
  obtain ⟨h1, h2⟩ := h
  unfold zvn
  omega
theorem zWs_at (w : zW) {μ : zM} {a : Nat} (h : zrl a) (hn : a < zn μ) : (zWs w μ)[zix a]? = some (zad w a, zE w μ a) := by
  unfold zWs
  rw [List.getElem?_map, List.getElem?_range (zix_lt h hn), zad_rl w h]
  show some (zb0 w + zix a, zE w μ (zun (zix a))) = _
  rw [zun_ix h]
theorem zWs_len (w : zW) (μ : zM) : (zWs w μ).length = zsz (zn μ) := by simp [zWs]
theorem zWs_apart (w : zW) (μ : zM) : va_D (zAq w) (zWs w μ) := by
  have at' : ∀ (k : Nat) (q : Nat × va_E), (zWs w μ)[k]? = some q → q.1 = zb0 w + k := by
    intro k q h
    have hl : k < zsz (zn μ) := by rw [← zWs_len w μ]; exact (List.getElem?_eq_some_iff.mp h).1
    unfold zWs at h
    rw [List.getElem?_map, List.getElem?_range hl] at h
    cases h
    rfl
  refine ⟨fun i j p q hp hq h => ?_, fun k q hq => ?_⟩
  · have h1 := at' i p hp
    have h2 := at' j q hq
    omega
  · have h1 := at' k q hq
    show zb0 w ≤ q.1
    omega
/-- one cell changes -/
theorem zWs_set (w : zW) {μ μ' : zM} {a : Nat} (h : zrl a) (hn : a < zn μ) (hn' : zn μ' = zn μ) (he : ∀ b, b ≠ a → zE w μ' b = zE w μ b) : (zWs w μ).set (zix a) (zad w a, zE w μ' a) = zWs w μ' := by
  apply List.ext_getElem?
  intro k
  by_cases hk : k < zsz (zn μ)
  · by_cases e : k = zix a
    · subst e
      rw [List.getElem?_set_self (by rw [zWs_len]; exact hk), zWs_at w h (by omega)]
    · rw [List.getElem?_set_ne (fun q => e q.symm)]
      unfold zWs
      rw [List.getElem?_map, List.getElem?_map, List.getElem?_range hk, List.getElem?_range (by rw [hn']; exact hk)]
      show some (zb0 w + k, zE w μ (zun k)) = some (zb0 w + k, zE w μ' (zun k))
      rw [he (zun k) (fun q => e (by rw [← q, zix_un]))]
  · have h1 : (zWs w μ').length ≤ k := by rw [zWs_len, hn']; omega
    have h2 : ((zWs w μ).set (zix a) (zad w a, zE w μ' a)).length ≤ k := by rw [List.length_set, zWs_len]; omega
    rw [List.getElem?_eq_none h1, List.getElem?_eq_none h2]
/-- a cell comes -/
theorem zWs_push (w : zW) {μ μ' : zM} (h : zrl (zn μ)) (hn' : zn μ' = zn μ + 1) (he : ∀ b, b < zn μ → zE w μ' b = zE w μ b) : zWs w μ' = zWs w μ ++ [(zad w (zn μ), zE w μ' (zn μ))] := by
  have hs : zsz (zn μ) = zix (zn μ) := zsz_ix h
  unfold zWs
  rw [hn', zsz_push h, List.range_succ, List.map_append, List.map_singleton, zad_rl w h, hs, zun_ix h]
  congr 1
  apply List.map_congr_left
  intro j hj
  rw [he (zun j) (zun_lt (by rw [hs]; exact List.mem_range.mp hj))]
/-- the locals, of which some aren't spoken of -/
def zLv (w : zW) : Nat → List (Option Value) → List (Nat × Value)
  | _, [] => []
  | i, none :: L => zLv w (i + 1) L
  | i, some v :: L => (i, zva w v) :: zLv w (i + 1) L
theorem zLv_mem (w : zW) : ∀ (L : List (Option Value)) (i : Nat) (q : Nat × Value), q ∈ zLv w i L ↔ ∃ (j : Nat) (v : Value), L[j]? = some (some v) ∧ q = (i + j, zva w v)
  | [], i, q => by simp [zLv]
  | none :: L, i, q => by
    rw [show zLv w i (none :: L) = zLv w (i + 1) L from rfl, zLv_mem w L]
    constructor
    · rintro ⟨j, v, h, e⟩
      exact ⟨j + 1, v, by simpa using h, by rw [e]; congr 1; omega⟩
    · rintro ⟨j, v, h, e⟩
      match j, h with
      | 0, h => simp at h
      | j + 1, h => exact ⟨j, v, by simpa using h, by rw [e]; congr 1; omega⟩
  | some u :: L, i, q => by
    rw [show zLv w i (some u :: L) = (i, zva w u) :: zLv w (i + 1) L from rfl, List.mem_cons, zLv_mem w L]
    constructor
    · rintro (e | ⟨j, v, h, e⟩)
      · exact ⟨0, u, by simp, by rw [e]; rfl⟩
      · exact ⟨j + 1, v, by simpa using h, by rw [e]; congr 1; omega⟩
    · rintro ⟨j, v, h, e⟩
      match j, h with
      | 0, h =>
        simp at h
        subst h
        exact Or.inl (by rw [e]; rfl)
      | j + 1, h => exact Or.inr ⟨j, v, by simpa using h, by rw [e]; congr 1; omega⟩
def zL (w : zW) (n : Nat) (ls : Array Slot) (L : List (Option Value)) : Prop := lv_has ls n (zLv w 0 L)
theorem zL_get {w : zW} {n : Nat} {ls : Array Slot} {L : List (Option Value)} (h : zL w n ls L) {i : Nat} {v : Value} (hi : L[i]? = some (some v)) : ls[i]? = some (.val (zva w v)) :=
  h.2.2 (i, zva w v) ((zLv_mem w L 0 _).mpr ⟨i, v, hi, by simp⟩)
theorem zL_sub {w : zW} {n : Nat} {ls : Array Slot} {l : List (Nat × Value)} {L : List (Option Value)} (h : lv_has ls n l) (hs : ∀ (j : Nat) (v : Value), L[j]? = some (some v) → (j, zva w v) ∈ l) : zL w n ls L :=
  ⟨h.1, h.2.1, fun q hq => by
    obtain ⟨j, v, h1, e⟩ := (zLv_mem w L 0 q).mp hq
    rw [e, Nat.zero_add]
    exact h.2.2 _ (hs j v h1)⟩
/-- no long stands just before place i -/
def zno2 (L : List (Option Value)) (i : Nat) : Bool := match i with
  | 0 => true
  | j + 1 => match L[j]? with
    | some (some (.long _)) => false
    | some (some (.double _)) => false
    | _ => true
theorem zno2_cat {L : List (Option Value)} {i j : Nat} {v : Value} (h : zno2 L i = true) (hj : j + 1 = i) (hv : L[j]? = some (some v)) : ¬ v.category = 2 := by
  subst hj
  simp only [zno2, hv] at h
  cases v <;> simp_all [Value.category]
theorem zL_st1 {w : zW} {n : Nat} {ls' : Array Slot} {L : List (Option Value)} {i : Nat} {v : Value} (hno : zno2 L i = true)
    (h : lv_has ls' n ((i, zva w v) :: (zLv w 0 L).filter (fun q => !(q.1 == i) && !(q.1 + 1 == i && q.2.category == 2)))) : zL w n ls' (L.set i (some v)) := by
  refine zL_sub h fun j u hu => ?_
  by_cases e : j = i
  · subst e
    by_cases hl : j < L.length
    · rw [List.getElem?_set_self hl] at hu
      cases hu
      exact List.mem_cons_self
    · rw [List.getElem?_eq_none (by rw [List.length_set]; omega)] at hu
      cases hu
  · rw [List.getElem?_set_ne (fun q => e q.symm)] at hu
    refine List.mem_cons_of_mem _ (List.mem_filter.mpr ⟨(zLv_mem w L 0 _).mpr ⟨j, u, hu, by simp⟩, ?_⟩)
    have h2 : j + 1 = i → ¬ u.category = 2 := fun q => zno2_cat hno q hu
    simp only [zva_cat, Bool.and_eq_true, Bool.not_eq_true', beq_eq_false_iff_ne, ne_eq, Bool.and_eq_false_iff]
    refine ⟨e, ?_⟩
    by_cases q : j + 1 = i
    · exact Or.inr (h2 q)
    · exact Or.inl q
theorem zL_st2 {w : zW} {n : Nat} {ls' : Array Slot} {L : List (Option Value)} {i : Nat} {v : Value} (hno : zno2 L i = true)
    (h : lv_has ls' n ((i, zva w v) :: (zLv w 0 L).filter (fun q => !(q.1 == i) && (!(q.1 == i + 1) && !(q.1 + 1 == i && q.2.category == 2))))) : zL w n ls' ((L.set i (some v)).set (i + 1) none) := by
  refine zL_sub h fun j u hu => ?_
  by_cases e1 : j = i + 1
  · subst e1
    by_cases hl : i + 1 < (L.set i (some v)).length
    · rw [List.getElem?_set_self hl] at hu
      cases hu
    · rw [List.getElem?_eq_none (by rw [List.length_set]; omega)] at hu
      cases hu
  · rw [List.getElem?_set_ne (fun q => e1 q.symm)] at hu
    by_cases e : j = i
    · subst e
      by_cases hl : j < L.length
      · rw [List.getElem?_set_self hl] at hu
        cases hu
        exact List.mem_cons_self
      · rw [List.getElem?_eq_none (by rw [List.length_set]; omega)] at hu
        cases hu
    · rw [List.getElem?_set_ne (fun q => e q.symm)] at hu
      refine List.mem_cons_of_mem _ (List.mem_filter.mpr ⟨(zLv_mem w L 0 _).mpr ⟨j, u, hu, by simp⟩, ?_⟩)
      have h2 : j + 1 = i → ¬ u.category = 2 := fun q => zno2_cat hno q hu
      simp only [zva_cat, Bool.and_eq_true, Bool.not_eq_true', beq_eq_false_iff_ne, ne_eq, Bool.and_eq_false_iff]
      refine ⟨e, e1, ?_⟩
      by_cases q : j + 1 = i
      · exact Or.inr (h2 q)
      · exact Or.inl q
end
section
/-! EV, and its rows for instructions that touch no cell -/
/-- an old array of ints, exactly so long -/
def zTc (w : zW) (i N : Nat) (f : Nat → Int32) : Prop := ∃ cell : Cell, (zs0 w).heap[zca w i]? = some cell ∧ cell.cls = zcA w 0 ∧ cell.vm ≠ .unknown ∧ (∀ k, cell.vm ≠ .statics k) ∧ cell.slots.size = N ∧ (∀ j : Nat, j < N → cell.slots[j]? = some (.int (f j)))
def zxl (w : zW) : Nat := w.2.2.2.2.2.2.1
def zxs (w : zW) : Nat → Int32 := w.2.2.2.2.2.2.2.1
def zFl : Nat → Int32 := fun j => match j with | 0 => 2 | _ => 1
def zFs : Nat → Int32 := fun j => nI j
def zSlen : List Nat := [5, 5, 5, 2, 3, 3, 4, 6, 4, 4, 4, 4, 13, 24, 22, 1]
def zSbyt : List (List Int32) := [[116, 97, 107, 101, 115], [115, 116, 101, 112, 115], [109, 105, 110, 100, 115], [111, 114], [97, 110, 100], [110, 111, 116], [104, 101, 97, 112], [119, 97, 108, 107, 101, 114], [109, 111, 114, 101], [108, 101, 102, 116], [100, 111, 110, 101], [109, 97, 110, 121], [116, 97, 107, 101, 115, 32, 49, 43, 104, 101, 97, 112, 42], [43, 100, 111, 110, 101, 59, 115, 116, 101, 112, 115, 32, 109, 97, 110, 121, 43, 119, 97, 108, 107, 101, 114, 42], [45, 108, 101, 102, 116, 59, 109, 105, 110, 100, 115, 32, 100, 111, 110, 101, 43, 109, 111, 114, 101, 42], [59]]
def zStx : List String := ["takes", "steps", "minds", "or", "and", "not", "heap", "walker", "more", "left", "done", "many", "takes 1+heap*", "+done;steps many+walker*", "-left;minds done+more*", ";"]
def zSix : List Nat := [121, 127, 129, 131, 133, 135, 137, 139, 141, 143, 145, 147, 63, 75, 77, 79]
/-- whose texts they are; where they and their bytes stand -/
def zSow (i : Nat) : String := if i < 12 then "NineHeaps$Tape" else "NineHeapsLaw"
def zSa (i : Nat) : Nat := if i < 12 then 2 + i else 69 + i
def zVa (i : Nat) : Nat := if i < 12 then 14 + i else 73 + i
/-- Integer.DigitOnes -/
def zDo : Nat → Int32 := fun j => Int32.ofNat (48 + j % 10)
/-- words that aren't the tables' alone -/
def zNw : List Cond := [.castable "[I" "java/lang/Cloneable", .castable RX5 RX10, .castable RX8 RX10, .castable RX4 RX10, .castable RX1 RX10, .castable RX9 RX10, .methodLinkNest RX11 34 yX7_init RX11, .methodLinkNest RX11 93 yX6_init RX11]
def zAO2 (U : State) : Prop := (Cond.arrayOver (.array .int)).before #[] U = true
/-- a static of the machine's of which only 'a reference or null' is known -/
def zsio (w : zW) : Option Nat := if zca w 28 = 0 then none else some 27
/-- what holds of the world's constants -/
def zGF (w : zW) : Prop :=
  zb0 w = (zs0 w).heap.size ∧ va_K (zD w) vwCl (zT w) (zs0 w) ∧ (va_X (zca w 26) (zxl w) (zxs w) (zs0 w) (zs0 w).heap ∧ zca w 26 < zb0 w) ∧
  (va_Z "NineHeaps" "FIRST_LAW" "[I" (.ref (zca w 0)) (zAq w) (zs0 w) (zs0 w).heap ∧ zTc w 0 3 zFl) ∧ (va_Z "NineHeaps" "FIRST_LAW_STARTS" "[I" (.ref (zca w 1)) (zAq w) (zs0 w) (zs0 w).heap ∧ zTc w 1 4 zFs) ∧
  va_Z "java/lang/String" "COMPACT_STRINGS" "Z" (.int 1) (zAq w) (zs0 w) (zs0 w).heap ∧
  vk_S 16 zSlen zSbyt (fun i => zca w (zSa i)) (fun i => zca w (zVa i)) (zAq w) (zs0 w) (zs0 w).heap ∧
  (∀ C ∈ [RX10, RX3, RX6, RX2], va_AO C (zs0 w)) ∧ zAO2 (zs0 w) ∧
  va_Z "jdk/internal/util/Preconditions" "SIOOBE_FORMATTER" "Ljava/util/function/BiFunction;" (va_rf ((zsio w).map (zca w))) (zAq w) (zs0 w) (zs0 w).heap ∧
  (va_Z "java/lang/Integer" "DigitOnes" "[B" (.ref (zca w 89)) (zAq w) (zs0 w) (zs0 w).heap ∧ va_T .byte (zca w 89) 100 (fun j => .int (zDo j)) (zAq w) (zs0 w) (zs0 w).heap)
/-- what holds in a method's frame -/
def zFr (w : zW) (s : State) : Prop := (zs0 w).vm.Alike s.vm ∧ zb0 w ≤ s.heap.size ∧ (∀ q : Nat, q < zb0 w → s.heap[q]? = (zs0 w).heap[q]?) ∧ (∀ i : Nat, i < 16 → vk_R (zSow i) (zSix.getD i 0) (zStx.getD i "") (zca w (zSa i)) s) ∧ ∀ v ∈ zNw, va_Nw v s
def zCtx (w : zW) (y : zY) (p : Program) (s : State) (m : MethodId) (args : Array Value) (meth : Method) (c : Code) : Prop :=
  p.tables.exec = Jvm.exec ∧ c.code = y.2.1 ∧ c.maxLocals = y.2.2.1 ∧ s.vm.findClass y.1.cls = some m.cls ∧ (∀ v ∈ zGT, v.before args s = true) ∧ meth.sig.returnType = y.2.2.2 ∧ meth.locks = false ∧ meth.name = y.1.name ∧ zFr w s
/-- no cells at all: nothing is told -/
def zNm (w : zW) (μ : zM) (H : Heap) : Prop := zn μ ≠ 0 → zvn (zn μ) ∧ H.size = zb0 w + zsz (zn μ) ∧ va_P (zD w) vwCl (zWs w μ) H
/-- the heap holds the memory -/
def zRp (w : zW) (s : State) (μ : zM) (H : Heap) (locs : List Loc) : Prop := zNm w μ H ∧ va_S (zAq w) s.heap H locs
/-- a method's end at pc with v -/
def zRet (y : zY) (pc : Nat) (v : Option Value) : Prop :=
  (∃ x : Int32, v = some (.int x) ∧ decode y.2.1 pc = .ok (.ireturn, 1) ∧ ∃ ty, y.2.2.2 = some ty ∧ narrow ty (.int x) = .int x) ∨
  (∃ x : Int64, v = some (.long x) ∧ decode y.2.1 pc = .ok (.lreturn, 1) ∧ y.2.2.2 = some .long) ∨
  (∃ r : Value, v = some r ∧ (r = .null ∨ ∃ a, r = .ref a) ∧ decode y.2.1 pc = .ok (.areturn, 1) ∧ ∃ rt, y.2.2.2 = some rt ∧ ((∃ n, rt = .object n) ∨ ∃ t, rt = .array t)) ∨
  (v = none ∧ decode y.2.1 pc = .ok (.return_, 1) ∧ y.2.2.2 = none)
/-- THE JUDGEMENT: at depth d, with kc cells and ks slots to spend, from pc of y with locals L, stack st, memory μ, the method ends with an answer and a memory of which Q holds -/
def EV (w : zW) (d kc ks : Nat) (y : zY) (pc : Nat) (L : List (Option Value)) (st : List Value) (μ : zM) (Q : Option Value → zM → Prop) : Prop :=
  ∀ (p : Program) (l : Launch) (e : Env) (R : Room) (s : State) (m : MethodId) (args : Array Value) (below : List Frame) (meth : Method) (c : Code) (H : Heap) (locs : List Loc) (cells slots : Nat) (Qf : State → Prop) (ls : Array Slot),
    zGF w → zCtx w y p s m args meth c → zL w y.2.2.1 ls L → zRp w s μ H locs → d ≤ R.frames → 64 * d ≤ R.locals → cells + kc ≤ R.cells → slots + ks ≤ R.slots →
    (∀ (v : Option Value) (μ' : zM) (H' : Heap) (locs' : List Loc) (cells' slots' pc' : Nat) (ls' : Array Slot), Q v μ' → zRp w s μ' H' locs' → cells' ≤ cells + kc → slots' ≤ slots + ks → zRet y pc' v →
      W p l e R s m args below meth c H' locs' cells' slots' Qf (F0 m pc' ls' (v.map (zva w)).toList)) →
    W p l e R s m args below meth c H locs cells slots Qf (F0 m pc ls (st.map (zva w)))
section EVR
variable {w : zW} {d kc ks : Nat} {y : zY} {pc : Nat} {L : List (Option Value)} {st : List Value} {μ : zM} {Q Q' : Option Value → zM → Prop}
theorem EV.mono (h : EV w d kc ks y pc L st μ Q) (hQ : ∀ v μ', Q v μ' → Q' v μ') : EV w d kc ks y pc L st μ Q' := by
  intro p l e R s m args below meth c H locs cells slots Qf ls hG hC hL hP h1 h2 h3 h4 k
  exact h p l e R s m args below meth c H locs cells slots Qf ls hG hC hL hP h1 h2 h3 h4 (fun v μ' H' locs' cells' slots' pc' ls' q => k v μ' H' locs' cells' slots' pc' ls' (hQ v μ' q))
theorem EV.more {d' kc' ks' : Nat} (h : EV w d kc ks y pc L st μ Q) (hd : d ≤ d') (hc : kc ≤ kc') (hs : ks ≤ ks') : EV w d' kc' ks' y pc L st μ Q := by
  intro p l e R s m args below meth c H locs cells slots Qf ls hG hC hL hP h1 h2 h3 h4 k
  exact h p l e R s m args below meth c H locs cells slots Qf ls hG hC hL hP (Nat.le_trans hd h1) (Nat.le_trans (Nat.mul_le_mul_left 64 hd) h2) (by omega) (by omega) (fun v μ' H' locs' cells' slots' pc' ls' q r a b t => k v μ' H' locs' cells' slots' pc' ls' q r (by omega) (by omega) t)
/-- the locals may be spoken of less -/
theorem EV.less {L' : List (Option Value)} (h : EV w d kc ks y pc L' st μ Q) (hl : ∀ (j : Nat) (v : Value), L'[j]? = some (some v) → L[j]? = some (some v)) : EV w d kc ks y pc L st μ Q := by
  intro p l e R s m args below meth c H locs cells slots Qf ls hG hC hL hP h1 h2 h3 h4 k
  refine h p l e R s m args below meth c H locs cells slots Qf ls hG hC (zL_sub hL fun j v hj => (zLv_mem w L 0 _).mpr ⟨j, v, hl j v hj, by simp⟩) hP h1 h2 h3 h4 k
theorem ev_end_i {x : Int32} {ty : FieldType} (hd : decode y.2.1 pc = .ok (.ireturn, 1)) (ht : y.2.2.2 = some ty) (hn : narrow ty (.int x) = .int x) (hQ : Q (some (.int x)) μ) : EV w d kc ks y pc L [.int x] μ Q := by
  intro p l e R s m args below meth c H locs cells slots Qf ls hG hC hL hP h1 h2 h3 h4 k
  exact k (some (.int x)) μ H locs cells slots pc ls hQ hP (Nat.le_add_right _ _) (Nat.le_add_right _ _) (Or.inl ⟨x, rfl, hd, ty, ht, hn⟩)
theorem ev_end_l {x : Int64} (hd : decode y.2.1 pc = .ok (.lreturn, 1)) (ht : y.2.2.2 = some .long) (hQ : Q (some (.long x)) μ) : EV w d kc ks y pc L [.long x] μ Q := by
  intro p l e R s m args below meth c H locs cells slots Qf ls hG hC hL hP h1 h2 h3 h4 k
  exact k (some (.long x)) μ H locs cells slots pc ls hQ hP (Nat.le_add_right _ _) (Nat.le_add_right _ _) (Or.inr (Or.inl ⟨x, rfl, hd, ht⟩))
theorem ev_end_r {a : Nat} {rt : FieldType} (hd : decode y.2.1 pc = .ok (.areturn, 1)) (ht : y.2.2.2 = some rt) (hn : (∃ n, rt = .object n) ∨ ∃ t, rt = .array t) (hQ : Q (some (.ref a)) μ) : EV w d kc ks y pc L [.ref a] μ Q := by
  intro p l e R s m args below meth c H locs cells slots Qf ls hG hC hL hP h1 h2 h3 h4 k
  exact k (some (.ref a)) μ H locs cells slots pc ls hQ hP (Nat.le_add_right _ _) (Nat.le_add_right _ _) (Or.inr (Or.inr (Or.inl ⟨_, rfl, Or.inr ⟨a, rfl⟩, hd, rt, ht, hn⟩)))
theorem ev_end_n {rt : FieldType} (hd : decode y.2.1 pc = .ok (.areturn, 1)) (ht : y.2.2.2 = some rt) (hn : (∃ n, rt = .object n) ∨ ∃ t, rt = .array t) (hQ : Q (some .null) μ) : EV w d kc ks y pc L [.null] μ Q := by
  intro p l e R s m args below meth c H locs cells slots Qf ls hG hC hL hP h1 h2 h3 h4 k
  exact k (some .null) μ H locs cells slots pc ls hQ hP (Nat.le_add_right _ _) (Nat.le_add_right _ _) (Or.inr (Or.inr (Or.inl ⟨_, rfl, Or.inl rfl, hd, rt, ht, hn⟩)))
theorem ev_end_v (hd : decode y.2.1 pc = .ok (.return_, 1)) (ht : y.2.2.2 = none) (hQ : Q none μ) : EV w d kc ks y pc L [] μ Q := by
  intro p l e R s m args below meth c H locs cells slots Qf ls hG hC hL hP h1 h2 h3 h4 k
  exact k none μ H locs cells slots pc ls hQ hP (Nat.le_add_right _ _) (Nat.le_add_right _ _) (Or.inr (Or.inr (Or.inr ⟨rfl, hd, ht⟩)))
theorem ev_iconst {n : Int} {v : Int32} (hd : decode y.2.1 pc = .ok (.iconst n, 1)) (hv : Int32.ofInt n = v) (k : EV w d kc ks y (pc + 1) L (.int v :: st) μ Q) : EV w d kc ks y pc L (st) μ Q := by
  intro p l e R s m args below meth c H locs cells slots Qf ls hG hC hL hP h1 h2 h3 h4 hQ
  exact lv_iconst hC.1 hC.2.1 hd hv (k p l e R s m args below meth c H locs cells slots Qf ls hG hC hL hP h1 h2 h3 h4 hQ)
theorem ev_bipush {n : Int} {v : Int32} (hd : decode y.2.1 pc = .ok (.bipush n, 2)) (hv : (Int8.ofInt n).toInt32 = v) (k : EV w d kc ks y (pc + 2) L (.int v :: st) μ Q) : EV w d kc ks y pc L (st) μ Q := by
  intro p l e R s m args below meth c H locs cells slots Qf ls hG hC hL hP h1 h2 h3 h4 hQ
  exact lv_bipush hC.1 hC.2.1 hd hv (k p l e R s m args below meth c H locs cells slots Qf ls hG hC hL hP h1 h2 h3 h4 hQ)
theorem ev_sipush {n : Int} {v : Int32} (hd : decode y.2.1 pc = .ok (.sipush n, 3)) (hv : (Int16.ofInt n).toInt32 = v) (k : EV w d kc ks y (pc + 3) L (.int v :: st) μ Q) : EV w d kc ks y pc L (st) μ Q := by
  intro p l e R s m args below meth c H locs cells slots Qf ls hG hC hL hP h1 h2 h3 h4 hQ
  exact lv_sipush hC.1 hC.2.1 hd hv (k p l e R s m args below meth c H locs cells slots Qf ls hG hC hL hP h1 h2 h3 h4 hQ)
theorem ev_lconst {n : Fin 2} {v : Int64} (hd : decode y.2.1 pc = .ok (.lconst n, 1)) (hv : Int64.ofNat (n : Nat) = v) (k : EV w d kc ks y (pc + 1) L (.long v :: st) μ Q) : EV w d kc ks y pc L (st) μ Q := by
  intro p l e R s m args below meth c H locs cells slots Qf ls hG hC hL hP h1 h2 h3 h4 hQ
  exact lv_lconst hC.1 hC.2.1 hd hv (k p l e R s m args below meth c H locs cells slots Qf ls hG hC hL hP h1 h2 h3 h4 hQ)
theorem ev_null  (hd : decode y.2.1 pc = .ok (.aconst_null, 1))  (k : EV w d kc ks y (pc + 1) L (.null :: st) μ Q) : EV w d kc ks y pc L (st) μ Q := by
  intro p l e R s m args below meth c H locs cells slots Qf ls hG hC hL hP h1 h2 h3 h4 hQ
  exact lv_null hC.1 hC.2.1 hd (k p l e R s m args below meth c H locs cells slots Qf ls hG hC hL hP h1 h2 h3 h4 hQ)
theorem ev_iload_n {i : Fin 4} {j : Nat} {x : Int32} (hd : decode y.2.1 pc = .ok (.iload_n i, 1)) (hi : (i : Nat) = j) (hl : L[j]? = some (some (.int x))) (k : EV w d kc ks y (pc + 1) L (.int x :: st) μ Q) : EV w d kc ks y pc L (st) μ Q := by
  intro p l e R s m args below meth c H locs cells slots Qf ls hG hC hL hP h1 h2 h3 h4 hQ
  exact lv_iload_n hC.1 hC.2.1 hd hi (zL_get hL hl) (k p l e R s m args below meth c H locs cells slots Qf ls hG hC hL hP h1 h2 h3 h4 hQ)
theorem ev_iload {j : Nat} {x : Int32} (hd : decode y.2.1 pc = .ok (.iload j, 2)) (hl : L[j]? = some (some (.int x))) (k : EV w d kc ks y (pc + 2) L (.int x :: st) μ Q) : EV w d kc ks y pc L (st) μ Q := by
  intro p l e R s m args below meth c H locs cells slots Qf ls hG hC hL hP h1 h2 h3 h4 hQ
  exact lv_iload hC.1 hC.2.1 hd (zL_get hL hl) (k p l e R s m args below meth c H locs cells slots Qf ls hG hC hL hP h1 h2 h3 h4 hQ)
theorem ev_lload_n {i : Fin 4} {j : Nat} {x : Int64} (hd : decode y.2.1 pc = .ok (.lload_n i, 1)) (hi : (i : Nat) = j) (hl : L[j]? = some (some (.long x))) (k : EV w d kc ks y (pc + 1) L (.long x :: st) μ Q) : EV w d kc ks y pc L (st) μ Q := by
  intro p l e R s m args below meth c H locs cells slots Qf ls hG hC hL hP h1 h2 h3 h4 hQ
  exact lv_lload_n hC.1 hC.2.1 hd hi (zL_get hL hl) (k p l e R s m args below meth c H locs cells slots Qf ls hG hC hL hP h1 h2 h3 h4 hQ)
theorem ev_lload {j : Nat} {x : Int64} (hd : decode y.2.1 pc = .ok (.lload j, 2)) (hl : L[j]? = some (some (.long x))) (k : EV w d kc ks y (pc + 2) L (.long x :: st) μ Q) : EV w d kc ks y pc L (st) μ Q := by
  intro p l e R s m args below meth c H locs cells slots Qf ls hG hC hL hP h1 h2 h3 h4 hQ
  exact lv_lload hC.1 hC.2.1 hd (zL_get hL hl) (k p l e R s m args below meth c H locs cells slots Qf ls hG hC hL hP h1 h2 h3 h4 hQ)
theorem ev_aload_n {i : Fin 4} {j : Nat} {x : Nat} (hd : decode y.2.1 pc = .ok (.aload_n i, 1)) (hi : (i : Nat) = j) (hl : L[j]? = some (some (.ref x))) (k : EV w d kc ks y (pc + 1) L (.ref x :: st) μ Q) : EV w d kc ks y pc L (st) μ Q := by
  intro p l e R s m args below meth c H locs cells slots Qf ls hG hC hL hP h1 h2 h3 h4 hQ
  exact lv_aload_n hC.1 hC.2.1 hd hi (zL_get hL hl) (k p l e R s m args below meth c H locs cells slots Qf ls hG hC hL hP h1 h2 h3 h4 hQ)
theorem ev_aload {j : Nat} {x : Nat} (hd : decode y.2.1 pc = .ok (.aload j, 2)) (hl : L[j]? = some (some (.ref x))) (k : EV w d kc ks y (pc + 2) L (.ref x :: st) μ Q) : EV w d kc ks y pc L (st) μ Q := by
  intro p l e R s m args below meth c H locs cells slots Qf ls hG hC hL hP h1 h2 h3 h4 hQ
  exact lv_aload hC.1 hC.2.1 hd (zL_get hL hl) (k p l e R s m args below meth c H locs cells slots Qf ls hG hC hL hP h1 h2 h3 h4 hQ)
theorem ev_aload_nN {i : Fin 4} {j : Nat} (hd : decode y.2.1 pc = .ok (.aload_n i, 1)) (hi : (i : Nat) = j) (hl : L[j]? = some (some .null)) (k : EV w d kc ks y (pc + 1) L (.null :: st) μ Q) : EV w d kc ks y pc L (st) μ Q := by
  intro p l e R s m args below meth c H locs cells slots Qf ls hG hC hL hP h1 h2 h3 h4 hQ
  exact lv_aload_nN hC.1 hC.2.1 hd hi (zL_get hL hl) (k p l e R s m args below meth c H locs cells slots Qf ls hG hC hL hP h1 h2 h3 h4 hQ)
theorem ev_aloadN {j : Nat} (hd : decode y.2.1 pc = .ok (.aload j, 2)) (hl : L[j]? = some (some .null)) (k : EV w d kc ks y (pc + 2) L (.null :: st) μ Q) : EV w d kc ks y pc L (st) μ Q := by
  intro p l e R s m args below meth c H locs cells slots Qf ls hG hC hL hP h1 h2 h3 h4 hQ
  exact lv_aloadN hC.1 hC.2.1 hd (zL_get hL hl) (k p l e R s m args below meth c H locs cells slots Qf ls hG hC hL hP h1 h2 h3 h4 hQ)
theorem ev_istore_n {i : Fin 4} {j : Nat} {x : Int32} (hd : decode y.2.1 pc = .ok (.istore_n i, 1)) (hi : (i : Nat) = j) (hn : j < y.2.2.1) (hno : zno2 L j = true) (k : EV w d kc ks y (pc + 1) (L.set j (some (.int x))) st μ Q) : EV w d kc ks y pc L (.int x :: st) μ Q := by
  intro p l e R s m args below meth c H locs cells slots Qf ls hG hC hL hP h1 h2 h3 h4 hQ
  exact lv_istore_n hC.1 hC.2.1 hd hi hL hn rfl (fun ls' hl => k p l e R s m args below meth c H locs cells slots Qf ls' hG hC (zL_st1 hno hl) hP h1 h2 h3 h4 hQ)
theorem ev_istore {j : Nat} {x : Int32} (hd : decode y.2.1 pc = .ok (.istore j, 2))  (hn : j < y.2.2.1) (hno : zno2 L j = true) (k : EV w d kc ks y (pc + 2) (L.set j (some (.int x))) st μ Q) : EV w d kc ks y pc L (.int x :: st) μ Q := by
  intro p l e R s m args below meth c H locs cells slots Qf ls hG hC hL hP h1 h2 h3 h4 hQ
  exact lv_istore hC.1 hC.2.1 hd hL hn rfl (fun ls' hl => k p l e R s m args below meth c H locs cells slots Qf ls' hG hC (zL_st1 hno hl) hP h1 h2 h3 h4 hQ)
theorem ev_astore_n {i : Fin 4} {j : Nat} {x : Nat} (hd : decode y.2.1 pc = .ok (.astore_n i, 1)) (hi : (i : Nat) = j) (hn : j < y.2.2.1) (hno : zno2 L j = true) (k : EV w d kc ks y (pc + 1) (L.set j (some (.ref x))) st μ Q) : EV w d kc ks y pc L (.ref x :: st) μ Q := by
  intro p l e R s m args below meth c H locs cells slots Qf ls hG hC hL hP h1 h2 h3 h4 hQ
  exact lv_astore_n hC.1 hC.2.1 hd hi hL hn rfl (fun ls' hl => k p l e R s m args below meth c H locs cells slots Qf ls' hG hC (zL_st1 hno hl) hP h1 h2 h3 h4 hQ)
theorem ev_astore {j : Nat} {x : Nat} (hd : decode y.2.1 pc = .ok (.astore j, 2))  (hn : j < y.2.2.1) (hno : zno2 L j = true) (k : EV w d kc ks y (pc + 2) (L.set j (some (.ref x))) st μ Q) : EV w d kc ks y pc L (.ref x :: st) μ Q := by
  intro p l e R s m args below meth c H locs cells slots Qf ls hG hC hL hP h1 h2 h3 h4 hQ
  exact lv_astore hC.1 hC.2.1 hd hL hn rfl (fun ls' hl => k p l e R s m args below meth c H locs cells slots Qf ls' hG hC (zL_st1 hno hl) hP h1 h2 h3 h4 hQ)
theorem ev_astore_nN {i : Fin 4} {j : Nat} (hd : decode y.2.1 pc = .ok (.astore_n i, 1)) (hi : (i : Nat) = j) (hn : j < y.2.2.1) (hno : zno2 L j = true) (k : EV w d kc ks y (pc + 1) (L.set j (some .null)) st μ Q) : EV w d kc ks y pc L (.null :: st) μ Q := by
  intro p l e R s m args below meth c H locs cells slots Qf ls hG hC hL hP h1 h2 h3 h4 hQ
  exact lv_astore_nN hC.1 hC.2.1 hd hi hL hn rfl (fun ls' hl => k p l e R s m args below meth c H locs cells slots Qf ls' hG hC (zL_st1 hno hl) hP h1 h2 h3 h4 hQ)
theorem ev_astoreN {j : Nat} (hd : decode y.2.1 pc = .ok (.astore j, 2))  (hn : j < y.2.2.1) (hno : zno2 L j = true) (k : EV w d kc ks y (pc + 2) (L.set j (some .null)) st μ Q) : EV w d kc ks y pc L (.null :: st) μ Q := by
  intro p l e R s m args below meth c H locs cells slots Qf ls hG hC hL hP h1 h2 h3 h4 hQ
  exact lv_astoreN hC.1 hC.2.1 hd hL hn rfl (fun ls' hl => k p l e R s m args below meth c H locs cells slots Qf ls' hG hC (zL_st1 hno hl) hP h1 h2 h3 h4 hQ)
theorem ev_lstore_n {i : Fin 4} {j : Nat} {x : Int64} (hd : decode y.2.1 pc = .ok (.lstore_n i, 1)) (hi : (i : Nat) = j) (hn : j + 1 < y.2.2.1) (hno : zno2 L j = true) (k : EV w d kc ks y (pc + 1) ((L.set j (some (.long x))).set (j + 1) none) st μ Q) : EV w d kc ks y pc L (.long x :: st) μ Q := by
  intro p l e R s m args below meth c H locs cells slots Qf ls hG hC hL hP h1 h2 h3 h4 hQ
  exact lv_lstore_n hC.1 hC.2.1 hd hi hL hn rfl (fun ls' hl => k p l e R s m args below meth c H locs cells slots Qf ls' hG hC (zL_st2 hno hl) hP h1 h2 h3 h4 hQ)
theorem ev_lstore {j : Nat} {x : Int64} (hd : decode y.2.1 pc = .ok (.lstore j, 2))  (hn : j + 1 < y.2.2.1) (hno : zno2 L j = true) (k : EV w d kc ks y (pc + 2) ((L.set j (some (.long x))).set (j + 1) none) st μ Q) : EV w d kc ks y pc L (.long x :: st) μ Q := by
  intro p l e R s m args below meth c H locs cells slots Qf ls hG hC hL hP h1 h2 h3 h4 hQ
  exact lv_lstore hC.1 hC.2.1 hd hL hn rfl (fun ls' hl => k p l e R s m args below meth c H locs cells slots Qf ls' hG hC (zL_st2 hno hl) hP h1 h2 h3 h4 hQ)
theorem ev_iinc {j : Nat} {n : Int} {x v : Int32} (hd : decode y.2.1 pc = .ok (.iinc j n, 3)) (hx : L[j]? = some (some (.int x))) (hv : x + Int32.ofInt n = v) (hn : j < y.2.2.1) (hno : zno2 L j = true) (k : EV w d kc ks y (pc + 3) (L.set j (some (.int v))) st μ Q) : EV w d kc ks y pc L st μ Q := by
  intro p l e R s m args below meth c H locs cells slots Qf ls hG hC hL hP h1 h2 h3 h4 hQ
  obtain ⟨q, hq⟩ := List.getElem?_of_mem ((zLv_mem w L 0 (j, .int x)).mpr ⟨j, .int x, hx, by simp [zva]⟩)
  exact lv_iinc hC.1 hC.2.1 hd hL hq hv hn rfl (fun ls' hl => k p l e R s m args below meth c H locs cells slots Qf ls' hG hC (zL_st1 hno hl) hP h1 h2 h3 h4 hQ)
theorem ev_iadd {a b v : Int32} (hd : decode y.2.1 pc = .ok (.iadd, 1)) (hv : a + b = v) (k : EV w d kc ks y (pc + 1) L (.int v :: st) μ Q) : EV w d kc ks y pc L (.int b :: .int a :: st) μ Q := by
  intro p l e R s m args below meth c H locs cells slots Qf ls hG hC hL hP h1 h2 h3 h4 hQ
  exact lv_iadd hC.1 hC.2.1 hd (by rw [hv]; exact (k p l e R s m args below meth c H locs cells slots Qf ls hG hC hL hP h1 h2 h3 h4 hQ))
theorem ev_isub {a b v : Int32} (hd : decode y.2.1 pc = .ok (.isub, 1)) (hv : a - b = v) (k : EV w d kc ks y (pc + 1) L (.int v :: st) μ Q) : EV w d kc ks y pc L (.int b :: .int a :: st) μ Q := by
  intro p l e R s m args below meth c H locs cells slots Qf ls hG hC hL hP h1 h2 h3 h4 hQ
  exact lv_isub hC.1 hC.2.1 hd (by rw [hv]; exact (k p l e R s m args below meth c H locs cells slots Qf ls hG hC hL hP h1 h2 h3 h4 hQ))
theorem ev_imul {a b v : Int32} (hd : decode y.2.1 pc = .ok (.imul, 1)) (hv : a * b = v) (k : EV w d kc ks y (pc + 1) L (.int v :: st) μ Q) : EV w d kc ks y pc L (.int b :: .int a :: st) μ Q := by
  intro p l e R s m args below meth c H locs cells slots Qf ls hG hC hL hP h1 h2 h3 h4 hQ
  exact lv_imul hC.1 hC.2.1 hd (by rw [hv]; exact (k p l e R s m args below meth c H locs cells slots Qf ls hG hC hL hP h1 h2 h3 h4 hQ))
theorem ev_iand {a b v : Int32} (hd : decode y.2.1 pc = .ok (.iand, 1)) (hv : a &&& b = v) (k : EV w d kc ks y (pc + 1) L (.int v :: st) μ Q) : EV w d kc ks y pc L (.int b :: .int a :: st) μ Q := by
  intro p l e R s m args below meth c H locs cells slots Qf ls hG hC hL hP h1 h2 h3 h4 hQ
  exact lv_iand hC.1 hC.2.1 hd (by rw [hv]; exact (k p l e R s m args below meth c H locs cells slots Qf ls hG hC hL hP h1 h2 h3 h4 hQ))
theorem ev_ior {a b v : Int32} (hd : decode y.2.1 pc = .ok (.ior, 1)) (hv : a ||| b = v) (k : EV w d kc ks y (pc + 1) L (.int v :: st) μ Q) : EV w d kc ks y pc L (.int b :: .int a :: st) μ Q := by
  intro p l e R s m args below meth c H locs cells slots Qf ls hG hC hL hP h1 h2 h3 h4 hQ
  exact lv_ior hC.1 hC.2.1 hd (by rw [hv]; exact (k p l e R s m args below meth c H locs cells slots Qf ls hG hC hL hP h1 h2 h3 h4 hQ))
theorem ev_ixor {a b v : Int32} (hd : decode y.2.1 pc = .ok (.ixor, 1)) (hv : a ^^^ b = v) (k : EV w d kc ks y (pc + 1) L (.int v :: st) μ Q) : EV w d kc ks y pc L (.int b :: .int a :: st) μ Q := by
  intro p l e R s m args below meth c H locs cells slots Qf ls hG hC hL hP h1 h2 h3 h4 hQ
  exact lv_ixor hC.1 hC.2.1 hd (by rw [hv]; exact (k p l e R s m args below meth c H locs cells slots Qf ls hG hC hL hP h1 h2 h3 h4 hQ))
theorem ev_ishl {a b v : Int32} (hd : decode y.2.1 pc = .ok (.ishl, 1)) (hv : a <<< (b &&& 31) = v) (k : EV w d kc ks y (pc + 1) L (.int v :: st) μ Q) : EV w d kc ks y pc L (.int b :: .int a :: st) μ Q := by
  intro p l e R s m args below meth c H locs cells slots Qf ls hG hC hL hP h1 h2 h3 h4 hQ
  exact lv_ishl hC.1 hC.2.1 hd (by rw [hv]; exact (k p l e R s m args below meth c H locs cells slots Qf ls hG hC hL hP h1 h2 h3 h4 hQ))
theorem ev_ishr {a b v : Int32} (hd : decode y.2.1 pc = .ok (.ishr, 1)) (hv : a >>> (b &&& 31) = v) (k : EV w d kc ks y (pc + 1) L (.int v :: st) μ Q) : EV w d kc ks y pc L (.int b :: .int a :: st) μ Q := by
  intro p l e R s m args below meth c H locs cells slots Qf ls hG hC hL hP h1 h2 h3 h4 hQ
  exact lv_ishr hC.1 hC.2.1 hd (by rw [hv]; exact (k p l e R s m args below meth c H locs cells slots Qf ls hG hC hL hP h1 h2 h3 h4 hQ))
theorem ev_idiv {a b v : Int32} (hd : decode y.2.1 pc = .ok (.idiv, 1)) (hne : ¬ b = 0) (hv : a / b = v) (k : EV w d kc ks y (pc + 1) L (.int v :: st) μ Q) : EV w d kc ks y pc L (.int b :: .int a :: st) μ Q := by
  intro p l e R s m args below meth c H locs cells slots Qf ls hG hC hL hP h1 h2 h3 h4 hQ
  exact lv_idiv hC.1 hC.2.1 hd hne (by rw [hv]; exact (k p l e R s m args below meth c H locs cells slots Qf ls hG hC hL hP h1 h2 h3 h4 hQ))
theorem ev_irem {a b v : Int32} (hd : decode y.2.1 pc = .ok (.irem, 1)) (hne : ¬ b = 0) (hv : a - a / b * b = v) (k : EV w d kc ks y (pc + 1) L (.int v :: st) μ Q) : EV w d kc ks y pc L (.int b :: .int a :: st) μ Q := by
  intro p l e R s m args below meth c H locs cells slots Qf ls hG hC hL hP h1 h2 h3 h4 hQ
  exact lv_irem hC.1 hC.2.1 hd hne (by rw [hv]; exact (k p l e R s m args below meth c H locs cells slots Qf ls hG hC hL hP h1 h2 h3 h4 hQ))
theorem ev_ineg {a v : Int32} (hd : decode y.2.1 pc = .ok (.ineg, 1)) (hv : -a = v) (k : EV w d kc ks y (pc + 1) L (.int v :: st) μ Q) : EV w d kc ks y pc L (.int a :: st) μ Q := by
  intro p l e R s m args below meth c H locs cells slots Qf ls hG hC hL hP h1 h2 h3 h4 hQ
  exact lv_ineg hC.1 hC.2.1 hd (by rw [hv]; exact (k p l e R s m args below meth c H locs cells slots Qf ls hG hC hL hP h1 h2 h3 h4 hQ))
theorem ev_ladd {a b v : Int64} (hd : decode y.2.1 pc = .ok (.ladd, 1)) (hv : a + b = v) (k : EV w d kc ks y (pc + 1) L (.long v :: st) μ Q) : EV w d kc ks y pc L (.long b :: .long a :: st) μ Q := by
  intro p l e R s m args below meth c H locs cells slots Qf ls hG hC hL hP h1 h2 h3 h4 hQ
  exact lv_ladd hC.1 hC.2.1 hd (by rw [hv]; exact (k p l e R s m args below meth c H locs cells slots Qf ls hG hC hL hP h1 h2 h3 h4 hQ))
theorem ev_lsub {a b v : Int64} (hd : decode y.2.1 pc = .ok (.lsub, 1)) (hv : a - b = v) (k : EV w d kc ks y (pc + 1) L (.long v :: st) μ Q) : EV w d kc ks y pc L (.long b :: .long a :: st) μ Q := by
  intro p l e R s m args below meth c H locs cells slots Qf ls hG hC hL hP h1 h2 h3 h4 hQ
  exact lv_lsub hC.1 hC.2.1 hd (by rw [hv]; exact (k p l e R s m args below meth c H locs cells slots Qf ls hG hC hL hP h1 h2 h3 h4 hQ))
theorem ev_lor {a b v : Int64} (hd : decode y.2.1 pc = .ok (.lor, 1)) (hv : a ||| b = v) (k : EV w d kc ks y (pc + 1) L (.long v :: st) μ Q) : EV w d kc ks y pc L (.long b :: .long a :: st) μ Q := by
  intro p l e R s m args below meth c H locs cells slots Qf ls hG hC hL hP h1 h2 h3 h4 hQ
  exact lv_lor hC.1 hC.2.1 hd (by rw [hv]; exact (k p l e R s m args below meth c H locs cells slots Qf ls hG hC hL hP h1 h2 h3 h4 hQ))
theorem ev_lshl {a v : Int64} {b : Int32} (hd : decode y.2.1 pc = .ok (.lshl, 1)) (hv : a <<< (b.toInt64 &&& 63) = v) (k : EV w d kc ks y (pc + 1) L (.long v :: st) μ Q) : EV w d kc ks y pc L (.int b :: .long a :: st) μ Q := by
  intro p l e R s m args below meth c H locs cells slots Qf ls hG hC hL hP h1 h2 h3 h4 hQ
  exact lv_lshl hC.1 hC.2.1 hd hv (k p l e R s m args below meth c H locs cells slots Qf ls hG hC hL hP h1 h2 h3 h4 hQ)
theorem ev_lmul {a b v : Int64} (hd : decode y.2.1 pc = .ok (.lmul, 1)) (hv : a * b = v) (k : EV w d kc ks y (pc + 1) L (.long v :: st) μ Q) : EV w d kc ks y pc L (.long b :: .long a :: st) μ Q := by
  intro p l e R s m args below meth c H locs cells slots Qf ls hG hC hL hP h1 h2 h3 h4 hQ
  exact lv_lmul hC.1 hC.2.1 hd (by rw [hv]; exact (k p l e R s m args below meth c H locs cells slots Qf ls hG hC hL hP h1 h2 h3 h4 hQ))
theorem ev_ldiv {a b v : Int64} (hd : decode y.2.1 pc = .ok (.ldiv, 1)) (hne : ¬ b = 0) (hv : a / b = v) (k : EV w d kc ks y (pc + 1) L (.long v :: st) μ Q) : EV w d kc ks y pc L (.long b :: .long a :: st) μ Q := by
  intro p l e R s m args below meth c H locs cells slots Qf ls hG hC hL hP h1 h2 h3 h4 hQ
  exact lv_ldiv hC.1 hC.2.1 hd hne (by rw [hv]; exact (k p l e R s m args below meth c H locs cells slots Qf ls hG hC hL hP h1 h2 h3 h4 hQ))
theorem ev_lrem {a b v : Int64} (hd : decode y.2.1 pc = .ok (.lrem, 1)) (hne : ¬ b = 0) (hv : a - a / b * b = v) (k : EV w d kc ks y (pc + 1) L (.long v :: st) μ Q) : EV w d kc ks y pc L (.long b :: .long a :: st) μ Q := by
  intro p l e R s m args below meth c H locs cells slots Qf ls hG hC hL hP h1 h2 h3 h4 hQ
  exact lv_lrem hC.1 hC.2.1 hd hne (by rw [hv]; exact (k p l e R s m args below meth c H locs cells slots Qf ls hG hC hL hP h1 h2 h3 h4 hQ))
theorem ev_lcmp {a b : Int64} {v : Int32} (hd : decode y.2.1 pc = .ok (.lcmp, 1)) (hv : lg_cmp a b = v) (k : EV w d kc ks y (pc + 1) L (.int v :: st) μ Q) : EV w d kc ks y pc L (.long b :: .long a :: st) μ Q := by
  intro p l e R s m args below meth c H locs cells slots Qf ls hG hC hL hP h1 h2 h3 h4 hQ
  exact W.lcmp hC.1 hC.2.1 hd (by rw [hv]; exact (k p l e R s m args below meth c H locs cells slots Qf ls hG hC hL hP h1 h2 h3 h4 hQ))
theorem ev_i2l {a : Int32} {v : Int64} (hd : decode y.2.1 pc = .ok (.i2l, 1)) (hv : a.toInt64 = v) (k : EV w d kc ks y (pc + 1) L (.long v :: st) μ Q) : EV w d kc ks y pc L (.int a :: st) μ Q := by
  intro p l e R s m args below meth c H locs cells slots Qf ls hG hC hL hP h1 h2 h3 h4 hQ
  exact lv_i2l hC.1 hC.2.1 hd hv (k p l e R s m args below meth c H locs cells slots Qf ls hG hC hL hP h1 h2 h3 h4 hQ)
theorem ev_l2i {a : Int64} {v : Int32} (hd : decode y.2.1 pc = .ok (.l2i, 1)) (hv : a.toInt32 = v) (k : EV w d kc ks y (pc + 1) L (.int v :: st) μ Q) : EV w d kc ks y pc L (.long a :: st) μ Q := by
  intro p l e R s m args below meth c H locs cells slots Qf ls hG hC hL hP h1 h2 h3 h4 hQ
  exact lv_l2i hC.1 hC.2.1 hd hv (k p l e R s m args below meth c H locs cells slots Qf ls hG hC hL hP h1 h2 h3 h4 hQ)
theorem ev_i2b {a : Int32} {v : Int32} (hd : decode y.2.1 pc = .ok (.i2b, 1)) (hv : a.toInt8.toInt32 = v) (k : EV w d kc ks y (pc + 1) L (.int v :: st) μ Q) : EV w d kc ks y pc L (.int a :: st) μ Q := by
  intro p l e R s m args below meth c H locs cells slots Qf ls hG hC hL hP h1 h2 h3 h4 hQ
  exact lv_i2b hC.1 hC.2.1 hd hv (k p l e R s m args below meth c H locs cells slots Qf ls hG hC hL hP h1 h2 h3 h4 hQ)
theorem ev_i2s {a : Int32} {v : Int32} (hd : decode y.2.1 pc = .ok (.i2s, 1)) (hv : a.toInt16.toInt32 = v) (k : EV w d kc ks y (pc + 1) L (.int v :: st) μ Q) : EV w d kc ks y pc L (.int a :: st) μ Q := by
  intro p l e R s m args below meth c H locs cells slots Qf ls hG hC hL hP h1 h2 h3 h4 hQ
  exact lv_i2s hC.1 hC.2.1 hd hv (k p l e R s m args below meth c H locs cells slots Qf ls hG hC hL hP h1 h2 h3 h4 hQ)
theorem ev_dup {v : Value} (hd : decode y.2.1 pc = .ok (.dup, 1)) (hc : v.category = 1) (k : EV w d kc ks y (pc + 1) L (v :: v :: st) μ Q) : EV w d kc ks y pc L (v :: st) μ Q := by
  intro p l e R s m args below meth c H locs cells slots Qf ls hG hC hL hP h1 h2 h3 h4 hQ
  exact lv_dup hC.1 hC.2.1 hd (by rw [zva_cat]; exact hc) (k p l e R s m args below meth c H locs cells slots Qf ls hG hC hL hP h1 h2 h3 h4 hQ)
theorem ev_pop {v : Value} (hd : decode y.2.1 pc = .ok (.pop, 1)) (hc : v.category = 1) (k : EV w d kc ks y (pc + 1) L (st) μ Q) : EV w d kc ks y pc L (v :: st) μ Q := by
  intro p l e R s m args below meth c H locs cells slots Qf ls hG hC hL hP h1 h2 h3 h4 hQ
  exact lv_pop hC.1 hC.2.1 hd (by rw [zva_cat]; exact hc) (k p l e R s m args below meth c H locs cells slots Qf ls hG hC hL hP h1 h2 h3 h4 hQ)
theorem ev_dup2 {u v : Value} (hd : decode y.2.1 pc = .ok (.dup2, 1)) (hu : u.category = 1) (hc : v.category = 1) (k : EV w d kc ks y (pc + 1) L (u :: v :: u :: v :: st) μ Q) : EV w d kc ks y pc L (u :: v :: st) μ Q := by
  intro p l e R s m args below meth c H locs cells slots Qf ls hG hC hL hP h1 h2 h3 h4 hQ
  exact lv_dup2_11 hC.1 hC.2.1 hd (by rw [zva_cat]; exact hu) (by rw [zva_cat]; exact hc) (k p l e R s m args below meth c H locs cells slots Qf ls hG hC hL hP h1 h2 h3 h4 hQ)
theorem ev_icmp_eq {a b : Int32} {off : Int} {tgt : Nat} (hd : decode y.2.1 pc = .ok (.if_icmp .eq off, 3)) (ht : (pc : Int) + off = (tgt : Int)) (kt : (a = b) → EV w d kc ks y tgt L st μ Q) (kf : ¬ (a = b) → EV w d kc ks y (pc + 3) L st μ Q) : EV w d kc ks y pc L (.int b :: .int a :: st) μ Q := by
  intro p l e R s m args below meth c H locs cells slots Qf ls hG hC hL hP h1 h2 h3 h4 hQ
  exact lv_icmp_eq hC.1 hC.2.1 hd ht (fun z => (kt z p l e R s m args below meth c H locs cells slots Qf ls hG hC hL hP h1 h2 h3 h4 hQ)) (fun z => (kf z p l e R s m args below meth c H locs cells slots Qf ls hG hC hL hP h1 h2 h3 h4 hQ))
theorem ev_icmp_eq_t {a b : Int32} {off : Int} {tgt : Nat} (hd : decode y.2.1 pc = .ok (.if_icmp .eq off, 3)) (ht : (pc : Int) + off = (tgt : Int)) (h : (a = b)) (kt : EV w d kc ks y tgt L st μ Q) : EV w d kc ks y pc L (.int b :: .int a :: st) μ Q := ev_icmp_eq hd ht (fun _ => kt) (fun z => absurd h z)
theorem ev_icmp_eq_f {a b : Int32} {off : Int} {tgt : Nat} (hd : decode y.2.1 pc = .ok (.if_icmp .eq off, 3)) (ht : (pc : Int) + off = (tgt : Int)) (h : ¬ (a = b)) (kf : EV w d kc ks y (pc + 3) L st μ Q) : EV w d kc ks y pc L (.int b :: .int a :: st) μ Q := ev_icmp_eq hd ht (fun z => absurd z h) (fun _ => kf)
theorem ev_if_eq {a : Int32} {off : Int} {tgt : Nat} (hd : decode y.2.1 pc = .ok (.ifCond .eq off, 3)) (ht : (pc : Int) + off = (tgt : Int)) (kt : (a = 0) → EV w d kc ks y tgt L st μ Q) (kf : ¬ (a = 0) → EV w d kc ks y (pc + 3) L st μ Q) : EV w d kc ks y pc L (.int a :: st) μ Q := by
  intro p l e R s m args below meth c H locs cells slots Qf ls hG hC hL hP h1 h2 h3 h4 hQ
  exact lv_if_eq hC.1 hC.2.1 hd ht (fun z => (kt z p l e R s m args below meth c H locs cells slots Qf ls hG hC hL hP h1 h2 h3 h4 hQ)) (fun z => (kf z p l e R s m args below meth c H locs cells slots Qf ls hG hC hL hP h1 h2 h3 h4 hQ))
theorem ev_if_eq_t {a : Int32} {off : Int} {tgt : Nat} (hd : decode y.2.1 pc = .ok (.ifCond .eq off, 3)) (ht : (pc : Int) + off = (tgt : Int)) (h : (a = 0)) (kt : EV w d kc ks y tgt L st μ Q) : EV w d kc ks y pc L (.int a :: st) μ Q := ev_if_eq hd ht (fun _ => kt) (fun z => absurd h z)
theorem ev_if_eq_f {a : Int32} {off : Int} {tgt : Nat} (hd : decode y.2.1 pc = .ok (.ifCond .eq off, 3)) (ht : (pc : Int) + off = (tgt : Int)) (h : ¬ (a = 0)) (kf : EV w d kc ks y (pc + 3) L st μ Q) : EV w d kc ks y pc L (.int a :: st) μ Q := ev_if_eq hd ht (fun z => absurd z h) (fun _ => kf)
theorem ev_icmp_ne {a b : Int32} {off : Int} {tgt : Nat} (hd : decode y.2.1 pc = .ok (.if_icmp .ne off, 3)) (ht : (pc : Int) + off = (tgt : Int)) (kt : (¬ a = b) → EV w d kc ks y tgt L st μ Q) (kf : a = b → EV w d kc ks y (pc + 3) L st μ Q) : EV w d kc ks y pc L (.int b :: .int a :: st) μ Q := by
  intro p l e R s m args below meth c H locs cells slots Qf ls hG hC hL hP h1 h2 h3 h4 hQ
  exact lv_icmp_ne hC.1 hC.2.1 hd ht (fun z => (kt z p l e R s m args below meth c H locs cells slots Qf ls hG hC hL hP h1 h2 h3 h4 hQ)) (fun z => (kf z p l e R s m args below meth c H locs cells slots Qf ls hG hC hL hP h1 h2 h3 h4 hQ))
theorem ev_icmp_ne_t {a b : Int32} {off : Int} {tgt : Nat} (hd : decode y.2.1 pc = .ok (.if_icmp .ne off, 3)) (ht : (pc : Int) + off = (tgt : Int)) (h : (¬ a = b)) (kt : EV w d kc ks y tgt L st μ Q) : EV w d kc ks y pc L (.int b :: .int a :: st) μ Q := ev_icmp_ne hd ht (fun _ => kt) (fun z => absurd z h)
theorem ev_icmp_ne_f {a b : Int32} {off : Int} {tgt : Nat} (hd : decode y.2.1 pc = .ok (.if_icmp .ne off, 3)) (ht : (pc : Int) + off = (tgt : Int)) (h : a = b) (kf : EV w d kc ks y (pc + 3) L st μ Q) : EV w d kc ks y pc L (.int b :: .int a :: st) μ Q := ev_icmp_ne hd ht (fun z => absurd h z) (fun _ => kf)
theorem ev_if_ne {a : Int32} {off : Int} {tgt : Nat} (hd : decode y.2.1 pc = .ok (.ifCond .ne off, 3)) (ht : (pc : Int) + off = (tgt : Int)) (kt : (¬ a = 0) → EV w d kc ks y tgt L st μ Q) (kf : a = 0 → EV w d kc ks y (pc + 3) L st μ Q) : EV w d kc ks y pc L (.int a :: st) μ Q := by
  intro p l e R s m args below meth c H locs cells slots Qf ls hG hC hL hP h1 h2 h3 h4 hQ
  exact lv_if_ne hC.1 hC.2.1 hd ht (fun z => (kt z p l e R s m args below meth c H locs cells slots Qf ls hG hC hL hP h1 h2 h3 h4 hQ)) (fun z => (kf z p l e R s m args below meth c H locs cells slots Qf ls hG hC hL hP h1 h2 h3 h4 hQ))
theorem ev_if_ne_t {a : Int32} {off : Int} {tgt : Nat} (hd : decode y.2.1 pc = .ok (.ifCond .ne off, 3)) (ht : (pc : Int) + off = (tgt : Int)) (h : (¬ a = 0)) (kt : EV w d kc ks y tgt L st μ Q) : EV w d kc ks y pc L (.int a :: st) μ Q := ev_if_ne hd ht (fun _ => kt) (fun z => absurd z h)
theorem ev_if_ne_f {a : Int32} {off : Int} {tgt : Nat} (hd : decode y.2.1 pc = .ok (.ifCond .ne off, 3)) (ht : (pc : Int) + off = (tgt : Int)) (h : a = 0) (kf : EV w d kc ks y (pc + 3) L st μ Q) : EV w d kc ks y pc L (.int a :: st) μ Q := ev_if_ne hd ht (fun z => absurd h z) (fun _ => kf)
theorem ev_icmp_lt {a b : Int32} {off : Int} {tgt : Nat} (hd : decode y.2.1 pc = .ok (.if_icmp .lt off, 3)) (ht : (pc : Int) + off = (tgt : Int)) (kt : (a < b) → EV w d kc ks y tgt L st μ Q) (kf : ¬ (a < b) → EV w d kc ks y (pc + 3) L st μ Q) : EV w d kc ks y pc L (.int b :: .int a :: st) μ Q := by
  intro p l e R s m args below meth c H locs cells slots Qf ls hG hC hL hP h1 h2 h3 h4 hQ
  exact lv_icmp_lt hC.1 hC.2.1 hd ht (fun z => (kt z p l e R s m args below meth c H locs cells slots Qf ls hG hC hL hP h1 h2 h3 h4 hQ)) (fun z => (kf z p l e R s m args below meth c H locs cells slots Qf ls hG hC hL hP h1 h2 h3 h4 hQ))
theorem ev_icmp_lt_t {a b : Int32} {off : Int} {tgt : Nat} (hd : decode y.2.1 pc = .ok (.if_icmp .lt off, 3)) (ht : (pc : Int) + off = (tgt : Int)) (h : (a < b)) (kt : EV w d kc ks y tgt L st μ Q) : EV w d kc ks y pc L (.int b :: .int a :: st) μ Q := ev_icmp_lt hd ht (fun _ => kt) (fun z => absurd h z)
theorem ev_icmp_lt_f {a b : Int32} {off : Int} {tgt : Nat} (hd : decode y.2.1 pc = .ok (.if_icmp .lt off, 3)) (ht : (pc : Int) + off = (tgt : Int)) (h : ¬ (a < b)) (kf : EV w d kc ks y (pc + 3) L st μ Q) : EV w d kc ks y pc L (.int b :: .int a :: st) μ Q := ev_icmp_lt hd ht (fun z => absurd z h) (fun _ => kf)
theorem ev_if_lt {a : Int32} {off : Int} {tgt : Nat} (hd : decode y.2.1 pc = .ok (.ifCond .lt off, 3)) (ht : (pc : Int) + off = (tgt : Int)) (kt : (a < 0) → EV w d kc ks y tgt L st μ Q) (kf : ¬ (a < 0) → EV w d kc ks y (pc + 3) L st μ Q) : EV w d kc ks y pc L (.int a :: st) μ Q := by
  intro p l e R s m args below meth c H locs cells slots Qf ls hG hC hL hP h1 h2 h3 h4 hQ
  exact lv_if_lt hC.1 hC.2.1 hd ht (fun z => (kt z p l e R s m args below meth c H locs cells slots Qf ls hG hC hL hP h1 h2 h3 h4 hQ)) (fun z => (kf z p l e R s m args below meth c H locs cells slots Qf ls hG hC hL hP h1 h2 h3 h4 hQ))
theorem ev_if_lt_t {a : Int32} {off : Int} {tgt : Nat} (hd : decode y.2.1 pc = .ok (.ifCond .lt off, 3)) (ht : (pc : Int) + off = (tgt : Int)) (h : (a < 0)) (kt : EV w d kc ks y tgt L st μ Q) : EV w d kc ks y pc L (.int a :: st) μ Q := ev_if_lt hd ht (fun _ => kt) (fun z => absurd h z)
theorem ev_if_lt_f {a : Int32} {off : Int} {tgt : Nat} (hd : decode y.2.1 pc = .ok (.ifCond .lt off, 3)) (ht : (pc : Int) + off = (tgt : Int)) (h : ¬ (a < 0)) (kf : EV w d kc ks y (pc + 3) L st μ Q) : EV w d kc ks y pc L (.int a :: st) μ Q := ev_if_lt hd ht (fun z => absurd z h) (fun _ => kf)
theorem ev_icmp_ge {a b : Int32} {off : Int} {tgt : Nat} (hd : decode y.2.1 pc = .ok (.if_icmp .ge off, 3)) (ht : (pc : Int) + off = (tgt : Int)) (kt : (b ≤ a) → EV w d kc ks y tgt L st μ Q) (kf : ¬ (b ≤ a) → EV w d kc ks y (pc + 3) L st μ Q) : EV w d kc ks y pc L (.int b :: .int a :: st) μ Q := by
  intro p l e R s m args below meth c H locs cells slots Qf ls hG hC hL hP h1 h2 h3 h4 hQ
  exact lv_icmp_ge hC.1 hC.2.1 hd ht (fun z => (kt z p l e R s m args below meth c H locs cells slots Qf ls hG hC hL hP h1 h2 h3 h4 hQ)) (fun z => (kf z p l e R s m args below meth c H locs cells slots Qf ls hG hC hL hP h1 h2 h3 h4 hQ))
theorem ev_icmp_ge_t {a b : Int32} {off : Int} {tgt : Nat} (hd : decode y.2.1 pc = .ok (.if_icmp .ge off, 3)) (ht : (pc : Int) + off = (tgt : Int)) (h : (b ≤ a)) (kt : EV w d kc ks y tgt L st μ Q) : EV w d kc ks y pc L (.int b :: .int a :: st) μ Q := ev_icmp_ge hd ht (fun _ => kt) (fun z => absurd h z)
theorem ev_icmp_ge_f {a b : Int32} {off : Int} {tgt : Nat} (hd : decode y.2.1 pc = .ok (.if_icmp .ge off, 3)) (ht : (pc : Int) + off = (tgt : Int)) (h : ¬ (b ≤ a)) (kf : EV w d kc ks y (pc + 3) L st μ Q) : EV w d kc ks y pc L (.int b :: .int a :: st) μ Q := ev_icmp_ge hd ht (fun z => absurd z h) (fun _ => kf)
theorem ev_if_ge {a : Int32} {off : Int} {tgt : Nat} (hd : decode y.2.1 pc = .ok (.ifCond .ge off, 3)) (ht : (pc : Int) + off = (tgt : Int)) (kt : (0 ≤ a) → EV w d kc ks y tgt L st μ Q) (kf : ¬ (0 ≤ a) → EV w d kc ks y (pc + 3) L st μ Q) : EV w d kc ks y pc L (.int a :: st) μ Q := by
  intro p l e R s m args below meth c H locs cells slots Qf ls hG hC hL hP h1 h2 h3 h4 hQ
  exact lv_if_ge hC.1 hC.2.1 hd ht (fun z => (kt z p l e R s m args below meth c H locs cells slots Qf ls hG hC hL hP h1 h2 h3 h4 hQ)) (fun z => (kf z p l e R s m args below meth c H locs cells slots Qf ls hG hC hL hP h1 h2 h3 h4 hQ))
theorem ev_if_ge_t {a : Int32} {off : Int} {tgt : Nat} (hd : decode y.2.1 pc = .ok (.ifCond .ge off, 3)) (ht : (pc : Int) + off = (tgt : Int)) (h : (0 ≤ a)) (kt : EV w d kc ks y tgt L st μ Q) : EV w d kc ks y pc L (.int a :: st) μ Q := ev_if_ge hd ht (fun _ => kt) (fun z => absurd h z)
theorem ev_if_ge_f {a : Int32} {off : Int} {tgt : Nat} (hd : decode y.2.1 pc = .ok (.ifCond .ge off, 3)) (ht : (pc : Int) + off = (tgt : Int)) (h : ¬ (0 ≤ a)) (kf : EV w d kc ks y (pc + 3) L st μ Q) : EV w d kc ks y pc L (.int a :: st) μ Q := ev_if_ge hd ht (fun z => absurd z h) (fun _ => kf)
theorem ev_icmp_gt {a b : Int32} {off : Int} {tgt : Nat} (hd : decode y.2.1 pc = .ok (.if_icmp .gt off, 3)) (ht : (pc : Int) + off = (tgt : Int)) (kt : (b < a) → EV w d kc ks y tgt L st μ Q) (kf : ¬ (b < a) → EV w d kc ks y (pc + 3) L st μ Q) : EV w d kc ks y pc L (.int b :: .int a :: st) μ Q := by
  intro p l e R s m args below meth c H locs cells slots Qf ls hG hC hL hP h1 h2 h3 h4 hQ
  exact lv_icmp_gt hC.1 hC.2.1 hd ht (fun z => (kt z p l e R s m args below meth c H locs cells slots Qf ls hG hC hL hP h1 h2 h3 h4 hQ)) (fun z => (kf z p l e R s m args below meth c H locs cells slots Qf ls hG hC hL hP h1 h2 h3 h4 hQ))
theorem ev_icmp_gt_t {a b : Int32} {off : Int} {tgt : Nat} (hd : decode y.2.1 pc = .ok (.if_icmp .gt off, 3)) (ht : (pc : Int) + off = (tgt : Int)) (h : (b < a)) (kt : EV w d kc ks y tgt L st μ Q) : EV w d kc ks y pc L (.int b :: .int a :: st) μ Q := ev_icmp_gt hd ht (fun _ => kt) (fun z => absurd h z)
theorem ev_icmp_gt_f {a b : Int32} {off : Int} {tgt : Nat} (hd : decode y.2.1 pc = .ok (.if_icmp .gt off, 3)) (ht : (pc : Int) + off = (tgt : Int)) (h : ¬ (b < a)) (kf : EV w d kc ks y (pc + 3) L st μ Q) : EV w d kc ks y pc L (.int b :: .int a :: st) μ Q := ev_icmp_gt hd ht (fun z => absurd z h) (fun _ => kf)
theorem ev_if_gt {a : Int32} {off : Int} {tgt : Nat} (hd : decode y.2.1 pc = .ok (.ifCond .gt off, 3)) (ht : (pc : Int) + off = (tgt : Int)) (kt : (0 < a) → EV w d kc ks y tgt L st μ Q) (kf : ¬ (0 < a) → EV w d kc ks y (pc + 3) L st μ Q) : EV w d kc ks y pc L (.int a :: st) μ Q := by
  intro p l e R s m args below meth c H locs cells slots Qf ls hG hC hL hP h1 h2 h3 h4 hQ
  exact lv_if_gt hC.1 hC.2.1 hd ht (fun z => (kt z p l e R s m args below meth c H locs cells slots Qf ls hG hC hL hP h1 h2 h3 h4 hQ)) (fun z => (kf z p l e R s m args below meth c H locs cells slots Qf ls hG hC hL hP h1 h2 h3 h4 hQ))
theorem ev_if_gt_t {a : Int32} {off : Int} {tgt : Nat} (hd : decode y.2.1 pc = .ok (.ifCond .gt off, 3)) (ht : (pc : Int) + off = (tgt : Int)) (h : (0 < a)) (kt : EV w d kc ks y tgt L st μ Q) : EV w d kc ks y pc L (.int a :: st) μ Q := ev_if_gt hd ht (fun _ => kt) (fun z => absurd h z)
theorem ev_if_gt_f {a : Int32} {off : Int} {tgt : Nat} (hd : decode y.2.1 pc = .ok (.ifCond .gt off, 3)) (ht : (pc : Int) + off = (tgt : Int)) (h : ¬ (0 < a)) (kf : EV w d kc ks y (pc + 3) L st μ Q) : EV w d kc ks y pc L (.int a :: st) μ Q := ev_if_gt hd ht (fun z => absurd z h) (fun _ => kf)
theorem ev_icmp_le {a b : Int32} {off : Int} {tgt : Nat} (hd : decode y.2.1 pc = .ok (.if_icmp .le off, 3)) (ht : (pc : Int) + off = (tgt : Int)) (kt : (a ≤ b) → EV w d kc ks y tgt L st μ Q) (kf : ¬ (a ≤ b) → EV w d kc ks y (pc + 3) L st μ Q) : EV w d kc ks y pc L (.int b :: .int a :: st) μ Q := by
  intro p l e R s m args below meth c H locs cells slots Qf ls hG hC hL hP h1 h2 h3 h4 hQ
  exact lv_icmp_le hC.1 hC.2.1 hd ht (fun z => (kt z p l e R s m args below meth c H locs cells slots Qf ls hG hC hL hP h1 h2 h3 h4 hQ)) (fun z => (kf z p l e R s m args below meth c H locs cells slots Qf ls hG hC hL hP h1 h2 h3 h4 hQ))
theorem ev_icmp_le_t {a b : Int32} {off : Int} {tgt : Nat} (hd : decode y.2.1 pc = .ok (.if_icmp .le off, 3)) (ht : (pc : Int) + off = (tgt : Int)) (h : (a ≤ b)) (kt : EV w d kc ks y tgt L st μ Q) : EV w d kc ks y pc L (.int b :: .int a :: st) μ Q := ev_icmp_le hd ht (fun _ => kt) (fun z => absurd h z)
theorem ev_icmp_le_f {a b : Int32} {off : Int} {tgt : Nat} (hd : decode y.2.1 pc = .ok (.if_icmp .le off, 3)) (ht : (pc : Int) + off = (tgt : Int)) (h : ¬ (a ≤ b)) (kf : EV w d kc ks y (pc + 3) L st μ Q) : EV w d kc ks y pc L (.int b :: .int a :: st) μ Q := ev_icmp_le hd ht (fun z => absurd z h) (fun _ => kf)
theorem ev_if_le {a : Int32} {off : Int} {tgt : Nat} (hd : decode y.2.1 pc = .ok (.ifCond .le off, 3)) (ht : (pc : Int) + off = (tgt : Int)) (kt : (a ≤ 0) → EV w d kc ks y tgt L st μ Q) (kf : ¬ (a ≤ 0) → EV w d kc ks y (pc + 3) L st μ Q) : EV w d kc ks y pc L (.int a :: st) μ Q := by
  intro p l e R s m args below meth c H locs cells slots Qf ls hG hC hL hP h1 h2 h3 h4 hQ
  exact lv_if_le hC.1 hC.2.1 hd ht (fun z => (kt z p l e R s m args below meth c H locs cells slots Qf ls hG hC hL hP h1 h2 h3 h4 hQ)) (fun z => (kf z p l e R s m args below meth c H locs cells slots Qf ls hG hC hL hP h1 h2 h3 h4 hQ))
theorem ev_if_le_t {a : Int32} {off : Int} {tgt : Nat} (hd : decode y.2.1 pc = .ok (.ifCond .le off, 3)) (ht : (pc : Int) + off = (tgt : Int)) (h : (a ≤ 0)) (kt : EV w d kc ks y tgt L st μ Q) : EV w d kc ks y pc L (.int a :: st) μ Q := ev_if_le hd ht (fun _ => kt) (fun z => absurd h z)
theorem ev_if_le_f {a : Int32} {off : Int} {tgt : Nat} (hd : decode y.2.1 pc = .ok (.ifCond .le off, 3)) (ht : (pc : Int) + off = (tgt : Int)) (h : ¬ (a ≤ 0)) (kf : EV w d kc ks y (pc + 3) L st μ Q) : EV w d kc ks y pc L (.int a :: st) μ Q := ev_if_le hd ht (fun z => absurd z h) (fun _ => kf)
theorem ev_goto {off : Int} {tgt : Nat} (hd : decode y.2.1 pc = .ok (.goto off, 3)) (ht : (pc : Int) + off = (tgt : Int)) (k : EV w d kc ks y tgt L st μ Q) : EV w d kc ks y pc L st μ Q := by
  intro p l e R s m args below meth c H locs cells slots Qf ls hG hC hL hP h1 h2 h3 h4 hQ
  exact lv_goto hC.1 hC.2.1 hd ht (k p l e R s m args below meth c H locs cells slots Qf ls hG hC hL hP h1 h2 h3 h4 hQ)
theorem ev_ifnull_n {off : Int} {tgt : Nat} (hd : decode y.2.1 pc = .ok (.ifnull off, 3)) (ht : (pc : Int) + off = (tgt : Int)) (k : EV w d kc ks y tgt L st μ Q) : EV w d kc ks y pc L (.null :: st) μ Q := by
  intro p l e R s m args below meth c H locs cells slots Qf ls hG hC hL hP h1 h2 h3 h4 hQ
  exact lv_ifnullN hC.1 hC.2.1 hd ht (k p l e R s m args below meth c H locs cells slots Qf ls hG hC hL hP h1 h2 h3 h4 hQ)
theorem ev_ifnull_r {off : Int} {a : Nat} (hd : decode y.2.1 pc = .ok (.ifnull off, 3)) (k : EV w d kc ks y (pc + 3) L st μ Q) : EV w d kc ks y pc L (.ref a :: st) μ Q := by
  intro p l e R s m args below meth c H locs cells slots Qf ls hG hC hL hP h1 h2 h3 h4 hQ
  exact lv_ifnull hC.1 hC.2.1 hd (k p l e R s m args below meth c H locs cells slots Qf ls hG hC hL hP h1 h2 h3 h4 hQ)
theorem ev_ifnonnull_r {off : Int} {a tgt : Nat} (hd : decode y.2.1 pc = .ok (.ifnonnull off, 3)) (ht : (pc : Int) + off = (tgt : Int)) (k : EV w d kc ks y tgt L st μ Q) : EV w d kc ks y pc L (.ref a :: st) μ Q := by
  intro p l e R s m args below meth c H locs cells slots Qf ls hG hC hL hP h1 h2 h3 h4 hQ
  exact lv_ifnonnull hC.1 hC.2.1 hd ht (k p l e R s m args below meth c H locs cells slots Qf ls hG hC hL hP h1 h2 h3 h4 hQ)
theorem ev_ifnonnull_n {off : Int} (hd : decode y.2.1 pc = .ok (.ifnonnull off, 3)) (k : EV w d kc ks y (pc + 3) L st μ Q) : EV w d kc ks y pc L (.null :: st) μ Q := by
  intro p l e R s m args below meth c H locs cells slots Qf ls hG hC hL hP h1 h2 h3 h4 hQ
  exact lv_ifnonnullN hC.1 hC.2.1 hd (k p l e R s m args below meth c H locs cells slots Qf ls hG hC hL hP h1 h2 h3 h4 hQ)
theorem ev_lookup {dflt : Int} {ps : Array (Int × Int)} {len : Nat} {x : Int32} {off : Int} {tgt : Nat} (hd : decode y.2.1 pc = .ok (.lookupswitch dflt ps, len)) (hp : (ps.toList.zip (ps.toList.drop 1)).all (fun (a, next) => a.1 < next.1) = true) (ho : Op.lookupswitch.offset ps.toList dflt x.toInt = off) (ht : (pc : Int) + off = (tgt : Int)) (k : EV w d kc ks y tgt L st μ Q) : EV w d kc ks y pc L (.int x :: st) μ Q := by
  intro p l e R s m args below meth c H locs cells slots Qf ls hG hC hL hP h1 h2 h3 h4 hQ
  exact lv_lookup hC.1 hC.2.1 hd hp ho ht (k p l e R s m args below meth c H locs cells slots Qf ls hG hC hL hP h1 h2 h3 h4 hQ)
theorem ev_tableOut {dflt lo hi : Int} {offs : Array Int} {len : Nat} {x : Int32} {tgt : Nat} (hd : decode y.2.1 pc = .ok (.tableswitch dflt lo hi offs, len)) (h : x.toInt < lo ∨ hi < x.toInt) (ht : (pc : Int) + dflt = (tgt : Int)) (k : EV w d kc ks y tgt L st μ Q) : EV w d kc ks y pc L (.int x :: st) μ Q := by
  intro p l e R s m args below meth c H locs cells slots Qf ls hG hC hL hP h1 h2 h3 h4 hQ
  exact lv_tableOut hC.1 hC.2.1 hd h ht (k p l e R s m args below meth c H locs cells slots Qf ls hG hC hL hP h1 h2 h3 h4 hQ)
theorem ev_tableIn {dflt lo hi : Int} {offs : Array Int} {len : Nat} {x : Int32} {off : Int} {tgt : Nat} (hd : decode y.2.1 pc = .ok (.tableswitch dflt lo hi offs, len)) (hl : ¬ x.toInt < lo) (hh : ¬ hi < x.toInt) (ho : offs[(x.toInt - lo).toNat]? = some off) (ht : (pc : Int) + off = (tgt : Int)) (k : EV w d kc ks y tgt L st μ Q) : EV w d kc ks y pc L (.int x :: st) μ Q := by
  intro p l e R s m args below meth c H locs cells slots Qf ls hG hC hL hP h1 h2 h3 h4 hQ
  exact lv_tableIn hC.1 hC.2.1 hd hl hh ho ht (k p l e R s m args below meth c H locs cells slots Qf ls hG hC hL hP h1 h2 h3 h4 hQ)
theorem ev_ldc {i : Nat} {v : Int32} (hd : decode y.2.1 pc = .ok (.ldc i, 2)) (hc : Cond.constant y.1.cls i v ∈ zGT) (k : EV w d kc ks y (pc + 2) L (.int v :: st) μ Q) : EV w d kc ks y pc L (st) μ Q := by
  intro p l e R s m args below meth c H locs cells slots Qf ls hG hC hL hP h1 h2 h3 h4 hQ
  exact lv_ldc hC.1 hC.2.1 hC.2.2.2.1 (hC.2.2.2.2.1 _ hc) hd (k p l e R s m args below meth c H locs cells slots Qf ls hG hC hL hP h1 h2 h3 h4 hQ)
theorem ev_ldc2 {i : Nat} {v : Int64} (hd : decode y.2.1 pc = .ok (.ldc2_w i, 3)) (hc : Cond.constantLong y.1.cls i v ∈ zGT) (k : EV w d kc ks y (pc + 3) L (.long v :: st) μ Q) : EV w d kc ks y pc L (st) μ Q := by
  intro p l e R s m args below meth c H locs cells slots Qf ls hG hC hL hP h1 h2 h3 h4 hQ
  exact lv_ldc2 hC.1 hC.2.1 hC.2.2.2.1 (hC.2.2.2.2.1 _ hc) hd (k p l e R s m args below meth c H locs cells slots Qf ls hG hC hL hP h1 h2 h3 h4 hQ)
end EVR
end
section
/-! rows that read and write cells -/
theorem zins (ws : List Cond) (ps : List Nat) (h : ps.map (fun i => lw_tbl[i]?) = ws.map some) (hg : ws.all goodWord = true) : ∀ x ∈ ws, x ∈ zGT := by
  intro x hx
  have h1 : some x ∈ ps.map (fun i => lw_tbl[i]?) := by rw [h]; exact List.mem_map_of_mem hx
  obtain ⟨i, -, hi⟩ := List.mem_map.mp h1
  exact zin i hi (List.all_eq_true.mp hg x hx)
theorem zuw0 : ∀ x ∈ u_ws RX0 TX0 13, x ∈ zGT := zins _ [171, 173, 175, 177, 179, 181, 183, 185, 187, 189, 191, 193, 195] (by decide +kernel) (by decide +kernel)
theorem zuw1 : ∀ x ∈ u_ws RX1 TX1 11, x ∈ zGT := zins _ [739, 740, 741, 742, 743, 744, 745, 746, 747, 748, 749] (by decide +kernel) (by decide +kernel)
theorem zuw2 : ∀ x ∈ u_ws RX2 TX2 7, x ∈ zGT := zins _ [139, 141, 143, 145, 147, 149, 151] (by decide +kernel) (by decide +kernel)
theorem zuw3 : ∀ x ∈ u_ws RX3 TX3 5, x ∈ zGT := zins _ [233, 235, 237, 239, 241] (by decide +kernel) (by decide +kernel)
theorem zuw4 : ∀ x ∈ u_ws RX4 TX4 11, x ∈ zGT := zins _ [722, 723, 724, 725, 726, 727, 728, 729, 730, 731, 732] (by decide +kernel) (by decide +kernel)
theorem zuw5 : ∀ x ∈ u_ws RX5 TX5 11, x ∈ zGT := zins _ [676, 678, 680, 682, 684, 686, 688, 690, 692, 694, 696] (by decide +kernel) (by decide +kernel)
theorem zuw6 : ∀ x ∈ u_ws RX6 TX6 3, x ∈ zGT := zins _ [254, 256, 258] (by decide +kernel) (by decide +kernel)
theorem zuw7 : ∀ x ∈ u_ws RX7 TX7 10, x ∈ zGT := zins _ [89, 91, 93, 95, 97, 99, 101, 103, 105, 107] (by decide +kernel) (by decide +kernel)
theorem zuw8 : ∀ x ∈ u_ws RX8 TX8 11, x ∈ zGT := zins _ [704, 705, 706, 707, 708, 709, 710, 711, 712, 713, 714] (by decide +kernel) (by decide +kernel)
theorem zuw9 : ∀ x ∈ u_ws RX9 TX9 11, x ∈ zGT := zins _ [756, 757, 758, 759, 760, 761, 762, 763, 764, 765, 766] (by decide +kernel) (by decide +kernel)
theorem zuw10 : ∀ x ∈ u_ws RX10 TX10 11, x ∈ zGT := zins _ [770, 771, 772, 773, 774, 775, 776, 777, 778, 779, 780] (by decide +kernel) (by decide +kernel)
theorem zuw11 : ∀ x ∈ u_ws RX11 TX11 20, x ∈ zGT := zins _ [279, 281, 283, 285, 287, 289, 291, 293, 295, 297, 299, 301, 303, 305, 307, 309, 311, 313, 315, 317] (by decide +kernel) (by decide +kernel)
theorem zuw12 : ∀ x ∈ u_ws RJ4 TJ4 4, x ∈ zGT := zins _ [807, 809, 811, 813] (by decide +kernel) (by decide +kernel)
theorem zuw13 : ∀ x ∈ u_ws RJ0 TJ0 4, x ∈ zGT := zins _ [1011, 1013, 1015, 1017] (by decide +kernel) (by decide +kernel)
theorem zuw : ∀ c, c < 14 → ∀ x ∈ u_ws (zRf c) (zTf c) (zNf c), x ∈ zGT := fun c h => by
  match c, h with
  | 0, _ => exact zuw0
  | 1, _ => exact zuw1
  | 2, _ => exact zuw2
  | 3, _ => exact zuw3
  | 4, _ => exact zuw4
  | 5, _ => exact zuw5
  | 6, _ => exact zuw6
  | 7, _ => exact zuw7
  | 8, _ => exact zuw8
  | 9, _ => exact zuw9
  | 10, _ => exact zuw10
  | 11, _ => exact zuw11
  | 12, _ => exact zuw12
  | 13, _ => exact zuw13
theorem zty_ok : ∀ c, c < 14 → ∀ k, k < zNf c → parseFieldDescriptor (zTf c k).2.2.1 = some (zty c k) := fun c h => by
  match c, h with
  | 0, _ => exact tyX0_ok
  | 1, _ => exact tyX1_ok
  | 2, _ => exact tyX2_ok
  | 3, _ => exact tyX3_ok
  | 4, _ => exact tyX4_ok
  | 5, _ => exact tyX5_ok
  | 6, _ => exact tyX6_ok
  | 7, _ => exact tyX7_ok
  | 8, _ => exact tyX8_ok
  | 9, _ => exact tyX9_ok
  | 10, _ => exact tyX10_ok
  | 11, _ => exact tyX11_ok
  | 12, _ => exact tyJ4_ok
  | 13, _ => exact tyJ0_ok
theorem znm : ∀ c, c < 14 → ∀ a, a < zNf c → ∀ b, b < zNf c → a ≠ b → (zTf c a).2.1 ≠ (zTf c b).2.1 := fun c h => by
  match c, h with
  | 0, _ => exact nmX0
  | 1, _ => exact nmX1
  | 2, _ => exact nmX2
  | 3, _ => exact nmX3
  | 4, _ => exact nmX4
  | 5, _ => exact nmX5
  | 6, _ => exact nmX6
  | 7, _ => exact nmX7
  | 8, _ => exact nmX8
  | 9, _ => exact nmX9
  | 10, _ => exact nmX10
  | 11, _ => exact nmX11
  | 12, _ => exact nmJ4
  | 13, _ => exact nmJ0
/-- a cell is there, of a kind -/
def zHas (n : Nat) (kd : Nat → Nat × Nat) (a K : Nat) : Prop := zrl a ∧ a < n ∧ (kd a).1 = K
/-- a field as an instruction names it -/
def zFL (own : String) (idx c k : Nat) : Prop := c < 14 ∧ k < zNf c ∧ ∃ ref : String, Cond.fieldLink own idx ref (zTf c k).2.1 (zTf c k).2.2.1 ∈ zGT ∧ (ref = (zTf c k).1 ∨ Cond.sameField ref (zTf c k).1 (zTf c k).2.1 (zTf c k).2.2.1 ∈ zGT)
theorem zE_obj {w : zW} {μ : zM} {a c : Nat} (h : (zk μ a).1 = 16 + c) : zE w μ a = .inr (c, (List.range (zNf c)).map (zv w μ a c)) := by
  unfold zE
  rw [if_neg (by omega), if_neg (by omega), if_neg (by omega), if_neg (by omega), show (zk μ a).1 - 16 = c by omega]
theorem zE_int {w : zW} {μ : zM} {a : Nat} (h : (zk μ a).1 = 0) : zE w μ a = .inl (zcA w 0, (zk μ a).2, .inl (zi μ a)) := if_pos h
theorem zE_ref {w : zW} {μ : zM} {a j : Nat} (h : (zk μ a).1 = j) (h0 : 0 < j) (h1 : j < 12) : zE w μ a = .inl (zcA w j, (zk μ a).2, .inr (.inr (.inr (.inr (fun k => (zrr w μ a k).map (zad w)))))) := by
  unfold zE
  rw [if_neg (by omega), if_neg (by omega), if_neg (by omega), if_pos (by omega), h]
theorem zE_byt {w : zW} {μ : zM} {a : Nat} (h : (zk μ a).1 = 12) : zE w μ a = .inl (zcA w 6, (zk μ a).2, .inl (zi μ a)) := by
  unfold zE
  rw [if_neg (by omega), if_pos h]
theorem zE_lng {w : zW} {μ : zM} {a : Nat} (h : (zk μ a).1 = 14) : zE w μ a = .inl (zcA w 7, (zk μ a).2, .inr (.inl (zlg w (zi μ a)))) := by
  unfold zE
  rw [if_neg (by omega), if_neg (by omega), if_pos h]
theorem zKs {w : zW} {s : State} (hG : zGF w) (hF : zFr w s) : va_K (zD w) vwCl (zT w) s := hG.2.1.moved hF.1
theorem zCtx.fr {w : zW} {y : zY} {p : Program} {s : State} {m : MethodId} {args : Array Value} {meth : Method} {c : Code} (h : zCtx w y p s m args meth c) : zFr w s := h.2.2.2.2.2.2.2.2
theorem zCtx.word {w : zW} {y : zY} {p : Program} {s : State} {m : MethodId} {args : Array Value} {meth : Method} {c : Code} (h : zCtx w y p s m args meth c) {v : Cond} (hv : v ∈ zGT) : v.before args s = true := h.2.2.2.2.1 v hv
theorem zRp.nm {w : zW} {s : State} {μ : zM} {H : Heap} {locs : List Loc} (h : zRp w s μ H locs) {a : Nat} (h2 : a < zn μ) : zvn (zn μ) ∧ H.size = zb0 w + zsz (zn μ) ∧ va_P (zD w) vwCl (zWs w μ) H := h.1 (by omega)
theorem zRp.p {w : zW} {s : State} {μ : zM} {H : Heap} {locs : List Loc} (h : zRp w s μ H locs) {a : Nat} (h2 : a < zn μ) : va_P (zD w) vwCl (zWs w μ) H := (h.nm h2).2.2
theorem zRp.at {w : zW} {s : State} {μ : zM} {H : Heap} {locs : List Loc} (h : zRp w s μ H locs) {a : Nat} (h1 : zrl a) (h2 : a < zn μ) : va_at (zD w) vwCl (zad w a, zE w μ a) H := h.p h2 (zix a) _ (zWs_at w h1 h2)
theorem zFL.same {c k : Nat} {s : State} {args : Array Value} {ref : String} (hts : ∀ v ∈ zGT, v.before args s = true) (h : ref = (zTf c k).1 ∨ Cond.sameField ref (zTf c k).1 (zTf c k).2.1 (zTf c k).2.2.1 ∈ zGT) :
    ∀ x, s.fieldFound? (zTf c k).1 (zTf c k).2.1 (zTf c k).2.2.1 = some x → s.fieldFound? ref (zTf c k).2.1 (zTf c k).2.2.1 = some x := by
  rcases h with h | h
  · subst h
    exact fun _ h9 => h9
  · exact fun x hx => u_same (hts _ h) x hx
theorem zfs_at {w : zW} {μ : zM} {a c k : Nat} (hk : k < zNf c) : ((List.range (zNf c)).map (zv w μ a c))[k]? = some (zv w μ a c k) := by
  rw [List.getElem?_map, List.getElem?_range hk]
  rfl
/-- what a memory with one row changed has of the other cells -/
theorem zE_zA {w : zW} {μ : zM} {a b : Nat} {f : Nat → Int32} (h : b ≠ a) : zE w (zA μ a f) b = zE w μ b := by
  have e : zi (zA μ a f) b = zi μ b := by
    funext k
    show (if b = a then f else μ.2.2.1 b) k = μ.2.2.1 b k
    rw [if_neg h]
  unfold zE zv
  rw [e]
  rfl
theorem zE_zR {w : zW} {μ : zM} {a b k : Nat} {r : Option Nat} (h : b ≠ a) : zE w (zR μ a k r) b = zE w μ b := by
  have e : zr (zR μ a k r) b = zr μ b := by
    funext j
    show (if b = a then va_up (μ.2.2.2 a) k r else μ.2.2.2 b) j = μ.2.2.2 b j
    rw [if_neg h]
  have e2 : ∀ j, zrr w (zR μ a k r) b j = zrr w μ b j := fun j => by
    unfold zrr
    rw [e]
  unfold zE zv
  simp only [e2]
  rfl
theorem zi_zA {μ : zM} {a : Nat} {f : Nat → Int32} : zi (zA μ a f) a = f := by
  show (if a = a then f else μ.2.2.1 a) = f
  rw [if_pos rfl]
theorem zi_zA_ne {μ : zM} {a b : Nat} {f : Nat → Int32} (h : b ≠ a) : zi (zA μ a f) b = zi μ b := by
  show (if b = a then f else μ.2.2.1 b) = μ.2.2.1 b
  rw [if_neg h]
theorem zr_zR {μ : zM} {a k : Nat} {r : Option Nat} : zr (zR μ a k r) a = va_up (zr μ a) k r := by
  show (if a = a then va_up (μ.2.2.2 a) k r else μ.2.2.2 a) = _
  rw [if_pos rfl]
  rfl
theorem zr_zR_ne {μ : zM} {a b k : Nat} {r : Option Nat} (h : b ≠ a) : zr (zR μ a k r) b = zr μ b := by
  show (if b = a then va_up (μ.2.2.2 a) k r else μ.2.2.2 b) = μ.2.2.2 b
  rw [if_neg h]
/-- a cell is written: the memory follows -/
theorem zRp.put {w : zW} {s : State} {μ μ' : zM} {H H' : Heap} {locs : List Loc} {a k : Nat} (h : zRp w s μ H locs) (h1 : zrl a) (h2 : a < zn μ) (hn : zn μ' = zn μ) (he : ∀ b, b ≠ a → zE w μ' b = zE w μ b)
    (hat : va_at (zD w) vwCl (zad w a, zE w μ' a) H') (hz : H'.size = H.size) (oq : ∀ q, q ≠ zad w a → H'[q]? = H[q]?) : zRp w s μ' H' (locs ++ [⟨zad w a, k⟩]) := by
  obtain ⟨r1, r2, r3⟩ := h.nm h2
  refine ⟨fun _ => ⟨by rw [hn]; exact r1, by rw [hn, hz]; exact r2, ?_⟩, h.2.put hz oq (show zb0 w ≤ zad w a by rw [zad_rl w h1]; omega)⟩
  rw [← zWs_set w h1 h2 hn he]
  exact r3.set (zWs_apart w μ) (zWs_at w h1 h2) hat oq
theorem zRp.top {w : zW} {s : State} {μ : zM} {H : Heap} {locs : List Loc} (h : zRp w s μ H locs) (hr : zrl (zn μ)) : H.size = zad w (zn μ) := by
  rw [zad_rl w hr, ← zsz_ix hr]
  exact (h.1 (zrl_vn hr).2.2).2.1
/-- a cell comes: the memory follows -/
theorem zRp.push {w : zW} {s : State} {μ μ' : zM} {H H' : Heap} {locs : List Loc} (h : zRp w s μ H locs) (hr : zrl (zn μ)) (hn : zn μ' = zn μ + 1) (he : ∀ b, b < zn μ → zE w μ' b = zE w μ b)
    (hat : va_at (zD w) vwCl (zad w (zn μ), zE w μ' (zn μ)) H') (hz : H'.size = H.size + 1) (oq : ∀ q, q < H.size → H'[q]? = H[q]?) : zRp w s μ' H' locs := by
  obtain ⟨v1, v2, v3⟩ := zrl_vn hr
  obtain ⟨r1, r2, r3⟩ := h.1 v3
  have r4 := h.2
  refine ⟨fun _ => ⟨by rw [hn]; exact v2, by rw [hn, hz, r2, zsz_push hr]; omega, ?_⟩, ⟨by have := r4.1; omega, fun q h1 h2 => ?_, r4.2.2⟩⟩
  · rw [zWs_push w hr hn he]
    refine (r3.kept fun k q hq => oq q.1 ((r3 k q hq).lt)).app (fun k q hq => ?_)
    have hz : k < 1 := (List.getElem?_eq_some_iff.mp hq).1
    rw [show k = 0 by omega] at hq
    cases hq
    exact hat
  · rw [oq q (Nat.lt_of_lt_of_le h1 r4.1)]
    exact r4.2.1 q h1 h2
section EVC
variable {w : zW} {d kc ks : Nat} {y : zY} {pc : Nat} {L : List (Option Value)} {st : List Value} {μ : zM} {Q Q' : Option Value → zM → Prop}
theorem ev_get {idx c k a : Nat} {v : Value} (hd : decode y.2.1 pc = .ok (.getfield idx, 3)) (hf : zFL y.1.cls idx c k) (ha : zHas μ.1 μ.2.1 a (16 + c)) (hv : zv w μ a c k = zva w v)
    (kk : EV w d kc ks y (pc + 3) L (v :: st) μ Q) : EV w d kc ks y pc L (.ref a :: st) μ Q := by
  intro p l e R s m args below meth c0 H locs cells slots Qf ls hG hC hL hP h1 h2 h3 h4 hQ
  obtain ⟨hc, hk, ref, hl, hs⟩ := hf
  have he : (zWs w μ)[zix a]? = some (zad w a, .inr (c, (List.range (zNf c)).map (zv w μ a c))) := by
    rw [zWs_at w ha.1 ha.2.1, zE_obj ha.2.2]
  exact va_get (D := zD w) (ci := c) (v := zva w v) (C := zRf c) (T := zTf c) (N := zNf c) hC.1 hC.2.1 hC.2.2.2.2.1 (zuw c hc) hC.2.2.2.1 (zKs hG hC.fr) (hP.p ha.2.1) (zix a) he (zcl_at c hc) k hk (hC.word hl) (zFL.same hC.2.2.2.2.1 hs) (by rw [zfs_at hk, hv]) hd
    (kk p l e R s m args below meth c0 H locs cells slots Qf ls hG hC hL hP h1 h2 h3 h4 hQ)
theorem ev_getI {idx c k a : Nat} {x : Int32} (hd : decode y.2.1 pc = .ok (.getfield idx, 3)) (hf : zFL y.1.cls idx c k) (hfl : zfl c k = false) (ha : zHas μ.1 μ.2.1 a (16 + c)) (hv : zi μ a k = x)
    (kk : EV w d kc ks y (pc + 3) L (.int x :: st) μ Q) : EV w d kc ks y pc L (.ref a :: st) μ Q :=
  ev_get hd hf ha (by unfold zv; rw [if_neg (by rw [hfl]; decide), hv]; rfl) kk
theorem ev_getR {idx c k a b : Nat} (hd : decode y.2.1 pc = .ok (.getfield idx, 3)) (hf : zFL y.1.cls idx c k) (hfl : zfl c k = true) (ha : zHas μ.1 μ.2.1 a (16 + c)) (hv : zrr w μ a k = some b)
    (kk : EV w d kc ks y (pc + 3) L (.ref b :: st) μ Q) : EV w d kc ks y pc L (.ref a :: st) μ Q :=
  ev_get hd hf ha (by unfold zv; rw [if_pos hfl, hv]; rfl) kk
theorem ev_getN {idx c k a : Nat} (hd : decode y.2.1 pc = .ok (.getfield idx, 3)) (hf : zFL y.1.cls idx c k) (hfl : zfl c k = true) (ha : zHas μ.1 μ.2.1 a (16 + c)) (hv : zrr w μ a k = none)
    (kk : EV w d kc ks y (pc + 3) L (.null :: st) μ Q) : EV w d kc ks y pc L (.ref a :: st) μ Q :=
  ev_get hd hf ha (by unfold zv; rw [if_pos hfl, hv]; rfl) kk
/-- which fields may be written here -/
def zMay (y : zY) (c k : Nat) : Prop := (zTf c k).2.2.2 = false ∨ ((zTf c k).2.2.2 = true ∧ y.1.name = "<init>" ∧ (zTf c k).1 = y.1.cls)
theorem ev_put {idx c k a : Nat} {v : Value} {μ' : zM} (hd : decode y.2.1 pc = .ok (.putfield idx, 3)) (hf : zFL y.1.cls idx c k) (hm : zMay y c k) (ha : zHas μ.1 μ.2.1 a (16 + c)) (hn : narrow (zty c k) (zva w v) = zva w v) (hfit : fits (zty c k) (zva w v) = true)
    (h1 : zn μ' = zn μ) (h2 : ∀ b, b ≠ a → zE w μ' b = zE w μ b) (h3 : (zk μ' a).1 = 16 + c) (h4 : ∀ j, j < zNf c → zv w μ' a c j = if j = k then zva w v else zv w μ a c j)
    (kk : EV w d kc ks y (pc + 3) L st μ' Q) : EV w d kc ks y pc L (v :: .ref a :: st) μ Q := by
  intro p l e R s m args below meth c0 H locs cells slots Qf ls hG hC hL hP g1 g2 g3 g4 hQ
  obtain ⟨hc, hk, ref, hl, hs⟩ := hf
  have hK := zKs hG hC.fr
  have hts := hC.2.2.2.2.1
  have hin := zuw c hc
  have hap := va_apart (own := y.1.cls) hts hin (zty c) (zty_ok c hc) (znm c hc) hK (zcl_at c hc)
  have hat := hP.at ha.1 ha.2.1
  rw [zE_obj ha.2.2] at hat
  obtain ⟨r, e1, cell, q1, q2, q3, q4⟩ := hat
  have hr : r = (zRf c, zTf c, zNf c) := Option.some.inj (e1.symm.trans (zcl_at c hc))
  subst hr
  obtain ⟨hS, hfc, kC, hkC, hkind⟩ := hK.1 c _ (zcl_at c hc)
  obtain ⟨cf, kf, fi, f, hi, hsl⟩ := hS k hk
  have hlay := hts _ (hin _ (u_in_lay hk))
  have hst := (u_facts hfc hkC (u_lays hts hin hk) hi).1
  have fin : ∀ H' : Heap, H'[zad w a]? = some (cell.setSlot f.slot (zva w v)) → H'.size = H.size → (∀ q, q ≠ zad w a → H'[q]? = H[q]?) → W p l e R s m args below meth c0 H' (locs ++ [⟨zad w a, f.slot⟩]) cells slots Qf (F0 m (pc + 3) ls (st.map (zva w))) := by
    intro H' x1 x2 x3
    refine kk p l e R s m args below meth c0 H' (locs ++ [⟨zad w a, f.slot⟩]) cells slots Qf ls hG hC hL (hP.put ha.1 ha.2.1 h1 h2 ?_ x2 x3) g1 g2 g3 g4 hQ
    rw [zE_obj h3]
    rw [hsl] at x1
    refine ⟨_, zcl_at c hc, t_OB.to (V := updV (vp_V ((List.range (zNf c)).map (zv w μ a c))) k (zva w v)) ⟨_, x1, q2, q3, t_set q4 hap hk (zva w v)⟩ (fun j hj => ?_)⟩
    show updV (vp_V ((List.range (zNf c)).map (zv w μ a c))) k (zva w v) j = ((List.range (zNf c)).map (zv w μ' a c)).getD j .null
    rw [List.getD_eq_getElem?_getD, zfs_at hj, h4 j hj]
    by_cases e : j = k
    · subst e
      simp [updV]
    · rw [if_neg e]
      simp [updV, e, vp_V, hj]
  rcases hm with hm | ⟨hm, hi2, hde⟩
  · unfold u_lay at hlay
    rw [if_neg (by rw [hm]; decide)] at hlay
    exact W.putK hC.1 hC.2.1 (f := f) ⟨hC.2.2.2.1, hC.word hl, ⟨_, _, _, zFL.same hts hs _ hi⟩, hst⟩ (by rw [q2]; exact u_store hfc hkC hkind hlay hi (zty_ok c hc k hk) hn hfit) q1 q3 (by rw [hsl]; exact k2_hasslot (q4 k hk)) rfl rfl hd fin
  · unfold u_lay at hlay
    rw [if_pos hm] at hlay
    have hcf : m.cls = cf := by
      obtain ⟨_, _, c', _, _, _, -, -, hf', -, -, -, hown2, -⟩ := Cond.laysFinal_spec hlay
      have e1 : c' = cf := by have := hi.symm.trans hf'; simp at this; exact this.1.symm
      rw [hde] at hown2
      rw [← e1]; exact Option.some.inj (hC.2.2.2.1.symm.trans hown2)
    exact W.putFinK hC.1 hC.2.1 hC.2.2.2.1 (hC.word hl) (zFL.same hts hs _ hi) hst hcf (hC.2.2.2.2.2.2.2.1.trans hi2) (by rw [q2]; exact u_fits hfc hkC hkind (Or.inr hlay) hi (zty_ok c hc k hk) hn hfit) q1 q3 (by rw [hsl]; exact k2_hasslot (q4 k hk)) rfl rfl hd fin
theorem ev_putI {idx c k a : Nat} {x : Int32} (hd : decode y.2.1 pc = .ok (.putfield idx, 3)) (hf : zFL y.1.cls idx c k) (hm : zMay y c k) (hfl : zfl c k = false) (hn : narrow (zty c k) (.int x) = .int x) (hfit : fits (zty c k) (.int x) = true) (ha : zHas μ.1 μ.2.1 a (16 + c))
    (kk : EV w d kc ks y (pc + 3) L st (zI μ a k x) Q) : EV w d kc ks y pc L (.int x :: .ref a :: st) μ Q := by
  refine ev_put (μ' := zI μ a k x) hd hf hm ha hn hfit rfl (fun b hb => zE_zA hb) ha.2.2 (fun j hj => ?_) kk
  unfold zv
  by_cases e : j = k
  · subst e
    rw [if_neg (by rw [hfl]; decide), if_pos rfl]
    unfold zI
    rw [zi_zA]
    simp [upd]
    rfl
  · rw [if_neg e]
    unfold zI
    rw [zi_zA]
    simp only [upd, e, if_false]
    rfl
theorem ev_putR {idx c k a b : Nat} (hd : decode y.2.1 pc = .ok (.putfield idx, 3)) (hf : zFL y.1.cls idx c k) (hm : zMay y c k) (hfl : zfl c k = true) (hs : zst w a k = none) (hn : ∀ q, narrow (zty c k) (.ref q) = .ref q) (hfit : ∀ q, fits (zty c k) (.ref q) = true) (ha : zHas μ.1 μ.2.1 a (16 + c))
    (kk : EV w d kc ks y (pc + 3) L st (zR μ a k (some b)) Q) : EV w d kc ks y pc L (.ref b :: .ref a :: st) μ Q := by
  refine ev_put (μ' := zR μ a k (some b)) hd hf hm ha (hn _) (hfit _) rfl (fun q hq => zE_zR hq) ha.2.2 (fun j hj => ?_) kk
  unfold zv zrr
  rw [zr_zR]
  by_cases e : j = k
  · subst e
    rw [if_pos hfl, if_pos rfl, hs]
    simp [va_up, va_rf, zva]
  · rw [if_neg e]
    simp only [va_up, e, if_false]
    rfl
theorem ev_putN {idx c k a : Nat} (hd : decode y.2.1 pc = .ok (.putfield idx, 3)) (hf : zFL y.1.cls idx c k) (hm : zMay y c k) (hfl : zfl c k = true) (hs : zst w a k = none) (hn : narrow (zty c k) .null = .null) (hfit : fits (zty c k) .null = true) (ha : zHas μ.1 μ.2.1 a (16 + c))
    (kk : EV w d kc ks y (pc + 3) L st (zR μ a k none) Q) : EV w d kc ks y pc L (.null :: .ref a :: st) μ Q := by
  refine ev_put (μ' := zR μ a k none) hd hf hm ha hn hfit rfl (fun q hq => zE_zR hq) ha.2.2 (fun j hj => ?_) kk
  unfold zv zrr
  rw [zr_zR]
  by_cases e : j = k
  · subst e
    rw [if_pos hfl, if_pos rfl, hs]
    simp [va_up, va_rf, zva]
  · rw [if_neg e]
    simp only [va_up, e, if_false]
    rfl
/-! arrays -/
theorem ev_iald {a : Nat} {i x : Int32} (hd : decode y.2.1 pc = .ok (.iaload, 1)) (ha : zHas μ.1 μ.2.1 a 0) (hin : vp_in i (μ.2.1 a).2) (hv : zi μ a i.toNatClampNeg = x)
    (kk : EV w d kc ks y (pc + 1) L (.int x :: st) μ Q) : EV w d kc ks y pc L (.int i :: .ref a :: st) μ Q := by
  intro p l e R s m args below meth c0 H locs cells slots Qf ls hG hC hL hP h1 h2 h3 h4 hQ
  have he := zWs_at w (μ := μ) ha.1 ha.2.1
  rw [zE_int ha.2.2] at he
  refine va_iald (D := zD w) hC.1 hC.2.1 (zKs hG hC.fr) (hP.p ha.2.1) (zix a) 0 he rfl hin hd ?_
  rw [hv]
  exact kk p l e R s m args below meth c0 H locs cells slots Qf ls hG hC hL hP h1 h2 h3 h4 hQ
theorem ev_iast {a : Nat} {i x : Int32} (hd : decode y.2.1 pc = .ok (.iastore, 1)) (ha : zHas μ.1 μ.2.1 a 0) (hin : vp_in i (μ.2.1 a).2)
    (kk : EV w d kc ks y (pc + 1) L st (zI μ a i.toNatClampNeg x) Q) : EV w d kc ks y pc L (.int x :: .int i :: .ref a :: st) μ Q := by
  intro p l e R s m args below meth c0 H locs cells slots Qf ls hG hC hL hP h1 h2 h3 h4 hQ
  have hat := hP.at ha.1 ha.2.1
  rw [zE_int ha.2.2] at hat
  refine W.iast hC.1 hC.2.1 (a := zad w a) (cell := vp_cell (zcA w 0) ((μ.2.1 a).2, .inl (zi μ a))) hat (((zKs hG hC.fr).2 0 _ rfl).1 _ (fun j => .int (zi μ a j))) (fun q => by cases q) (by show ¬ (i < 0 ∨ (arrV _ _ _).slots.size ≤ _); rw [arrV_size]; exact hin) rfl rfl hd fun H1 x1 x2 x3 => ?_
  refine kk p l e R s m args below meth c0 H1 _ cells slots Qf ls hG hC hL (hP.put (μ' := zI μ a i.toNatClampNeg x) ha.1 ha.2.1 rfl (fun b hb => zE_zA hb) ?_ x2 x3) h1 h2 h3 h4 hQ
  rw [zE_int (show (zk (zI μ a i.toNatClampNeg x) a).1 = 0 from ha.2.2)]
  show H1[zad w a]? = some (vp_cell _ _)
  rw [x1]
  unfold zI
  rw [zi_zA, vp_cell_i, vp_cell_i, arrV_store]
  show some (arrV _ (μ.2.1 a).2 _) = some (arrV _ (μ.2.1 a).2 _)
  congr 2
  funext q
  by_cases hq : q = i.toNatClampNeg
  · subst hq
    simp [updV, upd]
  · simp [updV, upd, hq]
theorem zT_at {w : zW} {j : Nat} (h : j < 6) : ∃ ty : FieldType, (zT w)[j]? = some (zcA w j, ty) ∧ ty.isReference = (j != 0) := by
  match j, h with
  | 0, _ => exact ⟨_, rfl, rfl⟩
  | 1, _ => exact ⟨_, rfl, rfl⟩
  | 2, _ => exact ⟨_, rfl, rfl⟩
  | 3, _ => exact ⟨_, rfl, rfl⟩
  | 4, _ => exact ⟨_, rfl, rfl⟩
  | 5, _ => exact ⟨_, rfl, rfl⟩
theorem ev_aald {a j : Nat} {i : Int32} {v : Value} (hd : decode y.2.1 pc = .ok (.aaload, 1)) (ha : zHas μ.1 μ.2.1 a j) (h0 : 0 < j) (h6 : j < 6) (hin : vp_in i (μ.2.1 a).2) (hv : va_rf ((zrr w μ a i.toNatClampNeg).map (zad w)) = zva w v)
    (kk : EV w d kc ks y (pc + 1) L (v :: st) μ Q) : EV w d kc ks y pc L (.int i :: .ref a :: st) μ Q := by
  intro p l e R s m args below meth c0 H locs cells slots Qf ls hG hC hL hP h1 h2 h3 h4 hQ
  have hat := hP.at ha.1 ha.2.1
  rw [zE_ref ha.2.2 h0 (by omega)] at hat
  obtain ⟨ty, ht, hr⟩ := zT_at (w := w) h6
  have hlt : i.toNatClampNeg < (μ.2.1 a).2 := Nat.not_le.mp fun q => hin (Or.inr q)
  refine W.aald (v := zva w v) (ty := ty) hC.1 hC.2.1 (cell := vp_cell (zcA w j) ((μ.2.1 a).2, .inr (.inr (.inr (.inr (fun k => (zrr w μ a k).map (zad w))))))) hat (((zKs hG hC.fr).2 j _ ht).1 _ (fun k => va_rf ((zrr w μ a k).map (zad w)))) (by rw [hr]; simp; omega) (fun q => by cases q) (by show ¬ (i < 0 ∨ (arrV _ _ _).slots.size ≤ _); rw [arrV_size]; exact hin) (by show (arrV _ _ _).slots[_]? = _; rw [arrV_read _ _ hlt, hv]) rfl rfl hd ?_
  exact kk p l e R s m args below meth c0 H locs cells slots Qf ls hG hC hL hP h1 h2 h3 h4 hQ
theorem ev_aaldR {a j b : Nat} {i : Int32} (hd : decode y.2.1 pc = .ok (.aaload, 1)) (ha : zHas μ.1 μ.2.1 a j) (h0 : 0 < j) (h6 : j < 6) (hin : vp_in i (μ.2.1 a).2) (hv : zrr w μ a i.toNatClampNeg = some b)
    (kk : EV w d kc ks y (pc + 1) L (.ref b :: st) μ Q) : EV w d kc ks y pc L (.int i :: .ref a :: st) μ Q := ev_aald hd ha h0 h6 hin (by rw [hv]; rfl) kk
theorem ev_aaldN {a j : Nat} {i : Int32} (hd : decode y.2.1 pc = .ok (.aaload, 1)) (ha : zHas μ.1 μ.2.1 a j) (h0 : 0 < j) (h6 : j < 6) (hin : vp_in i (μ.2.1 a).2) (hv : zrr w μ a i.toNatClampNeg = none)
    (kk : EV w d kc ks y (pc + 1) L (.null :: st) μ Q) : EV w d kc ks y pc L (.int i :: .ref a :: st) μ Q := ev_aald hd ha h0 h6 hin (by rw [hv]; rfl) kk
theorem ev_alen {a j : Nat} {x : Int32} (hd : decode y.2.1 pc = .ok (.arraylength, 1)) (ha : zHas μ.1 μ.2.1 a j) (h6 : j < 6) (hv : Int32.ofNat (μ.2.1 a).2 = x)
    (kk : EV w d kc ks y (pc + 1) L (.int x :: st) μ Q) : EV w d kc ks y pc L (.ref a :: st) μ Q := by
  intro p l e R s m args below meth c0 H locs cells slots Qf ls hG hC hL hP h1 h2 h3 h4 hQ
  have he := zWs_at w (μ := μ) ha.1 ha.2.1
  obtain ⟨ty, ht, -⟩ := zT_at (w := w) h6
  by_cases h0 : j = 0
  · subst h0
    rw [zE_int ha.2.2] at he
    exact va_alen (D := zD w) hC.1 hC.2.1 (zKs hG hC.fr) (hP.p ha.2.1) (zix a) 0 he ht hv hd (kk p l e R s m args below meth c0 H locs cells slots Qf ls hG hC hL hP h1 h2 h3 h4 hQ)
  · rw [zE_ref ha.2.2 (by omega) (by omega)] at he
    exact va_alen (D := zD w) hC.1 hC.2.1 (zKs hG hC.fr) (hP.p ha.2.1) (zix a) j he ht hv hd (kk p l e R s m args below meth c0 H locs cells slots Qf ls hG hC hL hP h1 h2 h3 h4 hQ)
/-- null into a row of references -/
theorem ev_aastN {a j : Nat} {i : Int32} (hd : decode y.2.1 pc = .ok (.aastore, 1)) (ha : zHas μ.1 μ.2.1 a j) (h0 : 1 < j) (h6 : j < 6) (hs : ∀ k, zst w a k = none) (hin : vp_in i (μ.2.1 a).2)
    (kk : EV w d kc ks y (pc + 1) L st (zR μ a i.toNatClampNeg none) Q) : EV w d kc ks y pc L (.null :: .int i :: .ref a :: st) μ Q := by
  intro p l e R s m args below meth c0 H locs cells slots Qf ls hG hC hL hP h1 h2 h3 h4 hQ
  have hat := hP.at ha.1 ha.2.1
  rw [zE_ref ha.2.2 (by omega) (by omega)] at hat
  have hC' : ∃ C : String, (zT w)[j]? = some (zcA w j, .object C) := by
    match j, h0, h6 with
    | 2, _, _ => exact ⟨_, rfl⟩
    | 3, _, _ => exact ⟨_, rfl⟩
    | 4, _, _ => exact ⟨_, rfl⟩
    | 5, _, _ => exact ⟨_, rfl⟩
  obtain ⟨C, ht⟩ := hC'
  refine va_WaastN (C := C) hC.1 hC.2.1 (cell := vp_cell (zcA w j) ((μ.2.1 a).2, .inr (.inr (.inr (.inr (fun k => (zrr w μ a k).map (zad w))))))) hat (((zKs hG hC.fr).2 j _ ht).1 _ (fun k => va_rf ((zrr w μ a k).map (zad w)))) (fun h => by cases h) (by show ¬ (i < 0 ∨ (arrV _ _ _).slots.size ≤ _); rw [arrV_size]; exact hin) rfl rfl hd fun H1 x1 x2 x3 => ?_
  refine kk p l e R s m args below meth c0 H1 _ cells slots Qf ls hG hC hL (hP.put (μ' := zR μ a i.toNatClampNeg none) ha.1 ha.2.1 rfl (fun b hb => zE_zR hb) ?_ x2 x3) h1 h2 h3 h4 hQ
  rw [zE_ref (j := j) (show (zk (zR μ a i.toNatClampNeg none) a).1 = j from ha.2.2) (by omega) (by omega)]
  show H1[zad w a]? = some (vp_cell _ _)
  rw [x1, vp_cell_q, vp_cell_q, arrV_store]
  show some (arrV _ (μ.2.1 a).2 _) = some (arrV _ (μ.2.1 a).2 _)
  congr 2
  funext q
  unfold zrr
  rw [zr_zR, hs]
  by_cases hq : q = i.toNatClampNeg
  · subst hq
    simp [updV, va_up, va_rf]
  · simp [updV, va_up, hq, hs]
/-! rows of bytes, rows of longs -/
theorem ev_bald2 {a : Nat} {i x : Int32} (hd : decode y.2.1 pc = .ok (.baload, 1)) (ha : zHas μ.1 μ.2.1 a 12) (hin : vp_in i (μ.2.1 a).2) (hv : zi μ a i.toNatClampNeg = x)
    (kk : EV w d kc ks y (pc + 1) L (.int x :: st) μ Q) : EV w d kc ks y pc L (.int i :: .ref a :: st) μ Q := by
  intro p l e R s m args below meth c0 H locs cells slots Qf ls hG hC hL hP h1 h2 h3 h4 hQ
  have he := zWs_at w (μ := μ) ha.1 ha.2.1
  rw [zE_byt ha.2.2] at he
  refine va_bald (D := zD w) hC.1 hC.2.1 (zKs hG hC.fr) (hP.p ha.2.1) (zix a) 6 he rfl hin hd ?_
  rw [hv]
  exact kk p l e R s m args below meth c0 H locs cells slots Qf ls hG hC hL hP h1 h2 h3 h4 hQ
theorem ev_bast {a : Nat} {i x v : Int32} (hd : decode y.2.1 pc = .ok (.bastore, 1)) (ha : zHas μ.1 μ.2.1 a 12) (hin : vp_in i (μ.2.1 a).2) (hv : x.toInt8.toInt32 = v)
    (kk : EV w d kc ks y (pc + 1) L st (zI μ a i.toNatClampNeg v) Q) : EV w d kc ks y pc L (.int x :: .int i :: .ref a :: st) μ Q := by
  subst hv
  intro p l e R s m args below meth c0 H locs cells slots Qf ls hG hC hL hP h1 h2 h3 h4 hQ
  have hat := hP.at ha.1 ha.2.1
  rw [zE_byt ha.2.2] at hat
  refine W.bast hC.1 hC.2.1 (a := zad w a) (cell := vp_cell (zcA w 6) ((μ.2.1 a).2, .inl (zi μ a))) hat (((zKs hG hC.fr).2 6 _ rfl).1 _ (fun j => .int (zi μ a j))) (fun q => by cases q) (by show ¬ (i < 0 ∨ (arrV _ _ _).slots.size ≤ _); rw [arrV_size]; exact hin) rfl rfl hd fun H1 x1 x2 x3 => ?_
  refine kk p l e R s m args below meth c0 H1 _ cells slots Qf ls hG hC hL (hP.put (μ' := zI μ a i.toNatClampNeg x.toInt8.toInt32) ha.1 ha.2.1 rfl (fun b hb => zE_zA hb) ?_ x2 x3) h1 h2 h3 h4 hQ
  rw [zE_byt (show (zk (zI μ a i.toNatClampNeg x.toInt8.toInt32) a).1 = 12 from ha.2.2)]
  show H1[zad w a]? = some (vp_cell _ _)
  rw [x1]
  unfold zI
  rw [zi_zA, vp_cell_i, vp_cell_i, arrV_store]
  show some (arrV _ (μ.2.1 a).2 _) = some (arrV _ (μ.2.1 a).2 _)
  congr 2
  funext q
  by_cases hq : q = i.toNatClampNeg
  · subst hq
    simp [updV, upd, narrow]
  · simp [updV, upd, hq]
theorem ev_alenB {a : Nat} {x : Int32} (hd : decode y.2.1 pc = .ok (.arraylength, 1)) (ha : zHas μ.1 μ.2.1 a 12) (hv : Int32.ofNat (μ.2.1 a).2 = x)
    (kk : EV w d kc ks y (pc + 1) L (.int x :: st) μ Q) : EV w d kc ks y pc L (.ref a :: st) μ Q := by
  intro p l e R s m args below meth c0 H locs cells slots Qf ls hG hC hL hP h1 h2 h3 h4 hQ
  have he := zWs_at w (μ := μ) ha.1 ha.2.1
  rw [zE_byt ha.2.2] at he
  exact va_alen (D := zD w) hC.1 hC.2.1 (zKs hG hC.fr) (hP.p ha.2.1) (zix a) 6 he rfl hv hd (kk p l e R s m args below meth c0 H locs cells slots Qf ls hG hC hL hP h1 h2 h3 h4 hQ)
theorem ev_lald {a : Nat} {i : Int32} {x : Int64} (hd : decode y.2.1 pc = .ok (.laload, 1)) (ha : zHas μ.1 μ.2.1 a 14) (hin : vp_in i (μ.2.1 a).2) (hv : zlg w (zi μ a) i.toNatClampNeg = x)
    (kk : EV w d kc ks y (pc + 1) L (.long x :: st) μ Q) : EV w d kc ks y pc L (.int i :: .ref a :: st) μ Q := by
  intro p l e R s m args below meth c0 H locs cells slots Qf ls hG hC hL hP h1 h2 h3 h4 hQ
  have he := zWs_at w (μ := μ) ha.1 ha.2.1
  rw [zE_lng ha.2.2] at he
  refine va_lald (D := zD w) hC.1 hC.2.1 (zKs hG hC.fr) (hP.p ha.2.1) (zix a) 7 he rfl hin hd ?_
  rw [hv]
  exact kk p l e R s m args below meth c0 H locs cells slots Qf ls hG hC hL hP h1 h2 h3 h4 hQ
def zuL (h : Nat → Int64) (k : Nat) (x : Int64) : Nat → Int64 := fun j => if j = k then x else h j
/-- a memory whose row a holds the longs h -/
def zHm (μ : zM) (a : Nat) (h : Nat → Int64) : zM := zA μ a (zpr h)
theorem zHm_i {μ : zM} {a : Nat} {h : Nat → Int64} : zi (zHm μ a h) a = zpr h := by
  unfold zHm
  rw [zi_zA]
theorem zHm_n {μ : zM} {a : Nat} {h : Nat → Int64} : zn (zHm μ a h) = zn μ := rfl
theorem zHm_k {μ : zM} {a b : Nat} {h : Nat → Int64} : zk (zHm μ a h) b = zk μ b := rfl
theorem zHm_E {w : zW} {μ : zM} {a b : Nat} {h : Nat → Int64} (hb : b ≠ a) : zE w (zHm μ a h) b = zE w μ b := zE_zA hb
theorem ev_lastH {a : Nat} {i : Int32} {x : Int64} {h : Nat → Int64} (hw : zhm w = none) (hd : decode y.2.1 pc = .ok (.lastore, 1)) (ha : zHas μ.1 μ.2.1 a 14) (hin : vp_in i (μ.2.1 a).2)
    (kk : EV w d kc ks y (pc + 1) L st (zHm μ a (zuL h i.toNatClampNeg x)) Q) : EV w d kc ks y pc L (.long x :: .int i :: .ref a :: st) (zHm μ a h) Q := by
  intro p l e R s m args below meth c0 H locs cells slots Qf ls hG hC hL hP h1 h2 h3 h4 hQ
  have hat := hP.at ha.1 (by rw [zHm_n]; exact ha.2.1)
  rw [zE_lng (by rw [zHm_k]; exact ha.2.2), zHm_i, zlg_pr hw, zHm_k] at hat
  refine W.last hC.1 hC.2.1 (a := zad w a) (cell := vp_cell (zcA w 7) ((μ.2.1 a).2, .inr (.inl h))) hat (((zKs hG hC.fr).2 7 _ rfl).1 _ (fun j => .long (h j))) (fun q => by cases q) (by show ¬ (i < 0 ∨ (arrV _ _ _).slots.size ≤ _); rw [arrV_size]; exact hin) rfl rfl hd fun H1 x1 x2 x3 => ?_
  refine kk p l e R s m args below meth c0 H1 _ cells slots Qf ls hG hC hL (hP.put (μ' := zHm μ a (zuL h i.toNatClampNeg x)) ha.1 (by rw [zHm_n]; exact ha.2.1) (by rw [zHm_n, zHm_n]) (fun b hb => by rw [zHm_E hb, zHm_E hb]) ?_ x2 x3) h1 h2 h3 h4 hQ
  rw [zE_lng (by rw [zHm_k]; exact ha.2.2), zHm_i, zlg_pr hw, zHm_k]
  show H1[zad w a]? = some (vp_cell _ _)
  rw [x1, vp_cell_l, vp_cell_l, arrV_store]
  show some (arrV _ (μ.2.1 a).2 _) = some (arrV _ (μ.2.1 a).2 _)
  congr 2
  funext q
  by_cases hq : q = i.toNatClampNeg
  · subst hq
    simp [updV, zuL]
  · simp [updV, zuL, hq]
theorem ev_laldH {a : Nat} {i : Int32} {x : Int64} {h : Nat → Int64} (hw : zhm w = none) (hd : decode y.2.1 pc = .ok (.laload, 1)) (ha : zHas μ.1 μ.2.1 a 14) (hin : vp_in i (μ.2.1 a).2) (hv : h i.toNatClampNeg = x)
    (kk : EV w d kc ks y (pc + 1) L (.long x :: st) (zHm μ a h) Q) : EV w d kc ks y pc L (.int i :: .ref a :: st) (zHm μ a h) Q :=
  ev_lald hd ha hin (by rw [zHm_i, zlg_pr hw, hv]) kk
/-- the row is never written again: the world holds it -/
theorem ev_laldW {a : Nat} {i : Int32} {x : Int64} {h : Nat → Int64} (hw : zhm w = some h) (hd : decode y.2.1 pc = .ok (.laload, 1)) (ha : zHas μ.1 μ.2.1 a 14) (hin : vp_in i (μ.2.1 a).2) (hv : h i.toNatClampNeg = x)
    (kk : EV w d kc ks y (pc + 1) L (.long x :: st) μ Q) : EV w d kc ks y pc L (.int i :: .ref a :: st) μ Q :=
  ev_lald hd ha hin (show zlg w (zi μ a) i.toNatClampNeg = x from (congrFun (zlg_w hw (zi μ a)) i.toNatClampNeg).trans hv) kk
end EVC
end
section
/-! a method's EV is its contract; calls -/
def zfa (As : List Value) : List (Option Value) := As.flatMap (fun v => if v.category = 2 then [some v, none] else [some v])
def zL0 (As : List Value) (n : Nat) : List (Option Value) := zfa As ++ List.replicate (n - (zfa As).length) none
theorem zfa_args (w : zW) : ∀ (As : List Value) (i j : Nat) (v : Value), (zfa As)[j]? = some (some v) → (i + j, zva w v) ∈ lv_args i (As.map (zva w))
  | [], i, j, v, h => by simp [zfa] at h
  | u :: As, i, j, v, h => by
    show _ ∈ (i, zva w u) :: lv_args (if (zva w u).category = 2 then i + 2 else i + 1) (As.map (zva w))
    rw [zva_cat]
    have e : zfa (u :: As) = (if u.category = 2 then [some u, none] else [some u]) ++ zfa As := rfl
    rw [e] at h
    by_cases hc : u.category = 2
    · rw [if_pos hc] at h
      rw [if_pos hc]
      match j, h with
      | 0, h =>
        simp at h
        subst h
        exact List.mem_cons_self
      | 1, h => simp at h
      | j + 2, h =>
        have := zfa_args w As (i + 2) j v (by simpa using h)
        rw [show i + (j + 2) = i + 2 + j by omega]
        exact List.mem_cons_of_mem _ this
    · rw [if_neg hc] at h
      rw [if_neg hc]
      match j, h with
      | 0, h =>
        simp at h
        subst h
        exact List.mem_cons_self
      | j + 1, h =>
        have := zfa_args w As (i + 1) j v (by simpa using h)
        rw [show i + (j + 1) = i + 1 + j by omega]
        exact List.mem_cons_of_mem _ this
theorem zfa_len (w : zW) : ∀ (As : List Value), (lg_sl (As.map (zva w))).length = (zfa As).length
  | [] => rfl
  | u :: As => by
    have e1 : lg_sl ((u :: As).map (zva w)) = (if (zva w u).category = 2 then [.val (zva w u), .second] else [.val (zva w u)]) ++ lg_sl (As.map (zva w)) := rfl
    have e2 : zfa (u :: As) = (if u.category = 2 then [some u, none] else [some u]) ++ zfa As := rfl
    rw [e1, e2, List.length_append, List.length_append, zfa_len w As, zva_cat]
    by_cases h : u.category = 2
    · rw [if_pos h, if_pos h]
      rfl
    · rw [if_neg h, if_neg h]
      rfl
theorem zL_entry (w : zW) {As : List Value} {n : Nat} (h : (zfa As).length ≤ n) : zL w n ((lg_sl (As.map (zva w)) ++ List.replicate (n - (lg_sl (As.map (zva w))).length) Slot.unset).toArray) (zL0 As n) := by
  refine zL_sub (lv_entry (As.map (zva w)) (by rw [zfa_len]; exact h)) fun j v hj => ?_
  unfold zL0 at hj
  by_cases hl : j < (zfa As).length
  · rw [List.getElem?_append_left hl] at hj
    have := zfa_args w As 0 j v hj
    rwa [Nat.zero_add] at this
  · rw [List.getElem?_append_right (by omega)] at hj
    have := List.mem_of_getElem? hj
    rw [List.mem_replicate] at this
    cases this.2
def zPc (w : zW) (As : List Value) (μ : zM) : Array Value → State → Prop := fun a U => a = (As.map (zva w)).toArray ∧ zFr w U ∧ zNm w μ U.heap
def zQc (w : zW) (Q : Option Value → zM → Prop) : Array Value → State → Outcome → State → Prop := fun _ st oc t => (∃ (v : Option Value) (μ' : zM), oc = .returned (v.map (zva w)) ∧ Q v μ' ∧ zNm w μ' t.heap) ∧ va_F (zAq w) st t
def zrm (d kc ks : Nat) : Room := { frames := d, cells := kc, slots := ks, locals := 64 * d }
def zws (y : zY) : List Cond := Cond.code y.1 y.2.1 y.2.2.1 y.2.2.2 :: zGT
theorem zFr.alike {w : zW} {s U : State} (h : zFr w s) (hv : U.vm = s.vm) (hh : U.heap = s.heap) : zFr w U := by
  obtain ⟨h1, h2, h3, h4, h5⟩ := h
  have same : ∀ v : Cond, v.onTables = true → va_Nw v s → va_Nw v U := fun v ho hz => va_Nw.same ho hv.symm hz
  refine ⟨by rw [hv]; exact h1, by rw [hh]; exact h2, fun q hq => by rw [hh]; exact h3 q hq, fun i hi => vk_R.same hv (h4 i hi), ?_⟩
  intro v hm
  have hz := h5 v hm
  simp only [zNw, List.mem_cons, List.not_mem_nil, or_false] at hm
  rcases hm with rfl | rfl | rfl | rfl | rfl | rfl | rfl | rfl <;> exact same _ rfl hz
theorem zPc.blind (w : zW) (As : List Value) (μ : zM) : FrameBlind (zPc w As μ) := by
  intro a U g mk h
  obtain ⟨h1, h2, h3⟩ := h
  exact ⟨h1, h2.alike rfl rfl, h3⟩
theorem zFr.warm {w : zW} {s U : State} {μ : zM} {locs : List Loc} (h : zFr w s) (hP : zRp w s μ U.heap locs) (hW : s.WarmedH U.vm) : zFr w U := by
  obtain ⟨h1, h2, h3, h4, h5⟩ := h
  refine ⟨h1.trans hW.alike, Nat.le_trans h2 hP.2.1, fun q hq => ?_, fun i hi => vk_R.warm hW (h4 i hi), fun v hm => ?_⟩
  rotate_left
  · have hz := h5 v hm
    simp only [zNw, List.mem_cons, List.not_mem_nil, or_false] at hm
    rcases hm with rfl | rfl | rfl | rfl | rfl | rfl | rfl | rfl
    · exact va_Nw.warmC hW hz
    · exact va_Nw.warmC hW hz
    · exact va_Nw.warmC hW hz
    · exact va_Nw.warmC hW hz
    · exact va_Nw.warmC hW hz
    · exact va_Nw.warmC hW hz
    · exact va_Nw.warmM hW hz
    · exact va_Nw.warmM hW hz
  rw [hP.2.2.1 q (Nat.lt_of_lt_of_le hq h2) (fun z => absurd z (Nat.not_le.mpr hq))]
  exact h3 q hq
theorem zofW {l : Launch} {y : MethodName} {ws ws' : List Cond} {rm : Room} {Pc : Array Value → State → Prop} {Qc : Array Value → State → Outcome → State → Prop} {mc ms : Nat} {free : Addr → Prop} {cc : ByteArray} {maxL : Nat} {ret : Option FieldType}
    (hy : plainFor y = true) (hw : ws = Cond.code y cc maxL ret :: ws')
    (body : ∀ p e s m args below meth c s₁, BodyLoose p l y (headSpec ws rm) cc maxL ret e s m args below meth c s₁ → c.maxLocals = maxL → Pc args s →
      W p l e (headSpec ws rm).room s m args below meth c s.heap [] 0 0 (MQ below Qc args s mc ms free) (entryFrame m args maxL)) : Met l y ws rm Pc Qc mc ms free := by
  refine MetFree.of_bodySF (code := cc) (maxLocals := maxL) (ret := ret) hy ?_ ?_
  · intro args s m h hn
    obtain ⟨meth, c, h1, h2, h3, h4, h5, h6, -, -⟩ := Cond.code_spec hn (atoms_spec (ws := ws) h _ (by rw [hw]; exact List.mem_cons_self))
    exact ⟨meth, c, h1, h2, h3, h4, h5, h6⟩
  · intro p e s m args below meth c s₁ B hml hP _
    have hh0 : s₁.heap = s.heap := by rw [B.state]; rfl
    obtain ⟨t, a1, o, b1, b2, b3⟩ := body p e s m args below meth c s₁ B hml hP s₁ hh0 (Stand.of_body B)
    exact ⟨t, o, a1, b1, b2, ⟨b3.1, b3.2⟩⟩
theorem zmet {w : zW} {d kc ks : Nat} {y : zY} {As : List Value} {L0 : List (Option Value)} {μ : zM} {Q : Option Value → zM → Prop} (l : Launch) (hG : zGF w) (hy : plainFor y.1 = true) (hl0 : zL0 As y.2.2.1 = L0) (hlen : (zfa As).length ≤ y.2.2.1)
    (h : EV w d kc ks y 0 L0 [] μ Q) : Met l y.1 (zws y) (zrm d kc ks) (zPc w As μ) (zQc w Q) kc ks (zAq w) := by
  subst hl0
  refine zofW (cc := y.2.1) (maxL := y.2.2.1) (ret := y.2.2.2) hy rfl ?_
  intro p e s m args below meth c s₁ B hml hv
  obtain ⟨rfl, hF, hN⟩ := hv
  have hts := atoms_spec (ws := zws y) B.pre
  have hC : zCtx w y p s m ((As.map (zva w)).toArray) meth c := ⟨B.exec, B.bytes, hml, findClass_of_methodNamed B.named, fun v hv => hts v (List.mem_cons_of_mem _ hv), B.returns, B.notSynchronized, (name_of_methodNamed B.named B.method).1, hF⟩
  rw [lg_entry_eq]
  refine h p l e (headSpec (zws y) (zrm d kc ks)).room s m _ below meth c s.heap [] 0 0 _ _ hG hC (zL_entry w hlen) ⟨hN, va_S.rf⟩ (Nat.le_refl _) (Nat.le_refl _) (by rw [Nat.zero_add]; exact Nat.le_refl _) (by rw [Nat.zero_add]; exact Nat.le_refl _) ?_
  intro v μ' H' locs' cells' slots' pc' ls' hQ hR hc hs hret
  rw [Nat.zero_add] at hc hs
  refine W.widen hc hs ?_
  have fin : ∀ t : State, t.heap = H' → zQc w Q ((As.map (zva w)).toArray) s (.returned (v.map (zva w))) t := fun t ht => ⟨⟨v, μ', rfl, hQ, by rw [ht]; exact hR.1⟩, hR.2.F ht⟩
  rcases hret with ⟨x, rfl, hd, ty, ht, hn2⟩ | ⟨x, rfl, hd, ht⟩ | ⟨r, rfl, hr, hd, rt, ht, hrt⟩ | ⟨rfl, hd, ht⟩
  · exact W.zret hC.1 hC.2.1 (hC.2.2.2.2.2.1.trans ht) hn2 (fun t z _ => fin t z) hR.2.2.2 hd hC.2.2.2.2.2.2.1
  · exact W.lret hC.1 hC.2.1 (hC.2.2.2.2.2.1.trans ht) (fun t z _ => fin t z) hR.2.2.2 hd hC.2.2.2.2.2.2.1
  · have hv2 : zva w r = .null ∨ ∃ a, zva w r = .ref a := by
      rcases hr with rfl | ⟨a, rfl⟩
      · exact Or.inl rfl
      · exact Or.inr ⟨_, rfl⟩
    exact W.aret hC.1 hC.2.1 (hC.2.2.2.2.2.1.trans ht) hrt hv2 (fun t z _ => fin t z) hR.2.2.2 hd hC.2.2.2.2.2.2.1
  · exact W.vret hC.1 hC.2.1 (hC.2.2.2.2.2.1.trans ht) (fun t z _ => fin t z) hR.2.2.2 hd hC.2.2.2.2.2.2.1
section EVM
variable {w : zW} {d kc ks : Nat} {y : zY} {pc : Nat} {L : List (Option Value)} {st : List Value} {μ : zM} {Q Q' : Option Value → zM → Prop}
theorem zmap_rest (w : zW) (v : Option Value) (rest : List Value) : (v.map (zva w)).toList ++ rest.map (zva w) = (v.toList ++ rest).map (zva w) := by cases v <;> rfl
theorem ev_run {k1 z1 k2 z2 : Nat} {rest : List Value} {Q1 : Option Value → zM → Prop}
    (Hrun : ∀ (p : Program) (l : Launch) (e : Env) (R : Room) (s : State) (m : MethodId) (args : Array Value) (below : List Frame) (meth : Method) (c : Code) (H : Heap) (locs : List Loc) (cells slots : Nat) (ls : Array Slot),
      zGF w → zCtx w y p s m args meth c → zL w y.2.2.1 ls L → zRp w s μ H locs → d ≤ R.frames → 64 * d ≤ R.locals → cells + k1 ≤ R.cells → slots + z1 ≤ R.slots →
      ∃ a', va_Run p l e R s m args below meth c H locs cells slots k1 z1 (F0 m pc ls (st.map (zva w))) (rest.map (zva w)) (zQc w Q1 a') (zAq w))
    (cont : ∀ v μ', Q1 v μ' → EV w d k2 z2 y (pc + 3) L (v.toList ++ rest) μ' Q) : EV w d (k1 + k2) (z1 + z2) y pc L st μ Q := by
  intro p l e R s m args below meth c H locs cells slots Qf ls hG hC hL hP h1 h2 h3 h4 hQ T hT X
  obtain ⟨a', hr⟩ := Hrun p l e R s m args below meth c H locs cells slots ls hG hC hL hP h1 h2 (by omega) (by omega)
  obtain ⟨v0, st₀, t, T', L', h0, X', hL', e1, e2, ⟨⟨v, μ', hv, q1, n1⟩, hF⟩, stp⟩ := hr T hT X
  have hv' : v0 = v.map (zva w) := by cases hv; rfl
  subst hv'
  have hRp : zRp w s μ' T'.heap (locs ++ L') := by
    refine ⟨by rw [e1]; exact n1, ⟨?_, fun q g1 g2 => ?_, fun q hq => ?_⟩⟩
    · rw [e1]
      exact Nat.le_trans hP.2.1 (by rw [← h0]; exact hF.1)
    · rw [e1, hF.2 q (by rw [h0]; exact Nat.lt_of_lt_of_le g1 hP.2.1) g2, h0]
      exact hP.2.2.1 q g1 g2
    · rcases List.mem_append.mp hq with h | h
      · exact hP.2.2.2 q h
      · exact hL' q h
  obtain ⟨t2, b1, b2⟩ := cont v μ' q1 p l e R s m args below meth c T'.heap (locs ++ L') (cells + k1) (slots + z1) Qf ls hG hC hL hRp h1 h2 (by omega) (by omega)
    (fun v μ' H' locs' cells' slots' pc' ls' q r a b ret => hQ v μ' H' locs' cells' slots' pc' ls' q r (by omega) (by omega) ret) T' rfl X'
  rw [← zmap_rest] at b1
  exact ⟨t2, stp t2 b1, b2⟩
/-- a method that may be called: its code is the tables' -/
def zMeth (y : zY) (n : Nat) : Prop := Cond.code y.1 y.2.1 y.2.2.1 y.2.2.2 ∈ zGT ∧ Cond.initialized y.1.cls ∈ zGT ∧ plainFor y.1 = true ∧ (y.1.cls ≠ "java/lang/invoke/MethodHandle" ∧ y.1.cls ≠ "java/lang/invoke/VarHandle") ∧ (parseMethodDescriptor y.1.desc).map (fun d => d.parameters.length) = some n ∧ y.2.2.1 ≤ 45
theorem zMeth.len {y : zY} {n : Nat} (h : zMeth y n) : ∀ sig, parseMethodDescriptor y.1.desc = some sig → n = sig.parameters.length := fun sig hs => by
  have h2 := h.2.2.2.2.1
  rw [hs] at h2
  exact (Option.some.inj h2).symm
theorem zws_good {y : zY} {n : Nat} (h : zMeth y n) : GoodIn zGT (zws y) := fun v hv => by
  rcases List.mem_cons.mp hv with e | e
  · rw [e]
    exact zGT_good _ h.1
  · exact zGT_good v e
theorem zws_pay {w : zW} {y y' : zY} {n : Nat} {p : Program} {s : State} {m : MethodId} {args : Array Value} {meth : Method} {c : Code} (h : zMeth y' n) (hC : zCtx w y p s m args meth c) : ∀ v ∈ zws y', ∀ (a' : Array Value) (U : State), s.WarmedH U.vm → v.before a' U = true :=
  fun v hv _ _ hW => word_at hW (zws_good h v hv).2 (hC.word (zws_good h v hv).1)
theorem zroom {d d' k1 z1 : Nat} {y' : zY} {n : Nat} {R : Room} (h : zMeth y' n) (hd : d' + 1 ≤ d) (h1 : d ≤ R.frames) (h2 : 64 * d ≤ R.locals) : (zrm d' k1 z1).frames + 1 ≤ R.frames ∧ 8 + (y'.2.2.1 + 11) + (zrm d' k1 z1).locals ≤ R.locals := by
  have := h.2.2.2.2.2
  show d' + 1 ≤ R.frames ∧ 8 + (y'.2.2.1 + 11) + 64 * d' ≤ R.locals
  omega
theorem zrest (w : zW) {m : MethodId} {ls : Array Slot} {st rest : List Value} (h : (rest.map fun v => v.category).sum ≤ 8) : 2 * (F0 m pc ls (st.map (zva w))).monitorRoom + ((rest.map (zva w)).map fun v => v.category).sum ≤ 8 := by
  have e : ((rest.map (zva w)).map fun v => v.category) = rest.map fun v => v.category := by
    rw [List.map_map]
    exact List.map_congr_left fun v _ => zva_cat w v
  rw [e]
  exact lv_room (m := m) (pc := pc) (ls := ls) (rest := st.map (zva w)) h
theorem zPc_of {w : zW} {y : zY} {p : Program} {s : State} {m : MethodId} {args : Array Value} {meth : Method} {c : Code} {H : Heap} {locs : List Loc} {As : List Value} (hC : zCtx w y p s m args meth c) (hP : zRp w s μ H locs) : ∀ U : State, U.heap = H → s.WarmedH U.vm → zPc w As μ (As.map (zva w)).toArray U := by
  intro U hU hW
  subst hU
  exact ⟨rfl, hC.fr.warm hP hW, hP.1⟩
/-- a static method, of any class -/
theorem ev_callS {k1 z1 k2 z2 d' idx n : Nat} {y' : zY} {As rest : List Value} {L0 : List (Option Value)} {Q1 : Option Value → zM → Prop} (hd : decode y.2.1 pc = .ok (.invokestatic idx, 3)) (hm : zMeth y' n) (hl : Cond.methodLink y.1.cls idx y'.1 ∈ zGT) (hs : Cond.static y'.1 ∈ zGT)
    (hst : st = As.reverse ++ rest) (hn : As.length = n) (hr : (rest.map fun v => v.category).sum ≤ 8) (hl0 : zL0 As y'.2.2.1 = L0) (hlen : (zfa As).length ≤ y'.2.2.1) (hdd : d' + 1 ≤ d)
    (h : EV w d' k1 z1 y' 0 L0 [] μ Q1) (cont : ∀ v μ', Q1 v μ' → EV w d k2 z2 y (pc + 3) L (v.toList ++ rest) μ' Q) : EV w d (k1 + k2) (z1 + z2) y pc L st μ Q := by
  refine ev_run (rest := rest) (fun p l e R s m args below meth c H locs cells slots ls hG hC hL hP h1 h2 h3 h4 => ⟨(As.map (zva w)).toArray, ?_⟩) cont
  have hts := hC.2.2.2.2.1
  have hcw : CallB R s args y.1.cls idx y'.1 y'.2.1 y'.2.2.1 y'.2.2.2 (zws y') (zrm d' k1 z1) k1 z1 n := ⟨rfl, rfl, (zroom (k1 := k1) (z1 := z1) hm hdd h1 h2).1, (zroom (k1 := k1) (z1 := z1) hm hdd h1 h2).2, zws_pay hm hC, List.mem_cons_self, hC.word hm.1, hC.word hm.2.1, hm.2.2.2.1, hm.len, hC.word hl⟩
  exact va_runS (As := As.map (zva w)) ⟨hC.1, hC.2.1, hC.2.2.1, hC.2.2.2.1, hts⟩ (zmet l hG hm.2.2.1 hl0 hlen h) ⟨hcw, hC.word hs⟩ ⟨zPc.blind w As μ, zPc_of hC hP⟩ rfl (by rw [List.length_map]; exact hn) hL.1 (by show st.map (zva w) = _; rw [hst, List.map_append, List.map_reverse]) (zrest w hr) hd ⟨h3, h4⟩
/-- the receiver's class is C -/
def zRc (w : zW) (μ : zM) (b : Nat) (C : String) : Prop := ∃ c : Nat, c < 14 ∧ C = zRf c ∧ zHas μ.1 μ.2.1 b (16 + c)
theorem zRc.cell {w : zW} {μ : zM} {b : Nat} {C : String} {s : State} {H : Heap} {locs : List Loc} (h : zRc w μ b C) (hG : zGF w) (hF : zFr w s) (hP : zRp w s μ H locs) : ∃ cellB : Cell, H[zad w b]? = some cellB ∧ cellB.vm.isStatics = false ∧ s.vm.findClass C = some cellB.cls := by
  obtain ⟨c, hc, rfl, ha⟩ := h
  have he := zWs_at w (μ := μ) ha.1 ha.2.1
  rw [zE_obj ha.2.2] at he
  exact va_recv (zKs hG hF) (hP.p ha.2.1) (zcl_at c hc) he
/-- the same, said of the machine: old objects, too -/
def zRcv (w : zW) (μ : zM) (b : Nat) (C : String) : Prop := ∀ (s : State) (H : Heap) (locs : List Loc), zGF w → zFr w s → zRp w s μ H locs → ∃ cellB : Cell, H[zad w b]? = some cellB ∧ cellB.vm.isStatics = false ∧ s.vm.findClass C = some cellB.cls
theorem zRc.rcv {w : zW} {μ : zM} {b : Nat} {C : String} (h : zRc w μ b C) : zRcv w μ b C := fun _ _ _ hG hF hP => h.cell hG hF hP
/-- a method of the receiver's own class -/
theorem ev_callV {k1 z1 k2 z2 d' idx n b : Nat} {y' : zY} {As rest : List Value} {L0 : List (Option Value)} {Q1 : Option Value → zM → Prop} (hd : decode y.2.1 pc = .ok (.invokevirtual idx, 3)) (hm : zMeth y' n) (hl : Cond.methodLink y.1.cls idx y'.1 ∈ zGT) (hi : Cond.instanceMethod y'.1 ∈ zGT) (hse : Cond.selects y'.1.cls y'.1 y'.1 ∈ zGT)
    (hb : zRcv w μ b y'.1.cls) (hst : st = As.reverse ++ .ref b :: rest) (hn : As.length = n) (hr : (rest.map fun v => v.category).sum ≤ 8) (hl0 : zL0 (.ref b :: As) y'.2.2.1 = L0) (hlen : (zfa (.ref b :: As)).length ≤ y'.2.2.1) (hdd : d' + 1 ≤ d)
    (h : EV w d' k1 z1 y' 0 L0 [] μ Q1) (cont : ∀ v μ', Q1 v μ' → EV w d k2 z2 y (pc + 3) L (v.toList ++ rest) μ' Q) : EV w d (k1 + k2) (z1 + z2) y pc L st μ Q := by
  refine ev_run (rest := rest) (fun p l e R s m args below meth c H locs cells slots ls hG hC hL hP h1 h2 h3 h4 => ⟨(Value.ref (zad w b) :: As.map (zva w)).toArray, ?_⟩) cont
  have hts := hC.2.2.2.2.1
  have hcw : CallB R s args y.1.cls idx y'.1 y'.2.1 y'.2.2.1 y'.2.2.2 (zws y') (zrm d' k1 z1) k1 z1 n := ⟨rfl, rfl, (zroom (k1 := k1) (z1 := z1) hm hdd h1 h2).1, (zroom (k1 := k1) (z1 := z1) hm hdd h1 h2).2, zws_pay hm hC, List.mem_cons_self, hC.word hm.1, hC.word hm.2.1, hm.2.2.2.1, hm.len, hC.word hl⟩
  exact va_runV (As := As.map (zva w)) (b := zad w b) (C := y'.1.cls) ⟨hC.1, hC.2.1, hC.2.2.1, hC.2.2.2.1, hts⟩ (zmet l hG hm.2.2.1 hl0 hlen h) ⟨hcw, hC.word hi, hC.word hse⟩ ⟨zPc.blind w (.ref b :: As) μ, hb s H locs hG hC.fr hP, zPc_of (As := .ref b :: As) hC hP⟩ rfl (by rw [List.length_map]; exact hn) hL.1 (by show st.map (zva w) = _; rw [hst, List.map_append, List.map_reverse]; rfl) (zrest w hr) hd ⟨h3, h4⟩
/-- a method chosen by the receiver's class C: x is named, y' runs -/
theorem ev_callU {k1 z1 k2 z2 d' idx n b m0 : Nat} {x : MethodName} {y' : zY} {C owner : String} {b0 : ByteArray} {r0 : Option FieldType} {As rest : List Value} {L0 : List (Option Value)} {Q1 : Option Value → zM → Prop} (hd : decode y.2.1 pc = .ok (.invokevirtual idx, 3)) (hm : zMeth y' n) (hl : Cond.methodLink y.1.cls idx x ∈ zGT) (hsm : Cond.sameMethod x.cls owner x.name x.desc ∈ zGT)
    (hio : Cond.instanceMethod ⟨owner, x.name, x.desc⟩ ∈ zGT) (hco : Cond.code ⟨owner, x.name, x.desc⟩ b0 m0 r0 ∈ zGT) (hse : Cond.selects C x y'.1 ∈ zGT) (hi : Cond.instanceMethod y'.1 ∈ zGT) (how : owner ≠ "java/lang/invoke/MethodHandle" ∧ owner ≠ "java/lang/invoke/VarHandle") (hxd : x.desc = y'.1.desc)
    (hb : zRcv w μ b C) (hst : st = As.reverse ++ .ref b :: rest) (hn : As.length = n) (hr : (rest.map fun v => v.category).sum ≤ 8) (hl0 : zL0 (.ref b :: As) y'.2.2.1 = L0) (hlen : (zfa (.ref b :: As)).length ≤ y'.2.2.1) (hdd : d' + 1 ≤ d)
    (h : EV w d' k1 z1 y' 0 L0 [] μ Q1) (cont : ∀ v μ', Q1 v μ' → EV w d k2 z2 y (pc + 3) L (v.toList ++ rest) μ' Q) : EV w d (k1 + k2) (z1 + z2) y pc L st μ Q := by
  refine ev_run (rest := rest) (fun p l e R s m args below meth c H locs cells slots ls hG hC hL hP h1 h2 h3 h4 => ⟨(Value.ref (zad w b) :: As.map (zva w)).toArray, ?_⟩) cont
  have hts := hC.2.2.2.2.1
  have hcw : va_CU R s args y.1.cls C owner idx x y'.1 y'.2.1 y'.2.2.1 y'.2.2.2 (zws y') (zrm d' k1 z1) k1 z1 n := ⟨⟨rfl, rfl, (zroom (k1 := k1) (z1 := z1) hm hdd h1 h2).1, (zroom (k1 := k1) (z1 := z1) hm hdd h1 h2).2, zws_pay hm hC, List.mem_cons_self⟩, hC.word hm.1, hC.word hm.2.1, how, by rw [hxd]; exact hm.len, hC.word hl, hC.word hsm, va_Decl.of (hC.word hio) (hC.word hco), hC.word hse, hC.word hi⟩
  exact va_runU (As := As.map (zva w)) (b := zad w b) ⟨hC.1, hC.2.1, hC.2.2.1, hC.2.2.2.1, hts⟩ (zmet l hG hm.2.2.1 hl0 hlen h) hcw ⟨zPc.blind w (.ref b :: As) μ, hb s H locs hG hC.fr hP, zPc_of (As := .ref b :: As) hC hP⟩ rfl (by rw [List.length_map]; exact hn) hL.1 (by show st.map (zva w) = _; rw [hst, List.map_append, List.map_reverse]; rfl) (zrest w hr) hd ⟨h3, h4⟩
/-- a constructor -/
theorem ev_callI {k1 z1 k2 z2 d' idx n b : Nat} {y' : zY} {As rest : List Value} {L0 : List (Option Value)} {Q1 : Option Value → zM → Prop} (hd : decode y.2.1 pc = .ok (.invokespecial idx, 3)) (hm : zMeth y' n) (hl : Cond.methodLink y.1.cls idx y'.1 ∈ zGT) (hi : Cond.instanceMethod y'.1 ∈ zGT) (hini : y'.1.name = "<init>") (hre : y'.2.2.2 = none)
    (hst : st = As.reverse ++ .ref b :: rest) (hn : As.length = n) (hr : (rest.map fun v => v.category).sum ≤ 8) (hl0 : zL0 (.ref b :: As) y'.2.2.1 = L0) (hlen : (zfa (.ref b :: As)).length ≤ y'.2.2.1) (hdd : d' + 1 ≤ d)
    (h : EV w d' k1 z1 y' 0 L0 [] μ Q1) (cont : ∀ v μ', Q1 v μ' → EV w d k2 z2 y (pc + 3) L (v.toList ++ rest) μ' Q) : EV w d (k1 + k2) (z1 + z2) y pc L st μ Q := by
  refine ev_run (rest := rest) (fun p l e R s m args below meth c H locs cells slots ls hG hC hL hP h1 h2 h3 h4 => ⟨(Value.ref (zad w b) :: As.map (zva w)).toArray, ?_⟩) cont
  have hts := hC.2.2.2.2.1
  have hcw : CallB R s args y.1.cls idx y'.1 y'.2.1 y'.2.2.1 none (zws y') (zrm d' k1 z1) k1 z1 n := ⟨rfl, rfl, (zroom (k1 := k1) (z1 := z1) hm hdd h1 h2).1, (zroom (k1 := k1) (z1 := z1) hm hdd h1 h2).2, zws_pay hm hC, by rw [← hre]; exact List.mem_cons_self, by rw [← hre]; exact hC.word hm.1, hC.word hm.2.1, hm.2.2.2.1, hm.len, hC.word hl⟩
  exact va_runI (As := As.map (zva w)) (b := zad w b) ⟨hC.1, hC.2.1, hC.2.2.1, hC.2.2.2.1, hts⟩ (zmet l hG hm.2.2.1 hl0 hlen h) ⟨hcw, hini, hC.word hi⟩ ⟨zPc.blind w (.ref b :: As) μ, zPc_of (As := .ref b :: As) hC hP⟩ rfl (by rw [List.length_map]; exact hn) hL.1 (by show st.map (zva w) = _; rw [hst, List.map_append, List.map_reverse]; rfl) (zrest w hr) hd ⟨h3, h4⟩
/-- super.f(..) -/
theorem ev_callP {k1 z1 k2 z2 d' idx n b : Nat} {y' : zY} {C : String} {As rest : List Value} {L0 : List (Option Value)} {Q1 : Option Value → zM → Prop} (hd : decode y.2.1 pc = .ok (.invokespecial idx, 3)) (hm : zMeth y' n) (hl : Cond.methodLink y.1.cls idx y'.1 ∈ zGT) (hsm : Cond.sameMethod y'.1.cls y'.1.cls y'.1.name y'.1.desc ∈ zGT) (hsu : Cond.superclass y.1.cls y'.1.cls ∈ zGT) (hi : Cond.instanceMethod y'.1 ∈ zGT) (hini : y'.1.name ≠ "<init>")
    (hb : zRc w μ b C) (hst : st = As.reverse ++ .ref b :: rest) (hn : As.length = n) (hr : (rest.map fun v => v.category).sum ≤ 8) (hl0 : zL0 (.ref b :: As) y'.2.2.1 = L0) (hlen : (zfa (.ref b :: As)).length ≤ y'.2.2.1) (hdd : d' + 1 ≤ d)
    (h : EV w d' k1 z1 y' 0 L0 [] μ Q1) (cont : ∀ v μ', Q1 v μ' → EV w d k2 z2 y (pc + 3) L (v.toList ++ rest) μ' Q) : EV w d (k1 + k2) (z1 + z2) y pc L st μ Q := by
  refine ev_run (rest := rest) (fun p l e R s m args below meth c H locs cells slots ls hG hC hL hP h1 h2 h3 h4 => ⟨(Value.ref (zad w b) :: As.map (zva w)).toArray, ?_⟩) cont
  have hts := hC.2.2.2.2.1
  have hcw : va_CS R s args y.1.cls idx y'.1 y'.2.1 y'.2.2.1 y'.2.2.2 (zws y') (zrm d' k1 z1) k1 z1 n := ⟨⟨rfl, rfl, (zroom (k1 := k1) (z1 := z1) hm hdd h1 h2).1, (zroom (k1 := k1) (z1 := z1) hm hdd h1 h2).2, zws_pay hm hC, List.mem_cons_self⟩, hC.word hl, hC.word hsm, hC.word hsu, hC.word hi, hC.word hm.2.1, hC.word hm.1, hini, hm.len⟩
  have hb2 := hb
  obtain ⟨c, hc, rfl, ha⟩ := hb2
  exact va_runSU (As := As.map (zva w)) (b := zad w b) (cC := (zD w).1 c) ((zKs hG hC.fr).1 c _ (zcl_at c hc)).2 ⟨hC.1, hC.2.1, hC.2.2.1, hC.2.2.2.1, hts⟩ (zmet l hG hm.2.2.1 hl0 hlen h) hcw ⟨zPc.blind w (.ref b :: As) μ, hb.cell hG hC.fr hP, zPc_of (As := .ref b :: As) hC hP⟩ rfl (by rw [List.length_map]; exact hn) hL.1 (by show st.map (zva w) = _; rw [hst, List.map_append, List.map_reverse]; rfl) (zrest w hr) hd ⟨h3, h4⟩
end EVM
end
section
/-! new cells; old arrays; texts; the machine's own functions -/
theorem zAO2.moved {u U : State} (hvm : u.vm.Alike U.vm) (h : zAO2 u) : zAO2 U := Jvm.Stand.arrayOver_alikeB hvm h
/-- a new row of ints with these numbers -/
def zNA (μ : zM) (N : Nat) (f : Nat → Int32) : zM := zA (zN μ (0, N)) (zn μ) f
theorem zk_zN {μ : zM} {kd : Nat × Nat} : zk (zN μ kd) (zn μ) = kd := if_pos rfl
theorem zk_zN_ne {μ : zM} {kd : Nat × Nat} {b : Nat} (h : b ≠ zn μ) : zk (zN μ kd) b = zk μ b := if_neg h
theorem zi_zN {μ : zM} {kd : Nat × Nat} : zi (zN μ kd) (zn μ) = fun _ => 0 := if_pos rfl
theorem zi_zN_ne {μ : zM} {kd : Nat × Nat} {b : Nat} (h : b ≠ zn μ) : zi (zN μ kd) b = zi μ b := if_neg h
theorem zr_zN {μ : zM} {kd : Nat × Nat} : zr (zN μ kd) (zn μ) = fun _ => none := if_pos rfl
theorem zr_zN_ne {μ : zM} {kd : Nat × Nat} {b : Nat} (h : b ≠ zn μ) : zr (zN μ kd) b = zr μ b := if_neg h
theorem zE_zN {w : zW} {μ : zM} {kd : Nat × Nat} {b : Nat} (h : b ≠ zn μ) : zE w (zN μ kd) b = zE w μ b := by
  have e1 : zi (zN μ kd) b = zi μ b := zi_zN_ne h
  have e2 : zk (zN μ kd) b = zk μ b := zk_zN_ne h
  have e3 : zr (zN μ kd) b = zr μ b := zr_zN_ne h
  unfold zE zv zrr
  rw [e1, e2, e3]
theorem zE_zNA {w : zW} {μ : zM} {N : Nat} {f : Nat → Int32} {b : Nat} (h : b ≠ zn μ) : zE w (zNA μ N f) b = zE w μ b := (zE_zA h).trans (zE_zN h)
theorem zE_zNA_new {w : zW} {μ : zM} {N : Nat} {f : Nat → Int32} : zE w (zNA μ N f) (zn μ) = .inl (zcA w 0, N, .inl f) := by
  have e : zk (zNA μ N f) (zn μ) = (0, N) := zk_zN (kd := (0, N))
  rw [zE_int (by rw [e]), e, show zi (zNA μ N f) (zn μ) = f from zi_zA]
theorem zcls_int {w : zW} {s : State} (hG : zGF w) (hF : zFr w s) {cA : ClassId} (h : s.vm.findClass ("[" ++ FieldType.int.toString) = some cA) : cA = zcA w 0 := by
  have h1 := ((zKs hG hF).2 0 _ rfl).2
  have h2 : s.vm.findClass ("[" ++ FieldType.int.toString) = some (zcA w 0) := h1
  exact Option.some.inj (h.symm.trans h2)
theorem zcls_byt {w : zW} {s : State} (hG : zGF w) (hF : zFr w s) {cA : ClassId} (h : s.vm.findClass ("[" ++ FieldType.byte.toString) = some cA) : cA = zcA w 6 := by
  have h1 := ((zKs hG hF).2 6 _ rfl).2
  have h2 : s.vm.findClass ("[" ++ FieldType.byte.toString) = some (zcA w 6) := h1
  exact Option.some.inj (h.symm.trans h2)
theorem zcls_lng {w : zW} {s : State} (hG : zGF w) (hF : zFr w s) {cA : ClassId} (h : s.vm.findClass ("[" ++ FieldType.long.toString) = some cA) : cA = zcA w 7 := by
  have h1 := ((zKs hG hF).2 7 _ rfl).2
  have h2 : s.vm.findClass ("[" ++ FieldType.long.toString) = some (zcA w 7) := h1
  exact Option.some.inj (h.symm.trans h2)
theorem zdef : ∀ c, c < 14 → ∀ k, k < zNf c → defaultValue (zty c k) = if zfl c k = true then Value.null else .int 0 := by decide +kernel
section ZCP
variable {p : Program} {l : Launch} {e : Env} {R : Room} {s : State} {m : MethodId} {args : Array Value} {below : List Frame} {meth : Method} {c : Code} {H : Heap} {locs : List Loc} {cells slots : Nat} {Q : State → Prop}
variable {pc : Nat} {ls : Array Slot} {rest : List Value} {D : va_G} {cl : List vw_C} {A : Nat → Prop} {a : Nat} {tys : List (ClassId × FieldType)} {ws : va_W} {H0 : Heap}
theorem zcopy_row {cc : ByteArray} (hexec : p.tables.exec = Jvm.exec) (hb : c.code = cc) (hml : c.maxLocals = ls.size) {own : String} {index : Nat} (hown : s.vm.findClass own = some m.cls) (hlink : (Cond.methodLink own index arraycopyName).before args s = true) (hnat : (Cond.native arraycopyName).before args s = true) (hstat : (Cond.static arraycopyName).before args s = true) (hini : (Cond.initialized "java/lang/System").before args s = true)
    (hK : va_K D cl tys s) (hP : va_P D cl ws H) (hD : va_D A ws) (hS : va_S A H0 H locs) (q0 q1 t0 t1 : Nat) {a0 : Nat} {c0 c1 : ClassId} {n0 n1 : Nat} {f g : Nat → Int32} {ty : FieldType} (ha0 : ws[q0]? = some (a0, .inl (c0, n0, .inl f))) (ha1 : ws[q1]? = some (a, .inl (c1, n1, .inl g))) (ht0 : tys[t0]? = some (c0, ty)) (ht1 : tys[t1]? = some (c1, ty)) (hprim : refKind ty = false)
    {sp dp n : Int32} (h1 : ¬ sp < 0) (h2 : ¬ dp < 0) (h3 : ¬ n < 0) (h4 : sp.toNatClampNeg + n.toNatClampNeg ≤ n0) (h5 : dp.toNatClampNeg + n.toNatClampNeg ≤ n1) (hfit : ∀ i, i < n.toNatClampNeg → fits ty (.int (f (sp.toNatClampNeg + i))) = true)
    (hframes : 1 ≤ R.frames) (hlocals : (rest.map fun v => v.category).sum + (nativeFrameWords "java/lang/System" "arraycopy" 5 + 11) ≤ R.locals) (hdg : decode cc pc = .ok (.invokestatic index, 3))
    (kk : ∀ (H1 : Heap) (locs1 : List Loc), H1.size = H.size → va_P D cl (ws.set q1 (a, .inl (c1, n1, .inl (va_cpy f g sp.toNatClampNeg dp.toNatClampNeg n.toNatClampNeg)))) H1 → va_D A (ws.set q1 (a, .inl (c1, n1, .inl (va_cpy f g sp.toNatClampNeg dp.toNatClampNeg n.toNatClampNeg)))) → va_S A H0 H1 locs1 → W p l e R s m args below meth c H1 locs1 cells slots Q (F0 m (pc + 3) ls rest)) : W p l e R s m args below meth c H locs cells slots Q (F0 m pc ls (.int n :: .int dp :: .ref a :: .int sp :: .ref a0 :: rest)) := by
  have nn : ∀ z : Int32, ¬ z < 0 → z.toInt = (z.toNatClampNeg : Int) := by
    intro z hz
    have hz0 : (0 : Int) ≤ z.toInt := by
      have := Int32.not_lt.mp hz
      simpa using Int32.le_iff_toInt_le.mp this
    show z.toInt = ((z.toInt.toNat : Nat) : Int)
    omega
  intro T hT X
  have hc0 : H[a0]? = some (vp_cell c0 (n0, .inl f)) := hP q0 _ ha0
  have hc1 : H[a]? = some (vp_cell c1 (n1, .inl g)) := hP q1 _ ha1
  obtain ⟨-, k0, hk0, cm0, hkk0⟩ := (hK.2 t0 _ ht0).1 n0 (fun j => .int (f j))
  obtain ⟨-, k1, hk1, cm1, hkk1⟩ := (hK.2 t1 _ ht1).1 n1 (fun j => .int (g j))
  obtain ⟨vm', X', step⟩ := X.arraycopy hexec hown hlink hnat hstat hini (src := a0) (dst := a) (cs := vp_cell c0 (n0, .inl f)) (cd := vp_cell c1 (n1, .inl g)) (srcPos := sp) (destPos := dp) (n := n) (by rw [hT]; exact hc0) (by rw [hT]; exact hc1)
    (fun _ h => by cases h) (fun _ h => by cases h) (fun h => by cases h) (fun h => by cases h) hk0 hk1 hkk0 hkk1 (by simp [hprim]) h1 h2 h3
    (by rw [nn sp h1, nn n h3]; show ¬ _ > ((arrV c0 n0 (fun j => .int (f j))).slots.size : Int); rw [arrV_size]; omega)
    (by rw [nn dp h2, nn n h3]; show ¬ _ > ((arrV c1 n1 (fun j => .int (g j))).slots.size : Int); rw [arrV_size]; omega)
    (fun vm₁ _ i hi => by
      have e : (vp_cell c0 (n0, .inl f)).slots.getD (sp.toNatClampNeg + i) .null = .int (f (sp.toNatClampNeg + i)) := by
        show (arrV c0 n0 (fun j => .int (f j))).slots.getD _ _ = _
        rw [Array.getD_eq_getD_getElem?, arrV_read _ _ (by omega)]
        rfl
      refine ⟨?_, ?_⟩
      · rw [e]
        exact hfit i hi
      · rw [e]
        exact trivial)
    (g := F0 m pc ls (.int n :: .int dp :: .ref a :: .int sp :: .ref a0 :: rest)) rfl (by rw [hml]) (rest := rest) rfl (by rw [hb]; exact hdg) hframes (by show 2 * 0 + _ + _ ≤ _; omega)
  have e1 : copied (vp_cell c0 (n0, .inl f)) (vp_cell c1 (n1, .inl g)) sp dp n = vp_cell c1 (n1, .inl (va_cpy f g sp.toNatClampNeg dp.toNatClampNeg n.toNatClampNeg)) := va_copied (fun z => .int z) c0 c1 f g h4
  rw [e1] at X' step
  have hl : a < H.size := (Array.getElem?_eq_some_iff.mp hc1).1
  have hheap : ((T.setVm vm').setCell a (vp_cell c1 (n1, .inl (va_cpy f g sp.toNatClampNeg dp.toNatClampNeg n.toNatClampNeg)))).heap = H.setIfInBounds a (vp_cell c1 (n1, .inl (va_cpy f g sp.toNatClampNeg dp.toNatClampNeg n.toNatClampNeg))) := by rw [← hT]; rfl
  have oq : ∀ q : Nat, q ≠ a → (H.setIfInBounds a (vp_cell c1 (n1, .inl (va_cpy f g sp.toNatClampNeg dp.toNatClampNeg n.toNatClampNeg))))[q]? = H[q]? := fun q hq => by simp [Array.getElem?_setIfInBounds, Ne.symm hq]
  obtain ⟨t, a1, b1⟩ := kk _ _ (by simp) (hP.set hD ha1 (show (H.setIfInBounds a _)[a]? = some _ by simp [Array.getElem?_setIfInBounds, hl]) oq) (hD.set ha1) ⟨by simp; exact hS.1, fun q g1 g2 => by
      rw [oq q (fun e => g2 (by rw [e]; exact hD.2 q1 _ ha1))]
      exact hS.2.1 q g1 g2, fun q hq => by
      rcases List.mem_append.mp hq with h | h
      · exact hS.2.2 q h
      · obtain ⟨z, -, hz⟩ := List.mem_map.mp h
        rw [← hz]
        exact hD.2 q1 _ ha1⟩ _ hheap X'
  exact ⟨t, step t a1, b1⟩
theorem zcopy_x {cc : ByteArray} (hexec : p.tables.exec = Jvm.exec) (hb : c.code = cc) (hml : c.maxLocals = ls.size) {own : String} {index : Nat} (hown : s.vm.findClass own = some m.cls) (hlink : (Cond.methodLink own index arraycopyName).before args s = true) (hnat : (Cond.native arraycopyName).before args s = true) (hstat : (Cond.static arraycopyName).before args s = true) (hini : (Cond.initialized "java/lang/System").before args s = true)
    (hK : va_K D cl tys s) (hP : va_P D cl ws H) (hD : va_D A ws) (hS : va_S A H0 H locs) (q1 t1 : Nat) {a0 : Nat} {cs : Cell} {c1 : ClassId} {n0 n1 : Nat} {f g : Nat → Int32} {ty : FieldType} (hc0 : H[a0]? = some cs) (harr : s.isArrayOf cs ty) (hkn : cs.vm ≠ .unknown) (hsz : n0 ≤ cs.slots.size) (hsl : ∀ j, j < n0 → cs.slots[j]? = some (.int (f j))) (ha1 : ws[q1]? = some (a, .inl (c1, n1, .inl g))) (ht1 : tys[t1]? = some (c1, ty)) (hprim : refKind ty = false)
    {sp dp n : Int32} (h1 : ¬ sp < 0) (h2 : ¬ dp < 0) (h3 : ¬ n < 0) (h4 : sp.toNatClampNeg + n.toNatClampNeg ≤ n0) (h5 : dp.toNatClampNeg + n.toNatClampNeg ≤ n1) (hfit : ∀ i, i < n.toNatClampNeg → fits ty (.int (f (sp.toNatClampNeg + i))) = true)
    (hframes : 1 ≤ R.frames) (hlocals : (rest.map fun v => v.category).sum + (nativeFrameWords "java/lang/System" "arraycopy" 5 + 11) ≤ R.locals) (hdg : decode cc pc = .ok (.invokestatic index, 3))
    (kk : ∀ (H1 : Heap) (locs1 : List Loc), H1.size = H.size → va_P D cl (ws.set q1 (a, .inl (c1, n1, .inl (va_cpy f g sp.toNatClampNeg dp.toNatClampNeg n.toNatClampNeg)))) H1 → va_D A (ws.set q1 (a, .inl (c1, n1, .inl (va_cpy f g sp.toNatClampNeg dp.toNatClampNeg n.toNatClampNeg)))) → va_S A H0 H1 locs1 → W p l e R s m args below meth c H1 locs1 cells slots Q (F0 m (pc + 3) ls rest)) : W p l e R s m args below meth c H locs cells slots Q (F0 m pc ls (.int n :: .int dp :: .ref a :: .int sp :: .ref a0 :: rest)) := by
  have nn : ∀ z : Int32, ¬ z < 0 → z.toInt = (z.toNatClampNeg : Int) := by
    intro z hz
    have hz0 : (0 : Int) ≤ z.toInt := by
      have := Int32.not_lt.mp hz
      simpa using Int32.le_iff_toInt_le.mp this
    show z.toInt = ((z.toInt.toNat : Nat) : Int)
    omega
  intro T hT X
  have hc1 : H[a]? = some (vp_cell c1 (n1, .inl g)) := hP q1 _ ha1
  obtain ⟨hst0, k0, hk0, cm0, hkk0⟩ := harr
  obtain ⟨-, k1, hk1, cm1, hkk1⟩ := (hK.2 t1 _ ht1).1 n1 (fun j => .int (g j))
  obtain ⟨vm', X', step⟩ := X.arraycopy hexec hown hlink hnat hstat hini (src := a0) (dst := a) (cs := cs) (cd := vp_cell c1 (n1, .inl g)) (srcPos := sp) (destPos := dp) (n := n) (by rw [hT]; exact hc0) (by rw [hT]; exact hc1)
    hst0 (fun _ h => by cases h) hkn (fun h => by cases h) hk0 hk1 hkk0 hkk1 (by simp [hprim]) h1 h2 h3
    (by rw [nn sp h1, nn n h3]; omega)
    (by rw [nn dp h2, nn n h3]; show ¬ _ > ((arrV c1 n1 (fun j => .int (g j))).slots.size : Int); rw [arrV_size]; omega)
    (fun vm₁ _ i hi => by
      have e : cs.slots.getD (sp.toNatClampNeg + i) .null = .int (f (sp.toNatClampNeg + i)) := by
        rw [Array.getD_eq_getD_getElem?, hsl _ (by omega)]
        rfl
      refine ⟨?_, ?_⟩
      · rw [e]
        exact hfit i hi
      · rw [e]
        exact trivial)
    (g := F0 m pc ls (.int n :: .int dp :: .ref a :: .int sp :: .ref a0 :: rest)) rfl (by rw [hml]) (rest := rest) rfl (by rw [hb]; exact hdg) hframes (by show 2 * 0 + _ + _ ≤ _; omega)
  have e1 : copied cs (vp_cell c1 (n1, .inl g)) sp dp n = vp_cell c1 (n1, .inl (va_cpy f g sp.toNatClampNeg dp.toNatClampNeg n.toNatClampNeg)) := va_copiedX (fun z => .int z) cs c1 f g hsl h4
  rw [e1] at X' step
  have hl : a < H.size := (Array.getElem?_eq_some_iff.mp hc1).1
  have hheap : ((T.setVm vm').setCell a (vp_cell c1 (n1, .inl (va_cpy f g sp.toNatClampNeg dp.toNatClampNeg n.toNatClampNeg)))).heap = H.setIfInBounds a (vp_cell c1 (n1, .inl (va_cpy f g sp.toNatClampNeg dp.toNatClampNeg n.toNatClampNeg))) := by rw [← hT]; rfl
  have oq : ∀ q : Nat, q ≠ a → (H.setIfInBounds a (vp_cell c1 (n1, .inl (va_cpy f g sp.toNatClampNeg dp.toNatClampNeg n.toNatClampNeg))))[q]? = H[q]? := fun q hq => by simp [Array.getElem?_setIfInBounds, Ne.symm hq]
  obtain ⟨t, a1, b1⟩ := kk _ _ (by simp) (hP.set hD ha1 (show (H.setIfInBounds a _)[a]? = some _ by simp [Array.getElem?_setIfInBounds, hl]) oq) (hD.set ha1) ⟨by simp; exact hS.1, fun q g1 g2 => by
      rw [oq q (fun e => g2 (by rw [e]; exact hD.2 q1 _ ha1))]
      exact hS.2.1 q g1 g2, fun q hq => by
      rcases List.mem_append.mp hq with h | h
      · exact hS.2.2 q h
      · obtain ⟨z, -, hz⟩ := List.mem_map.mp h
        rw [← hz]
        exact hD.2 q1 _ ha1⟩ _ hheap X'
  exact ⟨t, step t a1, b1⟩
end ZCP
section EVA
variable {w : zW} {d kc ks : Nat} {y : zY} {pc : Nat} {L : List (Option Value)} {st : List Value} {μ : zM} {Q Q' : Option Value → zM → Prop}
theorem ev_new {idx c : Nat} (hd : decode y.2.1 pc = .ok (.new idx, 3)) (hc : c < 14) (hcl : Cond.classLink y.1.cls idx (zRf c) ∈ zGT) (hins : Cond.instantiable (zRf c) (zNf c) ∈ zGT) (hini : Cond.initialized (zRf c) ∈ zGT) (hs : ∀ k, zst w (zn μ) k = none) (hr : zrl (zn μ))
    (kk : EV w d kc ks y (pc + 3) L (.ref (zn μ) :: st) (zN μ (16 + c, 0)) Q) : EV w d (kc + 1) (ks + zNf c) y pc L st μ Q := by
  intro p l e R s m args below meth c0 H locs cells slots Qf ls hG hC hL hP h1 h2 h3 h4 hQ
  have hK := zKs hG hC.fr
  have hKn := hK.1 c _ (zcl_at c hc)
  refine W.newcK hC.1 hC.2.1 hC.2.2.2.1 (hC.word hcl) (hC.word hins) (hC.word hini) rfl hd (by omega) (by omega) hKn.2.1 (hP.top hr) fun H1 kC hkC e1 z1 o1 => ?_
  have hk : zk (zN μ (16 + c, 0)) (zn μ) = (16 + c, 0) := zk_zN
  refine kk p l e R s m args below meth c0 H1 locs (cells + 1) (slots + zNf c) Qf ls hG hC hL (hP.push (μ' := zN μ (16 + c, 0)) hr rfl (fun b hb => zE_zN (by omega)) ?_ (by rw [z1, (hP.top hr)]) (fun q hq => o1 q (by rw [← (hP.top hr)]; exact hq))) h1 h2 (by omega) (by omega) (fun v μ' H' locs' cells' slots' pc' ls' q r a b t => hQ v μ' H' locs' cells' slots' pc' ls' q r (by omega) (by omega) t)
  rw [zE_obj (by rw [hk])]
  refine ⟨_, zcl_at c hc, (u_born (zty c) hC.2.2.2.2.1 (zuw c hc) hKn hkC e1 (zty_ok c hc)).to fun j hj => ?_⟩
  show _ = ((List.range (zNf c)).map (zv w (zN μ (16 + c, 0)) (zn μ) c)).getD j .null
  rw [List.getD_eq_getElem?_getD, zfs_at hj]
  unfold zv zrr
  rw [hs, zr_zN, zi_zN]
  rw [zdef c hc j hj]
  cases zfl c j <;> rfl
theorem ev_newI {n : Int32} {N : Nat} (hd : decode y.2.1 pc = .ok (.newarray .int, 2)) (hw : Cond.arrayClass .int ∈ zGT) (hn : ¬ n < 0) (hN : n.toNatClampNeg = N) (hb : N ≤ 100000000) (hr : zrl (zn μ))
    (kk : EV w d kc ks y (pc + 2) L (.ref (zn μ) :: st) (zNA μ N (fun _ => 0)) Q) : EV w d (kc + 1) (ks + N) y pc L (.int n :: st) μ Q := by
  intro p l e R s m args below meth c0 H locs cells slots Qf ls hG hC hL hP h1 h2 h3 h4 hQ
  refine va_newaK hC.1 hC.2.1 (atype := .int) (hC.word hw) rfl hd rfl hn hN (show N * 4 ≤ 536870912 by omega) (by omega) (by omega) (hP.top hr) fun H1 cA e1 z1 o1 hAr hNm => ?_
  have hcA : cA = zcA w 0 := zcls_int hG hC.fr hNm
  subst hcA
  refine kk p l e R s m args below meth c0 H1 locs (cells + 1) (slots + N) Qf ls hG hC hL (hP.push (μ' := zNA μ N (fun _ => 0)) hr rfl (fun b hb => zE_zNA (by omega)) ?_ (by rw [z1, (hP.top hr)]) (fun q hq => o1 q (by rw [← (hP.top hr)]; exact hq))) h1 h2 (by omega) (by omega) (fun v μ' H' locs' cells' slots' pc' ls' q r a b t => hQ v μ' H' locs' cells' slots' pc' ls' q r (by omega) (by omega) t)
  rw [zE_zNA_new]
  exact e1
/-- new C[n] -/
theorem ev_newQ {n : Int32} {N idx j : Nat} {C : String} (hd : decode y.2.1 pc = .ok (.anewarray idx, 3)) (hj0 : 0 < j) (hj : j < 6) (hC0 : C ∈ [RX10, RX3, RX6, RX2]) (hjC : ∀ w : zW, (zT w)[j]? = some (zcA w j, .object C)) (hcl : Cond.classLink y.1.cls idx C ∈ zGT) (hn : ¬ n < 0) (hN : n.toNatClampNeg = N) (hb : N ≤ 100000000) (hs : ∀ k, zst w (zn μ) k = none) (hr : zrl (zn μ))
    (kk : EV w d kc ks y (pc + 3) L (.ref (zn μ) :: st) (zN μ (j, N)) Q) : EV w d (kc + 1) (ks + N) y pc L (.int n :: st) μ Q := by
  subst hN
  intro p l e R s m args below meth c0 H locs cells slots Qf ls hG hC hL hP h1 h2 h3 h4 hQ
  have hao : va_AO C s := (hG.2.2.2.2.2.2.2.1 C hC0).moved hC.fr.1
  refine W.anew hC.1 hC.2.1 hC.2.2.2.1 (hC.word hcl) (va_AO.use hao) rfl hd rfl hn (by omega) (by omega) (by omega) fun cA kA comp f1 f2 f3 f4 => ?_
  have hra := ((zKs hG hC.fr).2 j _ (hjC w)).2
  obtain ⟨kA', comp', g1, g2, g3, g4⟩ := hra
  have hcA : cA = zcA w j := Option.some.inj (f1.symm.trans g4)
  subst hcA
  generalize hH1 : H.push ({ cls := zcA w j, slots := Array.replicate n.toNatClampNeg .null, vm := .none } : Cell) = H1
  have z1 : H1.size = H.size + 1 := by rw [← hH1, Array.size_push]
  have e1 : H1[H.size]? = some (arrV (zcA w j) n.toNatClampNeg (fun _ => .null)) := by rw [← hH1, Array.getElem?_push_size, ← arrV_new]
  have o1 : ∀ q : Nat, q < H.size → H1[q]? = H[q]? := fun q hq => by rw [← hH1, Array.getElem?_push, if_neg (Nat.ne_of_lt hq)]
  have hkd : zk (zN μ (j, n.toNatClampNeg)) (zn μ) = (j, n.toNatClampNeg) := zk_zN
  have key := kk p l e R s m args below meth c0 H1 locs (cells + 1) (slots + n.toNatClampNeg) Qf ls hG hC hL (hP.push (μ' := zN μ (j, n.toNatClampNeg)) hr rfl (fun b hb => zE_zN (by omega)) ?_ z1 o1) h1 h2 (by omega) (by omega) (fun v μ' H' locs' cells' slots' pc' ls' q r a b t => hQ v μ' H' locs' cells' slots' pc' ls' q r (by omega) (by omega) t)
  · have e : Array.size H = zad w (zn μ) := (hP.top hr)
    rw [e]
    exact key
  · rw [zE_ref (j := j) (by rw [hkd]) hj0 (by omega), hkd]
    show H1[zad w (zn μ)]? = some (vp_cell _ _)
    rw [← (hP.top hr), e1, vp_cell_q]
    congr 2
    funext k
    unfold zrr
    rw [hs, zr_zN]
    rfl
/-- a reference into a row of its class (or its class's superclass) -/
theorem ev_aast {a j b c c2 : Nat} {i : Int32} (hd : decode y.2.1 pc = .ok (.aastore, 1)) (ha : zHas μ.1 μ.2.1 a j) (h0 : 0 < j) (h6 : j < 6) (hb : zHas μ.1 μ.2.1 b (16 + c)) (hc : c < 14) (hc2 : c2 < 14) (hjC : ∀ w : zW, (zT w)[j]? = some (zcA w j, .object (zRf c2))) (hcc : c = c2 ∨ Cond.castable (zRf c) (zRf c2) ∈ zNw) (hs : zst w a i.toNatClampNeg = none) (hin : vp_in i (μ.2.1 a).2)
    (kk : EV w d kc ks y (pc + 1) L st (zR μ a i.toNatClampNeg (some b)) Q) : EV w d kc ks y pc L (.ref b :: .int i :: .ref a :: st) μ Q := by
  intro p l e R s m args below meth c0 H locs cells slots Qf ls hG hC hL hP h1 h2 h3 h4 hQ
  have hK := zKs hG hC.fr
  have hlt : i.toNatClampNeg < (μ.2.1 a).2 := Nat.not_le.mp fun q => hin (Or.inr q)
  have h00 : ¬ i < 0 := fun q => hin (Or.inl q)
  have hat := hP.at ha.1 ha.2.1
  rw [zE_ref ha.2.2 h0 (by omega)] at hat
  have hbt := hP.at hb.1 hb.2.1
  rw [zE_obj hb.2.2] at hbt
  obtain ⟨r', hr', cellV, g1, g2, g3, -⟩ := hbt
  have hcls := (hK.1 c _ (zcl_at c hc)).2
  have hcls2 := (hK.1 c2 _ (zcl_at c2 hc2)).2
  obtain ⟨kA, comp, k1, k2, k3, -⟩ := (hK.2 j _ (hjC w)).2
  have hcomp : comp = (zD w).1 c2 := Option.some.inj (k3.symm.trans hcls2.1)
  subst hcomp
  obtain ⟨kC, hkC, -⟩ := hcls.2
  obtain ⟨kC2, hkC2, -⟩ := hcls2.2
  have hasg : s.vm.assignable ((zD w).1 c) ((zD w).1 c2) = true := by
    rcases hcc with e | e
    · subst e
      exact va_assign hcls
    · obtain ⟨x1, x2, f1, f2, f3⟩ := Cond.castable_spec (va_Nw.use (A := args) rfl (hC.fr.2.2.2.2 _ e))
      cases hcls.1.symm.trans f1
      cases hcls2.1.symm.trans f2
      exact f3
  refine W.aast hC.1 hC.2.1 (cell := vp_cell (zcA w j) ((μ.2.1 a).2, .inr (.inr (.inr (.inr (fun k => (zrr w μ a k).map (zad w))))))) hat (fun q h => by cases h) (fun h => by cases h) k1 k2 rfl hkC2 ⟨h00, by show _ < (arrV _ _ _).slots.size; rw [arrV_size]; exact hlt⟩ g1 (fun q h => by rw [g3] at h; cases h) (by rw [g2]; exact hkC) (by rw [g2]; exact hasg) rfl rfl hd fun H1 x1 x2 x3 => ?_
  refine kk p l e R s m args below meth c0 H1 _ cells slots Qf ls hG hC hL (hP.put (μ' := zR μ a i.toNatClampNeg (some b)) ha.1 ha.2.1 rfl (fun q hq => zE_zR hq) ?_ x2 x3) h1 h2 h3 h4 hQ
  rw [zE_ref (j := j) (show (zk (zR μ a i.toNatClampNeg (some b)) a).1 = j from ha.2.2) h0 (by omega)]
  show H1[zad w a]? = some (vp_cell _ _)
  rw [x1, vp_cell_q, vp_cell_q, arrV_store]
  show some (arrV _ (μ.2.1 a).2 _) = some (arrV _ (μ.2.1 a).2 _)
  congr 2
  funext q
  unfold zrr
  rw [zr_zR]
  by_cases hq : q = i.toNatClampNeg
  · subst hq
    simp [updV, va_up, va_rf, hs]
  · simp only [updV, va_up, hq, if_false]
/-- clone of a row of ints -/
theorem ev_clone {a idx N : Nat} {f : Nat → Int32} (hd : decode y.2.1 pc = .ok (.invokevirtual idx, 3)) (hl : Cond.methodLink y.1.cls idx ⟨"[I", "clone", "()Ljava/lang/Object;"⟩ ∈ zGT) (hsm : Cond.sameMethod "[I" "java/lang/Object" "clone" "()Ljava/lang/Object;" ∈ zGT) (hna : Cond.native ⟨"java/lang/Object", "clone", "()Ljava/lang/Object;"⟩ ∈ zGT) (hin : Cond.instanceMethod ⟨"java/lang/Object", "clone", "()Ljava/lang/Object;"⟩ ∈ zGT) (hse : Cond.selects "[I" ⟨"[I", "clone", "()Ljava/lang/Object;"⟩ ⟨"java/lang/Object", "clone", "()Ljava/lang/Object;"⟩ ∈ zGT)
    (hrl : zrl (zn μ)) (hd1 : 1 ≤ d) (hr : (st.map fun v => v.category).sum ≤ 8) (hsrc : ∀ (s : State) (H : Heap) (locs : List Loc), zGF w → zFr w s → zRp w s μ H locs → ∃ cell : Cell, H[zad w a]? = some cell ∧ cell.cls = zcA w 0 ∧ cell.vm ≠ .unknown ∧ (∀ k, cell.vm ≠ .statics k) ∧ cell.slots.size = N ∧ ∀ j : Nat, j < N → cell.slots[j]? = some (.int (f j)))
    (kk : EV w d kc ks y (pc + 3) L (.ref (zn μ) :: st) (zNA μ N f) Q) : EV w d (kc + 1) (ks + N) y pc L (.ref a :: st) μ Q := by
  intro p l e R s m args below meth c0 H locs cells slots Qf ls hG hC hL hP h1 h2 h3 h4 hQ T hT X
  have hK := zKs hG hC.fr
  obtain ⟨cell, q1, q2, q3, q4, q5, q6⟩ := hsrc s H locs hG hC.fr hP
  have hnm : s.vm.findClass "[I" = some (zcA w 0) := (hK.2 0 _ rfl).2
  obtain ⟨c1, t1, f1, f2, f3⟩ := Cond.castable_spec (va_Nw.use (A := args) rfl (hC.fr.2.2.2.2 (.castable "[I" "java/lang/Cloneable") (by simp [zNw])))
  cases hnm.symm.trans f1
  obtain ⟨-, kA, hkA, comp, hkind⟩ := State.isArrayOf_alike X.warmed.alike ((hK.2 0 _ rfl).1 0 (fun _ => .null))
  obtain ⟨-, kS, hkS, compS, hkindS⟩ := (hK.2 0 _ rfl).1 0 (fun _ => .null)
  obtain ⟨vm', X', stp⟩ := X.cloneArray hC.1 hC.2.2.2.1 (hC.word hl) (hC.word hsm) (hC.word hna) (hC.word hin) (hC.word hse) (a := zad w a) (cell := cell) (by rw [hT]; exact q1) q4 q3 (by rw [q2]; exact hnm) f2 (by rw [q2]; exact f3)
    (fun i v hv => by
      rw [q2]
      have hk' : T.vm.classes[zcA w 0]? = some kA := hkA
      have hi : i < N := by rw [← q5]; exact (Array.getElem?_eq_some_iff.mp hv).1
      rw [q6 i hi] at hv
      cases hv
      simp [State.fitsSlot, State.slotType?, hk', hkind, fits])
    (g := F0 m pc ls (.ref (zad w a) :: st.map (zva w))) rfl (by rw [hC.2.2.1]; exact hL.1) rfl (by rw [hC.2.1]; exact hd) (by omega) (by have := zrest (pc := pc) w (m := m) (ls := ls) (st := st) hr; show 2 * 0 + _ + 14 ≤ _; have e : 2 * (F0 m pc ls (st.map (zva w))).monitorRoom = 0 := rfl; omega) (by omega) (by rw [q5]; omega) (hloader := by rw [q2]; exact Vm.clonesLoader_of_array hkS hkindS)
  have hce : ({ cls := cell.cls, slots := cell.slots } : Cell) = vp_cell (zcA w 0) (N, .inl f) := by
    rw [q2, vp_cell_i]
    have hsl : cell.slots = (arrV (zcA w 0) N (fun j => .int (f j))).slots := by
      apply Array.ext_getElem?
      intro i
      by_cases hi : i < N
      · rw [q6 i hi, arrV_read _ _ hi]
      · rw [Array.getElem?_eq_none (by rw [q5]; omega), Array.getElem?_eq_none (by rw [arrV_size]; omega)]
    rw [hsl]
    rfl
  rw [hce, q5] at X'
  generalize hH1 : H.push (vp_cell (zcA w 0) (N, .inl f)) = H1
  have z1 : H1.size = H.size + 1 := by rw [← hH1, Array.size_push]
  have e1 : H1[H.size]? = some (vp_cell (zcA w 0) (N, .inl f)) := by rw [← hH1, Array.getElem?_push_size]
  have o1 : ∀ q : Nat, q < H.size → H1[q]? = H[q]? := fun q hq => by rw [← hH1, Array.getElem?_push, if_neg (Nat.ne_of_lt hq)]
  obtain ⟨t, b1, b2⟩ := kk p l e R s m args below meth c0 H1 locs (cells + 1) (slots + N) Qf ls hG hC hL (hP.push (μ' := zNA μ N f) hrl rfl (fun b hb => zE_zNA (by omega)) (by rw [zE_zNA_new, ← hP.top hrl]; exact e1) z1 o1) h1 h2 (by omega) (by omega) (fun v μ' H' locs' cells' slots' pc' ls' q r a b t => hQ v μ' H' locs' cells' slots' pc' ls' q r (by omega) (by omega) t)
    ((T.setVm vm').pushCell (vp_cell (zcA w 0) (N, .inl f))) (by rw [← hH1, ← hT]; rfl) X'
  refine ⟨t, stp t ?_, b2⟩
  rw [hce, hT, hP.top hrl]
  exact b1
theorem zsrc_row {a N : Nat} {f : Nat → Int32} (ha : zHas μ.1 μ.2.1 a 0) (hN : (μ.2.1 a).2 = N) (hf : zi μ a = f) : ∀ (s : State) (H : Heap) (locs : List Loc), zGF w → zFr w s → zRp w s μ H locs → ∃ cell : Cell, H[zad w a]? = some cell ∧ cell.cls = zcA w 0 ∧ cell.vm ≠ .unknown ∧ (∀ k, cell.vm ≠ .statics k) ∧ cell.slots.size = N ∧ ∀ j : Nat, j < N → cell.slots[j]? = some (.int (f j)) := by
  intro s H locs _ _ hP
  have hat := hP.at ha.1 ha.2.1
  rw [zE_int ha.2.2, show (zk μ a).2 = N from hN, hf] at hat
  exact ⟨_, hat, rfl, (fun h => by cases h), (fun k h => by cases h), arrV_size _ _ _, fun j hj => arrV_read _ _ hj⟩
theorem zsrc_old {i N : Nat} {f : Nat → Int32} (hi : i < 32) (h : zTc w i N f) : ∀ (s : State) (H : Heap) (locs : List Loc), zGF w → zFr w s → zRp w s μ H locs → ∃ cell : Cell, H[zad w i]? = some cell ∧ cell.cls = zcA w 0 ∧ cell.vm ≠ .unknown ∧ (∀ k, cell.vm ≠ .statics k) ∧ cell.slots.size = N ∧ ∀ j : Nat, j < N → cell.slots[j]? = some (.int (f j)) := by
  intro s H locs hG hF hP
  obtain ⟨cell, q1, q2⟩ := h
  have hl : zca w i < zb0 w := by rw [hG.1]; exact (Array.getElem?_eq_some_iff.mp q1).1
  refine ⟨cell, ?_, q2⟩
  rw [show zad w i = zca w i from if_pos hi, hP.2.2.1 _ (Nat.lt_of_lt_of_le hl hF.2.1) (fun z => absurd z (Nat.not_le.mpr hl)), hF.2.2.1 _ hl]
  exact q1
/-- (int[]) of a row of ints -/
theorem ev_castI {a idx : Nat} (hd : decode y.2.1 pc = .ok (.checkcast idx, 3)) (hcl : Cond.classLink y.1.cls idx "[I" ∈ zGT) (ha : zHas μ.1 μ.2.1 a 0) (kk : EV w d kc ks y (pc + 3) L (.ref a :: st) μ Q) : EV w d kc ks y pc L (.ref a :: st) μ Q := by
  intro p l e R s m args below meth c0 H locs cells slots Qf ls hG hC hL hP h1 h2 h3 h4 hQ
  have he := zWs_at w (μ := μ) ha.1 ha.2.1
  rw [zE_int ha.2.2] at he
  exact va_castA (D := zD w) hC.1 hC.2.1 hC.2.2.2.1 (hC.word hcl) (hP.p ha.2.1) (zix a) he (show s.vm.findClass "[I" = some (zcA w 0) from ((zKs hG hC.fr).2 0 _ rfl).2) hd (kk p l e R s m args below meth c0 H locs cells slots Qf ls hG hC hL hP h1 h2 h3 h4 hQ)
/-- System.arraycopy of ints -/
theorem ev_copy {a0 a idx : Nat} {sp dp n : Int32} (hd : decode y.2.1 pc = .ok (.invokestatic idx, 3)) (hl : Cond.methodLink y.1.cls idx arraycopyName ∈ zGT) (hna : Cond.native arraycopyName ∈ zGT) (hst : Cond.static arraycopyName ∈ zGT) (hini : Cond.initialized "java/lang/System" ∈ zGT) (ha0 : zHas μ.1 μ.2.1 a0 0) (ha : zHas μ.1 μ.2.1 a 0)
    (h1' : ¬ sp < 0) (h2' : ¬ dp < 0) (h3' : ¬ n < 0) (h4' : sp.toNatClampNeg + n.toNatClampNeg ≤ (μ.2.1 a0).2) (h5' : dp.toNatClampNeg + n.toNatClampNeg ≤ (μ.2.1 a).2) (hd1 : 1 ≤ d) (hr : (st.map fun v => v.category).sum ≤ 8) (hfw : nativeFrameWords "java/lang/System" "arraycopy" 5 ≤ 40)
    (kk : EV w d kc ks y (pc + 3) L st (zA μ a (va_cpy (zi μ a0) (zi μ a) sp.toNatClampNeg dp.toNatClampNeg n.toNatClampNeg)) Q) : EV w d kc ks y pc L (.int n :: .int dp :: .ref a :: .int sp :: .ref a0 :: st) μ Q := by
  intro p l e R s m args below meth c0 H locs cells slots Qf ls hG hC hL hP h1 h2 h3 h4 hQ
  have he0 := zWs_at w (μ := μ) ha0.1 ha0.2.1
  rw [zE_int ha0.2.2] at he0
  have he := zWs_at w (μ := μ) ha.1 ha.2.1
  rw [zE_int ha.2.2] at he
  have hrs := zrest (pc := pc) w (m := m) (ls := ls) (st := st) hr
  have e0 : 2 * (F0 m pc ls (st.map (zva w))).monitorRoom = 0 := rfl
  have key : ∀ (n1 : Nat) (H1 : Heap) (locs1 : List Loc), H1.size = H.size → va_P (zD w) vwCl ((zWs w μ).set (zix a) (zad w a, .inl (zcA w 0, (zk μ a).2, .inl (va_cpy (zi μ a0) (zi μ a) sp.toNatClampNeg dp.toNatClampNeg n.toNatClampNeg)))) H1 → va_S (zAq w) s.heap H1 locs1 → zRp w s (zA μ a (va_cpy (zi μ a0) (zi μ a) sp.toNatClampNeg dp.toNatClampNeg n.toNatClampNeg)) H1 locs1 := by
    intro n1 H1 locs1 hz p1 s1
    refine ⟨fun q => ⟨(hP.1 q).1, by rw [hz]; exact (hP.1 q).2.1, ?_⟩, s1⟩
    rw [← zWs_set w (μ := μ) (μ' := zA μ a (va_cpy (zi μ a0) (zi μ a) sp.toNatClampNeg dp.toNatClampNeg n.toNatClampNeg)) ha.1 ha.2.1 rfl (fun b hb => zE_zA hb), zE_int (show (zk (zA μ a _) a).1 = 0 from ha.2.2), zi_zA]
    exact p1
  exact zcopy_row hC.1 hC.2.1 (by rw [hC.2.2.1]; exact hL.1.symm) hC.2.2.2.1 (hC.word hl) (hC.word hna) (hC.word hst) (hC.word hini) (zKs hG hC.fr) (hP.p ha.2.1) (zWs_apart w μ) hP.2 (zix a0) (zix a) 0 0 he0 he rfl rfl rfl h1' h2' h3' h4' h5' (fun i hi => rfl) (by omega) (by omega) hd
    (fun H1 locs1 hz p1 _ s1 => kk p l e R s m args below meth c0 H1 locs1 cells slots Qf ls hG hC hL (key 0 H1 locs1 hz p1 s1) h1 h2 h3 h4 hQ)
/-! rows of bytes -/
theorem zE_zN_byt {w : zW} {μ : zM} {N : Nat} : zE w (zN μ (12, N)) (zn μ) = .inl (zcA w 6, N, .inl (fun _ => 0)) := by
  have e : zk (zN μ (12, N)) (zn μ) = (12, N) := zk_zN
  rw [zE_byt (by rw [e]), e, zi_zN]
theorem ev_newB {n : Int32} {N : Nat} (hd : decode y.2.1 pc = .ok (.newarray .byte, 2)) (hw : Cond.arrayClass .byte ∈ zGT) (hn : ¬ n < 0) (hN : n.toNatClampNeg = N) (hb : N ≤ 100000000) (hr : zrl (zn μ))
    (kk : EV w d kc ks y (pc + 2) L (.ref (zn μ) :: st) (zN μ (12, N)) Q) : EV w d (kc + 1) (ks + N) y pc L (.int n :: st) μ Q := by
  intro p l e R s m args below meth c0 H locs cells slots Qf ls hG hC hL hP h1 h2 h3 h4 hQ
  refine va_newaK hC.1 hC.2.1 (atype := .byte) (hC.word hw) rfl hd rfl hn hN (show N * 1 ≤ 536870912 by omega) (by omega) (by omega) (hP.top hr) fun H1 cA e1 z1 o1 hAr hNm => ?_
  have hcA : cA = zcA w 6 := zcls_byt hG hC.fr hNm
  subst hcA
  refine kk p l e R s m args below meth c0 H1 locs (cells + 1) (slots + N) Qf ls hG hC hL (hP.push (μ' := zN μ (12, N)) hr rfl (fun b hb => zE_zN (by omega)) ?_ (by rw [z1, hP.top hr]) (fun q hq => o1 q (by rw [← hP.top hr]; exact hq))) h1 h2 (by omega) (by omega) (fun v μ' H' locs' cells' slots' pc' ls' q r a b t => hQ v μ' H' locs' cells' slots' pc' ls' q r (by omega) (by omega) t)
  rw [zE_zN_byt]
  exact e1
theorem zE_zN_lng {w : zW} {μ : zM} {N : Nat} (hw : zhm w = none) : zE w (zHm (zN μ (14, N)) (zn μ) (fun _ => 0)) (zn μ) = .inl (zcA w 7, N, .inr (.inl (fun _ => 0))) := by
  have e : zk (zN μ (14, N)) (zn μ) = (14, N) := zk_zN
  rw [zE_lng (by rw [zHm_k, e]), zHm_k, e, zHm_i, zlg_pr hw]
theorem ev_newL {n : Int32} {N : Nat} (hh : zhm w = none) (hd : decode y.2.1 pc = .ok (.newarray .long, 2)) (hw : Cond.arrayClass .long ∈ zGT) (hn : ¬ n < 0) (hN : n.toNatClampNeg = N) (hb : N ≤ 10000000) (hr : zrl (zn μ))
    (kk : EV w d kc ks y (pc + 2) L (.ref (zn μ) :: st) (zHm (zN μ (14, N)) (zn μ) (fun _ => 0)) Q) : EV w d (kc + 1) (ks + N) y pc L (.int n :: st) μ Q := by
  intro p l e R s m args below meth c0 H locs cells slots Qf ls hG hC hL hP h1 h2 h3 h4 hQ
  refine va_newaK hC.1 hC.2.1 (atype := .long) (hC.word hw) rfl hd rfl hn hN (show N * 8 ≤ 536870912 by omega) (by omega) (by omega) (hP.top hr) fun H1 cA e1 z1 o1 hAr hNm => ?_
  have hcA : cA = zcA w 7 := zcls_lng hG hC.fr hNm
  subst hcA
  refine kk p l e R s m args below meth c0 H1 locs (cells + 1) (slots + N) Qf ls hG hC hL (hP.push (μ' := zHm (zN μ (14, N)) (zn μ) (fun _ => 0)) hr rfl (fun b hb => (zHm_E (by omega)).trans (zE_zN (by omega))) ?_ (by rw [z1, hP.top hr]) (fun q hq => o1 q (by rw [← hP.top hr]; exact hq))) h1 h2 (by omega) (by omega) (fun v μ' H' locs' cells' slots' pc' ls' q r a b t => hQ v μ' H' locs' cells' slots' pc' ls' q r (by omega) (by omega) t)
  rw [zE_zN_lng hh]
  exact e1
/-- where bytes may be copied from -/
def zSrc (w : zW) (μ : zM) (a0 N0 : Nat) (f : Nat → Int32) : Prop := ∀ (s : State) (H : Heap) (locs : List Loc), zGF w → zFr w s → zRp w s μ H locs → ∃ cs : Cell, H[zad w a0]? = some cs ∧ s.isArrayOf cs .byte ∧ cs.vm ≠ .unknown ∧ N0 ≤ cs.slots.size ∧ ∀ j, j < N0 → cs.slots[j]? = some (.int (f j))
theorem zSrc_row {a N : Nat} {f : Nat → Int32} (ha : zHas μ.1 μ.2.1 a 12) (hN : (μ.2.1 a).2 = N) (hf : zi μ a = f) : zSrc w μ a N f := by
  intro s H locs hG hF hP
  have hat := hP.at ha.1 ha.2.1
  rw [zE_byt ha.2.2, show (zk μ a).2 = N from hN, hf] at hat
  exact ⟨_, hat, ((zKs hG hF).2 6 _ rfl).1 _ (fun j => .int (f j)), (fun h => by cases h), Nat.le_of_eq (arrV_size _ _ _).symm, fun j hj => arrV_read _ _ hj⟩
/-- System.arraycopy of bytes -/
theorem ev_copyB {a0 a idx N0 : Nat} {f : Nat → Int32} {sp dp n : Int32} (hd : decode y.2.1 pc = .ok (.invokestatic idx, 3)) (hl : Cond.methodLink y.1.cls idx arraycopyName ∈ zGT) (hna : Cond.native arraycopyName ∈ zGT) (hst : Cond.static arraycopyName ∈ zGT) (hini : Cond.initialized "java/lang/System" ∈ zGT) (hsrc : zSrc w μ a0 N0 f) (ha : zHas μ.1 μ.2.1 a 12)
    (h1' : ¬ sp < 0) (h2' : ¬ dp < 0) (h3' : ¬ n < 0) (h4' : sp.toNatClampNeg + n.toNatClampNeg ≤ N0) (h5' : dp.toNatClampNeg + n.toNatClampNeg ≤ (μ.2.1 a).2) (hfit : ∀ i, i < n.toNatClampNeg → fits .byte (.int (f (sp.toNatClampNeg + i))) = true) (hd1 : 1 ≤ d) (hr : (st.map fun v => v.category).sum ≤ 8) (hfw : nativeFrameWords "java/lang/System" "arraycopy" 5 ≤ 40)
    (kk : EV w d kc ks y (pc + 3) L st (zA μ a (va_cpy f (zi μ a) sp.toNatClampNeg dp.toNatClampNeg n.toNatClampNeg)) Q) : EV w d kc ks y pc L (.int n :: .int dp :: .ref a :: .int sp :: .ref a0 :: st) μ Q := by
  intro p l e R s m args below meth c0 H locs cells slots Qf ls hG hC hL hP h1 h2 h3 h4 hQ
  obtain ⟨cs, q1, q2, q3, q4, q5⟩ := hsrc s H locs hG hC.fr hP
  have he := zWs_at w (μ := μ) ha.1 ha.2.1
  rw [zE_byt ha.2.2] at he
  have hrs := zrest (pc := pc) w (m := m) (ls := ls) (st := st) hr
  have e0 : 2 * (F0 m pc ls (st.map (zva w))).monitorRoom = 0 := rfl
  have key : ∀ (n1 : Nat) (H1 : Heap) (locs1 : List Loc), H1.size = H.size → va_P (zD w) vwCl ((zWs w μ).set (zix a) (zad w a, .inl (zcA w 6, (zk μ a).2, .inl (va_cpy f (zi μ a) sp.toNatClampNeg dp.toNatClampNeg n.toNatClampNeg)))) H1 → va_S (zAq w) s.heap H1 locs1 → zRp w s (zA μ a (va_cpy f (zi μ a) sp.toNatClampNeg dp.toNatClampNeg n.toNatClampNeg)) H1 locs1 := by
    intro n1 H1 locs1 hz p1 s1
    refine ⟨fun q => ⟨(hP.1 q).1, by rw [hz]; exact (hP.1 q).2.1, ?_⟩, s1⟩
    rw [← zWs_set w (μ := μ) (μ' := zA μ a (va_cpy f (zi μ a) sp.toNatClampNeg dp.toNatClampNeg n.toNatClampNeg)) ha.1 ha.2.1 rfl (fun b hb => zE_zA hb), zE_byt (show (zk (zA μ a _) a).1 = 12 from ha.2.2), zi_zA]
    exact p1
  exact zcopy_x hC.1 hC.2.1 (by rw [hC.2.2.1]; exact hL.1.symm) hC.2.2.2.1 (hC.word hl) (hC.word hna) (hC.word hst) (hC.word hini) (zKs hG hC.fr) (hP.p ha.2.1) (zWs_apart w μ) hP.2 (zix a) 6 q1 q2 q3 q4 q5 he rfl rfl h1' h2' h3' h4' h5' hfit (by omega) (by omega) hd
    (fun H1 locs1 hz p1 _ s1 => kk p l e R s m args below meth c0 H1 locs1 cells slots Qf ls hG hC hL (key 0 H1 locs1 hz p1 s1) h1 h2 h3 h4 hQ)
end EVA
end
section
/-! new int[n][m]; nest mates' constructors; old cells; the machine's own functions -/
theorem vr_outer (c : ClassId) (N h0 : Nat) : ∀ i : Nat, Jvm.Free.Multi.outerC c N h0 i = arrV c N (fun j => va_rf (if j < i then some (h0 + 1 + j) else none))
  | 0 => by
    show ({ cls := c, slots := Array.replicate N .null, vm := .none } : Cell) = _
    rw [arrV_new]
    refine congrArg (arrV c N) (funext fun j => ?_)
    simp [va_rf]
  | i + 1 => by
    show (Jvm.Free.Multi.outerC c N h0 i).setSlot i (.ref (h0 + 1 + i)) = _
    rw [vr_outer c N h0 i, arrV_store]
    refine congrArg (arrV c N) (funext fun j => ?_)
    by_cases e : j = i
    · subst e
      simp [updV, va_rf]
    · by_cases h : j < i
      · simp [updV, e, h, Nat.lt_succ_of_lt h]
      · simp [updV, e, h, show ¬ j < i + 1 by omega]
def zMul (μ : zM) (N M : Nat) : zM := (μ.1 + 1 + N, fun b => if b = μ.1 then (1, N) else if μ.1 < b ∧ b ≤ μ.1 + N then (0, M) else μ.2.1 b, fun b => if μ.1 ≤ b ∧ b ≤ μ.1 + N then fun _ => 0 else μ.2.2.1 b, fun b => if b = μ.1 then fun k => if k < N then some (μ.1 + 1 + k) else none else if μ.1 < b ∧ b ≤ μ.1 + N then fun _ => none else μ.2.2.2 b)
theorem zRp.grow {w : zW} {s : State} {μ μ' : zM} {H H' : Heap} {locs : List Loc} (h : zRp w s μ H locs) (h32 : 32 ≤ zn μ) (h81 : zn μ' ≤ 81) (hn : zn μ ≤ zn μ') (he : ∀ b, b < zn μ → zE w μ' b = zE w μ b)
    (hat : ∀ b, zn μ ≤ b → b < zn μ' → va_at (zD w) vwCl (zad w b, zE w μ' b) H') (hz : H'.size = H.size + (zn μ' - zn μ)) (oq : ∀ q, q < H.size → H'[q]? = H[q]?) : zRp w s μ' H' locs := by
  obtain ⟨r1, r2, r3⟩ := h.1 (by omega)
  have r4 := h.2
  have s1 : zsz (zn μ') = zn μ' - 32 := if_pos h81
  have s2 : zsz (zn μ) = zn μ - 32 := if_pos (by omega)
  refine ⟨fun _ => ⟨⟨by omega, Or.inl h81⟩, by rw [s1]; rw [s2] at r2; omega, fun k q hk => ?_⟩, ⟨by have := r4.1; omega, fun q h1 h2 => ?_, r4.2.2⟩⟩
  · have hl : k < zn μ' - 32 := by rw [← s1, ← zWs_len w μ']; exact (List.getElem?_eq_some_iff.mp hk).1
    have hx : zix (k + 32) = k := by
      unfold zix
      rw [if_pos (by omega)]
      omega
    have h1 := zWs_at w (μ := μ') (a := k + 32) ⟨by omega, Or.inl (by omega)⟩ (by omega)
    rw [hx] at h1
    have e := Option.some.inj (hk.symm.trans h1)
    by_cases hb : k + 32 < zn μ
    · rw [e, he _ hb]
      have h2 := zWs_at w (μ := μ) (a := k + 32) ⟨by omega, Or.inl (by omega)⟩ hb
      rw [hx] at h2
      have h3 := r3 k _ h2
      exact h3.kept (oq _ h3.lt)
    · rw [e]
      exact hat _ (by omega) (by omega)
  · rw [oq q (Nat.lt_of_lt_of_le h1 r4.1)]
    exact r4.2.1 q h1 h2
theorem zad_lo (w : zW) {a : Nat} (h : 32 ≤ a) (h2 : a < 81) : zad w a = zb0 w + (a - 32) := by
  unfold zad
  rw [if_neg (by omega), if_pos h2]
theorem zad_gh (w : zW) {a : Nat} (h : 81 ≤ a) (h2 : a < 114) : zad w a = zca w a := by
  unfold zad
  rw [if_neg (by omega), if_neg (by omega), if_pos h2]
theorem zX {w : zW} {s : State} (hG : zGF w) (hF : zFr w s) : va_X (zca w 26) (zxl w) (zxs w) s s.heap := (hG.2.2.1.1.moved hF.1).kept (hF.2.2.1 _ hG.2.2.1.2)
theorem zkept {w : zW} {s : State} (hG : zGF w) (hF : zFr w s) : ∀ a : Nat, a < (zs0 w).heap.size → ¬ zAq w a → s.heap[a]? = (zs0 w).heap[a]? := fun a ha _ => hF.2.2.1 a (by rw [hG.1]; exact ha)
theorem zstr {w : zW} {s : State} (hG : zGF w) (hF : zFr w s) : vk_S 16 zSlen zSbyt (fun i => zca w (zSa i)) (fun i => zca w (zVa i)) (zAq w) s s.heap := (vk_S.moved hF.1 hG.2.2.2.2.2.2.1).kept (zkept hG hF)
section EVB
variable {w : zW} {d kc ks : Nat} {y : zY} {pc : Nat} {L : List (Option Value)} {st : List Value} {μ : zM} {Q Q' : Option Value → zM → Prop}
theorem ev_mul {n k : Int32} {N M idx : Nat} (hd : decode y.2.1 pc = .ok (.multianewarray idx 2, 4)) (hcl : Cond.classLink y.1.cls idx ("[" ++ (FieldType.array .int).toString) ∈ zGT) (hw : Cond.arrayClass .int ∈ zGT) (hn : ¬ n < 0) (hk : ¬ k < 0) (hN : n.toNatClampNeg = N) (hM : k.toNatClampNeg = M) (hlim : 32 ≤ zn μ ∧ zn μ + 1 + N ≤ 81) (hN2 : N ≤ 1000) (hM2 : M ≤ 1000) (hs : ∀ j, zst w (zn μ) j = none)
    (kk : EV w d kc ks y (pc + 4) L (.ref (zn μ) :: st) (zMul μ N M) Q) : EV w d (kc + (1 + N)) (ks + (N + N * M)) y pc L (.int k :: .int n :: st) μ Q := by
  subst hN
  subst hM
  intro p l e R s m args below meth c0 H locs cells slots Qf ls hG hC hL hP h1 h2 h3 h4 hQ T hT X
  have hK := zKs hG hC.fr
  have hrl : zrl (zn μ) := ⟨hlim.1, Or.inl (by omega)⟩
  have hsz : zsz (zn μ) = μ.1 - 32 := if_pos (by omega)
  obtain ⟨vm₁, cA, comp, -, fA, fC, hO, -, X', step⟩ := X.multianewarray2F hC.1 hC.2.2.2.1 (hC.word hcl) (show (Cond.arrayOver (.array .int)).before args s = true from (hG.2.2.2.2.2.2.2.2.1).moved hC.fr.1) (hC.word hw) (g := F0 m pc ls (.int k :: .int n :: st.map (zva w))) rfl (by rw [hC.2.1]; exact hd) rfl hn hk (by omega) (show k.toNatClampNeg * 4 ≤ _ by omega) (by omega) rfl rfl (by omega) (by omega)
  have hra1 := (hK.2 1 _ rfl).2
  have ecA : cA = zcA w 1 := Option.some.inj (fA.symm.trans (show s.vm.findClass ("[" ++ (FieldType.array .int).toString) = some (zcA w 1) from hra1))
  have eco : comp = zcA w 0 := Option.some.inj (fC.symm.trans (show s.vm.findClass "[I" = some (zcA w 0) from (hK.2 0 _ rfl).2))
  subst ecA
  subst eco
  generalize hF : Jvm.Free.Multi.fill (T.setVm vm₁) (zcA w 1) (zcA w 0) n.toNatClampNeg k.toNatClampNeg (defaultValue .int) n.toNatClampNeg = F at X' step
  have hTh : (T.setVm vm₁).heap = H := hT
  obtain ⟨f1, f2, -, -⟩ := Jvm.Free.Multi.fill_facts (T.setVm vm₁) (zcA w 1) (zcA w 0) n.toNatClampNeg k.toNatClampNeg (defaultValue .int) n.toNatClampNeg
  have f3 := Jvm.Free.Multi.fill_inner (T.setVm vm₁) (zcA w 1) (zcA w 0) n.toNatClampNeg k.toNatClampNeg (defaultValue .int) n.toNatClampNeg
  rw [hF, hTh] at f1 f2 f3
  have hold : ∀ x : Nat, x < H.size → F.heap[x]? = H[x]? := fun x hx => by
    have := Jvm.Free.Multi.fill_old (T.setVm vm₁) (zcA w 1) (zcA w 0) n.toNatClampNeg k.toNatClampNeg (defaultValue .int) (a := x) (by rw [hTh]; exact hx) n.toNatClampNeg
    rw [hF, hTh] at this
    exact this
  have hz : zn (zMul μ n.toNatClampNeg k.toNatClampNeg) = zn μ + 1 + n.toNatClampNeg := rfl
  have hRp : zRp w s (zMul μ n.toNatClampNeg k.toNatClampNeg) F.heap locs := by
    refine hP.grow hlim.1 (by rw [hz]; exact hlim.2) (by omega) (fun b hb => ?_) (fun b g1 g2 => ?_) (by rw [f1]; omega) hold
    · have e1 : zk (zMul μ n.toNatClampNeg k.toNatClampNeg) b = zk μ b := by
        show (if b = μ.1 then _ else if μ.1 < b ∧ b ≤ μ.1 + n.toNatClampNeg then _ else μ.2.1 b) = _
        have hb' : b < μ.1 := hb
        rw [if_neg (by omega), if_neg (by omega)]
        rfl
      have e2 : zi (zMul μ n.toNatClampNeg k.toNatClampNeg) b = zi μ b := by
        funext j
        show (if μ.1 ≤ b ∧ b ≤ μ.1 + n.toNatClampNeg then fun _ => 0 else μ.2.2.1 b) j = _
        have hb' : b < μ.1 := hb
        rw [if_neg (by omega)]
        rfl
      have e3 : zr (zMul μ n.toNatClampNeg k.toNatClampNeg) b = zr μ b := by
        funext j
        show (if b = μ.1 then _ else if μ.1 < b ∧ b ≤ μ.1 + n.toNatClampNeg then fun _ => none else μ.2.2.2 b) j = _
        have hb' : b < μ.1 := hb
        rw [if_neg (by omega), if_neg (by omega)]
        rfl
      unfold zE zv zrr
      rw [e1, e2, e3]
    · by_cases e : b = zn μ
      · subst e
        have e1 : zk (zMul μ n.toNatClampNeg k.toNatClampNeg) (zn μ) = (1, n.toNatClampNeg) := if_pos rfl
        have e3 : zr (zMul μ n.toNatClampNeg k.toNatClampNeg) (zn μ) = fun j => if j < n.toNatClampNeg then some (μ.1 + 1 + j) else none := if_pos rfl
        rw [zE_ref (j := 1) (by rw [e1]) (by omega) (by omega), e1]
        show F.heap[zad w (zn μ)]? = some (vp_cell _ _)
        rw [← hP.top hrl, f2, vp_cell_q, vr_outer]
        congr 2
        funext j
        unfold zrr
        rw [hs, e3]
        show va_rf _ = va_rf (Option.map _ (if j < n.toNatClampNeg then some (μ.1 + 1 + j) else none))
        by_cases hj : j < n.toNatClampNeg
        · rw [if_pos hj, if_pos hj]
          have h32 : 32 ≤ μ.1 := hlim.1
          have t1 : H.size = zb0 w + (μ.1 - 32) := by rw [← hsz]; exact (hP.1 (by omega)).2.1
          have t3 : zb0 w + (μ.1 - 32) + 1 + j = zb0 w + (μ.1 + 1 + j - 32) := by omega
          show Value.ref _ = Value.ref (zad w (μ.1 + 1 + j))
          rw [t1, t3, zad_lo w (show 32 ≤ μ.1 + 1 + j by omega) (by have h9 : μ.1 + 1 + n.toNatClampNeg ≤ 81 := hlim.2; omega)]
        · rw [if_neg hj, if_neg hj]
          rfl
      · have g1' : μ.1 ≤ b := g1
        have g2' : b < μ.1 + 1 + n.toNatClampNeg := g2
        have e' : b ≠ μ.1 := e
        have e1 : zk (zMul μ n.toNatClampNeg k.toNatClampNeg) b = (0, k.toNatClampNeg) := by
          show (if b = μ.1 then _ else if μ.1 < b ∧ b ≤ μ.1 + n.toNatClampNeg then (0, k.toNatClampNeg) else μ.2.1 b) = _
          rw [if_neg e', if_pos (by omega)]
        have e2 : zi (zMul μ n.toNatClampNeg k.toNatClampNeg) b = fun _ => 0 := by
          funext j
          show (if μ.1 ≤ b ∧ b ≤ μ.1 + n.toNatClampNeg then fun _ => 0 else μ.2.2.1 b) j = _
          rw [if_pos (by omega)]
        rw [zE_int (by rw [e1]), e1, e2]
        show F.heap[zad w b]? = some (vp_cell _ _)
        have h32 : 32 ≤ μ.1 := hlim.1
        have ea : zad w b = H.size + 1 + (b - μ.1 - 1) := by
          have t1 : H.size = zb0 w + (μ.1 - 32) := by rw [← hsz]; exact (hP.1 (by omega)).2.1
          have t3 : zb0 w + (b - 32) = (zb0 w + (μ.1 - 32)) + 1 + (b - μ.1 - 1) := by omega
          rw [zad_lo w (show 32 ≤ b by omega) (by have h9 : μ.1 + 1 + n.toNatClampNeg ≤ 81 := hlim.2; omega), t3, t1]
        rw [ea, f3 _ (by omega), vp_cell_i, ← arrV_new]
        rfl
  obtain ⟨t, b1, b2⟩ := kk p l e R s m args below meth c0 F.heap locs (cells + 1 + n.toNatClampNeg) (slots + n.toNatClampNeg + n.toNatClampNeg * k.toNatClampNeg) Qf ls hG hC hL hRp h1 h2 (by omega) (by omega) (fun v μ' H' locs' cells' slots' pc' ls' q r a b t => hQ v μ' H' locs' cells' slots' pc' ls' q r (by omega) (by omega) t) F rfl X'
  refine ⟨t, step t ?_, b2⟩
  rw [hT]
  have e : Array.size H = zad w (zn μ) := hP.top hrl
  rw [e]
  exact b1
/-- a nest mate's private constructor -/
theorem ev_callIN {k1 z1 k2 z2 d' idx n b : Nat} {y' : zY} {host : String} {As rest : List Value} {L0 : List (Option Value)} {Q1 : Option Value → zM → Prop} (hd : decode y.2.1 pc = .ok (.invokespecial idx, 3)) (hm : zMeth y' n) (hl : Cond.methodLinkNest y.1.cls idx y'.1 host ∈ zNw) (hi : Cond.instanceMethod y'.1 ∈ zGT) (hini : y'.1.name = "<init>") (hre : y'.2.2.2 = none)
    (hst : st = As.reverse ++ .ref b :: rest) (hn : As.length = n) (hr : (rest.map fun v => v.category).sum ≤ 8) (hl0 : zL0 (.ref b :: As) y'.2.2.1 = L0) (hlen : (zfa (.ref b :: As)).length ≤ y'.2.2.1) (hdd : d' + 1 ≤ d)
    (h : EV w d' k1 z1 y' 0 L0 [] μ Q1) (cont : ∀ v μ', Q1 v μ' → EV w d k2 z2 y (pc + 3) L (v.toList ++ rest) μ' Q) : EV w d (k1 + k2) (z1 + z2) y pc L st μ Q := by
  refine ev_run (rest := rest) (fun p l e R s m args below meth c H locs cells slots ls hG hC hL hP h1 h2 h3 h4 => ⟨(Value.ref (zad w b) :: As.map (zva w)).toArray, ?_⟩) cont
  have hts := hC.2.2.2.2.1
  have hcw : va_CN R s args y.1.cls idx y'.1 host y'.2.1 y'.2.2.1 none (zws y') (zrm d' k1 z1) k1 z1 n := ⟨⟨rfl, rfl, (zroom (k1 := k1) (z1 := z1) hm hdd h1 h2).1, (zroom (k1 := k1) (z1 := z1) hm hdd h1 h2).2, zws_pay hm hC, by rw [← hre]; exact List.mem_cons_self⟩, by rw [← hre]; exact hC.word hm.1, hC.word hm.2.1, hm.2.2.2.1, hm.len, va_Nw.use rfl (hC.fr.2.2.2.2 _ hl)⟩
  exact va_runIN (As := As.map (zva w)) (b := zad w b) ⟨hC.1, hC.2.1, hC.2.2.1, hC.2.2.2.1, hts⟩ (zmet l hG hm.2.2.1 hl0 hlen h) ⟨hcw, hini, hC.word hi⟩ ⟨zPc.blind w (.ref b :: As) μ, zPc_of (As := .ref b :: As) hC hP⟩ rfl (by rw [List.length_map]; exact hn) hL.1 (by show st.map (zva w) = _; rw [hst, List.map_append, List.map_reverse]; rfl) (zrest w hr) hd ⟨h3, h4⟩
theorem ev_objInit {idx a : Nat} (hd : decode y.2.1 pc = .ok (.invokespecial idx, 3)) (hl : Cond.methodLink y.1.cls idx objectInit ∈ zGT) (hi : Cond.instanceMethod objectInit ∈ zGT) (hco : Cond.code objectInit ⟨#[0xb1]⟩ 1 none ∈ zGT) (hd1 : 1 ≤ d) (hr : (st.map fun v => v.category).sum ≤ 8)
    (kk : EV w d kc ks y (pc + 3) L st μ Q) : EV w d kc ks y pc L (.ref a :: st) μ Q := by
  intro p l e R s m args below meth c0 H locs cells slots Qf ls hG hC hL hP h1 h2 h3 h4 hQ
  have hrs := zrest (pc := pc) w (m := m) (ls := ls) (st := st) hr
  have e0 : 2 * (F0 m pc ls (st.map (zva w))).monitorRoom = 0 := rfl
  exact W.objInit hC.1 hC.2.1 hC.2.2.2.1 (hC.word hl) (hC.word hi) (hC.word hco) rfl (by rw [hC.2.2.1]; exact hL.1) rfl hd (by omega) (by show 2 * 0 + _ + 12 ≤ _; omega) (kk p l e R s m args below meth c0 H locs cells slots Qf ls hG hC hL hP h1 h2 h3 h4 hQ)
theorem ev_max {idx : Nat} {a b v : Int32} (hd : decode y.2.1 pc = .ok (.invokestatic idx, 3)) (hl : Cond.methodLink y.1.cls idx Lib.Math.max.name ∈ zGT) (hst : Cond.static Lib.Math.max.name ∈ zGT) (hini : Cond.initialized "java/lang/Math" ∈ zGT) (hco : Cond.code Lib.Math.max.name Lib.Math.max.code 2 (some .int) ∈ zGT) (hd1 : 1 ≤ d) (hr : (st.map fun v => v.category).sum ≤ 8) (hv : (if a < b then b else a) = v)
    (kk : EV w d kc ks y (pc + 3) L (.int v :: st) μ Q) : EV w d kc ks y pc L (.int b :: .int a :: st) μ Q := by
  intro p l e R s m args below meth c0 H locs cells slots Qf ls hG hC hL hP h1 h2 h3 h4 hQ
  have hrs := zrest (pc := pc) w (m := m) (ls := ls) (st := st) hr
  have e0 : 2 * (F0 m pc ls (st.map (zva w))).monitorRoom = 0 := rfl
  exact va_mmax hC.1 hC.2.1 (by rw [hC.2.2.1]; exact hL.1.symm) hC.2.2.2.1 (hC.word hl) (hC.word hst) (hC.word hini) (hC.word hco) (by omega) (by omega) (by omega) (by omega) hd (by rw [hv]; exact kk p l e R s m args below meth c0 H locs cells slots Qf ls hG hC hL hP h1 h2 h3 h4 hQ)
theorem ev_min {idx : Nat} {a b v : Int32} (hd : decode y.2.1 pc = .ok (.invokestatic idx, 3)) (hl : Cond.methodLink y.1.cls idx Lib.Math.min.name ∈ zGT) (hst : Cond.static Lib.Math.min.name ∈ zGT) (hini : Cond.initialized "java/lang/Math" ∈ zGT) (hco : Cond.code Lib.Math.min.name Lib.Math.min.code 2 (some .int) ∈ zGT) (hd1 : 1 ≤ d) (hr : (st.map fun v => v.category).sum ≤ 8) (hv : (if b < a then b else a) = v)
    (kk : EV w d kc ks y (pc + 3) L (.int v :: st) μ Q) : EV w d kc ks y pc L (.int b :: .int a :: st) μ Q := by
  intro p l e R s m args below meth c0 H locs cells slots Qf ls hG hC hL hP h1 h2 h3 h4 hQ
  have hrs := zrest (pc := pc) w (m := m) (ls := ls) (st := st) hr
  have e0 : 2 * (F0 m pc ls (st.map (zva w))).monitorRoom = 0 := rfl
  exact va_mmin hC.1 hC.2.1 (by rw [hC.2.2.1]; exact hL.1.symm) hC.2.2.2.1 (hC.word hl) (hC.word hst) (hC.word hini) (hC.word hco) (by omega) (by omega) (by omega) (by omega) hd (by rw [hv]; exact kk p l e R s m args below meth c0 H locs cells slots Qf ls hG hC hL hP h1 h2 h3 h4 hQ)
/-- the statics: 0, 1: the first law's two rows; 2: COMPACT_STRINGS -/
theorem ev_getsF {idx : Nat} (hd : decode y.2.1 pc = .ok (.getstatic idx, 3)) (hl : Cond.fieldLink y.1.cls idx "NineHeaps" "FIRST_LAW" "[I" ∈ zGT) (kk : EV w d kc ks y (pc + 3) L (.ref 0 :: st) μ Q) : EV w d kc ks y pc L st μ Q := by
  intro p l e R s m args below meth c0 H locs cells slots Qf ls hG hC hL hP h1 h2 h3 h4 hQ
  exact va_gets hC.1 hC.2.1 ((va_Z.moved hC.fr.1 hG.2.2.2.1.1).kept (zkept hG hC.fr)) hP.2 hC.2.2.2.1 (hC.word hl) (fun _ h => h) hd (kk p l e R s m args below meth c0 H locs cells slots Qf ls hG hC hL hP h1 h2 h3 h4 hQ)
theorem ev_getsS {idx : Nat} (hd : decode y.2.1 pc = .ok (.getstatic idx, 3)) (hl : Cond.fieldLink y.1.cls idx "NineHeaps" "FIRST_LAW_STARTS" "[I" ∈ zGT) (kk : EV w d kc ks y (pc + 3) L (.ref 1 :: st) μ Q) : EV w d kc ks y pc L st μ Q := by
  intro p l e R s m args below meth c0 H locs cells slots Qf ls hG hC hL hP h1 h2 h3 h4 hQ
  exact va_gets hC.1 hC.2.1 ((va_Z.moved hC.fr.1 hG.2.2.2.2.1.1).kept (zkept hG hC.fr)) hP.2 hC.2.2.2.1 (hC.word hl) (fun _ h => h) hd (kk p l e R s m args below meth c0 H locs cells slots Qf ls hG hC hL hP h1 h2 h3 h4 hQ)
theorem ev_getsC {idx : Nat} (hd : decode y.2.1 pc = .ok (.getstatic idx, 3)) (hl : Cond.fieldLink y.1.cls idx "java/lang/String" "COMPACT_STRINGS" "Z" ∈ zGT) (kk : EV w d kc ks y (pc + 3) L (.int 1 :: st) μ Q) : EV w d kc ks y pc L st μ Q := by
  intro p l e R s m args below meth c0 H locs cells slots Qf ls hG hC hL hP h1 h2 h3 h4 hQ
  exact va_gets hC.1 hC.2.1 ((va_Z.moved hC.fr.1 hG.2.2.2.2.2.1).kept (zkept hG hC.fr)) hP.2 hC.2.2.2.1 (hC.word hl) (fun _ h => h) hd (kk p l e R s m args below meth c0 H locs cells slots Qf ls hG hC hL hP h1 h2 h3 h4 hQ)
theorem ev_getsQ {idx : Nat} (hd : decode y.2.1 pc = .ok (.getstatic idx, 3)) (hl : Cond.fieldLink y.1.cls idx "jdk/internal/util/Preconditions" "SIOOBE_FORMATTER" "Ljava/util/function/BiFunction;" ∈ zGT) (kk : EV w d kc ks y (pc + 3) L (va_rf (zsio w) :: st) μ Q) : EV w d kc ks y pc L st μ Q := by
  intro p l e R s m args below meth c0 H locs cells slots Qf ls hG hC hL hP h1 h2 h3 h4 hQ
  have e9 : zva w (va_rf (zsio w)) = va_rf ((zsio w).map (zca w)) := by
    unfold zsio
    by_cases h : zca w 28 = 0
    · rw [if_pos h]
      rfl
    · rw [if_neg h]
      rfl
  have hk : W p l e R s m args below meth c0 H locs cells slots Qf (F0 m (pc + 3) ls (zva w (va_rf (zsio w)) :: st.map (zva w))) := kk p l e R s m args below meth c0 H locs cells slots Qf ls hG hC hL hP h1 h2 h3 h4 hQ
  rw [e9] at hk
  exact va_gets hC.1 hC.2.1 ((va_Z.moved hC.fr.1 hG.2.2.2.2.2.2.2.2.2.1).kept (zkept hG hC.fr)) hP.2 hC.2.2.2.1 (hC.word hl) (fun _ h => h) hd hk
/-- old rows of ints -/
theorem zold_at {w : zW} {s : State} {H : Heap} {locs : List Loc} {i N : Nat} {f : Nat → Int32} (hi : i < 32) (hT : zGF w → zTc w i N f) (hG : zGF w) (hF : zFr w s) (hP : zRp w s μ H locs) : ∃ cell : Cell, H[zad w i]? = some cell ∧ s.isArrayOf cell .int ∧ cell.vm ≠ .unknown ∧ cell.slots.size = N ∧ ∀ j : Nat, j < N → cell.slots[j]? = some (.int (f j)) := by
  obtain ⟨cell, q1, q2, q3, q4, q5, q6⟩ := zsrc_old hi (hT hG) s H locs hG hF hP
  refine ⟨cell, q1, ⟨q4, ?_⟩, q3, q5, q6⟩
  rw [q2]
  exact (((zKs hG hF).2 0 _ rfl).1 0 (fun _ => .null)).2
theorem ev_ialdO {i N : Nat} {j x : Int32} {f : Nat → Int32} (hd : decode y.2.1 pc = .ok (.iaload, 1)) (hi : i < 32) (hT : zGF w → zTc w i N f) (hin : vp_in j N) (hv : f j.toNatClampNeg = x)
    (kk : EV w d kc ks y (pc + 1) L (.int x :: st) μ Q) : EV w d kc ks y pc L (.int j :: .ref i :: st) μ Q := by
  intro p l e R s m args below meth c0 H locs cells slots Qf ls hG hC hL hP h1 h2 h3 h4 hQ
  obtain ⟨cell, q1, q2, q3, q4, q5⟩ := zold_at hi hT hG hC.fr hP
  have hlt : j.toNatClampNeg < N := Nat.not_le.mp fun q => hin (Or.inr q)
  exact W.iald (v := .int x) hC.1 hC.2.1 q1 q2 q3 (by rw [q4]; exact hin) (by rw [q5 _ hlt, hv]) rfl rfl hd (kk p l e R s m args below meth c0 H locs cells slots Qf ls hG hC hL hP h1 h2 h3 h4 hQ)
theorem ev_alenO {i N : Nat} {x : Int32} {f : Nat → Int32} (hd : decode y.2.1 pc = .ok (.arraylength, 1)) (hi : i < 32) (hT : zGF w → zTc w i N f) (hv : N.toInt32 = x)
    (kk : EV w d kc ks y (pc + 1) L (.int x :: st) μ Q) : EV w d kc ks y pc L (.ref i :: st) μ Q := by
  intro p l e R s m args below meth c0 H locs cells slots Qf ls hG hC hL hP h1 h2 h3 h4 hQ
  obtain ⟨cell, q1, q2, q3, q4, q5⟩ := zold_at hi hT hG hC.fr hP
  exact W.alen hC.1 hC.2.1 q1 q2 (by rw [q4]; exact hv) rfl rfl hd (kk p l e R s m args below meth c0 H locs cells slots Qf ls hG hC hL hP h1 h2 h3 h4 hQ)
/-- the script -/
theorem ev_sld {j x : Int32} (hd : decode y.2.1 pc = .ok (.iaload, 1)) (hin : vp_in j (zxl w)) (hv : zxs w j.toNatClampNeg = x)
    (kk : EV w d kc ks y (pc + 1) L (.int x :: st) μ Q) : EV w d kc ks y pc L (.int j :: .ref 26 :: st) μ Q := by
  intro p l e R s m args below meth c0 H locs cells slots Qf ls hG hC hL hP h1 h2 h3 h4 hQ
  exact va_sld hC.1 hC.2.1 (zX hG hC.fr) (Nat.lt_of_lt_of_le hG.2.2.1.2 hC.fr.2.1) (Nat.not_le.mpr hG.2.2.1.2) hP.2 hin hd (by rw [hv]; exact kk p l e R s m args below meth c0 H locs cells slots Qf ls hG hC hL hP h1 h2 h3 h4 hQ)
theorem ev_slen {x : Int32} (hd : decode y.2.1 pc = .ok (.arraylength, 1)) (hv : Int32.ofNat (zxl w) = x)
    (kk : EV w d kc ks y (pc + 1) L (.int x :: st) μ Q) : EV w d kc ks y pc L (.ref 26 :: st) μ Q := by
  intro p l e R s m args below meth c0 H locs cells slots Qf ls hG hC hL hP h1 h2 h3 h4 hQ
  exact va_slen hC.1 hC.2.1 (zX hG hC.fr) (Nat.lt_of_lt_of_le hG.2.2.1.2 hC.fr.2.1) (Nat.not_le.mpr hG.2.2.1.2) hP.2 hd (by subst hv; exact kk p l e R s m args below meth c0 H locs cells slots Qf ls hG hC hL hP h1 h2 h3 h4 hQ)
/-! texts: 2 .. 13, their bytes 14 .. 25; the law's: 81 .. 84, their bytes 85 .. 88 -/
theorem ev_ldcS {i idx : Nat} (hd : decode y.2.1 pc = .ok (.ldc idx, 2)) (hi : i < 12) (hx : zSix.getD (i) 0 = idx) (hy : y.1.cls = "NineHeaps$Tape") (kk : EV w d kc ks y (pc + 2) L (.ref (2 + i) :: st) μ Q) : EV w d kc ks y pc L st μ Q := by
  intro p l e R s m args below meth c0 H locs cells slots Qf ls hG hC hL hP h1 h2 h3 h4 hQ
  have hz := hC.fr.2.2.2.1 (i) (by omega)
  rw [hx, (show zSow (i) = "NineHeaps$Tape" from if_pos (by omega)), (show zSa (i) = 2 + i from if_pos (by omega))] at hz
  have hk := kk p l e R s m args below meth c0 H locs cells slots Qf ls hG hC hL hP h1 h2 h3 h4 hQ
  have hk2 : W p l e R s m args below meth c0 H locs cells slots Qf (F0 m (pc + 2) ls (.ref (zad w (2 + i)) :: st.map (zva w))) := hk
  rw [(show zad w (2 + i) = zca w (2 + i) from if_pos (by omega))] at hk2
  exact va_ldcS hC.1 hC.2.1 (by rw [← hy]; exact hC.2.2.2.1) hz hd hk2
theorem zrcv_str {i : Nat} (hi : i < 12) : zRcv w μ (2 + i) "java/lang/String" := by
  intro s H locs hG hF hP
  rw [(show zad w (2 + i) = zca w (2 + i) from if_pos (by omega))]
  have h9 := vk_recv (i := i) (zstr hG hF) (by omega) hP.2
  rw [(show zSa (i) = 2 + i from if_pos (by omega))] at h9
  exact h9
theorem ev_strV {i idx : Nat} (hd : decode y.2.1 pc = .ok (.getfield idx, 3)) (hi : i < 12) (hl : Cond.fieldLink y.1.cls idx "java/lang/String" "value" "[B" ∈ zGT) (kk : EV w d kc ks y (pc + 3) L (.ref (14 + i) :: st) μ Q) : EV w d kc ks y pc L (.ref (2 + i) :: st) μ Q := by
  intro p l e R s m args below meth c0 H locs cells slots Qf ls hG hC hL hP h1 h2 h3 h4 hQ
  have hk : W p l e R s m args below meth c0 H locs cells slots Qf (F0 m (pc + 3) ls (.ref (zad w (14 + i)) :: st.map (zva w))) := kk p l e R s m args below meth c0 H locs cells slots Qf ls hG hC hL hP h1 h2 h3 h4 hQ
  rw [(show zad w (14 + i) = zca w (14 + i) from if_pos (by omega))] at hk
  show W p l e R s m args below meth c0 H locs cells slots Qf (F0 m pc ls (.ref (zad w (2 + i)) :: st.map (zva w)))
  rw [(show zad w (2 + i) = zca w (2 + i) from if_pos (by omega))]
  have hz := ((zstr hG hC.fr).1 (i) (by omega)).2.2.1
  dsimp only at hz
  rw [(show zSa (i) = 2 + i from if_pos (by omega)), (show zVa (i) = 14 + i from if_pos (by omega))] at hz
  exact vk_getf hC.1 hC.2.1 hz hP.2 hC.2.2.2.1 (hC.word hl) (fun _ h => h) hd hk
theorem ev_strC {i idx : Nat} (hd : decode y.2.1 pc = .ok (.getfield idx, 3)) (hi : i < 12) (hl : Cond.fieldLink y.1.cls idx "java/lang/String" "coder" "B" ∈ zGT) (kk : EV w d kc ks y (pc + 3) L (.int 0 :: st) μ Q) : EV w d kc ks y pc L (.ref (2 + i) :: st) μ Q := by
  intro p l e R s m args below meth c0 H locs cells slots Qf ls hG hC hL hP h1 h2 h3 h4 hQ
  have hk := kk p l e R s m args below meth c0 H locs cells slots Qf ls hG hC hL hP h1 h2 h3 h4 hQ
  show W p l e R s m args below meth c0 H locs cells slots Qf (F0 m pc ls (.ref (zad w (2 + i)) :: st.map (zva w)))
  rw [(show zad w (2 + i) = zca w (2 + i) from if_pos (by omega))]
  have hz := ((zstr hG hC.fr).1 (i) (by omega)).2.1
  dsimp only at hz
  rw [(show zSa (i) = 2 + i from if_pos (by omega))] at hz
  exact vk_getf hC.1 hC.2.1 hz hP.2 hC.2.2.2.1 (hC.word hl) (fun _ h => h) hd hk
theorem ev_bald {i : Nat} {j x : Int32} (hd : decode y.2.1 pc = .ok (.baload, 1)) (hi : i < 12) (hin : vp_in j (zSlen.getD (i) 0)) (hv : (zSbyt.getD (i) []).getD j.toNatClampNeg 0 = x)
    (kk : EV w d kc ks y (pc + 1) L (.int x :: st) μ Q) : EV w d kc ks y pc L (.int j :: .ref (14 + i) :: st) μ Q := by
  intro p l e R s m args below meth c0 H locs cells slots Qf ls hG hC hL hP h1 h2 h3 h4 hQ
  have hk := kk p l e R s m args below meth c0 H locs cells slots Qf ls hG hC hL hP h1 h2 h3 h4 hQ
  show W p l e R s m args below meth c0 H locs cells slots Qf (F0 m pc ls (.int j :: .ref (zad w (14 + i)) :: st.map (zva w)))
  rw [(show zad w (14 + i) = zca w (14 + i) from if_pos (by omega))]
  have hz := ((zstr hG hC.fr).1 (i) (by omega)).2.2.2
  dsimp only at hz
  rw [(show zVa (i) = 14 + i from if_pos (by omega))] at hz
  exact va_tb hC.1 hC.2.1 hz hP.2 hin (v := .int x) (by rw [hv]) hd hk
theorem ev_blen {i : Nat} {x : Int32} (hd : decode y.2.1 pc = .ok (.arraylength, 1)) (hi : i < 12) (hv : Int32.ofNat (zSlen.getD (i) 0) = x)
    (kk : EV w d kc ks y (pc + 1) L (.int x :: st) μ Q) : EV w d kc ks y pc L (.ref (14 + i) :: st) μ Q := by
  intro p l e R s m args below meth c0 H locs cells slots Qf ls hG hC hL hP h1 h2 h3 h4 hQ
  have hk := kk p l e R s m args below meth c0 H locs cells slots Qf ls hG hC hL hP h1 h2 h3 h4 hQ
  show W p l e R s m args below meth c0 H locs cells slots Qf (F0 m pc ls (.ref (zad w (14 + i)) :: st.map (zva w)))
  rw [(show zad w (14 + i) = zca w (14 + i) from if_pos (by omega))]
  have hz := ((zstr hG hC.fr).1 (i) (by omega)).2.2.2
  dsimp only at hz
  rw [(show zVa (i) = 14 + i from if_pos (by omega))] at hz
  exact va_tlen hC.1 hC.2.1 hz hP.2 hv hd hk
theorem ev_ldcT {i idx : Nat} (hd : decode y.2.1 pc = .ok (.ldc idx, 2)) (hi : i < 4) (hx : zSix.getD (12 + i) 0 = idx) (hy : y.1.cls = "NineHeapsLaw") (kk : EV w d kc ks y (pc + 2) L (.ref (81 + i) :: st) μ Q) : EV w d kc ks y pc L st μ Q := by
  intro p l e R s m args below meth c0 H locs cells slots Qf ls hG hC hL hP h1 h2 h3 h4 hQ
  have hz := hC.fr.2.2.2.1 (12 + i) (by omega)
  rw [hx, (show zSow (12 + i) = "NineHeapsLaw" from if_neg (by omega)), (show zSa (12 + i) = 81 + i by unfold zSa; rw [if_neg (by omega)]; omega)] at hz
  have hk := kk p l e R s m args below meth c0 H locs cells slots Qf ls hG hC hL hP h1 h2 h3 h4 hQ
  have hk2 : W p l e R s m args below meth c0 H locs cells slots Qf (F0 m (pc + 2) ls (.ref (zad w (81 + i)) :: st.map (zva w))) := hk
  rw [(show zad w (81 + i) = zca w (81 + i) from zad_gh w (by omega) (by omega))] at hk2
  exact va_ldcS hC.1 hC.2.1 (by rw [← hy]; exact hC.2.2.2.1) hz hd hk2
theorem zrcv_strT {i : Nat} (hi : i < 4) : zRcv w μ (81 + i) "java/lang/String" := by
  intro s H locs hG hF hP
  rw [(show zad w (81 + i) = zca w (81 + i) from zad_gh w (by omega) (by omega))]
  have h9 := vk_recv (i := 12 + i) (zstr hG hF) (by omega) hP.2
  rw [(show zSa (12 + i) = 81 + i by unfold zSa; rw [if_neg (by omega)]; omega)] at h9
  exact h9
theorem ev_strTV {i idx : Nat} (hd : decode y.2.1 pc = .ok (.getfield idx, 3)) (hi : i < 4) (hl : Cond.fieldLink y.1.cls idx "java/lang/String" "value" "[B" ∈ zGT) (kk : EV w d kc ks y (pc + 3) L (.ref (85 + i) :: st) μ Q) : EV w d kc ks y pc L (.ref (81 + i) :: st) μ Q := by
  intro p l e R s m args below meth c0 H locs cells slots Qf ls hG hC hL hP h1 h2 h3 h4 hQ
  have hk : W p l e R s m args below meth c0 H locs cells slots Qf (F0 m (pc + 3) ls (.ref (zad w (85 + i)) :: st.map (zva w))) := kk p l e R s m args below meth c0 H locs cells slots Qf ls hG hC hL hP h1 h2 h3 h4 hQ
  rw [(show zad w (85 + i) = zca w (85 + i) from zad_gh w (by omega) (by omega))] at hk
  show W p l e R s m args below meth c0 H locs cells slots Qf (F0 m pc ls (.ref (zad w (81 + i)) :: st.map (zva w)))
  rw [(show zad w (81 + i) = zca w (81 + i) from zad_gh w (by omega) (by omega))]
  have hz := ((zstr hG hC.fr).1 (12 + i) (by omega)).2.2.1
  dsimp only at hz
  rw [(show zSa (12 + i) = 81 + i by unfold zSa; rw [if_neg (by omega)]; omega), (show zVa (12 + i) = 85 + i by unfold zVa; rw [if_neg (by omega)]; omega)] at hz
  exact vk_getf hC.1 hC.2.1 hz hP.2 hC.2.2.2.1 (hC.word hl) (fun _ h => h) hd hk
theorem ev_strTC {i idx : Nat} (hd : decode y.2.1 pc = .ok (.getfield idx, 3)) (hi : i < 4) (hl : Cond.fieldLink y.1.cls idx "java/lang/String" "coder" "B" ∈ zGT) (kk : EV w d kc ks y (pc + 3) L (.int 0 :: st) μ Q) : EV w d kc ks y pc L (.ref (81 + i) :: st) μ Q := by
  intro p l e R s m args below meth c0 H locs cells slots Qf ls hG hC hL hP h1 h2 h3 h4 hQ
  have hk := kk p l e R s m args below meth c0 H locs cells slots Qf ls hG hC hL hP h1 h2 h3 h4 hQ
  show W p l e R s m args below meth c0 H locs cells slots Qf (F0 m pc ls (.ref (zad w (81 + i)) :: st.map (zva w)))
  rw [(show zad w (81 + i) = zca w (81 + i) from zad_gh w (by omega) (by omega))]
  have hz := ((zstr hG hC.fr).1 (12 + i) (by omega)).2.1
  dsimp only at hz
  rw [(show zSa (12 + i) = 81 + i by unfold zSa; rw [if_neg (by omega)]; omega)] at hz
  exact vk_getf hC.1 hC.2.1 hz hP.2 hC.2.2.2.1 (hC.word hl) (fun _ h => h) hd hk
theorem ev_bTald {i : Nat} {j x : Int32} (hd : decode y.2.1 pc = .ok (.baload, 1)) (hi : i < 4) (hin : vp_in j (zSlen.getD (12 + i) 0)) (hv : (zSbyt.getD (12 + i) []).getD j.toNatClampNeg 0 = x)
    (kk : EV w d kc ks y (pc + 1) L (.int x :: st) μ Q) : EV w d kc ks y pc L (.int j :: .ref (85 + i) :: st) μ Q := by
  intro p l e R s m args below meth c0 H locs cells slots Qf ls hG hC hL hP h1 h2 h3 h4 hQ
  have hk := kk p l e R s m args below meth c0 H locs cells slots Qf ls hG hC hL hP h1 h2 h3 h4 hQ
  show W p l e R s m args below meth c0 H locs cells slots Qf (F0 m pc ls (.int j :: .ref (zad w (85 + i)) :: st.map (zva w)))
  rw [(show zad w (85 + i) = zca w (85 + i) from zad_gh w (by omega) (by omega))]
  have hz := ((zstr hG hC.fr).1 (12 + i) (by omega)).2.2.2
  dsimp only at hz
  rw [(show zVa (12 + i) = 85 + i by unfold zVa; rw [if_neg (by omega)]; omega)] at hz
  exact va_tb hC.1 hC.2.1 hz hP.2 hin (v := .int x) (by rw [hv]) hd hk
theorem ev_bTlen {i : Nat} {x : Int32} (hd : decode y.2.1 pc = .ok (.arraylength, 1)) (hi : i < 4) (hv : Int32.ofNat (zSlen.getD (12 + i) 0) = x)
    (kk : EV w d kc ks y (pc + 1) L (.int x :: st) μ Q) : EV w d kc ks y pc L (.ref (85 + i) :: st) μ Q := by
  intro p l e R s m args below meth c0 H locs cells slots Qf ls hG hC hL hP h1 h2 h3 h4 hQ
  have hk := kk p l e R s m args below meth c0 H locs cells slots Qf ls hG hC hL hP h1 h2 h3 h4 hQ
  show W p l e R s m args below meth c0 H locs cells slots Qf (F0 m pc ls (.ref (zad w (85 + i)) :: st.map (zva w)))
  rw [(show zad w (85 + i) = zca w (85 + i) from zad_gh w (by omega) (by omega))]
  have hz := ((zstr hG hC.fr).1 (12 + i) (by omega)).2.2.2
  dsimp only at hz
  rw [(show zVa (12 + i) = 85 + i by unfold zVa; rw [if_neg (by omega)]; omega)] at hz
  exact va_tlen hC.1 hC.2.1 hz hP.2 hv hd hk
/-- a text's bytes to copy from -/
theorem zSrc_str {i : Nat} (hi : i < 4) : zSrc w μ (85 + i) (zSlen.getD (12 + i) 0) (fun k => (zSbyt.getD (12 + i) []).getD k 0) := by
  intro s H locs hG hF hP
  rw [show zad w (85 + i) = zca w (85 + i) from zad_gh w (by omega) (by omega)]
  have hz := ((zstr hG hF).1 (12 + i) (by omega)).2.2.2
  dsimp only at hz
  rw [show zVa (12 + i) = 85 + i by unfold zVa; rw [if_neg (by omega)]; omega] at hz
  obtain ⟨cell, q1, q2, q3, q4, -, q5, q6⟩ := hz
  have hl : zca w (85 + i) < s.heap.size := (Array.getElem?_eq_some_iff.mp q1).1
  exact ⟨cell, by rw [hP.2.2.1 _ hl q6]; exact q1, q2, q3, q4, q5⟩
/-- Integer.DigitOnes -/
theorem ev_getsD {idx : Nat} (hd : decode y.2.1 pc = .ok (.getstatic idx, 3)) (hl : Cond.fieldLink y.1.cls idx "java/lang/Integer" "DigitOnes" "[B" ∈ zGT) (kk : EV w d kc ks y (pc + 3) L (.ref 89 :: st) μ Q) : EV w d kc ks y pc L st μ Q := by
  intro p l e R s m args below meth c0 H locs cells slots Qf ls hG hC hL hP h1 h2 h3 h4 hQ
  have hk : W p l e R s m args below meth c0 H locs cells slots Qf (F0 m (pc + 3) ls (.ref (zad w 89) :: st.map (zva w))) := kk p l e R s m args below meth c0 H locs cells slots Qf ls hG hC hL hP h1 h2 h3 h4 hQ
  rw [zad_gh w (by decide) (by decide)] at hk
  exact va_gets hC.1 hC.2.1 ((va_Z.moved hC.fr.1 hG.2.2.2.2.2.2.2.2.2.2.1).kept (zkept hG hC.fr)) hP.2 hC.2.2.2.1 (hC.word hl) (fun _ h => h) hd hk
theorem ev_baldD {j x : Int32} (hd : decode y.2.1 pc = .ok (.baload, 1)) (hin : vp_in j 100) (hv : zDo j.toNatClampNeg = x)
    (kk : EV w d kc ks y (pc + 1) L (.int x :: st) μ Q) : EV w d kc ks y pc L (.int j :: .ref 89 :: st) μ Q := by
  intro p l e R s m args below meth c0 H locs cells slots Qf ls hG hC hL hP h1 h2 h3 h4 hQ
  have hk := kk p l e R s m args below meth c0 H locs cells slots Qf ls hG hC hL hP h1 h2 h3 h4 hQ
  show W p l e R s m args below meth c0 H locs cells slots Qf (F0 m pc ls (.int j :: .ref (zad w 89) :: st.map (zva w)))
  rw [zad_gh w (by decide) (by decide)]
  exact va_tb hC.1 hC.2.1 ((va_T.moved hC.fr.1 hG.2.2.2.2.2.2.2.2.2.2.2).kept (zkept hG hC.fr)) hP.2 hin (v := .int x) (by rw [hv]) hd hk
/-- Math.max, Math.min of longs -/
theorem ev_maxL {idx : Nat} {a b v : Int64} (hd : decode y.2.1 pc = .ok (.invokestatic idx, 3)) (hl : Cond.methodLink y.1.cls idx Lib.MathLoose.max_long.x ∈ zGT) (hst : Cond.static Lib.MathLoose.max_long.x ∈ zGT) (hini : Cond.initialized "java/lang/Math" ∈ zGT) (hco : Cond.code Lib.MathLoose.max_long.x Lib.MathLoose.max_long.code 4 (some .long) ∈ zGT) (hd1 : 1 ≤ d) (hr : (st.map fun v => v.category).sum ≤ 8) (hv : (if b < a then a else b) = v)
    (kk : EV w d kc ks y (pc + 3) L (.long v :: st) μ Q) : EV w d kc ks y pc L (.long b :: .long a :: st) μ Q := by
  intro p l e R s m args below meth c0 H locs cells slots Qf ls hG hC hL hP h1 h2 h3 h4 hQ
  have hrs := zrest (pc := pc) w (m := m) (ls := ls) (st := st) hr
  have e0 : 2 * (F0 m pc ls (st.map (zva w))).monitorRoom = 0 := rfl
  exact va_mmax_long hC.1 hC.2.1 (by rw [hC.2.2.1]; exact hL.1.symm) hC.2.2.2.1 (hC.word hl) (hC.word hst) (hC.word hini) (hC.word hco) (by omega) (by omega) (by omega) (by omega) hd (by rw [hv]; exact kk p l e R s m args below meth c0 H locs cells slots Qf ls hG hC hL hP h1 h2 h3 h4 hQ)
theorem ev_minL {idx : Nat} {a b v : Int64} (hd : decode y.2.1 pc = .ok (.invokestatic idx, 3)) (hl : Cond.methodLink y.1.cls idx Lib.MathLoose.min_long.x ∈ zGT) (hst : Cond.static Lib.MathLoose.min_long.x ∈ zGT) (hini : Cond.initialized "java/lang/Math" ∈ zGT) (hco : Cond.code Lib.MathLoose.min_long.x Lib.MathLoose.min_long.code 4 (some .long) ∈ zGT) (hd1 : 1 ≤ d) (hr : (st.map fun v => v.category).sum ≤ 8) (hv : (if b < a then b else a) = v)
    (kk : EV w d kc ks y (pc + 3) L (.long v :: st) μ Q) : EV w d kc ks y pc L (.long b :: .long a :: st) μ Q := by
  intro p l e R s m args below meth c0 H locs cells slots Qf ls hG hC hL hP h1 h2 h3 h4 hQ
  have hrs := zrest (pc := pc) w (m := m) (ls := ls) (st := st) hr
  have e0 : 2 * (F0 m pc ls (st.map (zva w))).monitorRoom = 0 := rfl
  exact va_mmin_long hC.1 hC.2.1 (by rw [hC.2.2.1]; exact hL.1.symm) hC.2.2.2.1 (hC.word hl) (hC.word hst) (hC.word hini) (hC.word hco) (by omega) (by omega) (by omega) (by omega) hd (by rw [hv]; exact kk p l e R s m args below meth c0 H locs cells slots Qf ls hG hC hL hP h1 h2 h3 h4 hQ)
end EVB
end
section
/-! names of methods, and the tables' words that each instruction asks -/
theorem zt1 : ∀ c ∈ tables_1_1, c ∈ lw_tbl := fun c h => by
  unfold lw_tbl tables_1
  simp only [List.mem_append]
  simp only [h, true_or, or_true]
theorem zi1 {c : Cond} (i : Nat) (h : tables_1_1[i]? = some c) (hg : goodWord c = true) : c ∈ zGT := List.mem_filter.mpr ⟨zt1 c (List.mem_of_getElem? h), hg⟩
theorem zt2 : ∀ c ∈ tables_1_2, c ∈ lw_tbl := fun c h => by
  unfold lw_tbl tables_1
  simp only [List.mem_append]
  simp only [h, true_or, or_true]
theorem zi2 {c : Cond} (i : Nat) (h : tables_1_2[i]? = some c) (hg : goodWord c = true) : c ∈ zGT := List.mem_filter.mpr ⟨zt2 c (List.mem_of_getElem? h), hg⟩
theorem zt3 : ∀ c ∈ tables_1_3, c ∈ lw_tbl := fun c h => by
  unfold lw_tbl tables_1
  simp only [List.mem_append]
  simp only [h, true_or, or_true]
theorem zi3 {c : Cond} (i : Nat) (h : tables_1_3[i]? = some c) (hg : goodWord c = true) : c ∈ zGT := List.mem_filter.mpr ⟨zt3 c (List.mem_of_getElem? h), hg⟩
theorem zt4 : ∀ c ∈ tables_1_4, c ∈ lw_tbl := fun c h => by
  unfold lw_tbl tables_1
  simp only [List.mem_append]
  simp only [h, true_or, or_true]
theorem zi4 {c : Cond} (i : Nat) (h : tables_1_4[i]? = some c) (hg : goodWord c = true) : c ∈ zGT := List.mem_filter.mpr ⟨zt4 c (List.mem_of_getElem? h), hg⟩
theorem zt5 : ∀ c ∈ tables_1_5, c ∈ lw_tbl := fun c h => by
  unfold lw_tbl tables_1
  simp only [List.mem_append]
  simp only [h, true_or, or_true]
theorem zi5 {c : Cond} (i : Nat) (h : tables_1_5[i]? = some c) (hg : goodWord c = true) : c ∈ zGT := List.mem_filter.mpr ⟨zt5 c (List.mem_of_getElem? h), hg⟩
def zWc (c : Nat) : Prop := c = 1 ∨ c = 4 ∨ c = 5 ∨ c = 8 ∨ c = 9 ∨ c = 10
abbrev Y0_init : zY := (yX0_init, cX0_init, 2, none)
abbrev Y0_lay : zY := (yX0_lay, cX0_lay, 7, none)
abbrev Y0_join : zY := (yX0_join, cX0_join, 2, none)
abbrev Y0_heapAt : zY := (yX0_heapAt, cX0_heapAt, 2, some (.object "NineHeaps$Heap"))
abbrev Y0_badness : zY := (yX0_badness, cX0_badness, 4, some .int)
abbrev Y0_pass : zY := (yX0_pass, cX0_pass, 5, none)
abbrev Y0_moveOn : zY := (yX0_moveOn, cX0_moveOn, 3, none)
abbrev Y0_endTaking : zY := (yX0_endTaking, cX0_endTaking, 4, none)
abbrev Y0_endProgramme : zY := (yX0_endProgramme, cX0_endProgramme, 2, none)
abbrev Y0_takesOf : zY := (yX0_takesOf, cX0_takesOf, 5, some .int)
abbrev Y0_stepOf : zY := (yX0_stepOf, cX0_stepOf, 5, some .int)
abbrev Y1_init : zY := (yX1_init, cX1_init, 4, none)
abbrev Y1_kind : zY := (yX1_kind, cX1_kind, 1, some .int)
abbrev Y1_takesFor : zY := (yX1_takesFor, cX1_takesFor, 3, some .int)
abbrev Y1_stepFor : zY := (yX1_stepFor, cX1_stepFor, 2, some .int)
abbrev Y2_init : zY := (yX2_init, cX2_init, 2, none)
abbrev Y2_beginGoing : zY := (yX2_beginGoing, cX2_beginGoing, 3, none)
abbrev Y2_lift : zY := (yX2_lift, cX2_lift, 3, some .int)
abbrev Y3_init : zY := (yX3_init, cX3_init, 5, none)
abbrev Y3_says : zY := (yX3_says, cX3_says, 12, some .int)
abbrev Y3_bounded : zY := (yX3_bounded, cX3_bounded, 2, some .int)
abbrev Y3_read : zY := (yX3_read, cX3_read, 3, some .int)
abbrev Y3_worked : zY := (yX3_worked, cX3_worked, 3, some .int)
abbrev Y4_init : zY := (yX4_init, cX4_init, 4, none)
abbrev Y4_kind : zY := (yX4_kind, cX4_kind, 1, some .int)
abbrev Y4_takesFor : zY := (yX4_takesFor, cX4_takesFor, 3, some .int)
abbrev Y4_waits : zY := (yX4_waits, cX4_waits, 1, some .boolean)
abbrev Y5_init : zY := (yX5_init, cX5_init, 4, none)
abbrev Y5_kind : zY := (yX5_kind, cX5_kind, 1, some .int)
abbrev Y5_stepFor : zY := (yX5_stepFor, cX5_stepFor, 2, some .int)
abbrev Y6_init : zY := (yX6_init, cX6_init, 1, none)
abbrev Y6_become : zY := (yX6_become, cX6_become, 3, none)
abbrev Y6_missing : zY := (yX6_missing, cX6_missing, 1, some .boolean)
abbrev Y6_holds : zY := (yX6_holds, cX6_holds, 3, some .boolean)
abbrev Y6_put : zY := (yX6_put, cX6_put, 3, none)
abbrev Y7_init : zY := (yX7_init, cX7_init, 1, none)
abbrev Y7_add : zY := (yX7_add, cX7_add, 2, none)
abbrev Y7_read : zY := (yX7_read, cX7_read, 1, some .int)
abbrev Y7_lastRead : zY := (yX7_lastRead, cX7_lastRead, 2, some (.object "NineHeaps$Law"))
abbrev Y7_readPart : zY := (yX7_readPart, cX7_readPart, 3, none)
abbrev Y7_readOr : zY := (yX7_readOr, cX7_readOr, 3, none)
abbrev Y7_readAnd : zY := (yX7_readAnd, cX7_readAnd, 3, none)
abbrev Y7_readNot : zY := (yX7_readNot, cX7_readNot, 3, none)
abbrev Y7_readSum : zY := (yX7_readSum, cX7_readSum, 4, none)
abbrev Y7_readTerm : zY := (yX7_readTerm, cX7_readTerm, 3, none)
abbrev Y7_readOne : zY := (yX7_readOne, cX7_readOne, 2, none)
abbrev Y7_mayOpen : zY := (yX7_mayOpen, cX7_mayOpen, 2, some .boolean)
abbrev Y7_expect : zY := (yX7_expect, cX7_expect, 2, none)
abbrev Y7_fail : zY := (yX7_fail, cX7_fail, 1, none)
abbrev Y7_put : zY := (yX7_put, cX7_put, 2, none)
abbrev Y7_nextToken : zY := (yX7_nextToken, cX7_nextToken, 2, none)
abbrev Y7_takeWord : zY := (yX7_takeWord, cX7_takeWord, 2, none)
abbrev Y7_takeNumber : zY := (yX7_takeNumber, cX7_takeNumber, 3, none)
abbrev Y7_spells : zY := (yX7_spells, cX7_spells, 4, some .boolean)
abbrev Y7_byteAt : zY := (yX7_byteAt, cX7_byteAt, 2, some .int)
abbrev Y7_isLetter : zY := (yX7_isLetter, cX7_isLetter, 1, some .boolean)
abbrev Y7_isDigit : zY := (yX7_isDigit, cX7_isDigit, 1, some .boolean)
abbrev Y7_isSign : zY := (yX7_isSign, cX7_isSign, 1, some .boolean)
abbrev Y8_init : zY := (yX8_init, cX8_init, 4, none)
abbrev Y8_kind : zY := (yX8_kind, cX8_kind, 1, some .int)
abbrev Y8_takesFor : zY := (yX8_takesFor, cX8_takesFor, 3, some .int)
abbrev Y9_init : zY := (yX9_init, cX9_init, 4, none)
abbrev Y9_kind : zY := (yX9_kind, cX9_kind, 1, some .int)
abbrev Y9_takesFor : zY := (yX9_takesFor, cX9_takesFor, 3, some .int)
abbrev Y10_init : zY := (yX10_init, cX10_init, 4, none)
abbrev Y10_kind : zY := (yX10_kind, cX10_kind, 1, some .int)
abbrev Y10_takesFor : zY := (yX10_takesFor, cX10_takesFor, 3, some .int)
abbrev Y10_stepFor : zY := (yX10_stepFor, cX10_stepFor, 2, some .int)
abbrev Y10_waits : zY := (yX10_waits, cX10_waits, 1, some .boolean)
abbrev Y10_beginGoing : zY := (yX10_beginGoing, cX10_beginGoing, 1, none)
abbrev Y11_init : zY := (yX11_init, cX11_init, 2, none)
abbrev Y11_set : zY := (yX11_set, cX11_set, 6, some .int)
abbrev Y11_changeWant : zY := (yX11_changeWant, cX11_changeWant, 3, some .int)
abbrev Y11_heap : zY := (yX11_heap, cX11_heap, 3, some .int)
abbrev Y11_feed : zY := (yX11_feed, cX11_feed, 7, some .int)
abbrev Y11_text : zY := (yX11_text, cX11_text, 2, some .int)
abbrev Y11_force : zY := (yX11_force, cX11_force, 3, some .int)
abbrev Y11_walker : zY := (yX11_walker, cX11_walker, 4, some .int)
abbrev Y11_told : zY := (yX11_told, cX11_told, 4, some .int)
abbrev Y11_run : zY := (yX11_run, cX11_run, 3, some .int)
abbrev Y11_one : zY := (yX11_one, cX11_one, 5, some .int)
abbrev Y11_height : zY := (yX11_height, cX11_height, 4, some .int)
abbrev Y11_go : zY := (yX11_go, cX11_go, 3, some .int)
abbrev Y11_best : zY := (yX11_best, cX11_best, 9, some .int)
abbrev Y11_start : zY := (yX11_start, cX11_start, 7, some .int)
abbrev Y11_layByOrder : zY := (yX11_layByOrder, cX11_layByOrder, 2, none)
abbrev Y11_orderByNumbers : zY := (yX11_orderByNumbers, cX11_orderByNumbers, 2, none)
abbrev Y11_orderAsDigits : zY := (yX11_orderAsDigits, cX11_orderAsDigits, 3, some .int)
abbrev Y11_nextOrder : zY := (yX11_nextOrder, cX11_nextOrder, 6, some .boolean)
abbrev Y11_swapInOrder : zY := (yX11_swapInOrder, cX11_swapInOrder, 4, none)
abbrev Y11_judge : zY := (yX11_judge, cX11_judge, 4, some .int)
abbrev Y11_film : zY := (yX11_film, cX11_film, 5, some .int)
abbrev Y11_refusedTelling : zY := (yX11_refusedTelling, cX11_refusedTelling, 3, some .int)
abbrev Y11_refusedJudging : zY := (yX11_refusedJudging, cX11_refusedJudging, 4, some .int)
abbrev Y11_firstOtherwise : zY := (yX11_firstOtherwise, cX11_firstOtherwise, 4, some .int)
abbrev Y11_noHeap : zY := (yX11_noHeap, cX11_noHeap, 1, some .boolean)
abbrev Y11_noByte : zY := (yX11_noByte, cX11_noByte, 1, some .boolean)
abbrev Y11_noSeconds : zY := (yX11_noSeconds, cX11_noSeconds, 1, some .boolean)
abbrev Y11_walkerOf : zY := (yX11_walkerOf, cX11_walkerOf, 2, some (.object "NineHeaps$Walker"))
abbrev Y11_textOf : zY := (yX11_textOf, cX11_textOf, 2, some (.object "NineHeaps$Law"))
abbrev Y11_sheetOf : zY := (yX11_sheetOf, cX11_sheetOf, 2, some (.object "NineHeaps$Sheet"))
abbrev Y11_layPlain : zY := (yX11_layPlain, cX11_layPlain, 1, none)
abbrev Y11_layWithout : zY := (yX11_layWithout, cX11_layWithout, 3, none)
abbrev Y11_layHeaps : zY := (yX11_layHeaps, cX11_layHeaps, 1, none)
abbrev Y11_newWalker : zY := (yX11_newWalker, cX11_newWalker, 4, some (.object "NineHeaps$Walker"))
abbrev YJ5_init_d00df : zY := (yJ5_init_d00df, cJ5_init_d00df, 2, none)
abbrev YJ5_length_8abf5 : zY := (yJ5_length_8abf5, cJ5_length_8abf5, 1, some .int)
abbrev YJ5_ensureCapacityInternal_d00df : zY := (yJ5_ensureCapacityInternal_d00df, cJ5_ensureCapacityInternal_d00df, 3, none)
abbrev YJ5_newCapacity_0f7a4 : zY := (yJ5_newCapacity_0f7a4, cJ5_newCapacity_0f7a4, 6, some .int)
abbrev YJ5_append_cf1ce : zY := (yJ5_append_cf1ce, cJ5_append_cf1ce, 3, some (.object "java/lang/AbstractStringBuilder"))
abbrev YJ5_append_c97b9 : zY := (yJ5_append_c97b9, cJ5_append_c97b9, 4, some (.object "java/lang/AbstractStringBuilder"))
abbrev YJ5_getValue_6d5f1 : zY := (yJ5_getValue_6d5f1, cJ5_getValue_6d5f1, 1, some (.array .byte))
abbrev YJ5_isLatin1_aae02 : zY := (yJ5_isLatin1_aae02, cJ5_isLatin1_aae02, 1, some .boolean)
abbrev YJ5_inflateIfNeededFor_a7421 : zY := (yJ5_inflateIfNeededFor_a7421, cJ5_inflateIfNeededFor_a7421, 2, none)
abbrev YJ5_putStringAt_47b60 : zY := (yJ5_putStringAt_47b60, cJ5_putStringAt_47b60, 3, none)
abbrev YJ6_getChars_ba4f3 : zY := (yJ6_getChars_ba4f3, cJ6_getChars_ba4f3, 7, some .int)
abbrev YJ6_stringSize_0f7a4 : zY := (yJ6_stringSize_0f7a4, cJ6_stringSize_0f7a4, 4, some .int)
abbrev YJ9_floorMod_7cf53 : zY := (yJ9_floorMod_7cf53, cJ9_floorMod_7cf53, 3, some .int)
abbrev YJ0_init_81219 : zY := (yJ0_init_81219, cJ0_init_81219, 2, none)
abbrev YJ0_length_8abf5 : zY := (yJ0_length_8abf5, cJ0_length_8abf5, 1, some .int)
abbrev YJ0_charAt_5068e : zY := (yJ0_charAt_5068e, cJ0_charAt_5068e, 2, some .char)
abbrev YJ0_getBytes_840e7 : zY := (yJ0_getBytes_840e7, cJ0_getBytes_840e7, 4, none)
abbrev YJ0_init_db425 : zY := (yJ0_init_db425, cJ0_init_db425, 5, none)
abbrev YJ0_coder_7d493 : zY := (yJ0_coder_7d493, cJ0_coder_7d493, 1, some .byte)
abbrev YJ0_isLatin1_aae02 : zY := (yJ0_isLatin1_aae02, cJ0_isLatin1_aae02, 1, some .boolean)
abbrev YJ0_checkIndex_df160 : zY := (yJ0_checkIndex_df160, cJ0_checkIndex_df160, 2, none)
abbrev YJ4_init_da8c8 : zY := (yJ4_init_da8c8, cJ4_init_da8c8, 1, none)
abbrev YJ4_append_15ec4 : zY := (yJ4_append_15ec4, cJ4_append_15ec4, 2, some (.object "java/lang/StringBuilder"))
abbrev YJ4_append_bf812 : zY := (yJ4_append_bf812, cJ4_append_bf812, 2, some (.object "java/lang/StringBuilder"))
abbrev YJ4_toString_0e30d : zY := (yJ4_toString_0e30d, cJ4_toString_0e30d, 1, some (.object "java/lang/String"))
abbrev YJ1_charAt_3b067 : zY := (yJ1_charAt_3b067, cJ1_charAt_3b067, 2, some .char)
abbrev YJ7_fill_53178 : zY := (yJ7_fill_53178, cJ7_fill_53178, 4, none)
abbrev YJ7_copyOf_9075b : zY := (yJ7_copyOf_9075b, cJ7_copyOf_9075b, 3, some (.array .byte))
abbrev YJ7_copyOf_59c91 : zY := (yJ7_copyOf_59c91, cJ7_copyOf_59c91, 3, some (.array .int))
abbrev YJ7_checkLength_df160 : zY := (yJ7_checkLength_df160, cJ7_checkLength_df160, 2, none)
abbrev YJ7_copyOfRange_39247 : zY := (yJ7_copyOfRange_39247, cJ7_copyOfRange_39247, 3, some (.array .byte))
abbrev YJ7_copyOfRangeByte_39247 : zY := (yJ7_copyOfRangeByte_39247, cJ7_copyOfRangeByte_39247, 5, some (.array .byte))
abbrev YJ8_newLength_cabcc : zY := (yJ8_newLength_cabcc, cJ8_newLength_cabcc, 4, some .int)
abbrev YJ3_checkIndex_8e157 : zY := (yJ3_checkIndex_8e157, cJ3_checkIndex_8e157, 3, some .int)
abbrev YL_at : zY := (yL_at, cL_at, 2, some .int)
abbrev YL_text : zY := (yL_text, cL_text, 3, none)
abbrev YL_build : zY := (yL_build, cL_build, 3, some (.object "NineHeaps"))
abbrev YL_plain : zY := (yL_plain, cL_plain, 1, some .boolean)
abbrev YL_many : zY := (yL_many, cL_many, 1, some .int)
abbrev YL_want : zY := (yL_want, cL_want, 1, some .int)
abbrev YL_high : zY := (yL_high, cL_high, 2, some .int)
abbrev YL_stick : zY := (yL_stick, cL_stick, 2, some .int)
abbrev YL_kind : zY := (yL_kind, cL_kind, 2, some .int)
abbrev YL_more : zY := (yL_more, cL_more, 2, some .int)
abbrev YL_from : zY := (yL_from, cL_from, 2, some .int)
abbrev YL_held : zY := (yL_held, cL_held, 4, some .int)
abbrev YL_start : zY := (yL_start, cL_start, 3, none)
abbrev YL_begin : zY := (yL_begin, cL_begin, 2, none)
abbrev YL_takes : zY := (yL_takes, cL_takes, 10, some .int)
abbrev YL_steps : zY := (yL_steps, cL_steps, 7, some .int)
abbrev YL_lift : zY := (yL_lift, cL_lift, 6, none)
abbrev YL_second : zY := (yL_second, cL_second, 10, none)
abbrev YL_go : zY := (yL_go, cL_go, 6, some .int)
abbrev YL_plainly : zY := (yL_plainly, cL_plainly, 7, some .int)
abbrev YL_law : zY := (yL_law, cL_law, 11, some .boolean)
theorem zn_NineHeaps : Cond.initialized "NineHeaps" ∈ zGT := zi1 1 rfl rfl
theorem zn_NineHeaps_Going : Cond.initialized "NineHeaps$Going" ∈ zGT := zi1 3 rfl rfl
theorem zn_NineHeaps_Grandfather : Cond.initialized "NineHeaps$Grandfather" ∈ zGT := zi1 13 rfl rfl
theorem zn_NineHeaps_Heap : Cond.initialized "NineHeaps$Heap" ∈ zGT := zi1 4 rfl rfl
theorem zn_NineHeaps_Law : Cond.initialized "NineHeaps$Law" ∈ zGT := zi1 6 rfl rfl
theorem zn_NineHeaps_Passing : Cond.initialized "NineHeaps$Passing" ∈ zGT := zi1 12 rfl rfl
theorem zn_NineHeaps_Quick : Cond.initialized "NineHeaps$Quick" ∈ zGT := zi1 10 rfl rfl
theorem zn_NineHeaps_Sheet : Cond.initialized "NineHeaps$Sheet" ∈ zGT := zi1 8 rfl rfl
theorem zn_NineHeaps_Tape : Cond.initialized "NineHeaps$Tape" ∈ zGT := zi1 2 rfl rfl
theorem zn_NineHeaps_Thumbed : Cond.initialized "NineHeaps$Thumbed" ∈ zGT := zi1 11 rfl rfl
theorem zn_NineHeaps_Two : Cond.initialized "NineHeaps$Two" ∈ zGT := zi1 14 rfl rfl
theorem zn_NineHeaps_Walker : Cond.initialized "NineHeaps$Walker" ∈ zGT := zi1 9 rfl rfl
theorem zn_NineHeapsLaw : Cond.initialized "NineHeapsLaw" ∈ zGT := zi1 0 rfl rfl
theorem zn_java_lang_AbstractStringBuilder : Cond.initialized "java/lang/AbstractStringBuilder" ∈ zGT := zi1 15 rfl rfl
theorem zn_java_lang_Integer : Cond.initialized "java/lang/Integer" ∈ zGT := zi1 24 rfl rfl
theorem zn_java_lang_Math : Cond.initialized "java/lang/Math" ∈ zGT := zi1 7 rfl rfl
theorem zn_java_lang_String : Cond.initialized "java/lang/String" ∈ zGT := zi1 17 rfl rfl
theorem zn_java_lang_StringBuilder : Cond.initialized "java/lang/StringBuilder" ∈ zGT := zi1 16 rfl rfl
theorem zn_java_lang_StringLatin1 : Cond.initialized "java/lang/StringLatin1" ∈ zGT := zi1 22 rfl rfl
theorem zn_java_lang_System : Cond.initialized "java/lang/System" ∈ zGT := zi1 20 rfl rfl
theorem zn_java_util_Arrays : Cond.initialized "java/util/Arrays" ∈ zGT := zi1 5 rfl rfl
theorem zn_jdk_internal_util_ArraysSupport : Cond.initialized "jdk/internal/util/ArraysSupport" ∈ zGT := zi1 19 rfl rfl
theorem zn_jdk_internal_util_Preconditions : Cond.initialized "jdk/internal/util/Preconditions" ∈ zGT := zi1 21 rfl rfl
theorem zm0_init : zMeth Y0_init 0 := ⟨zi1 82 rfl rfl, zn_NineHeaps_Going, plainFor_of_name (by decide +kernel), ⟨by decide +kernel, by decide +kernel⟩, by decide +kernel, by decide⟩
theorem zi0_init : Cond.instanceMethod yX0_init ∈ zGT := zi1 81 rfl rfl
theorem zm0_lay : zMeth Y0_lay 5 := ⟨zi2 118 rfl rfl, zn_NineHeaps_Going, plainFor_of_name (by decide +kernel), ⟨by decide +kernel, by decide +kernel⟩, by decide +kernel, by decide⟩
theorem zi0_lay : Cond.instanceMethod yX0_lay ∈ zGT := zi2 116 rfl rfl
theorem zm0_join : zMeth Y0_join 1 := ⟨zi2 126 rfl rfl, zn_NineHeaps_Going, plainFor_of_name (by decide +kernel), ⟨by decide +kernel, by decide +kernel⟩, by decide +kernel, by decide⟩
theorem zi0_join : Cond.instanceMethod yX0_join ∈ zGT := zi2 124 rfl rfl
theorem zm0_heapAt : zMeth Y0_heapAt 1 := ⟨zi2 148 rfl rfl, zn_NineHeaps_Going, plainFor_of_name (by decide +kernel), ⟨by decide +kernel, by decide +kernel⟩, by decide +kernel, by decide⟩
theorem zi0_heapAt : Cond.instanceMethod yX0_heapAt ∈ zGT := zi2 146 rfl rfl
theorem zm0_badness : zMeth Y0_badness 0 := ⟨zi2 227 rfl rfl, zn_NineHeaps_Going, plainFor_of_name (by decide +kernel), ⟨by decide +kernel, by decide +kernel⟩, by decide +kernel, by decide⟩
theorem zi0_badness : Cond.instanceMethod yX0_badness ∈ zGT := zi2 225 rfl rfl
theorem zm0_pass : zMeth Y0_pass 1 := ⟨zi2 140 rfl rfl, zn_NineHeaps_Going, plainFor_of_name (by decide +kernel), ⟨by decide +kernel, by decide +kernel⟩, by decide +kernel, by decide⟩
theorem zi0_pass : Cond.instanceMethod yX0_pass ∈ zGT := zi2 138 rfl rfl
theorem zm0_moveOn : zMeth Y0_moveOn 1 := ⟨zi2 144 rfl rfl, zn_NineHeaps_Going, plainFor_of_name (by decide +kernel), ⟨by decide +kernel, by decide +kernel⟩, by decide +kernel, by decide⟩
theorem zi0_moveOn : Cond.instanceMethod yX0_moveOn ∈ zGT := zi2 143 rfl rfl
theorem zm0_endTaking : zMeth Y0_endTaking 2 := ⟨zi2 155 rfl rfl, zn_NineHeaps_Going, plainFor_of_name (by decide +kernel), ⟨by decide +kernel, by decide +kernel⟩, by decide +kernel, by decide⟩
theorem zi0_endTaking : Cond.instanceMethod yX0_endTaking ∈ zGT := zi2 154 rfl rfl
theorem zm0_endProgramme : zMeth Y0_endProgramme 1 := ⟨zi2 163 rfl rfl, zn_NineHeaps_Going, plainFor_of_name (by decide +kernel), ⟨by decide +kernel, by decide +kernel⟩, by decide +kernel, by decide⟩
theorem zi0_endProgramme : Cond.instanceMethod yX0_endProgramme ∈ zGT := zi2 162 rfl rfl
theorem zm0_takesOf : zMeth Y0_takesOf 3 := ⟨zi2 198 rfl rfl, zn_NineHeaps_Going, plainFor_of_name (by decide +kernel), ⟨by decide +kernel, by decide +kernel⟩, by decide +kernel, by decide⟩
theorem zi0_takesOf : Cond.instanceMethod yX0_takesOf ∈ zGT := zi2 196 rfl rfl
theorem zm0_stepOf : zMeth Y0_stepOf 3 := ⟨zi2 167 rfl rfl, zn_NineHeaps_Going, plainFor_of_name (by decide +kernel), ⟨by decide +kernel, by decide +kernel⟩, by decide +kernel, by decide⟩
theorem zi0_stepOf : Cond.instanceMethod yX0_stepOf ∈ zGT := zi2 165 rfl rfl
theorem zm1_init : zMeth Y1_init 3 := ⟨zi3 222 rfl rfl, zn_NineHeaps_Grandfather, plainFor_of_name (by decide +kernel), ⟨by decide +kernel, by decide +kernel⟩, by decide +kernel, by decide⟩
theorem zi1_init : Cond.instanceMethod yX1_init ∈ zGT := zi3 221 rfl rfl
theorem zm1_kind : zMeth Y1_kind 0 := ⟨zi2 66 rfl rfl, zn_NineHeaps_Grandfather, plainFor_of_name (by decide +kernel), ⟨by decide +kernel, by decide +kernel⟩, by decide +kernel, by decide⟩
theorem zi1_kind : Cond.instanceMethod yX1_kind ∈ zGT := zi2 65 rfl rfl
theorem zm1_takesFor : zMeth Y1_takesFor 2 := ⟨zi2 205 rfl rfl, zn_NineHeaps_Grandfather, plainFor_of_name (by decide +kernel), ⟨by decide +kernel, by decide +kernel⟩, by decide +kernel, by decide⟩
theorem zi1_takesFor : Cond.instanceMethod yX1_takesFor ∈ zGT := zi2 204 rfl rfl
theorem zm1_stepFor : zMeth Y1_stepFor 1 := ⟨zi2 185 rfl rfl, zn_NineHeaps_Grandfather, plainFor_of_name (by decide +kernel), ⟨by decide +kernel, by decide +kernel⟩, by decide +kernel, by decide⟩
theorem zi1_stepFor : Cond.instanceMethod yX1_stepFor ∈ zGT := zi2 184 rfl rfl
theorem zm2_init : zMeth Y2_init 1 := ⟨zi1 90 rfl rfl, zn_NineHeaps_Heap, plainFor_of_name (by decide +kernel), ⟨by decide +kernel, by decide +kernel⟩, by decide +kernel, by decide⟩
theorem zi2_init : Cond.instanceMethod yX2_init ∈ zGT := zi1 89 rfl rfl
theorem zm2_beginGoing : zMeth Y2_beginGoing 2 := ⟨zi2 122 rfl rfl, zn_NineHeaps_Heap, plainFor_of_name (by decide +kernel), ⟨by decide +kernel, by decide +kernel⟩, by decide +kernel, by decide⟩
theorem zi2_beginGoing : Cond.instanceMethod yX2_beginGoing ∈ zGT := zi2 120 rfl rfl
theorem zm2_lift : zMeth Y2_lift 1 := ⟨zi2 159 rfl rfl, zn_NineHeaps_Heap, plainFor_of_name (by decide +kernel), ⟨by decide +kernel, by decide +kernel⟩, by decide +kernel, by decide⟩
theorem zi2_lift : Cond.instanceMethod yX2_lift ∈ zGT := zi2 157 rfl rfl
theorem zm3_init : zMeth Y3_init 2 := ⟨zi1 175 rfl rfl, zn_NineHeaps_Law, plainFor_of_name (by decide +kernel), ⟨by decide +kernel, by decide +kernel⟩, by decide +kernel, by decide⟩
theorem zi3_init : Cond.instanceMethod yX3_init ∈ zGT := zi1 174 rfl rfl
theorem zm3_says : zMeth Y3_says 6 := ⟨zi2 171 rfl rfl, zn_NineHeaps_Law, plainFor_of_name (by decide +kernel), ⟨by decide +kernel, by decide +kernel⟩, by decide +kernel, by decide⟩
theorem zi3_says : Cond.instanceMethod yX3_says ∈ zGT := zi2 169 rfl rfl
theorem zm3_bounded : zMeth Y3_bounded 2 := ⟨zi1 186 rfl rfl, zn_NineHeaps_Law, plainFor_of_name (by decide +kernel), ⟨by decide +kernel, by decide +kernel⟩, by decide +kernel, by decide⟩
theorem zs3_bounded : Cond.static yX3_bounded ∈ zGT := zi1 185 rfl rfl
theorem zm3_read : zMeth Y3_read 1 := ⟨zi2 175 rfl rfl, zn_NineHeaps_Law, plainFor_of_name (by decide +kernel), ⟨by decide +kernel, by decide +kernel⟩, by decide +kernel, by decide⟩
theorem zi3_read : Cond.instanceMethod yX3_read ∈ zGT := zi2 174 rfl rfl
theorem zm3_worked : zMeth Y3_worked 3 := ⟨zi2 178 rfl rfl, zn_NineHeaps_Law, plainFor_of_name (by decide +kernel), ⟨by decide +kernel, by decide +kernel⟩, by decide +kernel, by decide⟩
theorem zs3_worked : Cond.static yX3_worked ∈ zGT := zi2 177 rfl rfl
theorem zm4_init : zMeth Y4_init 3 := ⟨zi3 205 rfl rfl, zn_NineHeaps_Passing, plainFor_of_name (by decide +kernel), ⟨by decide +kernel, by decide +kernel⟩, by decide +kernel, by decide⟩
theorem zi4_init : Cond.instanceMethod yX4_init ∈ zGT := zi3 204 rfl rfl
theorem zm4_kind : zMeth Y4_kind 0 := ⟨zi2 69 rfl rfl, zn_NineHeaps_Passing, plainFor_of_name (by decide +kernel), ⟨by decide +kernel, by decide +kernel⟩, by decide +kernel, by decide⟩
theorem zi4_kind : Cond.instanceMethod yX4_kind ∈ zGT := zi2 68 rfl rfl
theorem zm4_takesFor : zMeth Y4_takesFor 2 := ⟨zi2 212 rfl rfl, zn_NineHeaps_Passing, plainFor_of_name (by decide +kernel), ⟨by decide +kernel, by decide +kernel⟩, by decide +kernel, by decide⟩
theorem zi4_takesFor : Cond.instanceMethod yX4_takesFor ∈ zGT := zi2 211 rfl rfl
theorem zm4_waits : zMeth Y4_waits 0 := ⟨zi2 87 rfl rfl, zn_NineHeaps_Passing, plainFor_of_name (by decide +kernel), ⟨by decide +kernel, by decide +kernel⟩, by decide +kernel, by decide⟩
theorem zi4_waits : Cond.instanceMethod yX4_waits ∈ zGT := zi2 86 rfl rfl
theorem zm5_init : zMeth Y5_init 3 := ⟨zi3 120 rfl rfl, zn_NineHeaps_Quick, plainFor_of_name (by decide +kernel), ⟨by decide +kernel, by decide +kernel⟩, by decide +kernel, by decide⟩
theorem zi5_init : Cond.instanceMethod yX5_init ∈ zGT := zi3 119 rfl rfl
theorem zm5_kind : zMeth Y5_kind 0 := ⟨zi2 72 rfl rfl, zn_NineHeaps_Quick, plainFor_of_name (by decide +kernel), ⟨by decide +kernel, by decide +kernel⟩, by decide +kernel, by decide⟩
theorem zi5_kind : Cond.instanceMethod yX5_kind ∈ zGT := zi2 71 rfl rfl
theorem zm5_stepFor : zMeth Y5_stepFor 1 := ⟨zi2 188 rfl rfl, zn_NineHeaps_Quick, plainFor_of_name (by decide +kernel), ⟨by decide +kernel, by decide +kernel⟩, by decide +kernel, by decide⟩
theorem zi5_stepFor : Cond.instanceMethod yX5_stepFor ∈ zGT := zi2 187 rfl rfl
theorem zm6_init : zMeth Y6_init 0 := ⟨zi1 212 rfl rfl, zn_NineHeaps_Sheet, plainFor_of_name (by decide +kernel), ⟨by decide +kernel, by decide +kernel⟩, by decide +kernel, by decide⟩
theorem zi6_init : Cond.instanceMethod yX6_init ∈ zGT := zi1 211 rfl rfl
theorem zm6_become : zMeth Y6_become 2 := ⟨zi3 62 rfl rfl, zn_NineHeaps_Sheet, plainFor_of_name (by decide +kernel), ⟨by decide +kernel, by decide +kernel⟩, by decide +kernel, by decide⟩
theorem zi6_become : Cond.instanceMethod yX6_become ∈ zGT := zi3 60 rfl rfl
theorem zm6_missing : zMeth Y6_missing 0 := ⟨zi3 50 rfl rfl, zn_NineHeaps_Sheet, plainFor_of_name (by decide +kernel), ⟨by decide +kernel, by decide +kernel⟩, by decide +kernel, by decide⟩
theorem zi6_missing : Cond.instanceMethod yX6_missing ∈ zGT := zi3 48 rfl rfl
theorem zm6_holds : zMeth Y6_holds 2 := ⟨zi3 73 rfl rfl, zn_NineHeaps_Sheet, plainFor_of_name (by decide +kernel), ⟨by decide +kernel, by decide +kernel⟩, by decide +kernel, by decide⟩
theorem zi6_holds : Cond.instanceMethod yX6_holds ∈ zGT := zi3 71 rfl rfl
theorem zm6_put : zMeth Y6_put 2 := ⟨zi3 69 rfl rfl, zn_NineHeaps_Sheet, plainFor_of_name (by decide +kernel), ⟨by decide +kernel, by decide +kernel⟩, by decide +kernel, by decide⟩
theorem zi6_put : Cond.instanceMethod yX6_put ∈ zGT := zi3 67 rfl rfl
theorem zm7_init : zMeth Y7_init 0 := ⟨zi1 41 rfl rfl, zn_NineHeaps_Tape, plainFor_of_name (by decide +kernel), ⟨by decide +kernel, by decide +kernel⟩, by decide +kernel, by decide⟩
theorem zi7_init : Cond.instanceMethod yX7_init ∈ zGT := zi1 40 rfl rfl
theorem zm7_add : zMeth Y7_add 1 := ⟨zi5 63 rfl rfl, zn_NineHeaps_Tape, plainFor_of_name (by decide +kernel), ⟨by decide +kernel, by decide +kernel⟩, by decide +kernel, by decide⟩
theorem zi7_add : Cond.instanceMethod yX7_add ∈ zGT := zi5 61 rfl rfl
theorem zm7_read : zMeth Y7_read 0 := ⟨zi5 71 rfl rfl, zn_NineHeaps_Tape, plainFor_of_name (by decide +kernel), ⟨by decide +kernel, by decide +kernel⟩, by decide +kernel, by decide⟩
theorem zi7_read : Cond.instanceMethod yX7_read ∈ zGT := zi5 69 rfl rfl
theorem zm7_lastRead : zMeth Y7_lastRead 0 := ⟨zi5 162 rfl rfl, zn_NineHeaps_Tape, plainFor_of_name (by decide +kernel), ⟨by decide +kernel, by decide +kernel⟩, by decide +kernel, by decide⟩
theorem zi7_lastRead : Cond.instanceMethod yX7_lastRead ∈ zGT := zi5 160 rfl rfl
theorem zm7_readPart : zMeth Y7_readPart 2 := ⟨zi5 118 rfl rfl, zn_NineHeaps_Tape, plainFor_of_name (by decide +kernel), ⟨by decide +kernel, by decide +kernel⟩, by decide +kernel, by decide⟩
theorem zi7_readPart : Cond.instanceMethod yX7_readPart ∈ zGT := zi5 117 rfl rfl
theorem zm7_readOr : zMeth Y7_readOr 1 := ⟨zi5 130 rfl rfl, zn_NineHeaps_Tape, plainFor_of_name (by decide +kernel), ⟨by decide +kernel, by decide +kernel⟩, by decide +kernel, by decide⟩
theorem zi7_readOr : Cond.instanceMethod yX7_readOr ∈ zGT := zi5 129 rfl rfl
theorem zm7_readAnd : zMeth Y7_readAnd 1 := ⟨zi5 134 rfl rfl, zn_NineHeaps_Tape, plainFor_of_name (by decide +kernel), ⟨by decide +kernel, by decide +kernel⟩, by decide +kernel, by decide⟩
theorem zi7_readAnd : Cond.instanceMethod yX7_readAnd ∈ zGT := zi5 133 rfl rfl
theorem zm7_readNot : zMeth Y7_readNot 1 := ⟨zi5 138 rfl rfl, zn_NineHeaps_Tape, plainFor_of_name (by decide +kernel), ⟨by decide +kernel, by decide +kernel⟩, by decide +kernel, by decide⟩
theorem zi7_readNot : Cond.instanceMethod yX7_readNot ∈ zGT := zi5 137 rfl rfl
theorem zm7_readSum : zMeth Y7_readSum 1 := ⟨zi5 150 rfl rfl, zn_NineHeaps_Tape, plainFor_of_name (by decide +kernel), ⟨by decide +kernel, by decide +kernel⟩, by decide +kernel, by decide⟩
theorem zi7_readSum : Cond.instanceMethod yX7_readSum ∈ zGT := zi5 149 rfl rfl
theorem zm7_readTerm : zMeth Y7_readTerm 1 := ⟨zi5 154 rfl rfl, zn_NineHeaps_Tape, plainFor_of_name (by decide +kernel), ⟨by decide +kernel, by decide +kernel⟩, by decide +kernel, by decide⟩
theorem zi7_readTerm : Cond.instanceMethod yX7_readTerm ∈ zGT := zi5 153 rfl rfl
theorem zm7_readOne : zMeth Y7_readOne 1 := ⟨zi5 158 rfl rfl, zn_NineHeaps_Tape, plainFor_of_name (by decide +kernel), ⟨by decide +kernel, by decide +kernel⟩, by decide +kernel, by decide⟩
theorem zi7_readOne : Cond.instanceMethod yX7_readOne ∈ zGT := zi5 157 rfl rfl
theorem zm7_mayOpen : zMeth Y7_mayOpen 1 := ⟨zi5 142 rfl rfl, zn_NineHeaps_Tape, plainFor_of_name (by decide +kernel), ⟨by decide +kernel, by decide +kernel⟩, by decide +kernel, by decide⟩
theorem zi7_mayOpen : Cond.instanceMethod yX7_mayOpen ∈ zGT := zi5 141 rfl rfl
theorem zm7_expect : zMeth Y7_expect 1 := ⟨zi5 122 rfl rfl, zn_NineHeaps_Tape, plainFor_of_name (by decide +kernel), ⟨by decide +kernel, by decide +kernel⟩, by decide +kernel, by decide⟩
theorem zi7_expect : Cond.instanceMethod yX7_expect ∈ zGT := zi5 121 rfl rfl
theorem zm7_fail : zMeth Y7_fail 0 := ⟨zi5 126 rfl rfl, zn_NineHeaps_Tape, plainFor_of_name (by decide +kernel), ⟨by decide +kernel, by decide +kernel⟩, by decide +kernel, by decide⟩
theorem zi7_fail : Cond.instanceMethod yX7_fail ∈ zGT := zi5 125 rfl rfl
theorem zm7_put : zMeth Y7_put 1 := ⟨zi5 146 rfl rfl, zn_NineHeaps_Tape, plainFor_of_name (by decide +kernel), ⟨by decide +kernel, by decide +kernel⟩, by decide +kernel, by decide⟩
theorem zi7_put : Cond.instanceMethod yX7_put ∈ zGT := zi5 145 rfl rfl
theorem zm7_nextToken : zMeth Y7_nextToken 0 := ⟨zi5 75 rfl rfl, zn_NineHeaps_Tape, plainFor_of_name (by decide +kernel), ⟨by decide +kernel, by decide +kernel⟩, by decide +kernel, by decide⟩
theorem zi7_nextToken : Cond.instanceMethod yX7_nextToken ∈ zGT := zi5 74 rfl rfl
theorem zm7_takeWord : zMeth Y7_takeWord 0 := ⟨zi5 86 rfl rfl, zn_NineHeaps_Tape, plainFor_of_name (by decide +kernel), ⟨by decide +kernel, by decide +kernel⟩, by decide +kernel, by decide⟩
theorem zi7_takeWord : Cond.instanceMethod yX7_takeWord ∈ zGT := zi5 85 rfl rfl
theorem zm7_takeNumber : zMeth Y7_takeNumber 0 := ⟨zi5 111 rfl rfl, zn_NineHeaps_Tape, plainFor_of_name (by decide +kernel), ⟨by decide +kernel, by decide +kernel⟩, by decide +kernel, by decide⟩
theorem zi7_takeNumber : Cond.instanceMethod yX7_takeNumber ∈ zGT := zi5 110 rfl rfl
theorem zm7_spells : zMeth Y7_spells 1 := ⟨zi5 91 rfl rfl, zn_NineHeaps_Tape, plainFor_of_name (by decide +kernel), ⟨by decide +kernel, by decide +kernel⟩, by decide +kernel, by decide⟩
theorem zi7_spells : Cond.instanceMethod yX7_spells ∈ zGT := zi5 90 rfl rfl
theorem zm7_byteAt : zMeth Y7_byteAt 1 := ⟨zi5 79 rfl rfl, zn_NineHeaps_Tape, plainFor_of_name (by decide +kernel), ⟨by decide +kernel, by decide +kernel⟩, by decide +kernel, by decide⟩
theorem zi7_byteAt : Cond.instanceMethod yX7_byteAt ∈ zGT := zi5 78 rfl rfl
theorem zm7_isLetter : zMeth Y7_isLetter 1 := ⟨zi5 82 rfl rfl, zn_NineHeaps_Tape, plainFor_of_name (by decide +kernel), ⟨by decide +kernel, by decide +kernel⟩, by decide +kernel, by decide⟩
theorem zs7_isLetter : Cond.static yX7_isLetter ∈ zGT := zi5 81 rfl rfl
theorem zm7_isDigit : zMeth Y7_isDigit 1 := ⟨zi5 107 rfl rfl, zn_NineHeaps_Tape, plainFor_of_name (by decide +kernel), ⟨by decide +kernel, by decide +kernel⟩, by decide +kernel, by decide⟩
theorem zs7_isDigit : Cond.static yX7_isDigit ∈ zGT := zi5 106 rfl rfl
theorem zm7_isSign : zMeth Y7_isSign 1 := ⟨zi5 114 rfl rfl, zn_NineHeaps_Tape, plainFor_of_name (by decide +kernel), ⟨by decide +kernel, by decide +kernel⟩, by decide +kernel, by decide⟩
theorem zs7_isSign : Cond.static yX7_isSign ∈ zGT := zi5 113 rfl rfl
theorem zm8_init : zMeth Y8_init 3 := ⟨zi3 187 rfl rfl, zn_NineHeaps_Thumbed, plainFor_of_name (by decide +kernel), ⟨by decide +kernel, by decide +kernel⟩, by decide +kernel, by decide⟩
theorem zi8_init : Cond.instanceMethod yX8_init ∈ zGT := zi3 186 rfl rfl
theorem zm8_kind : zMeth Y8_kind 0 := ⟨zi2 75 rfl rfl, zn_NineHeaps_Thumbed, plainFor_of_name (by decide +kernel), ⟨by decide +kernel, by decide +kernel⟩, by decide +kernel, by decide⟩
theorem zi8_kind : Cond.instanceMethod yX8_kind ∈ zGT := zi2 74 rfl rfl
theorem zm8_takesFor : zMeth Y8_takesFor 2 := ⟨zi2 209 rfl rfl, zn_NineHeaps_Thumbed, plainFor_of_name (by decide +kernel), ⟨by decide +kernel, by decide +kernel⟩, by decide +kernel, by decide⟩
theorem zi8_takesFor : Cond.instanceMethod yX8_takesFor ∈ zGT := zi2 208 rfl rfl
theorem zm9_init : zMeth Y9_init 3 := ⟨zi3 239 rfl rfl, zn_NineHeaps_Two, plainFor_of_name (by decide +kernel), ⟨by decide +kernel, by decide +kernel⟩, by decide +kernel, by decide⟩
theorem zi9_init : Cond.instanceMethod yX9_init ∈ zGT := zi3 238 rfl rfl
theorem zm9_kind : zMeth Y9_kind 0 := ⟨zi2 78 rfl rfl, zn_NineHeaps_Two, plainFor_of_name (by decide +kernel), ⟨by decide +kernel, by decide +kernel⟩, by decide +kernel, by decide⟩
theorem zi9_kind : Cond.instanceMethod yX9_kind ∈ zGT := zi2 77 rfl rfl
theorem zm9_takesFor : zMeth Y9_takesFor 2 := ⟨zi2 222 rfl rfl, zn_NineHeaps_Two, plainFor_of_name (by decide +kernel), ⟨by decide +kernel, by decide +kernel⟩, by decide +kernel, by decide⟩
theorem zi9_takesFor : Cond.instanceMethod yX9_takesFor ∈ zGT := zi2 221 rfl rfl
theorem zm10_init : zMeth Y10_init 3 := ⟨zi3 123 rfl rfl, zn_NineHeaps_Walker, plainFor_of_name (by decide +kernel), ⟨by decide +kernel, by decide +kernel⟩, by decide +kernel, by decide⟩
theorem zi10_init : Cond.instanceMethod yX10_init ∈ zGT := zi3 122 rfl rfl
theorem zm10_kind : zMeth Y10_kind 0 := ⟨zi2 79 rfl rfl, zn_NineHeaps_Walker, plainFor_of_name (by decide +kernel), ⟨by decide +kernel, by decide +kernel⟩, by decide +kernel, by decide⟩
theorem zi10_kind : Cond.instanceMethod yX10_kind ∈ zGT := zi2 61 rfl rfl
theorem zm10_takesFor : zMeth Y10_takesFor 2 := ⟨zi2 223 rfl rfl, zn_NineHeaps_Walker, plainFor_of_name (by decide +kernel), ⟨by decide +kernel, by decide +kernel⟩, by decide +kernel, by decide⟩
theorem zi10_takesFor : Cond.instanceMethod yX10_takesFor ∈ zGT := zi2 200 rfl rfl
theorem zm10_stepFor : zMeth Y10_stepFor 1 := ⟨zi2 192 rfl rfl, zn_NineHeaps_Walker, plainFor_of_name (by decide +kernel), ⟨by decide +kernel, by decide +kernel⟩, by decide +kernel, by decide⟩
theorem zi10_stepFor : Cond.instanceMethod yX10_stepFor ∈ zGT := zi2 180 rfl rfl
theorem zm10_waits : zMeth Y10_waits 0 := ⟨zi2 91 rfl rfl, zn_NineHeaps_Walker, plainFor_of_name (by decide +kernel), ⟨by decide +kernel, by decide +kernel⟩, by decide +kernel, by decide⟩
theorem zi10_waits : Cond.instanceMethod yX10_waits ∈ zGT := zi2 81 rfl rfl
theorem zm10_beginGoing : zMeth Y10_beginGoing 0 := ⟨zi2 136 rfl rfl, zn_NineHeaps_Walker, plainFor_of_name (by decide +kernel), ⟨by decide +kernel, by decide +kernel⟩, by decide +kernel, by decide⟩
theorem zi10_beginGoing : Cond.instanceMethod yX10_beginGoing ∈ zGT := zi2 128 rfl rfl
theorem zm11_init : zMeth Y11_init 0 := ⟨zi1 29 rfl rfl, zn_NineHeaps, plainFor_of_name (by decide +kernel), ⟨by decide +kernel, by decide +kernel⟩, by decide +kernel, by decide⟩
theorem zi11_init : Cond.instanceMethod yX11_init ∈ zGT := zi1 28 rfl rfl
theorem zm11_set : zMeth Y11_set 3 := ⟨zi3 86 rfl rfl, zn_NineHeaps, plainFor_of_name (by decide +kernel), ⟨by decide +kernel, by decide +kernel⟩, by decide +kernel, by decide⟩
theorem zi11_set : Cond.instanceMethod yX11_set ∈ zGT := zi3 84 rfl rfl
theorem zm11_changeWant : zMeth Y11_changeWant 1 := ⟨zi3 90 rfl rfl, zn_NineHeaps, plainFor_of_name (by decide +kernel), ⟨by decide +kernel, by decide +kernel⟩, by decide +kernel, by decide⟩
theorem zi11_changeWant : Cond.instanceMethod yX11_changeWant ∈ zGT := zi3 89 rfl rfl
theorem zm11_heap : zMeth Y11_heap 2 := ⟨zi2 48 rfl rfl, zn_NineHeaps, plainFor_of_name (by decide +kernel), ⟨by decide +kernel, by decide +kernel⟩, by decide +kernel, by decide⟩
theorem zi11_heap : Cond.instanceMethod yX11_heap ∈ zGT := zi2 46 rfl rfl
theorem zm11_feed : zMeth Y11_feed 6 := ⟨zi5 56 rfl rfl, zn_NineHeaps, plainFor_of_name (by decide +kernel), ⟨by decide +kernel, by decide +kernel⟩, by decide +kernel, by decide⟩
theorem zi11_feed : Cond.instanceMethod yX11_feed ∈ zGT := zi5 54 rfl rfl
theorem zm11_text : zMeth Y11_text 0 := ⟨zi5 67 rfl rfl, zn_NineHeaps, plainFor_of_name (by decide +kernel), ⟨by decide +kernel, by decide +kernel⟩, by decide +kernel, by decide⟩
theorem zi11_text : Cond.instanceMethod yX11_text ∈ zGT := zi5 65 rfl rfl
theorem zm11_force : zMeth Y11_force 1 := ⟨zi5 175 rfl rfl, zn_NineHeaps, plainFor_of_name (by decide +kernel), ⟨by decide +kernel, by decide +kernel⟩, by decide +kernel, by decide⟩
theorem zi11_force : Cond.instanceMethod yX11_force ∈ zGT := zi5 173 rfl rfl
theorem zm11_walker : zMeth Y11_walker 3 := ⟨zi3 112 rfl rfl, zn_NineHeaps, plainFor_of_name (by decide +kernel), ⟨by decide +kernel, by decide +kernel⟩, by decide +kernel, by decide⟩
theorem zi11_walker : Cond.instanceMethod yX11_walker ∈ zGT := zi3 110 rfl rfl
theorem zm11_told : zMeth Y11_told 2 := ⟨zi2 55 rfl rfl, zn_NineHeaps, plainFor_of_name (by decide +kernel), ⟨by decide +kernel, by decide +kernel⟩, by decide +kernel, by decide⟩
theorem zi11_told : Cond.instanceMethod yX11_told ∈ zGT := zi2 53 rfl rfl
theorem zm11_run : zMeth Y11_run 2 := ⟨zi2 95 rfl rfl, zn_NineHeaps, plainFor_of_name (by decide +kernel), ⟨by decide +kernel, by decide +kernel⟩, by decide +kernel, by decide⟩
theorem zi11_run : Cond.instanceMethod yX11_run ∈ zGT := zi2 93 rfl rfl
theorem zm11_one : zMeth Y11_one 3 := ⟨zi2 231 rfl rfl, zn_NineHeaps, plainFor_of_name (by decide +kernel), ⟨by decide +kernel, by decide +kernel⟩, by decide +kernel, by decide⟩
theorem zi11_one : Cond.instanceMethod yX11_one ∈ zGT := zi2 229 rfl rfl
theorem zm11_height : zMeth Y11_height 3 := ⟨zi2 235 rfl rfl, zn_NineHeaps, plainFor_of_name (by decide +kernel), ⟨by decide +kernel, by decide +kernel⟩, by decide +kernel, by decide⟩
theorem zi11_height : Cond.instanceMethod yX11_height ∈ zGT := zi2 233 rfl rfl
theorem zm11_go : zMeth Y11_go 1 := ⟨zi3 0 rfl rfl, zn_NineHeaps, plainFor_of_name (by decide +kernel), ⟨by decide +kernel, by decide +kernel⟩, by decide +kernel, by decide⟩
theorem zi11_go : Cond.instanceMethod yX11_go ∈ zGT := zi2 238 rfl rfl
theorem zm11_best : zMeth Y11_best 1 := ⟨zi3 4 rfl rfl, zn_NineHeaps, plainFor_of_name (by decide +kernel), ⟨by decide +kernel, by decide +kernel⟩, by decide +kernel, by decide⟩
theorem zi11_best : Cond.instanceMethod yX11_best ∈ zGT := zi3 2 rfl rfl
theorem zm11_start : zMeth Y11_start 2 := ⟨zi3 30 rfl rfl, zn_NineHeaps, plainFor_of_name (by decide +kernel), ⟨by decide +kernel, by decide +kernel⟩, by decide +kernel, by decide⟩
theorem zi11_start : Cond.instanceMethod yX11_start ∈ zGT := zi3 28 rfl rfl
theorem zm11_layByOrder : zMeth Y11_layByOrder 0 := ⟨zi3 13 rfl rfl, zn_NineHeaps, plainFor_of_name (by decide +kernel), ⟨by decide +kernel, by decide +kernel⟩, by decide +kernel, by decide⟩
theorem zi11_layByOrder : Cond.instanceMethod yX11_layByOrder ∈ zGT := zi3 12 rfl rfl
theorem zm11_orderByNumbers : zMeth Y11_orderByNumbers 0 := ⟨zi3 9 rfl rfl, zn_NineHeaps, plainFor_of_name (by decide +kernel), ⟨by decide +kernel, by decide +kernel⟩, by decide +kernel, by decide⟩
theorem zi11_orderByNumbers : Cond.instanceMethod yX11_orderByNumbers ∈ zGT := zi3 8 rfl rfl
theorem zm11_orderAsDigits : zMeth Y11_orderAsDigits 0 := ⟨zi3 18 rfl rfl, zn_NineHeaps, plainFor_of_name (by decide +kernel), ⟨by decide +kernel, by decide +kernel⟩, by decide +kernel, by decide⟩
theorem zi11_orderAsDigits : Cond.instanceMethod yX11_orderAsDigits ∈ zGT := zi3 17 rfl rfl
theorem zm11_nextOrder : zMeth Y11_nextOrder 0 := ⟨zi3 22 rfl rfl, zn_NineHeaps, plainFor_of_name (by decide +kernel), ⟨by decide +kernel, by decide +kernel⟩, by decide +kernel, by decide⟩
theorem zi11_nextOrder : Cond.instanceMethod yX11_nextOrder ∈ zGT := zi3 21 rfl rfl
theorem zm11_swapInOrder : zMeth Y11_swapInOrder 2 := ⟨zi3 26 rfl rfl, zn_NineHeaps, plainFor_of_name (by decide +kernel), ⟨by decide +kernel, by decide +kernel⟩, by decide +kernel, by decide⟩
theorem zi11_swapInOrder : Cond.instanceMethod yX11_swapInOrder ∈ zGT := zi3 25 rfl rfl
theorem zm11_judge : zMeth Y11_judge 2 := ⟨zi3 34 rfl rfl, zn_NineHeaps, plainFor_of_name (by decide +kernel), ⟨by decide +kernel, by decide +kernel⟩, by decide +kernel, by decide⟩
theorem zi11_judge : Cond.instanceMethod yX11_judge ∈ zGT := zi3 32 rfl rfl
theorem zm11_film : zMeth Y11_film 2 := ⟨zi3 58 rfl rfl, zn_NineHeaps, plainFor_of_name (by decide +kernel), ⟨by decide +kernel, by decide +kernel⟩, by decide +kernel, by decide⟩
theorem zi11_film : Cond.instanceMethod yX11_film ∈ zGT := zi3 56 rfl rfl
theorem zm11_refusedTelling : zMeth Y11_refusedTelling 1 := ⟨zi3 42 rfl rfl, zn_NineHeaps, plainFor_of_name (by decide +kernel), ⟨by decide +kernel, by decide +kernel⟩, by decide +kernel, by decide⟩
theorem zi11_refusedTelling : Cond.instanceMethod yX11_refusedTelling ∈ zGT := zi3 41 rfl rfl
theorem zm11_refusedJudging : zMeth Y11_refusedJudging 2 := ⟨zi3 38 rfl rfl, zn_NineHeaps, plainFor_of_name (by decide +kernel), ⟨by decide +kernel, by decide +kernel⟩, by decide +kernel, by decide⟩
theorem zi11_refusedJudging : Cond.instanceMethod yX11_refusedJudging ∈ zGT := zi3 37 rfl rfl
theorem zm11_firstOtherwise : zMeth Y11_firstOtherwise 1 := ⟨zi3 54 rfl rfl, zn_NineHeaps, plainFor_of_name (by decide +kernel), ⟨by decide +kernel, by decide +kernel⟩, by decide +kernel, by decide⟩
theorem zi11_firstOtherwise : Cond.instanceMethod yX11_firstOtherwise ∈ zGT := zi3 53 rfl rfl
theorem zm11_noHeap : zMeth Y11_noHeap 1 := ⟨zi2 51 rfl rfl, zn_NineHeaps, plainFor_of_name (by decide +kernel), ⟨by decide +kernel, by decide +kernel⟩, by decide +kernel, by decide⟩
theorem zs11_noHeap : Cond.static yX11_noHeap ∈ zGT := zi2 50 rfl rfl
theorem zm11_noByte : zMeth Y11_noByte 1 := ⟨zi5 59 rfl rfl, zn_NineHeaps, plainFor_of_name (by decide +kernel), ⟨by decide +kernel, by decide +kernel⟩, by decide +kernel, by decide⟩
theorem zs11_noByte : Cond.static yX11_noByte ∈ zGT := zi5 58 rfl rfl
theorem zm11_noSeconds : zMeth Y11_noSeconds 1 := ⟨zi2 98 rfl rfl, zn_NineHeaps, plainFor_of_name (by decide +kernel), ⟨by decide +kernel, by decide +kernel⟩, by decide +kernel, by decide⟩
theorem zs11_noSeconds : Cond.static yX11_noSeconds ∈ zGT := zi2 97 rfl rfl
theorem zm11_walkerOf : zMeth Y11_walkerOf 1 := ⟨zi2 59 rfl rfl, zn_NineHeaps, plainFor_of_name (by decide +kernel), ⟨by decide +kernel, by decide +kernel⟩, by decide +kernel, by decide⟩
theorem zi11_walkerOf : Cond.instanceMethod yX11_walkerOf ∈ zGT := zi2 58 rfl rfl
theorem zm11_textOf : zMeth Y11_textOf 1 := ⟨zi2 114 rfl rfl, zn_NineHeaps, plainFor_of_name (by decide +kernel), ⟨by decide +kernel, by decide +kernel⟩, by decide +kernel, by decide⟩
theorem zi11_textOf : Cond.instanceMethod yX11_textOf ∈ zGT := zi2 113 rfl rfl
theorem zm11_sheetOf : zMeth Y11_sheetOf 1 := ⟨zi3 46 rfl rfl, zn_NineHeaps, plainFor_of_name (by decide +kernel), ⟨by decide +kernel, by decide +kernel⟩, by decide +kernel, by decide⟩
theorem zi11_sheetOf : Cond.instanceMethod yX11_sheetOf ∈ zGT := zi3 45 rfl rfl
theorem zm11_layPlain : zMeth Y11_layPlain 0 := ⟨zi2 102 rfl rfl, zn_NineHeaps, plainFor_of_name (by decide +kernel), ⟨by decide +kernel, by decide +kernel⟩, by decide +kernel, by decide⟩
theorem zi11_layPlain : Cond.instanceMethod yX11_layPlain ∈ zGT := zi2 101 rfl rfl
theorem zm11_layWithout : zMeth Y11_layWithout 1 := ⟨zi2 106 rfl rfl, zn_NineHeaps, plainFor_of_name (by decide +kernel), ⟨by decide +kernel, by decide +kernel⟩, by decide +kernel, by decide⟩
theorem zi11_layWithout : Cond.instanceMethod yX11_layWithout ∈ zGT := zi2 105 rfl rfl
theorem zm11_layHeaps : zMeth Y11_layHeaps 0 := ⟨zi2 110 rfl rfl, zn_NineHeaps, plainFor_of_name (by decide +kernel), ⟨by decide +kernel, by decide +kernel⟩, by decide +kernel, by decide⟩
theorem zi11_layHeaps : Cond.instanceMethod yX11_layHeaps ∈ zGT := zi2 109 rfl rfl
theorem zm11_newWalker : zMeth Y11_newWalker 4 := ⟨zi3 115 rfl rfl, zn_NineHeaps, plainFor_of_name (by decide +kernel), ⟨by decide +kernel, by decide +kernel⟩, by decide +kernel, by decide⟩
theorem zs11_newWalker : Cond.static yX11_newWalker ∈ zGT := zi3 114 rfl rfl
theorem zmJ5_init_d00df : zMeth YJ5_init_d00df 1 := ⟨zi4 37 rfl rfl, zn_java_lang_AbstractStringBuilder, plainFor_of_name (by decide +kernel), ⟨by decide +kernel, by decide +kernel⟩, by decide +kernel, by decide⟩
theorem ziJ5_init_d00df : Cond.instanceMethod yJ5_init_d00df ∈ zGT := zi4 36 rfl rfl
theorem zmJ5_length_8abf5 : zMeth YJ5_length_8abf5 0 := ⟨zi4 230 rfl rfl, zn_java_lang_AbstractStringBuilder, plainFor_of_name (by decide +kernel), ⟨by decide +kernel, by decide +kernel⟩, by decide +kernel, by decide⟩
theorem ziJ5_length_8abf5 : Cond.instanceMethod yJ5_length_8abf5 ∈ zGT := zi4 224 rfl rfl
theorem zmJ5_ensureCapacityInternal_d00df : zMeth YJ5_ensureCapacityInternal_d00df 1 := ⟨zi4 77 rfl rfl, zn_java_lang_AbstractStringBuilder, plainFor_of_name (by decide +kernel), ⟨by decide +kernel, by decide +kernel⟩, by decide +kernel, by decide⟩
theorem ziJ5_ensureCapacityInternal_d00df : Cond.instanceMethod yJ5_ensureCapacityInternal_d00df ∈ zGT := zi4 76 rfl rfl
theorem zmJ5_newCapacity_0f7a4 : zMeth YJ5_newCapacity_0f7a4 1 := ⟨zi4 81 rfl rfl, zn_java_lang_AbstractStringBuilder, plainFor_of_name (by decide +kernel), ⟨by decide +kernel, by decide +kernel⟩, by decide +kernel, by decide⟩
theorem ziJ5_newCapacity_0f7a4 : Cond.instanceMethod yJ5_newCapacity_0f7a4 ∈ zGT := zi4 80 rfl rfl
theorem zmJ5_append_cf1ce : zMeth YJ5_append_cf1ce 1 := ⟨zi4 69 rfl rfl, zn_java_lang_AbstractStringBuilder, plainFor_of_name (by decide +kernel), ⟨by decide +kernel, by decide +kernel⟩, by decide +kernel, by decide⟩
theorem ziJ5_append_cf1ce : Cond.instanceMethod yJ5_append_cf1ce ∈ zGT := zi4 68 rfl rfl
theorem zmJ5_append_c97b9 : zMeth YJ5_append_c97b9 1 := ⟨zi4 183 rfl rfl, zn_java_lang_AbstractStringBuilder, plainFor_of_name (by decide +kernel), ⟨by decide +kernel, by decide +kernel⟩, by decide +kernel, by decide⟩
theorem ziJ5_append_c97b9 : Cond.instanceMethod yJ5_append_c97b9 ∈ zGT := zi4 182 rfl rfl
theorem zmJ5_getValue_6d5f1 : zMeth YJ5_getValue_6d5f1 0 := ⟨zi4 222 rfl rfl, zn_java_lang_AbstractStringBuilder, plainFor_of_name (by decide +kernel), ⟨by decide +kernel, by decide +kernel⟩, by decide +kernel, by decide⟩
theorem ziJ5_getValue_6d5f1 : Cond.instanceMethod yJ5_getValue_6d5f1 ∈ zGT := zi4 219 rfl rfl
theorem zmJ5_isLatin1_aae02 : zMeth YJ5_isLatin1_aae02 0 := ⟨zi4 107 rfl rfl, zn_java_lang_AbstractStringBuilder, plainFor_of_name (by decide +kernel), ⟨by decide +kernel, by decide +kernel⟩, by decide +kernel, by decide⟩
theorem ziJ5_isLatin1_aae02 : Cond.instanceMethod yJ5_isLatin1_aae02 ∈ zGT := zi4 104 rfl rfl
theorem zmJ5_inflateIfNeededFor_a7421 : zMeth YJ5_inflateIfNeededFor_a7421 1 := ⟨zi4 150 rfl rfl, zn_java_lang_AbstractStringBuilder, plainFor_of_name (by decide +kernel), ⟨by decide +kernel, by decide +kernel⟩, by decide +kernel, by decide⟩
theorem ziJ5_inflateIfNeededFor_a7421 : Cond.instanceMethod yJ5_inflateIfNeededFor_a7421 ∈ zGT := zi4 149 rfl rfl
theorem zmJ5_putStringAt_47b60 : zMeth YJ5_putStringAt_47b60 2 := ⟨zi4 146 rfl rfl, zn_java_lang_AbstractStringBuilder, plainFor_of_name (by decide +kernel), ⟨by decide +kernel, by decide +kernel⟩, by decide +kernel, by decide⟩
theorem ziJ5_putStringAt_47b60 : Cond.instanceMethod yJ5_putStringAt_47b60 ∈ zGT := zi4 145 rfl rfl
theorem zmJ6_getChars_ba4f3 : zMeth YJ6_getChars_ba4f3 3 := ⟨zi4 189 rfl rfl, zn_java_lang_Integer, plainFor_of_name (by decide +kernel), ⟨by decide +kernel, by decide +kernel⟩, by decide +kernel, by decide⟩
theorem zsJ6_getChars_ba4f3 : Cond.static yJ6_getChars_ba4f3 ∈ zGT := zi4 188 rfl rfl
theorem zmJ6_stringSize_0f7a4 : zMeth YJ6_stringSize_0f7a4 1 := ⟨zi4 186 rfl rfl, zn_java_lang_Integer, plainFor_of_name (by decide +kernel), ⟨by decide +kernel, by decide +kernel⟩, by decide +kernel, by decide⟩
theorem zsJ6_stringSize_0f7a4 : Cond.static yJ6_stringSize_0f7a4 ∈ zGT := zi4 185 rfl rfl
theorem zmJ9_floorMod_7cf53 : zMeth YJ9_floorMod_7cf53 2 := ⟨zi2 151 rfl rfl, zn_java_lang_Math, Jvm.Free.JP.mathPlain rfl (by decide +kernel), ⟨by decide +kernel, by decide +kernel⟩, by decide +kernel, by decide⟩
theorem zsJ9_floorMod_7cf53 : Cond.static yJ9_floorMod_7cf53 ∈ zGT := zi2 150 rfl rfl
theorem zmJ0_init_81219 : zMeth YJ0_init_81219 1 := ⟨zi4 213 rfl rfl, zn_java_lang_String, plainFor_of_name (by decide +kernel), ⟨by decide +kernel, by decide +kernel⟩, by decide +kernel, by decide⟩
theorem ziJ0_init_81219 : Cond.instanceMethod yJ0_init_81219 ∈ zGT := zi4 212 rfl rfl
theorem zmJ0_length_8abf5 : zMeth YJ0_length_8abf5 0 := ⟨zi4 137 rfl rfl, zn_java_lang_String, plainFor_of_name (by decide +kernel), ⟨by decide +kernel, by decide +kernel⟩, by decide +kernel, by decide⟩
theorem ziJ0_length_8abf5 : Cond.instanceMethod yJ0_length_8abf5 ∈ zGT := zi4 135 rfl rfl
theorem zmJ0_charAt_5068e : zMeth YJ0_charAt_5068e 1 := ⟨zi5 32 rfl rfl, zn_java_lang_String, plainFor_of_name (by decide +kernel), ⟨by decide +kernel, by decide +kernel⟩, by decide +kernel, by decide⟩
theorem ziJ0_charAt_5068e : Cond.instanceMethod yJ0_charAt_5068e ∈ zGT := zi5 30 rfl rfl
theorem zmJ0_getBytes_840e7 : zMeth YJ0_getBytes_840e7 3 := ⟨zi4 174 rfl rfl, zn_java_lang_String, plainFor_of_name (by decide +kernel), ⟨by decide +kernel, by decide +kernel⟩, by decide +kernel, by decide⟩
theorem ziJ0_getBytes_840e7 : Cond.instanceMethod yJ0_getBytes_840e7 ∈ zGT := zi4 172 rfl rfl
theorem zmJ0_init_db425 : zMeth YJ0_init_db425 2 := ⟨zi4 216 rfl rfl, zn_java_lang_String, plainFor_of_name (by decide +kernel), ⟨by decide +kernel, by decide +kernel⟩, by decide +kernel, by decide⟩
theorem ziJ0_init_db425 : Cond.instanceMethod yJ0_init_db425 ∈ zGT := zi4 215 rfl rfl
theorem zmJ0_coder_7d493 : zMeth YJ0_coder_7d493 0 := ⟨zi4 141 rfl rfl, zn_java_lang_String, plainFor_of_name (by decide +kernel), ⟨by decide +kernel, by decide +kernel⟩, by decide +kernel, by decide⟩
theorem ziJ0_coder_7d493 : Cond.instanceMethod yJ0_coder_7d493 ∈ zGT := zi4 139 rfl rfl
theorem zmJ0_isLatin1_aae02 : zMeth YJ0_isLatin1_aae02 0 := ⟨zi5 36 rfl rfl, zn_java_lang_String, plainFor_of_name (by decide +kernel), ⟨by decide +kernel, by decide +kernel⟩, by decide +kernel, by decide⟩
theorem ziJ0_isLatin1_aae02 : Cond.instanceMethod yJ0_isLatin1_aae02 ∈ zGT := zi5 34 rfl rfl
theorem zmJ0_checkIndex_df160 : zMeth YJ0_checkIndex_df160 2 := ⟨zi5 42 rfl rfl, zn_java_lang_String, plainFor_of_name (by decide +kernel), ⟨by decide +kernel, by decide +kernel⟩, by decide +kernel, by decide⟩
theorem zsJ0_checkIndex_df160 : Cond.static yJ0_checkIndex_df160 ∈ zGT := zi5 41 rfl rfl
theorem zmJ4_init_da8c8 : zMeth YJ4_init_da8c8 0 := ⟨zi4 34 rfl rfl, zn_java_lang_StringBuilder, plainFor_of_name (by decide +kernel), ⟨by decide +kernel, by decide +kernel⟩, by decide +kernel, by decide⟩
theorem ziJ4_init_da8c8 : Cond.instanceMethod yJ4_init_da8c8 ∈ zGT := zi4 33 rfl rfl
theorem zmJ4_append_15ec4 : zMeth YJ4_append_15ec4 1 := ⟨zi4 66 rfl rfl, zn_java_lang_StringBuilder, plainFor_of_name (by decide +kernel), ⟨by decide +kernel, by decide +kernel⟩, by decide +kernel, by decide⟩
theorem ziJ4_append_15ec4 : Cond.instanceMethod yJ4_append_15ec4 ∈ zGT := zi4 64 rfl rfl
theorem zmJ4_append_bf812 : zMeth YJ4_append_bf812 1 := ⟨zi4 180 rfl rfl, zn_java_lang_StringBuilder, plainFor_of_name (by decide +kernel), ⟨by decide +kernel, by decide +kernel⟩, by decide +kernel, by decide⟩
theorem ziJ4_append_bf812 : Cond.instanceMethod yJ4_append_bf812 ∈ zGT := zi4 178 rfl rfl
theorem zmJ4_toString_0e30d : zMeth YJ4_toString_0e30d 0 := ⟨zi4 208 rfl rfl, zn_java_lang_StringBuilder, plainFor_of_name (by decide +kernel), ⟨by decide +kernel, by decide +kernel⟩, by decide +kernel, by decide⟩
theorem ziJ4_toString_0e30d : Cond.instanceMethod yJ4_toString_0e30d ∈ zGT := zi4 206 rfl rfl
theorem zmJ1_charAt_3b067 : zMeth YJ1_charAt_3b067 2 := ⟨zi5 39 rfl rfl, zn_java_lang_StringLatin1, plainFor_of_name (by decide +kernel), ⟨by decide +kernel, by decide +kernel⟩, by decide +kernel, by decide⟩
theorem zsJ1_charAt_3b067 : Cond.static yJ1_charAt_3b067 ∈ zGT := zi5 38 rfl rfl
theorem zmJ7_fill_53178 : zMeth YJ7_fill_53178 2 := ⟨zi1 167 rfl rfl, zn_java_util_Arrays, plainFor_of_name (by decide +kernel), ⟨by decide +kernel, by decide +kernel⟩, by decide +kernel, by decide⟩
theorem zsJ7_fill_53178 : Cond.static yJ7_fill_53178 ∈ zGT := zi1 166 rfl rfl
theorem zmJ7_copyOf_9075b : zMeth YJ7_copyOf_9075b 2 := ⟨zi4 93 rfl rfl, zn_java_util_Arrays, plainFor_of_name (by decide +kernel), ⟨by decide +kernel, by decide +kernel⟩, by decide +kernel, by decide⟩
theorem zsJ7_copyOf_9075b : Cond.static yJ7_copyOf_9075b ∈ zGT := zi4 92 rfl rfl
theorem zmJ7_copyOf_59c91 : zMeth YJ7_copyOf_59c91 2 := ⟨zi5 168 rfl rfl, zn_java_util_Arrays, plainFor_of_name (by decide +kernel), ⟨by decide +kernel, by decide +kernel⟩, by decide +kernel, by decide⟩
theorem zsJ7_copyOf_59c91 : Cond.static yJ7_copyOf_59c91 ∈ zGT := zi5 167 rfl rfl
theorem zmJ7_checkLength_df160 : zMeth YJ7_checkLength_df160 2 := ⟨zi5 0 rfl rfl, zn_java_util_Arrays, plainFor_of_name (by decide +kernel), ⟨by decide +kernel, by decide +kernel⟩, by decide +kernel, by decide⟩
theorem zsJ7_checkLength_df160 : Cond.static yJ7_checkLength_df160 ∈ zGT := zi4 239 rfl rfl
theorem zmJ7_copyOfRange_39247 : zMeth YJ7_copyOfRange_39247 3 := ⟨zi4 234 rfl rfl, zn_java_util_Arrays, plainFor_of_name (by decide +kernel), ⟨by decide +kernel, by decide +kernel⟩, by decide +kernel, by decide⟩
theorem zsJ7_copyOfRange_39247 : Cond.static yJ7_copyOfRange_39247 ∈ zGT := zi4 233 rfl rfl
theorem zmJ7_copyOfRangeByte_39247 : zMeth YJ7_copyOfRangeByte_39247 3 := ⟨zi4 237 rfl rfl, zn_java_util_Arrays, plainFor_of_name (by decide +kernel), ⟨by decide +kernel, by decide +kernel⟩, by decide +kernel, by decide⟩
theorem zsJ7_copyOfRangeByte_39247 : Cond.static yJ7_copyOfRangeByte_39247 ∈ zGT := zi4 236 rfl rfl
theorem zmJ8_newLength_cabcc : zMeth YJ8_newLength_cabcc 3 := ⟨zi4 84 rfl rfl, zn_jdk_internal_util_ArraysSupport, plainFor_of_name (by decide +kernel), ⟨by decide +kernel, by decide +kernel⟩, by decide +kernel, by decide⟩
theorem zsJ8_newLength_cabcc : Cond.static yJ8_newLength_cabcc ∈ zGT := zi4 83 rfl rfl
theorem zmJ3_checkIndex_8e157 : zMeth YJ3_checkIndex_8e157 3 := ⟨zi5 45 rfl rfl, zn_jdk_internal_util_Preconditions, plainFor_of_name (by decide +kernel), ⟨by decide +kernel, by decide +kernel⟩, by decide +kernel, by decide⟩
theorem zsJ3_checkIndex_8e157 : Cond.static yJ3_checkIndex_8e157 ∈ zGT := zi5 44 rfl rfl
theorem zmL_at : zMeth YL_at 2 := ⟨zi3 76 rfl rfl, zn_NineHeapsLaw, plainFor_of_name (by decide +kernel), ⟨by decide +kernel, by decide +kernel⟩, by decide +kernel, by decide⟩
theorem zsL_at : Cond.static yL_at ∈ zGT := zi3 75 rfl rfl
theorem zmL_text : zMeth YL_text 2 := ⟨zi5 27 rfl rfl, zn_NineHeapsLaw, plainFor_of_name (by decide +kernel), ⟨by decide +kernel, by decide +kernel⟩, by decide +kernel, by decide⟩
theorem zsL_text : Cond.static yL_text ∈ zGT := zi5 26 rfl rfl
theorem zmL_build : zMeth YL_build 1 := ⟨zi3 79 rfl rfl, zn_NineHeapsLaw, plainFor_of_name (by decide +kernel), ⟨by decide +kernel, by decide +kernel⟩, by decide +kernel, by decide⟩
theorem zsL_build : Cond.static yL_build ∈ zGT := zi3 78 rfl rfl
theorem zmL_plain : zMeth YL_plain 1 := ⟨zi4 29 rfl rfl, zn_NineHeapsLaw, plainFor_of_name (by decide +kernel), ⟨by decide +kernel, by decide +kernel⟩, by decide +kernel, by decide⟩
theorem zsL_plain : Cond.static yL_plain ∈ zGT := zi4 28 rfl rfl
theorem zmL_many : zMeth YL_many 1 := ⟨zi3 99 rfl rfl, zn_NineHeapsLaw, plainFor_of_name (by decide +kernel), ⟨by decide +kernel, by decide +kernel⟩, by decide +kernel, by decide⟩
theorem zsL_many : Cond.static yL_many ∈ zGT := zi3 98 rfl rfl
theorem zmL_want : zMeth YL_want 1 := ⟨zi3 96 rfl rfl, zn_NineHeapsLaw, plainFor_of_name (by decide +kernel), ⟨by decide +kernel, by decide +kernel⟩, by decide +kernel, by decide⟩
theorem zsL_want : Cond.static yL_want ∈ zGT := zi3 95 rfl rfl
theorem zmL_high : zMeth YL_high 2 := ⟨zi3 82 rfl rfl, zn_NineHeapsLaw, plainFor_of_name (by decide +kernel), ⟨by decide +kernel, by decide +kernel⟩, by decide +kernel, by decide⟩
theorem zsL_high : Cond.static yL_high ∈ zGT := zi3 81 rfl rfl
theorem zmL_stick : zMeth YL_stick 2 := ⟨zi3 93 rfl rfl, zn_NineHeapsLaw, plainFor_of_name (by decide +kernel), ⟨by decide +kernel, by decide +kernel⟩, by decide +kernel, by decide⟩
theorem zsL_stick : Cond.static yL_stick ∈ zGT := zi3 92 rfl rfl
theorem zmL_kind : zMeth YL_kind 2 := ⟨zi3 102 rfl rfl, zn_NineHeapsLaw, plainFor_of_name (by decide +kernel), ⟨by decide +kernel, by decide +kernel⟩, by decide +kernel, by decide⟩
theorem zsL_kind : Cond.static yL_kind ∈ zGT := zi3 101 rfl rfl
theorem zmL_more : zMeth YL_more 2 := ⟨zi3 105 rfl rfl, zn_NineHeapsLaw, plainFor_of_name (by decide +kernel), ⟨by decide +kernel, by decide +kernel⟩, by decide +kernel, by decide⟩
theorem zsL_more : Cond.static yL_more ∈ zGT := zi3 104 rfl rfl
theorem zmL_from : zMeth YL_from 2 := ⟨zi3 108 rfl rfl, zn_NineHeapsLaw, plainFor_of_name (by decide +kernel), ⟨by decide +kernel, by decide +kernel⟩, by decide +kernel, by decide⟩
theorem zsL_from : Cond.static yL_from ∈ zGT := zi3 107 rfl rfl
theorem zmL_held : zMeth YL_held 3 := ⟨zi5 178 rfl rfl, zn_NineHeapsLaw, plainFor_of_name (by decide +kernel), ⟨by decide +kernel, by decide +kernel⟩, by decide +kernel, by decide⟩
theorem zsL_held : Cond.static yL_held ∈ zGT := zi5 177 rfl rfl
theorem zmL_start : zMeth YL_start 2 := ⟨zi5 187 rfl rfl, zn_NineHeapsLaw, plainFor_of_name (by decide +kernel), ⟨by decide +kernel, by decide +kernel⟩, by decide +kernel, by decide⟩
theorem zsL_start : Cond.static yL_start ∈ zGT := zi5 186 rfl rfl
theorem zmL_begin : zMeth YL_begin 1 := ⟨zi5 196 rfl rfl, zn_NineHeapsLaw, plainFor_of_name (by decide +kernel), ⟨by decide +kernel, by decide +kernel⟩, by decide +kernel, by decide⟩
theorem zsL_begin : Cond.static yL_begin ∈ zGT := zi5 195 rfl rfl
theorem zmL_takes : zMeth YL_takes 5 := ⟨zi5 213 rfl rfl, zn_NineHeapsLaw, plainFor_of_name (by decide +kernel), ⟨by decide +kernel, by decide +kernel⟩, by decide +kernel, by decide⟩
theorem zsL_takes : Cond.static yL_takes ∈ zGT := zi5 212 rfl rfl
theorem zmL_steps : zMeth YL_steps 4 := ⟨zi5 208 rfl rfl, zn_NineHeapsLaw, plainFor_of_name (by decide +kernel), ⟨by decide +kernel, by decide +kernel⟩, by decide +kernel, by decide⟩
theorem zsL_steps : Cond.static yL_steps ∈ zGT := zi5 207 rfl rfl
theorem zmL_lift : zMeth YL_lift 4 := ⟨zi5 204 rfl rfl, zn_NineHeapsLaw, plainFor_of_name (by decide +kernel), ⟨by decide +kernel, by decide +kernel⟩, by decide +kernel, by decide⟩
theorem zsL_lift : Cond.static yL_lift ∈ zGT := zi5 203 rfl rfl
theorem zmL_second : zMeth YL_second 5 := ⟨zi5 200 rfl rfl, zn_NineHeapsLaw, plainFor_of_name (by decide +kernel), ⟨by decide +kernel, by decide +kernel⟩, by decide +kernel, by decide⟩
theorem zsL_second : Cond.static yL_second ∈ zGT := zi5 199 rfl rfl
theorem zmL_go : zMeth YL_go 5 := ⟨zi5 193 rfl rfl, zn_NineHeapsLaw, plainFor_of_name (by decide +kernel), ⟨by decide +kernel, by decide +kernel⟩, by decide +kernel, by decide⟩
theorem zsL_go : Cond.static yL_go ∈ zGT := zi5 192 rfl rfl
theorem zmL_plainly : zMeth YL_plainly 4 := ⟨zi5 190 rfl rfl, zn_NineHeapsLaw, plainFor_of_name (by decide +kernel), ⟨by decide +kernel, by decide +kernel⟩, by decide +kernel, by decide⟩
theorem zsL_plainly : Cond.static yL_plainly ∈ zGT := zi5 189 rfl rfl
theorem zv11_walkerOf : Cond.selects "NineHeaps" yX11_walkerOf yX11_walkerOf ∈ zGT := zin 0 rfl rfl
theorem zv11_layPlain : Cond.selects "NineHeaps" yX11_layPlain yX11_layPlain ∈ zGT := zin 1 rfl rfl
theorem zv11_layWithout : Cond.selects "NineHeaps" yX11_layWithout yX11_layWithout ∈ zGT := zin 2 rfl rfl
theorem zv11_layHeaps : Cond.selects "NineHeaps" yX11_layHeaps yX11_layHeaps ∈ zGT := zin 3 rfl rfl
theorem zv11_textOf : Cond.selects "NineHeaps" yX11_textOf yX11_textOf ∈ zGT := zin 4 rfl rfl
theorem zv0_moveOn : Cond.selects "NineHeaps$Going" yX0_moveOn yX0_moveOn ∈ zGT := zin 5 rfl rfl
theorem zv0_endTaking : Cond.selects "NineHeaps$Going" yX0_endTaking yX0_endTaking ∈ zGT := zin 6 rfl rfl
theorem zv0_endProgramme : Cond.selects "NineHeaps$Going" yX0_endProgramme yX0_endProgramme ∈ zGT := zin 7 rfl rfl
theorem zv3_read : Cond.selects "NineHeaps$Law" yX3_read yX3_read ∈ zGT := zin 8 rfl rfl
theorem zv11_orderByNumbers : Cond.selects "NineHeaps" yX11_orderByNumbers yX11_orderByNumbers ∈ zGT := zin 9 rfl rfl
theorem zv11_layByOrder : Cond.selects "NineHeaps" yX11_layByOrder yX11_layByOrder ∈ zGT := zin 10 rfl rfl
theorem zv11_orderAsDigits : Cond.selects "NineHeaps" yX11_orderAsDigits yX11_orderAsDigits ∈ zGT := zin 11 rfl rfl
theorem zv11_nextOrder : Cond.selects "NineHeaps" yX11_nextOrder yX11_nextOrder ∈ zGT := zin 12 rfl rfl
theorem zv11_swapInOrder : Cond.selects "NineHeaps" yX11_swapInOrder yX11_swapInOrder ∈ zGT := zin 13 rfl rfl
theorem zv11_refusedJudging : Cond.selects "NineHeaps" yX11_refusedJudging yX11_refusedJudging ∈ zGT := zin 14 rfl rfl
theorem zv11_refusedTelling : Cond.selects "NineHeaps" yX11_refusedTelling yX11_refusedTelling ∈ zGT := zin 15 rfl rfl
theorem zv11_sheetOf : Cond.selects "NineHeaps" yX11_sheetOf yX11_sheetOf ∈ zGT := zin 16 rfl rfl
theorem zv11_firstOtherwise : Cond.selects "NineHeaps" yX11_firstOtherwise yX11_firstOtherwise ∈ zGT := zin 17 rfl rfl
theorem zv11_changeWant : Cond.selects "NineHeaps" yX11_changeWant yX11_changeWant ∈ zGT := zin 18 rfl rfl
theorem zv7_nextToken : Cond.selects "NineHeaps$Tape" yX7_nextToken yX7_nextToken ∈ zGT := zin 19 rfl rfl
theorem zv7_byteAt : Cond.selects "NineHeaps$Tape" yX7_byteAt yX7_byteAt ∈ zGT := zin 20 rfl rfl
theorem zv7_takeWord : Cond.selects "NineHeaps$Tape" yX7_takeWord yX7_takeWord ∈ zGT := zin 21 rfl rfl
theorem zv7_spells : Cond.selects "NineHeaps$Tape" yX7_spells yX7_spells ∈ zGT := zin 22 rfl rfl
theorem zv7_takeNumber : Cond.selects "NineHeaps$Tape" yX7_takeNumber yX7_takeNumber ∈ zGT := zin 23 rfl rfl
theorem zv7_readPart : Cond.selects "NineHeaps$Tape" yX7_readPart yX7_readPart ∈ zGT := zin 24 rfl rfl
theorem zv7_expect : Cond.selects "NineHeaps$Tape" yX7_expect yX7_expect ∈ zGT := zin 25 rfl rfl
theorem zv7_fail : Cond.selects "NineHeaps$Tape" yX7_fail yX7_fail ∈ zGT := zin 26 rfl rfl
theorem zv7_readOr : Cond.selects "NineHeaps$Tape" yX7_readOr yX7_readOr ∈ zGT := zin 27 rfl rfl
theorem zv7_readAnd : Cond.selects "NineHeaps$Tape" yX7_readAnd yX7_readAnd ∈ zGT := zin 28 rfl rfl
theorem zv7_readNot : Cond.selects "NineHeaps$Tape" yX7_readNot yX7_readNot ∈ zGT := zin 29 rfl rfl
theorem zv7_mayOpen : Cond.selects "NineHeaps$Tape" yX7_mayOpen yX7_mayOpen ∈ zGT := zin 30 rfl rfl
theorem zv7_put : Cond.selects "NineHeaps$Tape" yX7_put yX7_put ∈ zGT := zin 31 rfl rfl
theorem zv7_readSum : Cond.selects "NineHeaps$Tape" yX7_readSum yX7_readSum ∈ zGT := zin 32 rfl rfl
theorem zv7_readTerm : Cond.selects "NineHeaps$Tape" yX7_readTerm yX7_readTerm ∈ zGT := zin 33 rfl rfl
theorem zv7_readOne : Cond.selects "NineHeaps$Tape" yX7_readOne yX7_readOne ∈ zGT := zin 34 rfl rfl
theorem zv11_heap : Cond.selects "NineHeaps" yX11_heap yX11_heap ∈ zGT := zi2 47 rfl rfl
theorem zv11_told : Cond.selects "NineHeaps" yX11_told yX11_told ∈ zGT := zi2 54 rfl rfl
theorem zv10_kind : Cond.selects "NineHeaps$Walker" yX10_kind yX10_kind ∈ zGT := zi2 62 rfl rfl
theorem zv_1_kind_NineHeaps_Grandfather_10_kind : Cond.selects "NineHeaps$Grandfather" yX10_kind yX1_kind ∈ zGT := zi2 64 rfl rfl
theorem zv_4_kind_NineHeaps_Passing_10_kind : Cond.selects "NineHeaps$Passing" yX10_kind yX4_kind ∈ zGT := zi2 67 rfl rfl
theorem zv_5_kind_NineHeaps_Quick_10_kind : Cond.selects "NineHeaps$Quick" yX10_kind yX5_kind ∈ zGT := zi2 70 rfl rfl
theorem zv_8_kind_NineHeaps_Thumbed_10_kind : Cond.selects "NineHeaps$Thumbed" yX10_kind yX8_kind ∈ zGT := zi2 73 rfl rfl
theorem zv_9_kind_NineHeaps_Two_10_kind : Cond.selects "NineHeaps$Two" yX10_kind yX9_kind ∈ zGT := zi2 76 rfl rfl
theorem zv10_waits : Cond.selects "NineHeaps$Walker" yX10_waits yX10_waits ∈ zGT := zi2 82 rfl rfl
theorem zv_10_waits_NineHeaps_Grandfather_10_waits : Cond.selects "NineHeaps$Grandfather" yX10_waits yX10_waits ∈ zGT := zi2 84 rfl rfl
theorem zv_4_waits_NineHeaps_Passing_10_waits : Cond.selects "NineHeaps$Passing" yX10_waits yX4_waits ∈ zGT := zi2 85 rfl rfl
theorem zv_10_waits_NineHeaps_Quick_10_waits : Cond.selects "NineHeaps$Quick" yX10_waits yX10_waits ∈ zGT := zi2 88 rfl rfl
theorem zv_10_waits_NineHeaps_Thumbed_10_waits : Cond.selects "NineHeaps$Thumbed" yX10_waits yX10_waits ∈ zGT := zi2 89 rfl rfl
theorem zv_10_waits_NineHeaps_Two_10_waits : Cond.selects "NineHeaps$Two" yX10_waits yX10_waits ∈ zGT := zi2 90 rfl rfl
theorem zv11_run : Cond.selects "NineHeaps" yX11_run yX11_run ∈ zGT := zi2 94 rfl rfl
theorem zv0_lay : Cond.selects "NineHeaps$Going" yX0_lay yX0_lay ∈ zGT := zi2 117 rfl rfl
theorem zv2_beginGoing : Cond.selects "NineHeaps$Heap" yX2_beginGoing yX2_beginGoing ∈ zGT := zi2 121 rfl rfl
theorem zv0_join : Cond.selects "NineHeaps$Going" yX0_join yX0_join ∈ zGT := zi2 125 rfl rfl
theorem zv10_beginGoing : Cond.selects "NineHeaps$Walker" yX10_beginGoing yX10_beginGoing ∈ zGT := zi2 129 rfl rfl
theorem zv_10_beginGoing_NineHeaps_Grandfather_10_beginGoing : Cond.selects "NineHeaps$Grandfather" yX10_beginGoing yX10_beginGoing ∈ zGT := zi2 131 rfl rfl
theorem zv_10_beginGoing_NineHeaps_Passing_10_beginGoing : Cond.selects "NineHeaps$Passing" yX10_beginGoing yX10_beginGoing ∈ zGT := zi2 132 rfl rfl
theorem zv_10_beginGoing_NineHeaps_Quick_10_beginGoing : Cond.selects "NineHeaps$Quick" yX10_beginGoing yX10_beginGoing ∈ zGT := zi2 133 rfl rfl
theorem zv_10_beginGoing_NineHeaps_Thumbed_10_beginGoing : Cond.selects "NineHeaps$Thumbed" yX10_beginGoing yX10_beginGoing ∈ zGT := zi2 134 rfl rfl
theorem zv_10_beginGoing_NineHeaps_Two_10_beginGoing : Cond.selects "NineHeaps$Two" yX10_beginGoing yX10_beginGoing ∈ zGT := zi2 135 rfl rfl
theorem zv0_pass : Cond.selects "NineHeaps$Going" yX0_pass yX0_pass ∈ zGT := zi2 139 rfl rfl
theorem zv0_heapAt : Cond.selects "NineHeaps$Going" yX0_heapAt yX0_heapAt ∈ zGT := zi2 147 rfl rfl
theorem zv2_lift : Cond.selects "NineHeaps$Heap" yX2_lift yX2_lift ∈ zGT := zi2 158 rfl rfl
theorem zv0_stepOf : Cond.selects "NineHeaps$Going" yX0_stepOf yX0_stepOf ∈ zGT := zi2 166 rfl rfl
theorem zv3_says : Cond.selects "NineHeaps$Law" yX3_says yX3_says ∈ zGT := zi2 170 rfl rfl
theorem zv10_stepFor : Cond.selects "NineHeaps$Walker" yX10_stepFor yX10_stepFor ∈ zGT := zi2 181 rfl rfl
theorem zv_1_stepFor_NineHeaps_Grandfather_10_stepFor : Cond.selects "NineHeaps$Grandfather" yX10_stepFor yX1_stepFor ∈ zGT := zi2 183 rfl rfl
theorem zv_5_stepFor_NineHeaps_Passing_10_stepFor : Cond.selects "NineHeaps$Passing" yX10_stepFor yX5_stepFor ∈ zGT := zi2 186 rfl rfl
theorem zv_5_stepFor_NineHeaps_Quick_10_stepFor : Cond.selects "NineHeaps$Quick" yX10_stepFor yX5_stepFor ∈ zGT := zi2 189 rfl rfl
theorem zv_10_stepFor_NineHeaps_Thumbed_10_stepFor : Cond.selects "NineHeaps$Thumbed" yX10_stepFor yX10_stepFor ∈ zGT := zi2 190 rfl rfl
theorem zv_10_stepFor_NineHeaps_Two_10_stepFor : Cond.selects "NineHeaps$Two" yX10_stepFor yX10_stepFor ∈ zGT := zi2 191 rfl rfl
theorem zv0_takesOf : Cond.selects "NineHeaps$Going" yX0_takesOf yX0_takesOf ∈ zGT := zi2 197 rfl rfl
theorem zv10_takesFor : Cond.selects "NineHeaps$Walker" yX10_takesFor yX10_takesFor ∈ zGT := zi2 201 rfl rfl
theorem zv_1_takesFor_NineHeaps_Grandfather_10_takesFor : Cond.selects "NineHeaps$Grandfather" yX10_takesFor yX1_takesFor ∈ zGT := zi2 203 rfl rfl
theorem zv_4_takesFor_NineHeaps_Passing_10_takesFor : Cond.selects "NineHeaps$Passing" yX10_takesFor yX4_takesFor ∈ zGT := zi2 210 rfl rfl
theorem zv_10_takesFor_NineHeaps_Quick_10_takesFor : Cond.selects "NineHeaps$Quick" yX10_takesFor yX10_takesFor ∈ zGT := zi2 218 rfl rfl
theorem zv_8_takesFor_NineHeaps_Thumbed_10_takesFor : Cond.selects "NineHeaps$Thumbed" yX10_takesFor yX8_takesFor ∈ zGT := zi2 219 rfl rfl
theorem zv_9_takesFor_NineHeaps_Two_10_takesFor : Cond.selects "NineHeaps$Two" yX10_takesFor yX9_takesFor ∈ zGT := zi2 220 rfl rfl
theorem zv0_badness : Cond.selects "NineHeaps$Going" yX0_badness yX0_badness ∈ zGT := zi2 226 rfl rfl
theorem zv11_one : Cond.selects "NineHeaps" yX11_one yX11_one ∈ zGT := zi2 230 rfl rfl
theorem zv11_height : Cond.selects "NineHeaps" yX11_height yX11_height ∈ zGT := zi2 234 rfl rfl
theorem zv11_go : Cond.selects "NineHeaps" yX11_go yX11_go ∈ zGT := zi2 239 rfl rfl
theorem zv11_best : Cond.selects "NineHeaps" yX11_best yX11_best ∈ zGT := zi3 3 rfl rfl
theorem zv11_start : Cond.selects "NineHeaps" yX11_start yX11_start ∈ zGT := zi3 29 rfl rfl
theorem zv11_judge : Cond.selects "NineHeaps" yX11_judge yX11_judge ∈ zGT := zi3 33 rfl rfl
theorem zv6_missing : Cond.selects "NineHeaps$Sheet" yX6_missing yX6_missing ∈ zGT := zi3 49 rfl rfl
theorem zv11_film : Cond.selects "NineHeaps" yX11_film yX11_film ∈ zGT := zi3 57 rfl rfl
theorem zv6_become : Cond.selects "NineHeaps$Sheet" yX6_become yX6_become ∈ zGT := zi3 61 rfl rfl
theorem zv6_put : Cond.selects "NineHeaps$Sheet" yX6_put yX6_put ∈ zGT := zi3 68 rfl rfl
theorem zv6_holds : Cond.selects "NineHeaps$Sheet" yX6_holds yX6_holds ∈ zGT := zi3 72 rfl rfl
theorem zv11_set : Cond.selects "NineHeaps" yX11_set yX11_set ∈ zGT := zi3 85 rfl rfl
theorem zv11_walker : Cond.selects "NineHeaps" yX11_walker yX11_walker ∈ zGT := zi3 111 rfl rfl
theorem zvJ4_append_15ec4 : Cond.selects "java/lang/StringBuilder" yJ4_append_15ec4 yJ4_append_15ec4 ∈ zGT := zi4 65 rfl rfl
theorem zv_J5_isLatin1_aae02_java_lang_StringBuilder_J5_isLatin1_aae02 : Cond.selects "java/lang/StringBuilder" yJ5_isLatin1_aae02 yJ5_isLatin1_aae02 ∈ zGT := zi4 106 rfl rfl
theorem zvJ0_length_8abf5 : Cond.selects "java/lang/String" yJ0_length_8abf5 yJ0_length_8abf5 ∈ zGT := zi4 136 rfl rfl
theorem zvJ0_coder_7d493 : Cond.selects "java/lang/String" yJ0_coder_7d493 yJ0_coder_7d493 ∈ zGT := zi4 140 rfl rfl
theorem zvJ0_getBytes_840e7 : Cond.selects "java/lang/String" yJ0_getBytes_840e7 yJ0_getBytes_840e7 ∈ zGT := zi4 173 rfl rfl
theorem zvJ4_append_bf812 : Cond.selects "java/lang/StringBuilder" yJ4_append_bf812 yJ4_append_bf812 ∈ zGT := zi4 179 rfl rfl
theorem zvJ4_toString_0e30d : Cond.selects "java/lang/StringBuilder" yJ4_toString_0e30d yJ4_toString_0e30d ∈ zGT := zi4 207 rfl rfl
theorem zv_J5_getValue_6d5f1_java_lang_StringBuilder_J5_getValue_6d5f1 : Cond.selects "java/lang/StringBuilder" yJ5_getValue_6d5f1 yJ5_getValue_6d5f1 ∈ zGT := zi4 221 rfl rfl
theorem zvJ0_charAt_5068e : Cond.selects "java/lang/String" yJ0_charAt_5068e yJ0_charAt_5068e ∈ zGT := zi5 31 rfl rfl
theorem zvJ0_isLatin1_aae02 : Cond.selects "java/lang/String" yJ0_isLatin1_aae02 yJ0_isLatin1_aae02 ∈ zGT := zi5 35 rfl rfl
theorem zv11_feed : Cond.selects "NineHeaps" yX11_feed yX11_feed ∈ zGT := zi5 55 rfl rfl
theorem zv7_add : Cond.selects "NineHeaps$Tape" yX7_add yX7_add ∈ zGT := zi5 62 rfl rfl
theorem zv11_text : Cond.selects "NineHeaps" yX11_text yX11_text ∈ zGT := zi5 66 rfl rfl
theorem zv7_read : Cond.selects "NineHeaps$Tape" yX7_read yX7_read ∈ zGT := zi5 70 rfl rfl
theorem zv7_lastRead : Cond.selects "NineHeaps$Tape" yX7_lastRead yX7_lastRead ∈ zGT := zi5 161 rfl rfl
theorem zv11_force : Cond.selects "NineHeaps" yX11_force yX11_force ∈ zGT := zi5 174 rfl rfl
theorem zl_NineHeapsLaw_23 : Cond.methodLink "NineHeapsLaw" 23 yX11_init ∈ zGT := zi1 27 rfl rfl
theorem zl_NineHeaps_1 : Cond.methodLink "NineHeaps" 1 ⟨"java/lang/Object", "<init>", "()V"⟩ ∈ zGT := zi1 30 rfl rfl
theorem zl_NineHeaps_Tape_3 : Cond.methodLink "NineHeaps$Tape" 3 ⟨"java/lang/Object", "<init>", "()V"⟩ ∈ zGT := zi1 42 rfl rfl
theorem zl_NineHeaps_47 : Cond.methodLink "NineHeaps" 47 yX0_init ∈ zGT := zi1 80 rfl rfl
theorem zl_NineHeaps_Going_3 : Cond.methodLink "NineHeaps$Going" 3 ⟨"java/lang/Object", "<init>", "()V"⟩ ∈ zGT := zi1 83 rfl rfl
theorem zl_NineHeaps_Going_27 : Cond.methodLink "NineHeaps$Going" 27 yX2_init ∈ zGT := zi1 88 rfl rfl
theorem zl_NineHeaps_Heap_3 : Cond.methodLink "NineHeaps$Heap" 3 ⟨"java/lang/Object", "<init>", "()V"⟩ ∈ zGT := zi1 91 rfl rfl
theorem zl_NineHeaps_75 : Cond.methodLink "NineHeaps" 75 yJ7_fill_53178 ∈ zGT := zi1 165 rfl rfl
theorem zl_NineHeaps_87 : Cond.methodLink "NineHeaps" 87 yX3_init ∈ zGT := zi1 173 rfl rfl
theorem zl_NineHeaps_Law_3 : Cond.methodLink "NineHeaps$Law" 3 ⟨"java/lang/Object", "<init>", "()V"⟩ ∈ zGT := zi1 176 rfl rfl
theorem zl_NineHeaps_Law_21 : Cond.methodLink "NineHeaps$Law" 21 ⟨"[I", "clone", "()Ljava/lang/Object;"⟩ ∈ zGT := zi1 177 rfl rfl
theorem zl_NineHeaps_Law_32 : Cond.methodLink "NineHeaps$Law" 32 yX3_bounded ∈ zGT := zi1 184 rfl rfl
theorem zl_NineHeaps_Law_45 : Cond.methodLink "NineHeaps$Law" 45 yJ9_max_7cf53 ∈ zGT := zi1 187 rfl rfl
theorem zl_NineHeaps_Law_58 : Cond.methodLink "NineHeaps$Law" 58 yJ9_min_7cf53 ∈ zGT := zi1 190 rfl rfl
theorem zl_NineHeaps_Sheet_3 : Cond.methodLink "NineHeaps$Sheet" 3 ⟨"java/lang/Object", "<init>", "()V"⟩ ∈ zGT := zi1 213 rfl rfl
theorem zl_NineHeapsLaw_167 : Cond.methodLink "NineHeapsLaw" 167 yX11_heap ∈ zGT := zi2 45 rfl rfl
theorem zl_NineHeaps_107 : Cond.methodLink "NineHeaps" 107 yX11_noHeap ∈ zGT := zi2 49 rfl rfl
theorem zl_NineHeapsLaw_158 : Cond.methodLink "NineHeapsLaw" 158 yX11_told ∈ zGT := zi2 52 rfl rfl
theorem zl_NineHeaps_135 : Cond.methodLink "NineHeaps" 135 yX11_walkerOf ∈ zGT := zi2 56 rfl rfl
theorem zl_NineHeaps_154 : Cond.methodLink "NineHeaps" 154 yX10_kind ∈ zGT := zi2 60 rfl rfl
theorem zl_NineHeaps_160 : Cond.methodLink "NineHeaps" 160 yX10_waits ∈ zGT := zi2 80 rfl rfl
theorem zl_NineHeapsLaw_161 : Cond.methodLink "NineHeapsLaw" 161 yX11_run ∈ zGT := zi2 92 rfl rfl
theorem zl_NineHeaps_164 : Cond.methodLink "NineHeaps" 164 yX11_noSeconds ∈ zGT := zi2 96 rfl rfl
theorem zl_NineHeaps_167 : Cond.methodLink "NineHeaps" 167 yX11_layPlain ∈ zGT := zi2 99 rfl rfl
theorem zl_NineHeaps_236 : Cond.methodLink "NineHeaps" 236 yX11_layWithout ∈ zGT := zi2 103 rfl rfl
theorem zl_NineHeaps_243 : Cond.methodLink "NineHeaps" 243 yX11_layHeaps ∈ zGT := zi2 107 rfl rfl
theorem zl_NineHeaps_139 : Cond.methodLink "NineHeaps" 139 yX11_textOf ∈ zGT := zi2 111 rfl rfl
theorem zl_NineHeaps_360 : Cond.methodLink "NineHeaps" 360 yX0_lay ∈ zGT := zi2 115 rfl rfl
theorem zl_NineHeaps_Going_30 : Cond.methodLink "NineHeaps$Going" 30 yX2_beginGoing ∈ zGT := zi2 119 rfl rfl
theorem zl_NineHeaps_246 : Cond.methodLink "NineHeaps" 246 yX0_join ∈ zGT := zi2 123 rfl rfl
theorem zl_NineHeaps_Going_66 : Cond.methodLink "NineHeaps$Going" 66 yX10_beginGoing ∈ zGT := zi2 127 rfl rfl
theorem zl_NineHeaps_170 : Cond.methodLink "NineHeaps" 170 yX0_pass ∈ zGT := zi2 137 rfl rfl
theorem zl_NineHeaps_Going_98 : Cond.methodLink "NineHeaps$Going" 98 yX0_moveOn ∈ zGT := zi2 141 rfl rfl
theorem zl_NineHeaps_Going_105 : Cond.methodLink "NineHeaps$Going" 105 yX0_heapAt ∈ zGT := zi2 145 rfl rfl
theorem zl_NineHeaps_Going_68 : Cond.methodLink "NineHeaps$Going" 68 yJ9_floorMod_7cf53 ∈ zGT := zi2 149 rfl rfl
theorem zl_NineHeaps_Going_112 : Cond.methodLink "NineHeaps$Going" 112 yX0_endTaking ∈ zGT := zi2 152 rfl rfl
theorem zl_NineHeaps_Going_127 : Cond.methodLink "NineHeaps$Going" 127 yX2_lift ∈ zGT := zi2 156 rfl rfl
theorem zl_NineHeaps_Going_141 : Cond.methodLink "NineHeaps$Going" 141 yX0_endProgramme ∈ zGT := zi2 160 rfl rfl
theorem zl_NineHeaps_Going_144 : Cond.methodLink "NineHeaps$Going" 144 yX0_stepOf ∈ zGT := zi2 164 rfl rfl
theorem zl_NineHeaps_Going_91 : Cond.methodLink "NineHeaps$Going" 91 yX3_says ∈ zGT := zi2 168 rfl rfl
theorem zl_NineHeaps_Law_50 : Cond.methodLink "NineHeaps$Law" 50 yX3_read ∈ zGT := zi2 172 rfl rfl
theorem zl_NineHeaps_Law_54 : Cond.methodLink "NineHeaps$Law" 54 yX3_worked ∈ zGT := zi2 176 rfl rfl
theorem zl_NineHeaps_Going_159 : Cond.methodLink "NineHeaps$Going" 159 yX10_stepFor ∈ zGT := zi2 179 rfl rfl
theorem zl_NineHeaps_Going_156 : Cond.methodLink "NineHeaps$Going" 156 yJ9_max_7cf53 ∈ zGT := zi2 193 rfl rfl
theorem zl_NineHeaps_Going_119 : Cond.methodLink "NineHeaps$Going" 119 yX10_waits ∈ zGT := zi2 194 rfl rfl
theorem zl_NineHeaps_Going_123 : Cond.methodLink "NineHeaps$Going" 123 yX0_takesOf ∈ zGT := zi2 195 rfl rfl
theorem zl_NineHeaps_Going_153 : Cond.methodLink "NineHeaps$Going" 153 yX10_takesFor ∈ zGT := zi2 199 rfl rfl
theorem zl_NineHeaps_Grandfather_11 : Cond.methodLink "NineHeaps$Grandfather" 11 yX8_takesFor ∈ zGT := zi2 206 rfl rfl
theorem zl_NineHeaps_Passing_11 : Cond.methodLink "NineHeaps$Passing" 11 ⟨"NineHeaps$Quick", "takesFor", "(II)I"⟩ ∈ zGT := zi2 213 rfl rfl
theorem zl_NineHeaps_182 : Cond.methodLink "NineHeaps" 182 yX0_badness ∈ zGT := zi2 224 rfl rfl
theorem zl_NineHeapsLaw_155 : Cond.methodLink "NineHeapsLaw" 155 yX11_one ∈ zGT := zi2 228 rfl rfl
theorem zl_NineHeapsLaw_164 : Cond.methodLink "NineHeapsLaw" 164 yX11_height ∈ zGT := zi2 232 rfl rfl
theorem zl_NineHeaps_203 : Cond.methodLink "NineHeaps" 203 yX0_heapAt ∈ zGT := zi2 236 rfl rfl
theorem zl_NineHeapsLaw_181 : Cond.methodLink "NineHeapsLaw" 181 yX11_go ∈ zGT := zi2 237 rfl rfl
theorem zl_NineHeapsLaw_170 : Cond.methodLink "NineHeapsLaw" 170 yX11_best ∈ zGT := zi3 1 rfl rfl
theorem zl_NineHeaps_221 : Cond.methodLink "NineHeaps" 221 yX11_orderByNumbers ∈ zGT := zi3 6 rfl rfl
theorem zl_NineHeaps_224 : Cond.methodLink "NineHeaps" 224 yX11_layByOrder ∈ zGT := zi3 10 rfl rfl
theorem zl_NineHeaps_227 : Cond.methodLink "NineHeaps" 227 yJ9_min_7cf53 ∈ zGT := zi3 14 rfl rfl
theorem zl_NineHeaps_230 : Cond.methodLink "NineHeaps" 230 yX11_orderAsDigits ∈ zGT := zi3 15 rfl rfl
theorem zl_NineHeaps_233 : Cond.methodLink "NineHeaps" 233 yX11_nextOrder ∈ zGT := zi3 19 rfl rfl
theorem zl_NineHeaps_250 : Cond.methodLink "NineHeaps" 250 yX11_swapInOrder ∈ zGT := zi3 23 rfl rfl
theorem zl_NineHeapsLaw_173 : Cond.methodLink "NineHeapsLaw" 173 yX11_start ∈ zGT := zi3 27 rfl rfl
theorem zl_NineHeapsLaw_178 : Cond.methodLink "NineHeapsLaw" 178 yX11_judge ∈ zGT := zi3 31 rfl rfl
theorem zl_NineHeaps_283 : Cond.methodLink "NineHeaps" 283 yX11_refusedJudging ∈ zGT := zi3 35 rfl rfl
theorem zl_NineHeaps_289 : Cond.methodLink "NineHeaps" 289 yX11_refusedTelling ∈ zGT := zi3 39 rfl rfl
theorem zl_NineHeaps_303 : Cond.methodLink "NineHeaps" 303 yX11_sheetOf ∈ zGT := zi3 43 rfl rfl
theorem zl_NineHeaps_313 : Cond.methodLink "NineHeaps" 313 yX6_missing ∈ zGT := zi3 47 rfl rfl
theorem zl_NineHeaps_286 : Cond.methodLink "NineHeaps" 286 yX11_firstOtherwise ∈ zGT := zi3 51 rfl rfl
theorem zl_NineHeapsLaw_175 : Cond.methodLink "NineHeapsLaw" 175 yX11_film ∈ zGT := zi3 55 rfl rfl
theorem zl_NineHeaps_307 : Cond.methodLink "NineHeaps" 307 yX6_become ∈ zGT := zi3 59 rfl rfl
theorem zl_NineHeaps_Sheet_19 : Cond.methodLink "NineHeaps$Sheet" 19 yJ9_min_7cf53 ∈ zGT := zi3 63 rfl rfl
theorem zl_NineHeaps_Sheet_25 : Cond.methodLink "NineHeaps$Sheet" 25 yJ9_max_7cf53 ∈ zGT := zi3 64 rfl rfl
theorem zl_NineHeaps_Sheet_31 : Cond.methodLink "NineHeaps$Sheet" 31 yJ7_fill_53178 ∈ zGT := zi3 65 rfl rfl
theorem zl_NineHeaps_310 : Cond.methodLink "NineHeaps" 310 yX6_put ∈ zGT := zi3 66 rfl rfl
theorem zl_NineHeaps_Sheet_37 : Cond.methodLink "NineHeaps$Sheet" 37 yX6_holds ∈ zGT := zi3 70 rfl rfl
theorem zl_NineHeapsLaw_69 : Cond.methodLink "NineHeapsLaw" 69 yL_at ∈ zGT := zi3 74 rfl rfl
theorem zl_NineHeapsLaw_143 : Cond.methodLink "NineHeapsLaw" 143 yL_build ∈ zGT := zi3 77 rfl rfl
theorem zl_NineHeapsLaw_24 : Cond.methodLink "NineHeapsLaw" 24 yL_high ∈ zGT := zi3 80 rfl rfl
theorem zl_NineHeapsLaw_30 : Cond.methodLink "NineHeapsLaw" 30 yX11_set ∈ zGT := zi3 83 rfl rfl
theorem zl_NineHeaps_103 : Cond.methodLink "NineHeaps" 103 yX11_changeWant ∈ zGT := zi3 87 rfl rfl
theorem zl_NineHeapsLaw_34 : Cond.methodLink "NineHeapsLaw" 34 yL_stick ∈ zGT := zi3 91 rfl rfl
theorem zl_NineHeapsLaw_37 : Cond.methodLink "NineHeapsLaw" 37 yL_want ∈ zGT := zi3 94 rfl rfl
theorem zl_NineHeapsLaw_41 : Cond.methodLink "NineHeapsLaw" 41 yL_many ∈ zGT := zi3 97 rfl rfl
theorem zl_NineHeapsLaw_44 : Cond.methodLink "NineHeapsLaw" 44 yL_kind ∈ zGT := zi3 100 rfl rfl
theorem zl_NineHeapsLaw_47 : Cond.methodLink "NineHeapsLaw" 47 yL_more ∈ zGT := zi3 103 rfl rfl
theorem zl_NineHeapsLaw_50 : Cond.methodLink "NineHeapsLaw" 50 yL_from ∈ zGT := zi3 106 rfl rfl
theorem zl_NineHeapsLaw_53 : Cond.methodLink "NineHeapsLaw" 53 yX11_walker ∈ zGT := zi3 109 rfl rfl
theorem zl_NineHeaps_147 : Cond.methodLink "NineHeaps" 147 yX11_newWalker ∈ zGT := zi3 113 rfl rfl
theorem zl_NineHeaps_366 : Cond.methodLink "NineHeaps" 366 yX5_init ∈ zGT := zi3 118 rfl rfl
theorem zl_NineHeaps_Quick_1 : Cond.methodLink "NineHeaps$Quick" 1 yX10_init ∈ zGT := zi3 121 rfl rfl
theorem zl_NineHeaps_Walker_1 : Cond.methodLink "NineHeaps$Walker" 1 ⟨"java/lang/Object", "<init>", "()V"⟩ ∈ zGT := zi3 124 rfl rfl
theorem zl_NineHeaps_371 : Cond.methodLink "NineHeaps" 371 yX8_init ∈ zGT := zi3 185 rfl rfl
theorem zl_NineHeaps_Thumbed_1 : Cond.methodLink "NineHeaps$Thumbed" 1 yX10_init ∈ zGT := zi3 188 rfl rfl
theorem zl_NineHeaps_374 : Cond.methodLink "NineHeaps" 374 yX4_init ∈ zGT := zi3 203 rfl rfl
theorem zl_NineHeaps_Passing_1 : Cond.methodLink "NineHeaps$Passing" 1 yX5_init ∈ zGT := zi3 206 rfl rfl
theorem zl_NineHeaps_377 : Cond.methodLink "NineHeaps" 377 yX1_init ∈ zGT := zi3 220 rfl rfl
theorem zl_NineHeaps_Grandfather_1 : Cond.methodLink "NineHeaps$Grandfather" 1 yX8_init ∈ zGT := zi3 223 rfl rfl
theorem zl_NineHeaps_380 : Cond.methodLink "NineHeaps" 380 yX9_init ∈ zGT := zi3 237 rfl rfl
theorem zl_NineHeaps_Two_1 : Cond.methodLink "NineHeaps$Two" 1 yX10_init ∈ zGT := zi4 0 rfl rfl
theorem zl_NineHeaps_381 : Cond.methodLink "NineHeaps" 381 yX10_init ∈ zGT := zi4 14 rfl rfl
theorem zl_NineHeapsLaw_56 : Cond.methodLink "NineHeapsLaw" 56 yL_plain ∈ zGT := zi4 27 rfl rfl
theorem zl_NineHeapsLaw_62 : Cond.methodLink "NineHeapsLaw" 62 yJ4_init_da8c8 ∈ zGT := zi4 32 rfl rfl
theorem zl_java_lang_StringBuilder_1 : Cond.methodLink "java/lang/StringBuilder" 1 yJ5_init_d00df ∈ zGT := zi4 35 rfl rfl
theorem zl_java_lang_AbstractStringBuilder_3 : Cond.methodLink "java/lang/AbstractStringBuilder" 3 ⟨"java/lang/Object", "<init>", "()V"⟩ ∈ zGT := zi4 38 rfl rfl
theorem zl_java_lang_AbstractStringBuilder_26 : Cond.methodLink "java/lang/AbstractStringBuilder" 26 yJ2_newBytesFor_77867 ∈ zGT := zi4 41 rfl rfl
theorem zl_java_lang_StringUTF16_11 : Cond.methodLink "java/lang/StringUTF16" 11 yJ2_newBytesLength_0f7a4 ∈ zGT := zi4 44 rfl rfl
theorem zl_NineHeapsLaw_65 : Cond.methodLink "NineHeapsLaw" 65 yJ4_append_15ec4 ∈ zGT := zi4 63 rfl rfl
theorem zl_java_lang_StringBuilder_29 : Cond.methodLink "java/lang/StringBuilder" 29 yJ5_append_cf1ce ∈ zGT := zi4 67 rfl rfl
theorem zl_java_lang_AbstractStringBuilder_204 : Cond.methodLink "java/lang/AbstractStringBuilder" 204 yJ5_appendNull_278bc ∈ zGT := zi4 70 rfl rfl
theorem zl_java_lang_AbstractStringBuilder_100 : Cond.methodLink "java/lang/AbstractStringBuilder" 100 yJ5_ensureCapacityInternal_d00df ∈ zGT := zi4 74 rfl rfl
theorem zl_java_lang_AbstractStringBuilder_104 : Cond.methodLink "java/lang/AbstractStringBuilder" 104 yJ5_newCapacity_0f7a4 ∈ zGT := zi4 78 rfl rfl
theorem zl_java_lang_AbstractStringBuilder_114 : Cond.methodLink "java/lang/AbstractStringBuilder" 114 yJ8_newLength_cabcc ∈ zGT := zi4 82 rfl rfl
theorem zl_jdk_internal_util_ArraysSupport_194 : Cond.methodLink "jdk/internal/util/ArraysSupport" 194 yJ9_max_7cf53 ∈ zGT := zi4 85 rfl rfl
theorem zl_jdk_internal_util_ArraysSupport_201 : Cond.methodLink "jdk/internal/util/ArraysSupport" 201 yJ8_hugeLength_7cf53 ∈ zGT := zi4 87 rfl rfl
theorem zl_java_lang_AbstractStringBuilder_108 : Cond.methodLink "java/lang/AbstractStringBuilder" 108 yJ7_copyOf_9075b ∈ zGT := zi4 91 rfl rfl
theorem zl_java_util_Arrays_310 : Cond.methodLink "java/util/Arrays" 310 ⟨"[B", "clone", "()Ljava/lang/Object;"⟩ ∈ zGT := zi4 94 rfl rfl
theorem zl_java_util_Arrays_304 : Cond.methodLink "java/util/Arrays" 304 yJ9_min_7cf53 ∈ zGT := zi4 99 rfl rfl
theorem zl_java_util_Arrays_150 : Cond.methodLink "java/util/Arrays" 150 ⟨"java/lang/System", "arraycopy", "(Ljava/lang/Object;ILjava/lang/Object;II)V"⟩ ∈ zGT := zi4 100 rfl rfl
theorem zl_java_lang_AbstractStringBuilder_83 : Cond.methodLink "java/lang/AbstractStringBuilder" 83 yJ5_isLatin1_aae02 ∈ zGT := zi4 103 rfl rfl
theorem zl_java_lang_AbstractStringBuilder_226 : Cond.methodLink "java/lang/AbstractStringBuilder" 226 yJ2_putCharsAt_cd4e5 ∈ zGT := zi4 108 rfl rfl
theorem zl_java_lang_StringUTF16_96 : Cond.methodLink "java/lang/StringUTF16" 96 yJ2_checkBoundsBeginEnd_d044e ∈ zGT := zi4 111 rfl rfl
theorem zl_java_lang_StringUTF16_48 : Cond.methodLink "java/lang/StringUTF16" 48 yJ2_length_9d52b ∈ zGT := zi4 114 rfl rfl
theorem zl_java_lang_StringUTF16_241 : Cond.methodLink "java/lang/StringUTF16" 241 yJ0_checkBoundsBeginEnd_23922 ∈ zGT := zi4 117 rfl rfl
theorem zl_java_lang_String_1062 : Cond.methodLink "java/lang/String" 1062 yJ3_checkFromToIndex_8c36e ∈ zGT := zi4 122 rfl rfl
theorem zl_java_lang_StringUTF16_111 : Cond.methodLink "java/lang/StringUTF16" 111 yJ2_putChar_b72d1 ∈ zGT := zi4 125 rfl rfl
theorem zl_java_lang_AbstractStringBuilder_32 : Cond.methodLink "java/lang/AbstractStringBuilder" 32 yJ0_length_8abf5 ∈ zGT := zi4 134 rfl rfl
theorem zl_java_lang_String_335 : Cond.methodLink "java/lang/String" 335 yJ0_coder_7d493 ∈ zGT := zi4 138 rfl rfl
theorem zl_java_lang_AbstractStringBuilder_208 : Cond.methodLink "java/lang/AbstractStringBuilder" 208 yJ5_putStringAt_47b60 ∈ zGT := zi4 143 rfl rfl
theorem zl_java_lang_AbstractStringBuilder_397 : Cond.methodLink "java/lang/AbstractStringBuilder" 397 yJ5_inflateIfNeededFor_a7421 ∈ zGT := zi4 147 rfl rfl
theorem zl_java_lang_AbstractStringBuilder_40 : Cond.methodLink "java/lang/AbstractStringBuilder" 40 yJ0_coder_7d493 ∈ zGT := zi4 151 rfl rfl
theorem zl_java_lang_AbstractStringBuilder_195 : Cond.methodLink "java/lang/AbstractStringBuilder" 195 yJ5_inflate_da8c8 ∈ zGT := zi4 152 rfl rfl
theorem zl_java_lang_AbstractStringBuilder_125 : Cond.methodLink "java/lang/AbstractStringBuilder" 125 yJ1_inflate_0e8fd ∈ zGT := zi4 156 rfl rfl
theorem zl_java_lang_StringLatin1_240 : Cond.methodLink "java/lang/StringLatin1" 240 yJ2_inflate_0e8fd ∈ zGT := zi4 159 rfl rfl
theorem zl_java_lang_StringUTF16_173 : Cond.methodLink "java/lang/StringUTF16" 173 yJ2_checkBoundsOffCount_d044e ∈ zGT := zi4 162 rfl rfl
theorem zl_java_lang_StringUTF16_419 : Cond.methodLink "java/lang/StringUTF16" 419 yJ0_checkBoundsOffCount_cabcc ∈ zGT := zi4 165 rfl rfl
theorem zl_java_lang_String_1065 : Cond.methodLink "java/lang/String" 1065 yJ3_checkFromIndexSize_8c36e ∈ zGT := zi4 168 rfl rfl
theorem zl_java_lang_AbstractStringBuilder_399 : Cond.methodLink "java/lang/AbstractStringBuilder" 399 yJ0_getBytes_840e7 ∈ zGT := zi4 171 rfl rfl
theorem zl_java_lang_String_212 : Cond.methodLink "java/lang/String" 212 ⟨"java/lang/System", "arraycopy", "(Ljava/lang/Object;ILjava/lang/Object;II)V"⟩ ∈ zGT := zi4 175 rfl rfl
theorem zl_java_lang_String_106 : Cond.methodLink "java/lang/String" 106 yJ1_inflate_0e8fd ∈ zGT := zi4 176 rfl rfl
theorem zl_NineHeapsLaw_72 : Cond.methodLink "NineHeapsLaw" 72 yJ4_append_bf812 ∈ zGT := zi4 177 rfl rfl
theorem zl_java_lang_StringBuilder_53 : Cond.methodLink "java/lang/StringBuilder" 53 yJ5_append_c97b9 ∈ zGT := zi4 181 rfl rfl
theorem zl_java_lang_AbstractStringBuilder_245 : Cond.methodLink "java/lang/AbstractStringBuilder" 245 yJ6_stringSize_0f7a4 ∈ zGT := zi4 184 rfl rfl
theorem zl_java_lang_AbstractStringBuilder_248 : Cond.methodLink "java/lang/AbstractStringBuilder" 248 yJ6_getChars_ba4f3 ∈ zGT := zi4 187 rfl rfl
theorem zl_java_lang_AbstractStringBuilder_251 : Cond.methodLink "java/lang/AbstractStringBuilder" 251 yJ2_getChars_46870 ∈ zGT := zi4 194 rfl rfl
theorem zl_java_lang_StringUTF16_393 : Cond.methodLink "java/lang/StringUTF16" 393 yJ2_getChars_ba4f3 ∈ zGT := zi4 197 rfl rfl
theorem zl_NineHeapsLaw_81 : Cond.methodLink "NineHeapsLaw" 81 yJ4_toString_0e30d ∈ zGT := zi4 205 rfl rfl
theorem zl_java_lang_StringBuilder_137 : Cond.methodLink "java/lang/StringBuilder" 137 yJ0_init_81219 ∈ zGT := zi4 211 rfl rfl
theorem zl_java_lang_String_489 : Cond.methodLink "java/lang/String" 489 yJ0_init_db425 ∈ zGT := zi4 214 rfl rfl
theorem zl_java_lang_String_1 : Cond.methodLink "java/lang/String" 1 ⟨"java/lang/Object", "<init>", "()V"⟩ ∈ zGT := zi4 217 rfl rfl
theorem zl_java_lang_String_552 : Cond.methodLink "java/lang/String" 552 yJ5_getValue_6d5f1 ∈ zGT := zi4 218 rfl rfl
theorem zl_java_lang_String_549 : Cond.methodLink "java/lang/String" 549 yJ5_length_8abf5 ∈ zGT := zi4 223 rfl rfl
theorem zl_java_lang_StringBuilder_343 : Cond.methodLink "java/lang/StringBuilder" 343 yJ5_length_8abf5 ∈ zGT := zi4 229 rfl rfl
theorem zl_java_lang_String_1047 : Cond.methodLink "java/lang/String" 1047 yJ5_isLatin1_aae02 ∈ zGT := zi4 231 rfl rfl
theorem zl_java_lang_String_54 : Cond.methodLink "java/lang/String" 54 yJ7_copyOfRange_39247 ∈ zGT := zi4 232 rfl rfl
theorem zl_java_util_Arrays_339 : Cond.methodLink "java/util/Arrays" 339 yJ7_copyOfRangeByte_39247 ∈ zGT := zi4 235 rfl rfl
theorem zl_java_util_Arrays_343 : Cond.methodLink "java/util/Arrays" 343 yJ7_checkLength_df160 ∈ zGT := zi4 238 rfl rfl
theorem zl_java_lang_String_1051 : Cond.methodLink "java/lang/String" 1051 yJ2_compress_39247 ∈ zGT := zi5 1 rfl rfl
theorem zl_java_lang_StringUTF16_123 : Cond.methodLink "java/lang/StringUTF16" 123 yJ2_compress_5af95 ∈ zGT := zi5 4 rfl rfl
theorem zl_java_lang_StringUTF16_71 : Cond.methodLink "java/lang/StringUTF16" 71 yJ2_getChar_3b067 ∈ zGT := zi5 7 rfl rfl
theorem zl_java_lang_StringUTF16_126 : Cond.methodLink "java/lang/StringUTF16" 126 yJ7_copyOfRange_39247 ∈ zGT := zi5 10 rfl rfl
theorem zl_java_lang_String_47 : Cond.methodLink "java/lang/String" 47 yJ2_coderFromArrayLen_85cad ∈ zGT := zi5 11 rfl rfl
theorem zl_NineHeapsLaw_85 : Cond.methodLink "NineHeapsLaw" 85 yL_text ∈ zGT := zi5 25 rfl rfl
theorem zl_NineHeapsLaw_7 : Cond.methodLink "NineHeapsLaw" 7 yJ0_length_8abf5 ∈ zGT := zi5 28 rfl rfl
theorem zl_NineHeapsLaw_13 : Cond.methodLink "NineHeapsLaw" 13 yJ0_charAt_5068e ∈ zGT := zi5 29 rfl rfl
theorem zl_java_lang_String_492 : Cond.methodLink "java/lang/String" 492 yJ0_isLatin1_aae02 ∈ zGT := zi5 33 rfl rfl
theorem zl_java_lang_String_495 : Cond.methodLink "java/lang/String" 495 yJ1_charAt_3b067 ∈ zGT := zi5 37 rfl rfl
theorem zl_java_lang_StringLatin1_9 : Cond.methodLink "java/lang/StringLatin1" 9 yJ0_checkIndex_df160 ∈ zGT := zi5 40 rfl rfl
theorem zl_java_lang_String_1059 : Cond.methodLink "java/lang/String" 1059 yJ3_checkIndex_8e157 ∈ zGT := zi5 43 rfl rfl
theorem zl_java_lang_String_498 : Cond.methodLink "java/lang/String" 498 yJ2_charAt_3b067 ∈ zGT := zi5 46 rfl rfl
theorem zl_java_lang_StringUTF16_67 : Cond.methodLink "java/lang/StringUTF16" 67 yJ2_checkIndex_2214a ∈ zGT := zi5 49 rfl rfl
theorem zl_java_lang_StringUTF16_414 : Cond.methodLink "java/lang/StringUTF16" 414 yJ0_checkIndex_df160 ∈ zGT := zi5 52 rfl rfl
theorem zl_NineHeapsLaw_17 : Cond.methodLink "NineHeapsLaw" 17 yX11_feed ∈ zGT := zi5 53 rfl rfl
theorem zl_NineHeaps_111 : Cond.methodLink "NineHeaps" 111 yX11_noByte ∈ zGT := zi5 57 rfl rfl
theorem zl_NineHeaps_114 : Cond.methodLink "NineHeaps" 114 yX7_add ∈ zGT := zi5 60 rfl rfl
theorem zl_NineHeapsLaw_89 : Cond.methodLink "NineHeapsLaw" 89 yX11_text ∈ zGT := zi5 64 rfl rfl
theorem zl_NineHeaps_118 : Cond.methodLink "NineHeaps" 118 yX7_read ∈ zGT := zi5 68 rfl rfl
theorem zl_NineHeaps_Tape_36 : Cond.methodLink "NineHeaps$Tape" 36 yX7_nextToken ∈ zGT := zi5 72 rfl rfl
theorem zl_NineHeaps_Tape_102 : Cond.methodLink "NineHeaps$Tape" 102 yX7_byteAt ∈ zGT := zi5 76 rfl rfl
theorem zl_NineHeaps_Tape_106 : Cond.methodLink "NineHeaps$Tape" 106 yX7_isLetter ∈ zGT := zi5 80 rfl rfl
theorem zl_NineHeaps_Tape_109 : Cond.methodLink "NineHeaps$Tape" 109 yX7_takeWord ∈ zGT := zi5 83 rfl rfl
theorem zl_NineHeaps_Tape_123 : Cond.methodLink "NineHeaps$Tape" 123 yX7_spells ∈ zGT := zi5 88 rfl rfl
theorem zl_NineHeaps_Tape_149 : Cond.methodLink "NineHeaps$Tape" 149 yJ0_length_8abf5 ∈ zGT := zi5 92 rfl rfl
theorem zl_NineHeaps_Tape_155 : Cond.methodLink "NineHeaps$Tape" 155 yJ0_charAt_5068e ∈ zGT := zi5 93 rfl rfl
theorem zl_NineHeaps_Tape_112 : Cond.methodLink "NineHeaps$Tape" 112 yX7_isDigit ∈ zGT := zi5 105 rfl rfl
theorem zl_NineHeaps_Tape_115 : Cond.methodLink "NineHeaps$Tape" 115 yX7_takeNumber ∈ zGT := zi5 108 rfl rfl
theorem zl_NineHeaps_Tape_118 : Cond.methodLink "NineHeaps$Tape" 118 yX7_isSign ∈ zGT := zi5 112 rfl rfl
theorem zl_NineHeaps_Tape_39 : Cond.methodLink "NineHeaps$Tape" 39 yX7_readPart ∈ zGT := zi5 115 rfl rfl
theorem zl_NineHeaps_Tape_67 : Cond.methodLink "NineHeaps$Tape" 67 yX7_expect ∈ zGT := zi5 119 rfl rfl
theorem zl_NineHeaps_Tape_46 : Cond.methodLink "NineHeaps$Tape" 46 yX7_fail ∈ zGT := zi5 123 rfl rfl
theorem zl_NineHeaps_Tape_71 : Cond.methodLink "NineHeaps$Tape" 71 yX7_readOr ∈ zGT := zi5 127 rfl rfl
theorem zl_NineHeaps_Tape_74 : Cond.methodLink "NineHeaps$Tape" 74 yX7_readAnd ∈ zGT := zi5 131 rfl rfl
theorem zl_NineHeaps_Tape_80 : Cond.methodLink "NineHeaps$Tape" 80 yX7_readNot ∈ zGT := zi5 135 rfl rfl
theorem zl_NineHeaps_Tape_83 : Cond.methodLink "NineHeaps$Tape" 83 yX7_mayOpen ∈ zGT := zi5 139 rfl rfl
theorem zl_NineHeaps_Tape_77 : Cond.methodLink "NineHeaps$Tape" 77 yX7_put ∈ zGT := zi5 143 rfl rfl
theorem zl_NineHeaps_Tape_87 : Cond.methodLink "NineHeaps$Tape" 87 yX7_readSum ∈ zGT := zi5 147 rfl rfl
theorem zl_NineHeaps_Tape_90 : Cond.methodLink "NineHeaps$Tape" 90 yX7_readTerm ∈ zGT := zi5 151 rfl rfl
theorem zl_NineHeaps_Tape_93 : Cond.methodLink "NineHeaps$Tape" 93 yX7_readOne ∈ zGT := zi5 155 rfl rfl
theorem zl_NineHeaps_122 : Cond.methodLink "NineHeaps" 122 yX7_lastRead ∈ zGT := zi5 159 rfl rfl
theorem zl_NineHeaps_Tape_49 : Cond.methodLink "NineHeaps$Tape" 49 yJ9_min_7cf53 ∈ zGT := zi5 163 rfl rfl
theorem zl_NineHeaps_Tape_55 : Cond.methodLink "NineHeaps$Tape" 55 yJ9_max_7cf53 ∈ zGT := zi5 164 rfl rfl
theorem zl_NineHeaps_Tape_58 : Cond.methodLink "NineHeaps$Tape" 58 yJ7_copyOf_59c91 ∈ zGT := zi5 166 rfl rfl
theorem zl_java_util_Arrays_316 : Cond.methodLink "java/util/Arrays" 316 ⟨"[I", "clone", "()Ljava/lang/Object;"⟩ ∈ zGT := zi5 169 rfl rfl
theorem zl_NineHeaps_Tape_64 : Cond.methodLink "NineHeaps$Tape" 64 yX3_init ∈ zGT := zi5 171 rfl rfl
theorem zl_NineHeapsLaw_91 : Cond.methodLink "NineHeapsLaw" 91 yX11_force ∈ zGT := zi5 172 rfl rfl
theorem zl_NineHeapsLaw_106 : Cond.methodLink "NineHeapsLaw" 106 yL_held ∈ zGT := zi5 176 rfl rfl
theorem zl_NineHeapsLaw_95 : Cond.methodLink "NineHeapsLaw" 95 yJ9_min_f86c9 ∈ zGT := zi5 179 rfl rfl
theorem zl_NineHeapsLaw_101 : Cond.methodLink "NineHeapsLaw" 101 yJ9_max_f86c9 ∈ zGT := zi5 182 rfl rfl
theorem zl_NineHeapsLaw_147 : Cond.methodLink "NineHeapsLaw" 147 yL_start ∈ zGT := zi5 185 rfl rfl
theorem zl_NineHeapsLaw_151 : Cond.methodLink "NineHeapsLaw" 151 yL_plainly ∈ zGT := zi5 188 rfl rfl
theorem zl_NineHeapsLaw_139 : Cond.methodLink "NineHeapsLaw" 139 yL_go ∈ zGT := zi5 191 rfl rfl
theorem zl_NineHeapsLaw_131 : Cond.methodLink "NineHeapsLaw" 131 yL_begin ∈ zGT := zi5 194 rfl rfl
theorem zl_NineHeapsLaw_135 : Cond.methodLink "NineHeapsLaw" 135 yL_second ∈ zGT := zi5 198 rfl rfl
theorem zl_NineHeapsLaw_117 : Cond.methodLink "NineHeapsLaw" 117 yL_lift ∈ zGT := zi5 202 rfl rfl
theorem zl_NineHeapsLaw_121 : Cond.methodLink "NineHeapsLaw" 121 yL_steps ∈ zGT := zi5 206 rfl rfl
theorem zl_NineHeapsLaw_110 : Cond.methodLink "NineHeapsLaw" 110 yJ9_max_7cf53 ∈ zGT := zi5 209 rfl rfl
theorem zl_NineHeapsLaw_127 : Cond.methodLink "NineHeapsLaw" 127 yL_takes ∈ zGT := zi5 211 rfl rfl
theorem zf_NineHeaps_Tape_9 : zFL "NineHeaps$Tape" 9 7 0 := ⟨by decide, by decide, "NineHeaps$Tape", zi1 43 rfl rfl, Or.inl rfl⟩
theorem zf_NineHeaps_Tape_23 : zFL "NineHeaps$Tape" 23 7 1 := ⟨by decide, by decide, "NineHeaps$Tape", zi1 44 rfl rfl, Or.inl rfl⟩
theorem zf_NineHeaps_100 : zFL "NineHeaps" 100 7 1 := ⟨by decide, by decide, "NineHeaps$Tape", zi1 45 rfl rfl, Or.inl rfl⟩
theorem zf_NineHeaps_Tape_27 : zFL "NineHeaps$Tape" 27 7 2 := ⟨by decide, by decide, "NineHeaps$Tape", zi1 46 rfl rfl, Or.inl rfl⟩
theorem zf_NineHeaps_Tape_43 : zFL "NineHeaps$Tape" 43 7 3 := ⟨by decide, by decide, "NineHeaps$Tape", zi1 47 rfl rfl, Or.inl rfl⟩
theorem zf_NineHeaps_Tape_99 : zFL "NineHeaps$Tape" 99 7 4 := ⟨by decide, by decide, "NineHeaps$Tape", zi1 48 rfl rfl, Or.inl rfl⟩
theorem zf_NineHeaps_Tape_96 : zFL "NineHeaps$Tape" 96 7 5 := ⟨by decide, by decide, "NineHeaps$Tape", zi1 49 rfl rfl, Or.inl rfl⟩
theorem zf_NineHeaps_Tape_30 : zFL "NineHeaps$Tape" 30 7 6 := ⟨by decide, by decide, "NineHeaps$Tape", zi1 50 rfl rfl, Or.inl rfl⟩
theorem zf_NineHeaps_Tape_15 : zFL "NineHeaps$Tape" 15 7 7 := ⟨by decide, by decide, "NineHeaps$Tape", zi1 51 rfl rfl, Or.inl rfl⟩
theorem zf_NineHeaps_Tape_33 : zFL "NineHeaps$Tape" 33 7 8 := ⟨by decide, by decide, "NineHeaps$Tape", zi1 52 rfl rfl, Or.inl rfl⟩
theorem zf_NineHeaps_Tape_20 : zFL "NineHeaps$Tape" 20 7 9 := ⟨by decide, by decide, "NineHeaps$Tape", zi1 53 rfl rfl, Or.inl rfl⟩
theorem zf_NineHeaps_Heap_9 : zFL "NineHeaps$Heap" 9 2 0 := ⟨by decide, by decide, "NineHeaps$Heap", zi1 92 rfl rfl, Or.inl rfl⟩
theorem zf_NineHeaps_Going_147 : zFL "NineHeaps$Going" 147 2 0 := ⟨by decide, by decide, "NineHeaps$Heap", zi1 93 rfl rfl, Or.inl rfl⟩
theorem zf_NineHeaps_Heap_15 : zFL "NineHeaps$Heap" 15 2 1 := ⟨by decide, by decide, "NineHeaps$Heap", zi1 94 rfl rfl, Or.inl rfl⟩
theorem zf_NineHeaps_Going_150 : zFL "NineHeaps$Going" 150 2 1 := ⟨by decide, by decide, "NineHeaps$Heap", zi1 95 rfl rfl, Or.inl rfl⟩
theorem zf_NineHeaps_207 : zFL "NineHeaps" 207 2 1 := ⟨by decide, by decide, "NineHeaps$Heap", zi1 96 rfl rfl, Or.inl rfl⟩
theorem zf_NineHeaps_Heap_18 : zFL "NineHeaps$Heap" 18 2 2 := ⟨by decide, by decide, "NineHeaps$Heap", zi1 97 rfl rfl, Or.inl rfl⟩
theorem zf_NineHeaps_Heap_21 : zFL "NineHeaps$Heap" 21 2 3 := ⟨by decide, by decide, "NineHeaps$Heap", zi1 98 rfl rfl, Or.inl rfl⟩
theorem zf_NineHeaps_Heap_24 : zFL "NineHeaps$Heap" 24 2 4 := ⟨by decide, by decide, "NineHeaps$Heap", zi1 99 rfl rfl, Or.inl rfl⟩
theorem zf_NineHeaps_Going_116 : zFL "NineHeaps$Going" 116 2 4 := ⟨by decide, by decide, "NineHeaps$Heap", zi1 100 rfl rfl, Or.inl rfl⟩
theorem zf_NineHeaps_Heap_27 : zFL "NineHeaps$Heap" 27 2 5 := ⟨by decide, by decide, "NineHeaps$Heap", zi1 101 rfl rfl, Or.inl rfl⟩
theorem zf_NineHeaps_211 : zFL "NineHeaps" 211 2 5 := ⟨by decide, by decide, "NineHeaps$Heap", zi1 102 rfl rfl, Or.inl rfl⟩
theorem zf_NineHeaps_Heap_30 : zFL "NineHeaps$Heap" 30 2 6 := ⟨by decide, by decide, "NineHeaps$Heap", zi1 103 rfl rfl, Or.inl rfl⟩
theorem zf_NineHeaps_Going_11 : zFL "NineHeaps$Going" 11 0 0 := ⟨by decide, by decide, "NineHeaps$Going", zi1 119 rfl rfl, Or.inl rfl⟩
theorem zf_NineHeaps_Going_19 : zFL "NineHeaps$Going" 19 0 1 := ⟨by decide, by decide, "NineHeaps$Going", zi1 120 rfl rfl, Or.inl rfl⟩
theorem zf_NineHeaps_Going_45 : zFL "NineHeaps$Going" 45 0 2 := ⟨by decide, by decide, "NineHeaps$Going", zi1 121 rfl rfl, Or.inl rfl⟩
theorem zf_NineHeaps_Going_42 : zFL "NineHeaps$Going" 42 0 3 := ⟨by decide, by decide, "NineHeaps$Going", zi1 122 rfl rfl, Or.inl rfl⟩
theorem zf_NineHeaps_Going_38 : zFL "NineHeaps$Going" 38 0 4 := ⟨by decide, by decide, "NineHeaps$Going", zi1 123 rfl rfl, Or.inl rfl⟩
theorem zf_NineHeaps_Going_48 : zFL "NineHeaps$Going" 48 0 5 := ⟨by decide, by decide, "NineHeaps$Going", zi1 124 rfl rfl, Or.inl rfl⟩
theorem zf_NineHeaps_Going_23 : zFL "NineHeaps$Going" 23 0 6 := ⟨by decide, by decide, "NineHeaps$Going", zi1 125 rfl rfl, Or.inl rfl⟩
theorem zf_NineHeaps_Going_34 : zFL "NineHeaps$Going" 34 0 7 := ⟨by decide, by decide, "NineHeaps$Going", zi1 126 rfl rfl, Or.inl rfl⟩
theorem zf_NineHeaps_Going_51 : zFL "NineHeaps$Going" 51 0 8 := ⟨by decide, by decide, "NineHeaps$Going", zi1 127 rfl rfl, Or.inl rfl⟩
theorem zf_NineHeaps_Going_54 : zFL "NineHeaps$Going" 54 0 9 := ⟨by decide, by decide, "NineHeaps$Going", zi1 128 rfl rfl, Or.inl rfl⟩
theorem zf_NineHeaps_173 : zFL "NineHeaps" 173 0 9 := ⟨by decide, by decide, "NineHeaps$Going", zi1 129 rfl rfl, Or.inl rfl⟩
theorem zf_NineHeaps_Going_57 : zFL "NineHeaps$Going" 57 0 10 := ⟨by decide, by decide, "NineHeaps$Going", zi1 130 rfl rfl, Or.inl rfl⟩
theorem zf_NineHeaps_176 : zFL "NineHeaps" 176 0 10 := ⟨by decide, by decide, "NineHeaps$Going", zi1 131 rfl rfl, Or.inl rfl⟩
theorem zf_NineHeaps_Going_60 : zFL "NineHeaps$Going" 60 0 11 := ⟨by decide, by decide, "NineHeaps$Going", zi1 132 rfl rfl, Or.inl rfl⟩
theorem zf_NineHeaps_179 : zFL "NineHeaps" 179 0 11 := ⟨by decide, by decide, "NineHeaps$Going", zi1 133 rfl rfl, Or.inl rfl⟩
theorem zf_NineHeaps_Going_63 : zFL "NineHeaps$Going" 63 0 12 := ⟨by decide, by decide, "NineHeaps$Going", zi1 134 rfl rfl, Or.inl rfl⟩
theorem zf_NineHeaps_185 : zFL "NineHeaps" 185 0 12 := ⟨by decide, by decide, "NineHeaps$Going", zi1 135 rfl rfl, Or.inl rfl⟩
theorem zf_NineHeaps_81 : Cond.fieldLink "NineHeaps" 81 "NineHeaps" "FIRST_LAW" "[I" ∈ zGT := zi1 169 rfl rfl
theorem zf_NineHeaps_84 : Cond.fieldLink "NineHeaps" 84 "NineHeaps" "FIRST_LAW_STARTS" "[I" ∈ zGT := zi1 171 rfl rfl
theorem zf_NineHeaps_Law_26 : zFL "NineHeaps$Law" 26 3 0 := ⟨by decide, by decide, "NineHeaps$Law", zi1 193 rfl rfl, Or.inl rfl⟩
theorem zf_NineHeaps_Law_29 : zFL "NineHeaps$Law" 29 3 1 := ⟨by decide, by decide, "NineHeaps$Law", zi1 194 rfl rfl, Or.inl rfl⟩
theorem zf_NineHeaps_Law_11 : zFL "NineHeaps$Law" 11 3 2 := ⟨by decide, by decide, "NineHeaps$Law", zi1 195 rfl rfl, Or.inl rfl⟩
theorem zf_NineHeaps_Law_15 : zFL "NineHeaps$Law" 15 3 3 := ⟨by decide, by decide, "NineHeaps$Law", zi1 196 rfl rfl, Or.inl rfl⟩
theorem zf_NineHeaps_Law_18 : zFL "NineHeaps$Law" 18 3 4 := ⟨by decide, by decide, "NineHeaps$Law", zi1 197 rfl rfl, Or.inl rfl⟩
theorem zf_NineHeaps_Sheet_9 : zFL "NineHeaps$Sheet" 9 6 0 := ⟨by decide, by decide, "NineHeaps$Sheet", zi1 214 rfl rfl, Or.inl rfl⟩
theorem zf_NineHeaps_Sheet_28 : zFL "NineHeaps$Sheet" 28 6 1 := ⟨by decide, by decide, "NineHeaps$Sheet", zi1 215 rfl rfl, Or.inl rfl⟩
theorem zf_NineHeaps_316 : zFL "NineHeaps" 316 6 1 := ⟨by decide, by decide, "NineHeaps$Sheet", zi1 216 rfl rfl, Or.inl rfl⟩
theorem zf_NineHeaps_Sheet_15 : zFL "NineHeaps$Sheet" 15 6 2 := ⟨by decide, by decide, "NineHeaps$Sheet", zi1 217 rfl rfl, Or.inl rfl⟩
theorem zf_NineHeaps_317 : zFL "NineHeaps" 317 6 2 := ⟨by decide, by decide, "NineHeaps$Sheet", zi1 218 rfl rfl, Or.inl rfl⟩
theorem zf_NineHeaps_9 : zFL "NineHeaps" 9 11 0 := ⟨by decide, by decide, "NineHeaps", zi1 226 rfl rfl, Or.inl rfl⟩
theorem zf_NineHeaps_13 : zFL "NineHeaps" 13 11 1 := ⟨by decide, by decide, "NineHeaps", zi1 227 rfl rfl, Or.inl rfl⟩
theorem zf_NineHeaps_16 : zFL "NineHeaps" 16 11 2 := ⟨by decide, by decide, "NineHeaps", zi1 228 rfl rfl, Or.inl rfl⟩
theorem zf_NineHeaps_22 : zFL "NineHeaps" 22 11 3 := ⟨by decide, by decide, "NineHeaps", zi1 229 rfl rfl, Or.inl rfl⟩
theorem zf_NineHeaps_94 : zFL "NineHeaps" 94 11 4 := ⟨by decide, by decide, "NineHeaps", zi1 230 rfl rfl, Or.inl rfl⟩
theorem zf_NineHeaps_28 : zFL "NineHeaps" 28 11 5 := ⟨by decide, by decide, "NineHeaps", zi1 231 rfl rfl, Or.inl rfl⟩
theorem zf_NineHeaps_90 : zFL "NineHeaps" 90 11 6 := ⟨by decide, by decide, "NineHeaps", zi1 232 rfl rfl, Or.inl rfl⟩
theorem zf_NineHeaps_97 : zFL "NineHeaps" 97 11 7 := ⟨by decide, by decide, "NineHeaps", zi1 233 rfl rfl, Or.inl rfl⟩
theorem zf_NineHeaps_35 : zFL "NineHeaps" 35 11 8 := ⟨by decide, by decide, "NineHeaps", zi1 234 rfl rfl, Or.inl rfl⟩
theorem zf_NineHeaps_41 : zFL "NineHeaps" 41 11 9 := ⟨by decide, by decide, "NineHeaps", zi1 235 rfl rfl, Or.inl rfl⟩
theorem zf_NineHeaps_48 : zFL "NineHeaps" 48 11 10 := ⟨by decide, by decide, "NineHeaps", zi1 236 rfl rfl, Or.inl rfl⟩
theorem zf_NineHeaps_52 : zFL "NineHeaps" 52 11 11 := ⟨by decide, by decide, "NineHeaps", zi1 237 rfl rfl, Or.inl rfl⟩
theorem zf_NineHeaps_57 : zFL "NineHeaps" 57 11 12 := ⟨by decide, by decide, "NineHeaps", zi1 238 rfl rfl, Or.inl rfl⟩
theorem zf_NineHeaps_60 : zFL "NineHeaps" 60 11 13 := ⟨by decide, by decide, "NineHeaps", zi1 239 rfl rfl, Or.inl rfl⟩
theorem zf_NineHeaps_63 : zFL "NineHeaps" 63 11 14 := ⟨by decide, by decide, "NineHeaps", zi2 0 rfl rfl, Or.inl rfl⟩
theorem zf_NineHeaps_66 : zFL "NineHeaps" 66 11 15 := ⟨by decide, by decide, "NineHeaps", zi2 1 rfl rfl, Or.inl rfl⟩
theorem zf_NineHeaps_69 : zFL "NineHeaps" 69 11 16 := ⟨by decide, by decide, "NineHeaps", zi2 2 rfl rfl, Or.inl rfl⟩
theorem zf_NineHeaps_72 : zFL "NineHeaps" 72 11 18 := ⟨by decide, by decide, "NineHeaps", zi2 3 rfl rfl, Or.inl rfl⟩
theorem zf_NineHeaps_Walker_7 {c : Nat} (hc : zWc c) : zFL "NineHeaps$Walker" 7 c 0 := by
  have h1 : Cond.fieldLink "NineHeaps$Walker" 7 "NineHeaps$Walker" "number" "I" ∈ zGT := zi3 125 rfl rfl
  refine ⟨by rcases hc with rfl | rfl | rfl | rfl | rfl | rfl <;> decide, by rcases hc with rfl | rfl | rfl | rfl | rfl | rfl <;> decide, "NineHeaps$Walker", by rcases hc with rfl | rfl | rfl | rfl | rfl | rfl <;> exact h1, Or.inl (by rcases hc with rfl | rfl | rfl | rfl | rfl | rfl <;> rfl)⟩
theorem zf_NineHeaps_Law_36 {c : Nat} (hc : zWc c) : zFL "NineHeaps$Law" 36 c 0 := by
  have h1 : Cond.fieldLink "NineHeaps$Law" 36 "NineHeaps$Walker" "number" "I" ∈ zGT := zi3 126 rfl rfl
  refine ⟨by rcases hc with rfl | rfl | rfl | rfl | rfl | rfl <;> decide, by rcases hc with rfl | rfl | rfl | rfl | rfl | rfl <;> decide, "NineHeaps$Walker", by rcases hc with rfl | rfl | rfl | rfl | rfl | rfl <;> exact h1, Or.inl (by rcases hc with rfl | rfl | rfl | rfl | rfl | rfl <;> rfl)⟩
theorem zf_NineHeaps_Walker_13 {c : Nat} (hc : zWc c) : zFL "NineHeaps$Walker" 13 c 1 := by
  have h1 : Cond.fieldLink "NineHeaps$Walker" 13 "NineHeaps$Walker" "more" "I" ∈ zGT := zi3 127 rfl rfl
  refine ⟨by rcases hc with rfl | rfl | rfl | rfl | rfl | rfl <;> decide, by rcases hc with rfl | rfl | rfl | rfl | rfl | rfl <;> decide, "NineHeaps$Walker", by rcases hc with rfl | rfl | rfl | rfl | rfl | rfl <;> exact h1, Or.inl (by rcases hc with rfl | rfl | rfl | rfl | rfl | rfl <;> rfl)⟩
theorem zf_NineHeaps_Law_42 {c : Nat} (hc : zWc c) : zFL "NineHeaps$Law" 42 c 1 := by
  have h1 : Cond.fieldLink "NineHeaps$Law" 42 "NineHeaps$Walker" "more" "I" ∈ zGT := zi3 128 rfl rfl
  refine ⟨by rcases hc with rfl | rfl | rfl | rfl | rfl | rfl <;> decide, by rcases hc with rfl | rfl | rfl | rfl | rfl | rfl <;> decide, "NineHeaps$Walker", by rcases hc with rfl | rfl | rfl | rfl | rfl | rfl <;> exact h1, Or.inl (by rcases hc with rfl | rfl | rfl | rfl | rfl | rfl <;> rfl)⟩
theorem zf_NineHeaps_Quick_11 {c : Nat} (hc : zWc c) : zFL "NineHeaps$Quick" 11 c 1 := by
  have h1 : Cond.fieldLink "NineHeaps$Quick" 11 "NineHeaps$Quick" "more" "I" ∈ zGT := zi3 129 rfl rfl
  have h2 : Cond.sameField "NineHeaps$Quick" "NineHeaps$Walker" "more" "I" ∈ zGT := zi3 130 rfl rfl
  refine ⟨by rcases hc with rfl | rfl | rfl | rfl | rfl | rfl <;> decide, by rcases hc with rfl | rfl | rfl | rfl | rfl | rfl <;> decide, "NineHeaps$Quick", by rcases hc with rfl | rfl | rfl | rfl | rfl | rfl <;> exact h1, Or.inr (by rcases hc with rfl | rfl | rfl | rfl | rfl | rfl <;> exact h2)⟩
theorem zf_NineHeaps_Thumbed_11 {c : Nat} (hc : zWc c) : zFL "NineHeaps$Thumbed" 11 c 1 := by
  have h1 : Cond.fieldLink "NineHeaps$Thumbed" 11 "NineHeaps$Thumbed" "more" "I" ∈ zGT := zi3 131 rfl rfl
  have h2 : Cond.sameField "NineHeaps$Thumbed" "NineHeaps$Walker" "more" "I" ∈ zGT := zi3 132 rfl rfl
  refine ⟨by rcases hc with rfl | rfl | rfl | rfl | rfl | rfl <;> decide, by rcases hc with rfl | rfl | rfl | rfl | rfl | rfl <;> decide, "NineHeaps$Thumbed", by rcases hc with rfl | rfl | rfl | rfl | rfl | rfl <;> exact h1, Or.inr (by rcases hc with rfl | rfl | rfl | rfl | rfl | rfl <;> exact h2)⟩
theorem zf_NineHeaps_Two_11 {c : Nat} (hc : zWc c) : zFL "NineHeaps$Two" 11 c 1 := by
  have h1 : Cond.fieldLink "NineHeaps$Two" 11 "NineHeaps$Two" "more" "I" ∈ zGT := zi3 133 rfl rfl
  have h2 : Cond.sameField "NineHeaps$Two" "NineHeaps$Walker" "more" "I" ∈ zGT := zi3 134 rfl rfl
  refine ⟨by rcases hc with rfl | rfl | rfl | rfl | rfl | rfl <;> decide, by rcases hc with rfl | rfl | rfl | rfl | rfl | rfl <;> decide, "NineHeaps$Two", by rcases hc with rfl | rfl | rfl | rfl | rfl | rfl <;> exact h1, Or.inr (by rcases hc with rfl | rfl | rfl | rfl | rfl | rfl <;> exact h2)⟩
theorem zf_NineHeaps_Grandfather_15 {c : Nat} (hc : zWc c) : zFL "NineHeaps$Grandfather" 15 c 1 := by
  have h1 : Cond.fieldLink "NineHeaps$Grandfather" 15 "NineHeaps$Grandfather" "more" "I" ∈ zGT := zi3 135 rfl rfl
  have h2 : Cond.sameField "NineHeaps$Grandfather" "NineHeaps$Walker" "more" "I" ∈ zGT := zi3 136 rfl rfl
  refine ⟨by rcases hc with rfl | rfl | rfl | rfl | rfl | rfl <;> decide, by rcases hc with rfl | rfl | rfl | rfl | rfl | rfl <;> decide, "NineHeaps$Grandfather", by rcases hc with rfl | rfl | rfl | rfl | rfl | rfl <;> exact h1, Or.inr (by rcases hc with rfl | rfl | rfl | rfl | rfl | rfl <;> exact h2)⟩
theorem zf_NineHeaps_157 {c : Nat} (hc : zWc c) : zFL "NineHeaps" 157 c 1 := by
  have h1 : Cond.fieldLink "NineHeaps" 157 "NineHeaps$Walker" "more" "I" ∈ zGT := zi3 137 rfl rfl
  refine ⟨by rcases hc with rfl | rfl | rfl | rfl | rfl | rfl <;> decide, by rcases hc with rfl | rfl | rfl | rfl | rfl | rfl <;> decide, "NineHeaps$Walker", by rcases hc with rfl | rfl | rfl | rfl | rfl | rfl <;> exact h1, Or.inl (by rcases hc with rfl | rfl | rfl | rfl | rfl | rfl <;> rfl)⟩
theorem zf_NineHeaps_Walker_16 {c : Nat} (hc : zWc c) : zFL "NineHeaps$Walker" 16 c 2 := by
  have h1 : Cond.fieldLink "NineHeaps$Walker" 16 "NineHeaps$Walker" "from" "I" ∈ zGT := zi3 138 rfl rfl
  refine ⟨by rcases hc with rfl | rfl | rfl | rfl | rfl | rfl <;> decide, by rcases hc with rfl | rfl | rfl | rfl | rfl | rfl <;> decide, "NineHeaps$Walker", by rcases hc with rfl | rfl | rfl | rfl | rfl | rfl <;> exact h1, Or.inl (by rcases hc with rfl | rfl | rfl | rfl | rfl | rfl <;> rfl)⟩
theorem zf_NineHeaps_151 {c : Nat} (hc : zWc c) : zFL "NineHeaps" 151 c 2 := by
  have h1 : Cond.fieldLink "NineHeaps" 151 "NineHeaps$Walker" "from" "I" ∈ zGT := zi3 139 rfl rfl
  refine ⟨by rcases hc with rfl | rfl | rfl | rfl | rfl | rfl <;> decide, by rcases hc with rfl | rfl | rfl | rfl | rfl | rfl <;> decide, "NineHeaps$Walker", by rcases hc with rfl | rfl | rfl | rfl | rfl | rfl <;> exact h1, Or.inl (by rcases hc with rfl | rfl | rfl | rfl | rfl | rfl <;> rfl)⟩
theorem zf_NineHeaps_Walker_19 {c : Nat} (hc : zWc c) : zFL "NineHeaps$Walker" 19 c 3 := by
  have h1 : Cond.fieldLink "NineHeaps$Walker" 19 "NineHeaps$Walker" "at" "I" ∈ zGT := zi3 140 rfl rfl
  refine ⟨by rcases hc with rfl | rfl | rfl | rfl | rfl | rfl <;> decide, by rcases hc with rfl | rfl | rfl | rfl | rfl | rfl <;> decide, "NineHeaps$Walker", by rcases hc with rfl | rfl | rfl | rfl | rfl | rfl <;> exact h1, Or.inl (by rcases hc with rfl | rfl | rfl | rfl | rfl | rfl <;> rfl)⟩
theorem zf_NineHeaps_Going_102 {c : Nat} (hc : zWc c) : zFL "NineHeaps$Going" 102 c 3 := by
  have h1 : Cond.fieldLink "NineHeaps$Going" 102 "NineHeaps$Walker" "at" "I" ∈ zGT := zi3 141 rfl rfl
  refine ⟨by rcases hc with rfl | rfl | rfl | rfl | rfl | rfl <;> decide, by rcases hc with rfl | rfl | rfl | rfl | rfl | rfl <;> decide, "NineHeaps$Walker", by rcases hc with rfl | rfl | rfl | rfl | rfl | rfl <;> exact h1, Or.inl (by rcases hc with rfl | rfl | rfl | rfl | rfl | rfl <;> rfl)⟩
theorem zf_NineHeaps_188 {c : Nat} (hc : zWc c) : zFL "NineHeaps" 188 c 3 := by
  have h1 : Cond.fieldLink "NineHeaps" 188 "NineHeaps$Walker" "at" "I" ∈ zGT := zi3 142 rfl rfl
  refine ⟨by rcases hc with rfl | rfl | rfl | rfl | rfl | rfl <;> decide, by rcases hc with rfl | rfl | rfl | rfl | rfl | rfl <;> decide, "NineHeaps$Walker", by rcases hc with rfl | rfl | rfl | rfl | rfl | rfl <;> exact h1, Or.inl (by rcases hc with rfl | rfl | rfl | rfl | rfl | rfl <;> rfl)⟩
theorem zf_NineHeaps_Walker_22 {c : Nat} (hc : zWc c) : zFL "NineHeaps$Walker" 22 c 4 := by
  have h1 : Cond.fieldLink "NineHeaps$Walker" 22 "NineHeaps$Walker" "doing" "I" ∈ zGT := zi3 143 rfl rfl
  refine ⟨by rcases hc with rfl | rfl | rfl | rfl | rfl | rfl <;> decide, by rcases hc with rfl | rfl | rfl | rfl | rfl | rfl <;> decide, "NineHeaps$Walker", by rcases hc with rfl | rfl | rfl | rfl | rfl | rfl <;> exact h1, Or.inl (by rcases hc with rfl | rfl | rfl | rfl | rfl | rfl <;> rfl)⟩
theorem zf_NineHeaps_Going_109 {c : Nat} (hc : zWc c) : zFL "NineHeaps$Going" 109 c 4 := by
  have h1 : Cond.fieldLink "NineHeaps$Going" 109 "NineHeaps$Walker" "doing" "I" ∈ zGT := zi3 144 rfl rfl
  refine ⟨by rcases hc with rfl | rfl | rfl | rfl | rfl | rfl <;> decide, by rcases hc with rfl | rfl | rfl | rfl | rfl | rfl <;> decide, "NineHeaps$Walker", by rcases hc with rfl | rfl | rfl | rfl | rfl | rfl <;> exact h1, Or.inl (by rcases hc with rfl | rfl | rfl | rfl | rfl | rfl <;> rfl)⟩
theorem zf_NineHeaps_191 {c : Nat} (hc : zWc c) : zFL "NineHeaps" 191 c 4 := by
  have h1 : Cond.fieldLink "NineHeaps" 191 "NineHeaps$Walker" "doing" "I" ∈ zGT := zi3 145 rfl rfl
  refine ⟨by rcases hc with rfl | rfl | rfl | rfl | rfl | rfl <;> decide, by rcases hc with rfl | rfl | rfl | rfl | rfl | rfl <;> decide, "NineHeaps$Walker", by rcases hc with rfl | rfl | rfl | rfl | rfl | rfl <;> exact h1, Or.inl (by rcases hc with rfl | rfl | rfl | rfl | rfl | rfl <;> rfl)⟩
theorem zf_NineHeaps_Walker_25 {c : Nat} (hc : zWc c) : zFL "NineHeaps$Walker" 25 c 5 := by
  have h1 : Cond.fieldLink "NineHeaps$Walker" 25 "NineHeaps$Walker" "left" "I" ∈ zGT := zi3 146 rfl rfl
  refine ⟨by rcases hc with rfl | rfl | rfl | rfl | rfl | rfl <;> decide, by rcases hc with rfl | rfl | rfl | rfl | rfl | rfl <;> decide, "NineHeaps$Walker", by rcases hc with rfl | rfl | rfl | rfl | rfl | rfl <;> exact h1, Or.inl (by rcases hc with rfl | rfl | rfl | rfl | rfl | rfl <;> rfl)⟩
theorem zf_NineHeaps_Going_95 {c : Nat} (hc : zWc c) : zFL "NineHeaps$Going" 95 c 5 := by
  have h1 : Cond.fieldLink "NineHeaps$Going" 95 "NineHeaps$Walker" "left" "I" ∈ zGT := zi3 147 rfl rfl
  refine ⟨by rcases hc with rfl | rfl | rfl | rfl | rfl | rfl <;> decide, by rcases hc with rfl | rfl | rfl | rfl | rfl | rfl <;> decide, "NineHeaps$Walker", by rcases hc with rfl | rfl | rfl | rfl | rfl | rfl <;> exact h1, Or.inl (by rcases hc with rfl | rfl | rfl | rfl | rfl | rfl <;> rfl)⟩
theorem zf_NineHeaps_Walker_28 {c : Nat} (hc : zWc c) : zFL "NineHeaps$Walker" 28 c 6 := by
  have h1 : Cond.fieldLink "NineHeaps$Walker" 28 "NineHeaps$Walker" "done" "I" ∈ zGT := zi3 148 rfl rfl
  refine ⟨by rcases hc with rfl | rfl | rfl | rfl | rfl | rfl <;> decide, by rcases hc with rfl | rfl | rfl | rfl | rfl | rfl <;> decide, "NineHeaps$Walker", by rcases hc with rfl | rfl | rfl | rfl | rfl | rfl <;> exact h1, Or.inl (by rcases hc with rfl | rfl | rfl | rfl | rfl | rfl <;> rfl)⟩
theorem zf_NineHeaps_Going_88 {c : Nat} (hc : zWc c) : zFL "NineHeaps$Going" 88 c 6 := by
  have h1 : Cond.fieldLink "NineHeaps$Going" 88 "NineHeaps$Walker" "done" "I" ∈ zGT := zi3 149 rfl rfl
  refine ⟨by rcases hc with rfl | rfl | rfl | rfl | rfl | rfl <;> decide, by rcases hc with rfl | rfl | rfl | rfl | rfl | rfl <;> decide, "NineHeaps$Walker", by rcases hc with rfl | rfl | rfl | rfl | rfl | rfl <;> exact h1, Or.inl (by rcases hc with rfl | rfl | rfl | rfl | rfl | rfl <;> rfl)⟩
theorem zf_NineHeaps_194 {c : Nat} (hc : zWc c) : zFL "NineHeaps" 194 c 6 := by
  have h1 : Cond.fieldLink "NineHeaps" 194 "NineHeaps$Walker" "done" "I" ∈ zGT := zi3 150 rfl rfl
  refine ⟨by rcases hc with rfl | rfl | rfl | rfl | rfl | rfl <;> decide, by rcases hc with rfl | rfl | rfl | rfl | rfl | rfl <;> decide, "NineHeaps$Walker", by rcases hc with rfl | rfl | rfl | rfl | rfl | rfl <;> exact h1, Or.inl (by rcases hc with rfl | rfl | rfl | rfl | rfl | rfl <;> rfl)⟩
theorem zf_NineHeaps_Walker_31 {c : Nat} (hc : zWc c) : zFL "NineHeaps$Walker" 31 c 7 := by
  have h1 : Cond.fieldLink "NineHeaps$Walker" 31 "NineHeaps$Walker" "waited" "I" ∈ zGT := zi3 151 rfl rfl
  refine ⟨by rcases hc with rfl | rfl | rfl | rfl | rfl | rfl <;> decide, by rcases hc with rfl | rfl | rfl | rfl | rfl | rfl <;> decide, "NineHeaps$Walker", by rcases hc with rfl | rfl | rfl | rfl | rfl | rfl <;> exact h1, Or.inl (by rcases hc with rfl | rfl | rfl | rfl | rfl | rfl <;> rfl)⟩
theorem zf_NineHeaps_Going_83 {c : Nat} (hc : zWc c) : zFL "NineHeaps$Going" 83 c 7 := by
  have h1 : Cond.fieldLink "NineHeaps$Going" 83 "NineHeaps$Walker" "waited" "I" ∈ zGT := zi3 152 rfl rfl
  refine ⟨by rcases hc with rfl | rfl | rfl | rfl | rfl | rfl <;> decide, by rcases hc with rfl | rfl | rfl | rfl | rfl | rfl <;> decide, "NineHeaps$Walker", by rcases hc with rfl | rfl | rfl | rfl | rfl | rfl <;> exact h1, Or.inl (by rcases hc with rfl | rfl | rfl | rfl | rfl | rfl <;> rfl)⟩
theorem zf_NineHeaps_197 {c : Nat} (hc : zWc c) : zFL "NineHeaps" 197 c 7 := by
  have h1 : Cond.fieldLink "NineHeaps" 197 "NineHeaps$Walker" "waited" "I" ∈ zGT := zi3 153 rfl rfl
  refine ⟨by rcases hc with rfl | rfl | rfl | rfl | rfl | rfl <;> decide, by rcases hc with rfl | rfl | rfl | rfl | rfl | rfl <;> decide, "NineHeaps$Walker", by rcases hc with rfl | rfl | rfl | rfl | rfl | rfl <;> exact h1, Or.inl (by rcases hc with rfl | rfl | rfl | rfl | rfl | rfl <;> rfl)⟩
theorem zf_NineHeaps_Walker_34 {c : Nat} (hc : zWc c) : zFL "NineHeaps$Walker" 34 c 8 := by
  have h1 : Cond.fieldLink "NineHeaps$Walker" 34 "NineHeaps$Walker" "has" "I" ∈ zGT := zi3 154 rfl rfl
  refine ⟨by rcases hc with rfl | rfl | rfl | rfl | rfl | rfl <;> decide, by rcases hc with rfl | rfl | rfl | rfl | rfl | rfl <;> decide, "NineHeaps$Walker", by rcases hc with rfl | rfl | rfl | rfl | rfl | rfl <;> exact h1, Or.inl (by rcases hc with rfl | rfl | rfl | rfl | rfl | rfl <;> rfl)⟩
theorem zf_NineHeaps_Going_138 {c : Nat} (hc : zWc c) : zFL "NineHeaps$Going" 138 c 8 := by
  have h1 : Cond.fieldLink "NineHeaps$Going" 138 "NineHeaps$Walker" "has" "I" ∈ zGT := zi3 155 rfl rfl
  refine ⟨by rcases hc with rfl | rfl | rfl | rfl | rfl | rfl <;> decide, by rcases hc with rfl | rfl | rfl | rfl | rfl | rfl <;> decide, "NineHeaps$Walker", by rcases hc with rfl | rfl | rfl | rfl | rfl | rfl <;> exact h1, Or.inl (by rcases hc with rfl | rfl | rfl | rfl | rfl | rfl <;> rfl)⟩
theorem zf_NineHeaps_200 {c : Nat} (hc : zWc c) : zFL "NineHeaps" 200 c 8 := by
  have h1 : Cond.fieldLink "NineHeaps" 200 "NineHeaps$Walker" "has" "I" ∈ zGT := zi3 156 rfl rfl
  refine ⟨by rcases hc with rfl | rfl | rfl | rfl | rfl | rfl <;> decide, by rcases hc with rfl | rfl | rfl | rfl | rfl | rfl <;> decide, "NineHeaps$Walker", by rcases hc with rfl | rfl | rfl | rfl | rfl | rfl <;> exact h1, Or.inl (by rcases hc with rfl | rfl | rfl | rfl | rfl | rfl <;> rfl)⟩
theorem zf_NineHeaps_Walker_37 {c : Nat} (hc : zWc c) : zFL "NineHeaps$Walker" 37 c 9 := by
  have h1 : Cond.fieldLink "NineHeaps$Walker" 37 "NineHeaps$Walker" "blotted" "Z" ∈ zGT := zi3 157 rfl rfl
  refine ⟨by rcases hc with rfl | rfl | rfl | rfl | rfl | rfl <;> decide, by rcases hc with rfl | rfl | rfl | rfl | rfl | rfl <;> decide, "NineHeaps$Walker", by rcases hc with rfl | rfl | rfl | rfl | rfl | rfl <;> exact h1, Or.inl (by rcases hc with rfl | rfl | rfl | rfl | rfl | rfl <;> rfl)⟩
theorem zf_NineHeaps_Going_131 {c : Nat} (hc : zWc c) : zFL "NineHeaps$Going" 131 c 9 := by
  have h1 : Cond.fieldLink "NineHeaps$Going" 131 "NineHeaps$Walker" "blotted" "Z" ∈ zGT := zi3 158 rfl rfl
  refine ⟨by rcases hc with rfl | rfl | rfl | rfl | rfl | rfl <;> decide, by rcases hc with rfl | rfl | rfl | rfl | rfl | rfl <;> decide, "NineHeaps$Walker", by rcases hc with rfl | rfl | rfl | rfl | rfl | rfl <;> exact h1, Or.inl (by rcases hc with rfl | rfl | rfl | rfl | rfl | rfl <;> rfl)⟩
theorem zf_NineHeaps_Walker_41 {c : Nat} (hc : zWc c) : zFL "NineHeaps$Walker" 41 c 10 := by
  have h1 : Cond.fieldLink "NineHeaps$Walker" 41 "NineHeaps$Walker" "lacks" "Z" ∈ zGT := zi3 159 rfl rfl
  refine ⟨by rcases hc with rfl | rfl | rfl | rfl | rfl | rfl <;> decide, by rcases hc with rfl | rfl | rfl | rfl | rfl | rfl <;> decide, "NineHeaps$Walker", by rcases hc with rfl | rfl | rfl | rfl | rfl | rfl <;> exact h1, Or.inl (by rcases hc with rfl | rfl | rfl | rfl | rfl | rfl <;> rfl)⟩
theorem zf_NineHeaps_Going_135 {c : Nat} (hc : zWc c) : zFL "NineHeaps$Going" 135 c 10 := by
  have h1 : Cond.fieldLink "NineHeaps$Going" 135 "NineHeaps$Walker" "lacks" "Z" ∈ zGT := zi3 160 rfl rfl
  refine ⟨by rcases hc with rfl | rfl | rfl | rfl | rfl | rfl <;> decide, by rcases hc with rfl | rfl | rfl | rfl | rfl | rfl <;> decide, "NineHeaps$Walker", by rcases hc with rfl | rfl | rfl | rfl | rfl | rfl <;> exact h1, Or.inl (by rcases hc with rfl | rfl | rfl | rfl | rfl | rfl <;> rfl)⟩
theorem zf_java_lang_AbstractStringBuilder_18 : Cond.fieldLink "java/lang/AbstractStringBuilder" 18 "java/lang/String" "COMPACT_STRINGS" "Z" ∈ zGT := zi4 39 rfl rfl
theorem zf_java_lang_AbstractStringBuilder_15 : zFL "java/lang/AbstractStringBuilder" 15 12 0 := ⟨by decide, by decide, "java/lang/AbstractStringBuilder", zi4 48 rfl rfl, Or.inl rfl⟩
theorem zf_java_lang_AbstractStringBuilder_22 : zFL "java/lang/AbstractStringBuilder" 22 12 1 := ⟨by decide, by decide, "java/lang/AbstractStringBuilder", zi4 49 rfl rfl, Or.inl rfl⟩
theorem zf_java_lang_String_1048 : zFL "java/lang/String" 1048 12 2 := ⟨by decide, by decide, "java/lang/AbstractStringBuilder", zi4 50 rfl rfl, Or.inl rfl⟩
theorem zf_java_lang_AbstractStringBuilder_79 : zFL "java/lang/AbstractStringBuilder" 79 12 3 := ⟨by decide, by decide, "java/lang/AbstractStringBuilder", zi4 51 rfl rfl, Or.inl rfl⟩
theorem zf_java_lang_String_1053 : Cond.fieldLink "java/lang/String" 1053 "jdk/internal/util/Preconditions" "SIOOBE_FORMATTER" "Ljava/util/function/BiFunction;" ∈ zGT := zi4 120 rfl rfl
theorem zf_java_lang_StringUTF16_44 : Cond.fieldLink "java/lang/StringUTF16" 44 "java/lang/StringUTF16" "$assertionsDisabled" "Z" ∈ zGT := zi4 128 rfl rfl
theorem zf_java_lang_StringUTF16_59 : Cond.fieldLink "java/lang/StringUTF16" 59 "java/lang/StringUTF16" "HI_BYTE_SHIFT" "I" ∈ zGT := zi4 130 rfl rfl
theorem zf_java_lang_StringUTF16_63 : Cond.fieldLink "java/lang/StringUTF16" 63 "java/lang/StringUTF16" "LO_BYTE_SHIFT" "I" ∈ zGT := zi4 132 rfl rfl
theorem zf_java_lang_String_38 : Cond.fieldLink "java/lang/String" 38 "java/lang/String" "COMPACT_STRINGS" "Z" ∈ zGT := zi4 142 rfl rfl
theorem zf_java_lang_Integer_83 : Cond.fieldLink "java/lang/Integer" 83 "java/lang/Integer" "DigitOnes" "[B" ∈ zGT := zi4 190 rfl rfl
theorem zf_java_lang_Integer_87 : Cond.fieldLink "java/lang/Integer" 87 "java/lang/Integer" "DigitTens" "[B" ∈ zGT := zi4 192 rfl rfl
theorem zf_java_lang_StringUTF16_403 : Cond.fieldLink "java/lang/StringUTF16" 403 "java/lang/Integer" "DigitOnes" "[B" ∈ zGT := zi4 200 rfl rfl
theorem zf_java_lang_StringUTF16_407 : Cond.fieldLink "java/lang/StringUTF16" 407 "java/lang/Integer" "DigitTens" "[B" ∈ zGT := zi4 201 rfl rfl
theorem zf_java_lang_String_9 : Cond.fieldLink "java/lang/String" 9 "java/lang/String" "value" "[B" ∈ zGT := zi5 14 rfl rfl
theorem zg_java_lang_String_9 : zFL "java/lang/String" 9 13 0 := ⟨by decide, by decide, "java/lang/String", zi5 14 rfl rfl, Or.inl rfl⟩
theorem zf_java_lang_String_15 : Cond.fieldLink "java/lang/String" 15 "java/lang/String" "coder" "B" ∈ zGT := zi5 15 rfl rfl
theorem zg_java_lang_String_15 : zFL "java/lang/String" 15 13 1 := ⟨by decide, by decide, "java/lang/String", zi5 15 rfl rfl, Or.inl rfl⟩
theorem zc_NineHeapsLaw_18 : Cond.classLink "NineHeapsLaw" 18 "NineHeaps" ∈ zGT := zi1 25 rfl rfl
theorem zc_NineHeaps_20 : Cond.classLink "NineHeaps" 20 "NineHeaps$Walker" ∈ zGT := zi1 33 rfl rfl
theorem zc_NineHeaps_26 : Cond.classLink "NineHeaps" 26 "NineHeaps$Law" ∈ zGT := zi1 35 rfl rfl
theorem zc_NineHeaps_32 : Cond.classLink "NineHeaps" 32 "NineHeaps$Tape" ∈ zGT := zi1 37 rfl rfl
theorem zc_NineHeaps_39 : Cond.classLink "NineHeaps" 39 "NineHeaps$Sheet" ∈ zGT := zi1 76 rfl rfl
theorem zc_NineHeaps_45 : Cond.classLink "NineHeaps" 45 "NineHeaps$Going" ∈ zGT := zi1 78 rfl rfl
theorem zc_NineHeaps_Going_9 : Cond.classLink "NineHeaps$Going" 9 "NineHeaps$Heap" ∈ zGT := zi1 84 rfl rfl
theorem zc_NineHeaps_Going_17 : Cond.classLink "NineHeaps$Going" 17 "NineHeaps$Walker" ∈ zGT := zi1 86 rfl rfl
theorem zc_NineHeaps_55 : Cond.classLink "NineHeaps" 55 "[[I" ∈ zGT := zi1 163 rfl rfl
theorem zc_NineHeaps_Law_22 : Cond.classLink "NineHeaps$Law" 22 "[I" ∈ zGT := zi1 183 rfl rfl
theorem zc_NineHeaps_364 : Cond.classLink "NineHeaps" 364 "NineHeaps$Quick" ∈ zGT := zi3 116 rfl rfl
theorem zc_NineHeaps_369 : Cond.classLink "NineHeaps" 369 "NineHeaps$Thumbed" ∈ zGT := zi3 183 rfl rfl
theorem zc_NineHeaps_372 : Cond.classLink "NineHeaps" 372 "NineHeaps$Passing" ∈ zGT := zi3 201 rfl rfl
theorem zc_NineHeaps_375 : Cond.classLink "NineHeaps" 375 "NineHeaps$Grandfather" ∈ zGT := zi3 218 rfl rfl
theorem zc_NineHeaps_378 : Cond.classLink "NineHeaps" 378 "NineHeaps$Two" ∈ zGT := zi3 235 rfl rfl
theorem zc_NineHeapsLaw_60 : Cond.classLink "NineHeapsLaw" 60 "java/lang/StringBuilder" ∈ zGT := zi4 30 rfl rfl
theorem zc_java_util_Arrays_311 : Cond.classLink "java/util/Arrays" 311 "[B" ∈ zGT := zi4 98 rfl rfl
theorem zc_java_lang_StringBuilder_18 : Cond.classLink "java/lang/StringBuilder" 18 "java/lang/String" ∈ zGT := zi4 209 rfl rfl
theorem zc_NineHeaps_Tape_18 : Cond.classLink "NineHeaps$Tape" 18 "NineHeaps$Law" ∈ zGT := zi5 165 rfl rfl
theorem zc_java_util_Arrays_317 : Cond.classLink "java/util/Arrays" 317 "[I" ∈ zGT := zi5 170 rfl rfl
theorem zk_NineHeaps_220 : Cond.constant "NineHeaps" 220 1000000 ∈ zGT := zi3 5 rfl rfl
theorem zk_java_lang_StringUTF16_20 : Cond.constant "java/lang/StringUTF16" 20 1073741823 ∈ zGT := zi4 47 rfl rfl
theorem zk_jdk_internal_util_ArraysSupport_200 : Cond.constant "jdk/internal/util/ArraysSupport" 200 2147483639 ∈ zGT := zi4 86 rfl rfl
theorem zk_java_lang_AbstractStringBuilder_39 : Cond.constant "java/lang/AbstractStringBuilder" 39 2147483647 ∈ zGT := zi4 90 rfl rfl
theorem zk_NineHeapsLaw_104 : Cond.constantLong "NineHeapsLaw" 104 (-1) ∈ zGT := zi5 197 rfl rfl
theorem zk_NineHeapsLaw_113 : Cond.constantLong "NineHeapsLaw" 113 2 ∈ zGT := zi5 201 rfl rfl
theorem zk_NineHeapsLaw_115 : Cond.constantLong "NineHeapsLaw" 115 9 ∈ zGT := zi5 205 rfl rfl
theorem zk_NineHeapsLaw_125 : Cond.constantLong "NineHeapsLaw" 125 3 ∈ zGT := zi5 210 rfl rfl
theorem zj11 : Cond.instantiable "NineHeaps" 20 ∈ zGT := zi1 26 rfl rfl
theorem zj7 : Cond.instantiable "NineHeaps$Tape" 10 ∈ zGT := zi1 38 rfl rfl
theorem zu7 : Cond.superclass "NineHeaps$Tape" "java/lang/Object" ∈ zGT := zi1 74 rfl rfl
theorem zj0 : Cond.instantiable "NineHeaps$Going" 13 ∈ zGT := zi1 79 rfl rfl
theorem zj2 : Cond.instantiable "NineHeaps$Heap" 7 ∈ zGT := zi1 87 rfl rfl
theorem zu2 : Cond.superclass "NineHeaps$Heap" "java/lang/Object" ∈ zGT := zi1 118 rfl rfl
theorem zu0 : Cond.superclass "NineHeaps$Going" "java/lang/Object" ∈ zGT := zi1 162 rfl rfl
theorem zj3 : Cond.instantiable "NineHeaps$Law" 5 ∈ zGT := zi1 168 rfl rfl
theorem zw__I_java_lang_Object_clone : Cond.sameMethod "[I" "java/lang/Object" "clone" "()Ljava/lang/Object;" ∈ zGT := zi1 178 rfl rfl
theorem zna_clone : Cond.native ⟨"java/lang/Object", "clone", "()Ljava/lang/Object;"⟩ ∈ zGT := zi1 179 rfl rfl
theorem zu3 : Cond.superclass "NineHeaps$Law" "java/lang/Object" ∈ zGT := zi1 208 rfl rfl
theorem zj6 : Cond.instantiable "NineHeaps$Sheet" 3 ∈ zGT := zi1 209 rfl rfl
theorem zu6 : Cond.superclass "NineHeaps$Sheet" "java/lang/Object" ∈ zGT := zi1 225 rfl rfl
theorem zu11 : Cond.superclass "NineHeaps" "java/lang/Object" ∈ zGT := zi2 44 rfl rfl
theorem zw_NineHeaps_Walker_NineHeaps_Walker_kind : Cond.sameMethod "NineHeaps$Walker" "NineHeaps$Walker" "kind" "()I" ∈ zGT := zi2 63 rfl rfl
theorem zw_NineHeaps_Walker_NineHeaps_Walker_waits : Cond.sameMethod "NineHeaps$Walker" "NineHeaps$Walker" "waits" "()Z" ∈ zGT := zi2 83 rfl rfl
theorem zw_NineHeaps_Walker_NineHeaps_Walker_beginGoing : Cond.sameMethod "NineHeaps$Walker" "NineHeaps$Walker" "beginGoing" "()V" ∈ zGT := zi2 130 rfl rfl
theorem zw_NineHeaps_Walker_NineHeaps_Walker_stepFor : Cond.sameMethod "NineHeaps$Walker" "NineHeaps$Walker" "stepFor" "(I)I" ∈ zGT := zi2 182 rfl rfl
theorem zw_NineHeaps_Walker_NineHeaps_Walker_takesFor : Cond.sameMethod "NineHeaps$Walker" "NineHeaps$Walker" "takesFor" "(II)I" ∈ zGT := zi2 202 rfl rfl
theorem zu1 : Cond.superclass "NineHeaps$Grandfather" "NineHeaps$Thumbed" ∈ zGT := zi2 207 rfl rfl
theorem zw_NineHeaps_Quick_NineHeaps_Walker_takesFor : Cond.sameMethod "NineHeaps$Quick" "NineHeaps$Walker" "takesFor" "(II)I" ∈ zGT := zi2 214 rfl rfl
theorem zu4 : Cond.superclass "NineHeaps$Passing" "NineHeaps$Quick" ∈ zGT := zi2 216 rfl rfl
theorem zu5 : Cond.superclass "NineHeaps$Quick" "NineHeaps$Walker" ∈ zGT := zi2 217 rfl rfl
theorem zj5 : Cond.instantiable "NineHeaps$Quick" 11 ∈ zGT := zi3 117 rfl rfl
theorem zj8 : Cond.instantiable "NineHeaps$Thumbed" 11 ∈ zGT := zi3 184 rfl rfl
theorem zu8 : Cond.superclass "NineHeaps$Thumbed" "NineHeaps$Walker" ∈ zGT := zi3 200 rfl rfl
theorem zj4 : Cond.instantiable "NineHeaps$Passing" 11 ∈ zGT := zi3 202 rfl rfl
theorem zj1 : Cond.instantiable "NineHeaps$Grandfather" 11 ∈ zGT := zi3 219 rfl rfl
theorem zj9 : Cond.instantiable "NineHeaps$Two" 11 ∈ zGT := zi3 236 rfl rfl
theorem zu9 : Cond.superclass "NineHeaps$Two" "NineHeaps$Walker" ∈ zGT := zi4 12 rfl rfl
theorem zj10 : Cond.instantiable "NineHeaps$Walker" 11 ∈ zGT := zi4 13 rfl rfl
theorem zu10 : Cond.superclass "NineHeaps$Walker" "java/lang/Object" ∈ zGT := zi4 26 rfl rfl
theorem zj12 : Cond.instantiable "java/lang/StringBuilder" 4 ∈ zGT := zi4 31 rfl rfl
theorem zu12 : Cond.superclass "java/lang/StringBuilder" "java/lang/AbstractStringBuilder" ∈ zGT := zi4 60 rfl rfl
theorem zw__B_java_lang_Object_clone : Cond.sameMethod "[B" "java/lang/Object" "clone" "()Ljava/lang/Object;" ∈ zGT := zi4 95 rfl rfl
theorem zna_arraycopy : Cond.native ⟨"java/lang/System", "arraycopy", "(Ljava/lang/Object;ILjava/lang/Object;II)V"⟩ ∈ zGT := zi4 102 rfl rfl
theorem zw_java_lang_AbstractStringBuilder_java_lang_AbstractStringBuilder_isLatin1 : Cond.sameMethod "java/lang/AbstractStringBuilder" "java/lang/AbstractStringBuilder" "isLatin1" "()Z" ∈ zGT := zi4 105 rfl rfl
theorem zj13 : Cond.instantiable "java/lang/String" 4 ∈ zGT := zi4 210 rfl rfl
theorem zw_java_lang_AbstractStringBuilder_java_lang_AbstractStringBuilder_getValue : Cond.sameMethod "java/lang/AbstractStringBuilder" "java/lang/AbstractStringBuilder" "getValue" "()[B" ∈ zGT := zi4 220 rfl rfl
theorem zw_java_lang_AbstractStringBuilder_java_lang_AbstractStringBuilder_length : Cond.sameMethod "java/lang/AbstractStringBuilder" "java/lang/AbstractStringBuilder" "length" "()I" ∈ zGT := zi4 225 rfl rfl
theorem zu13 : Cond.superclass "java/lang/String" "java/lang/Object" ∈ zGT := zi5 24 rfl rfl
theorem zw_NineHeaps_Thumbed_NineHeaps_Thumbed_takesFor : Cond.sameMethod "NineHeaps$Thumbed" "NineHeaps$Thumbed" "takesFor" "(II)I" ∈ zGT := zi5 215 rfl rfl
theorem zw_java_lang_AbstractStringBuilder_java_lang_AbstractStringBuilder_append : Cond.sameMethod "java/lang/AbstractStringBuilder" "java/lang/AbstractStringBuilder" "append" "(Ljava/lang/String;)Ljava/lang/AbstractStringBuilder;" ∈ zGT := zi5 216 rfl rfl
theorem zw_java_lang_AbstractStringBuilder_java_lang_AbstractStringBuilder_appendNull : Cond.sameMethod "java/lang/AbstractStringBuilder" "java/lang/AbstractStringBuilder" "appendNull" "()Ljava/lang/AbstractStringBuilder;" ∈ zGT := zi5 217 rfl rfl
theorem zw_java_lang_AbstractStringBuilder_java_lang_AbstractStringBuilder_ensureCapacityInternal : Cond.sameMethod "java/lang/AbstractStringBuilder" "java/lang/AbstractStringBuilder" "ensureCapacityInternal" "(I)V" ∈ zGT := zi5 218 rfl rfl
theorem zw_java_lang_AbstractStringBuilder_java_lang_AbstractStringBuilder_newCapacity : Cond.sameMethod "java/lang/AbstractStringBuilder" "java/lang/AbstractStringBuilder" "newCapacity" "(I)I" ∈ zGT := zi5 219 rfl rfl
theorem zw_java_lang_AbstractStringBuilder_java_lang_AbstractStringBuilder_putStringAt : Cond.sameMethod "java/lang/AbstractStringBuilder" "java/lang/AbstractStringBuilder" "putStringAt" "(ILjava/lang/String;)V" ∈ zGT := zi5 220 rfl rfl
theorem zw_java_lang_AbstractStringBuilder_java_lang_AbstractStringBuilder_inflateIfNeededFor : Cond.sameMethod "java/lang/AbstractStringBuilder" "java/lang/AbstractStringBuilder" "inflateIfNeededFor" "(Ljava/lang/String;)V" ∈ zGT := zi5 221 rfl rfl
theorem zw_java_lang_AbstractStringBuilder_java_lang_AbstractStringBuilder_inflate : Cond.sameMethod "java/lang/AbstractStringBuilder" "java/lang/AbstractStringBuilder" "inflate" "()V" ∈ zGT := zi5 222 rfl rfl
theorem zw_java_lang_AbstractStringBuilder_java_lang_AbstractStringBuilder_append_i : Cond.sameMethod "java/lang/AbstractStringBuilder" "java/lang/AbstractStringBuilder" "append" "(I)Ljava/lang/AbstractStringBuilder;" ∈ zGT := zi5 223 rfl rfl
theorem zOco : Cond.code ⟨"java/lang/Object", "<init>", "()V"⟩ ⟨#[0xb1]⟩ 1 none ∈ zGT := zi1 32 rfl rfl
theorem zarr_int : Cond.arrayClass .int ∈ zGT := zi1 75 rfl rfl
theorem zarr_byte : Cond.arrayClass .byte ∈ zGT := zi4 61 rfl rfl
theorem zarr_long : Cond.arrayClass .long ∈ zGT := zi5 214 rfl rfl
theorem ziO_init : Cond.instanceMethod ⟨"java/lang/Object", "<init>", "()V"⟩ ∈ zGT := zi1 31 rfl rfl
theorem ziO_clone : Cond.instanceMethod ⟨"java/lang/Object", "clone", "()Ljava/lang/Object;"⟩ ∈ zGT := zi1 180 rfl rfl
end
section
theorem dX0_init_0 : decode cX0_init 0 = .ok (.aload_n 0, 1) := by decide +kernel
theorem dX0_init_1 : decode cX0_init 1 = .ok (.invokespecial 3, 3) := by decide +kernel
theorem dX0_init_4 : decode cX0_init 4 = .ok (.aload_n 0, 1) := by decide +kernel
theorem dX0_init_5 : decode cX0_init 5 = .ok (.bipush 9, 2) := by decide +kernel
theorem dX0_init_7 : decode cX0_init 7 = .ok (.anewarray 9, 3) := by decide +kernel
theorem dX0_init_10 : decode cX0_init 10 = .ok (.putfield 11, 3) := by decide +kernel
theorem dX0_init_13 : decode cX0_init 13 = .ok (.aload_n 0, 1) := by decide +kernel
theorem dX0_init_14 : decode cX0_init 14 = .ok (.iconst 5, 1) := by decide +kernel
theorem dX0_init_15 : decode cX0_init 15 = .ok (.anewarray 17, 3) := by decide +kernel
theorem dX0_init_18 : decode cX0_init 18 = .ok (.putfield 19, 3) := by decide +kernel
theorem dX0_init_21 : decode cX0_init 21 = .ok (.aload_n 0, 1) := by decide +kernel
theorem dX0_init_22 : decode cX0_init 22 = .ok (.bipush 40, 2) := by decide +kernel
theorem dX0_init_24 : decode cX0_init 24 = .ok (.newarray .int, 2) := by decide +kernel
theorem dX0_init_26 : decode cX0_init 26 = .ok (.putfield 23, 3) := by decide +kernel
theorem dX0_init_29 : decode cX0_init 29 = .ok (.iconst 0, 1) := by decide +kernel
theorem dX0_init_30 : decode cX0_init 30 = .ok (.istore_n 1, 1) := by decide +kernel
theorem dX0_init_31 : decode cX0_init 31 = .ok (.iload_n 1, 1) := by decide +kernel
theorem dX0_init_32 : decode cX0_init 32 = .ok (.bipush 9, 2) := by decide +kernel
theorem dX0_init_34 : decode cX0_init 34 = .ok (.if_icmp .ge 23, 3) := by decide +kernel
theorem dX0_init_37 : decode cX0_init 37 = .ok (.aload_n 0, 1) := by decide +kernel
theorem dX0_init_38 : decode cX0_init 38 = .ok (.getfield 11, 3) := by decide +kernel
theorem dX0_init_41 : decode cX0_init 41 = .ok (.iload_n 1, 1) := by decide +kernel
theorem dX0_init_42 : decode cX0_init 42 = .ok (.new 9, 3) := by decide +kernel
theorem dX0_init_45 : decode cX0_init 45 = .ok (.dup, 1) := by decide +kernel
theorem dX0_init_46 : decode cX0_init 46 = .ok (.iload_n 1, 1) := by decide +kernel
theorem dX0_init_47 : decode cX0_init 47 = .ok (.invokespecial 27, 3) := by decide +kernel
theorem dX0_init_50 : decode cX0_init 50 = .ok (.aastore, 1) := by decide +kernel
theorem dX0_init_51 : decode cX0_init 51 = .ok (.iinc 1 1, 3) := by decide +kernel
theorem dX0_init_54 : decode cX0_init 54 = .ok (.goto (-23), 3) := by decide +kernel
theorem dX0_init_57 : decode cX0_init 57 = .ok (.return_, 1) := by decide +kernel
theorem dX0_lay_0 : decode cX0_lay 0 = .ok (.iconst 0, 1) := by decide +kernel
theorem dX0_lay_1 : decode cX0_lay 1 = .ok (.istore 6, 2) := by decide +kernel
theorem dX0_lay_3 : decode cX0_lay 3 = .ok (.iload 6, 2) := by decide +kernel
theorem dX0_lay_5 : decode cX0_lay 5 = .ok (.bipush 9, 2) := by decide +kernel
theorem dX0_lay_7 : decode cX0_lay 7 = .ok (.if_icmp .ge 41, 3) := by decide +kernel
theorem dX0_lay_10 : decode cX0_lay 10 = .ok (.iload 6, 2) := by decide +kernel
theorem dX0_lay_12 : decode cX0_lay 12 = .ok (.aload_n 1, 1) := by decide +kernel
theorem dX0_lay_13 : decode cX0_lay 13 = .ok (.arraylength, 1) := by decide +kernel
theorem dX0_lay_14 : decode cX0_lay 14 = .ok (.if_icmp .ge 34, 3) := by decide +kernel
theorem dX0_lay_17 : decode cX0_lay 17 = .ok (.iload 6, 2) := by decide +kernel
theorem dX0_lay_19 : decode cX0_lay 19 = .ok (.aload_n 2, 1) := by decide +kernel
theorem dX0_lay_20 : decode cX0_lay 20 = .ok (.arraylength, 1) := by decide +kernel
theorem dX0_lay_21 : decode cX0_lay 21 = .ok (.if_icmp .ge 27, 3) := by decide +kernel
theorem dX0_lay_24 : decode cX0_lay 24 = .ok (.aload_n 0, 1) := by decide +kernel
theorem dX0_lay_25 : decode cX0_lay 25 = .ok (.getfield 11, 3) := by decide +kernel
theorem dX0_lay_28 : decode cX0_lay 28 = .ok (.iload 6, 2) := by decide +kernel
theorem dX0_lay_30 : decode cX0_lay 30 = .ok (.aaload, 1) := by decide +kernel
theorem dX0_lay_31 : decode cX0_lay 31 = .ok (.aload_n 1, 1) := by decide +kernel
theorem dX0_lay_32 : decode cX0_lay 32 = .ok (.iload 6, 2) := by decide +kernel
theorem dX0_lay_34 : decode cX0_lay 34 = .ok (.iaload, 1) := by decide +kernel
theorem dX0_lay_35 : decode cX0_lay 35 = .ok (.aload_n 2, 1) := by decide +kernel
theorem dX0_lay_36 : decode cX0_lay 36 = .ok (.iload 6, 2) := by decide +kernel
theorem dX0_lay_38 : decode cX0_lay 38 = .ok (.iaload, 1) := by decide +kernel
theorem dX0_lay_39 : decode cX0_lay 39 = .ok (.invokevirtual 30, 3) := by decide +kernel
theorem dX0_lay_42 : decode cX0_lay 42 = .ok (.iinc 6 1, 3) := by decide +kernel
theorem dX0_lay_45 : decode cX0_lay 45 = .ok (.goto (-42), 3) := by decide +kernel
theorem dX0_lay_48 : decode cX0_lay 48 = .ok (.aload_n 0, 1) := by decide +kernel
theorem dX0_lay_49 : decode cX0_lay 49 = .ok (.aload_n 3, 1) := by decide +kernel
theorem dX0_lay_50 : decode cX0_lay 50 = .ok (.putfield 34, 3) := by decide +kernel
theorem dX0_lay_53 : decode cX0_lay 53 = .ok (.aload_n 0, 1) := by decide +kernel
theorem dX0_lay_54 : decode cX0_lay 54 = .ok (.iload 4, 2) := by decide +kernel
theorem dX0_lay_56 : decode cX0_lay 56 = .ok (.putfield 38, 3) := by decide +kernel
theorem dX0_lay_59 : decode cX0_lay 59 = .ok (.aload_n 0, 1) := by decide +kernel
theorem dX0_lay_60 : decode cX0_lay 60 = .ok (.iload 5, 2) := by decide +kernel
theorem dX0_lay_62 : decode cX0_lay 62 = .ok (.putfield 42, 3) := by decide +kernel
theorem dX0_lay_65 : decode cX0_lay 65 = .ok (.aload_n 0, 1) := by decide +kernel
theorem dX0_lay_66 : decode cX0_lay 66 = .ok (.iconst 0, 1) := by decide +kernel
theorem dX0_lay_67 : decode cX0_lay 67 = .ok (.putfield 45, 3) := by decide +kernel
theorem dX0_lay_70 : decode cX0_lay 70 = .ok (.aload_n 0, 1) := by decide +kernel
theorem dX0_lay_71 : decode cX0_lay 71 = .ok (.iconst 0, 1) := by decide +kernel
theorem dX0_lay_72 : decode cX0_lay 72 = .ok (.putfield 48, 3) := by decide +kernel
theorem dX0_lay_75 : decode cX0_lay 75 = .ok (.aload_n 0, 1) := by decide +kernel
theorem dX0_lay_76 : decode cX0_lay 76 = .ok (.iconst 0, 1) := by decide +kernel
theorem dX0_lay_77 : decode cX0_lay 77 = .ok (.putfield 51, 3) := by decide +kernel
theorem dX0_lay_80 : decode cX0_lay 80 = .ok (.aload_n 0, 1) := by decide +kernel
theorem dX0_lay_81 : decode cX0_lay 81 = .ok (.iconst 0, 1) := by decide +kernel
theorem dX0_lay_82 : decode cX0_lay 82 = .ok (.putfield 54, 3) := by decide +kernel
theorem dX0_lay_85 : decode cX0_lay 85 = .ok (.aload_n 0, 1) := by decide +kernel
theorem dX0_lay_86 : decode cX0_lay 86 = .ok (.iconst 0, 1) := by decide +kernel
theorem dX0_lay_87 : decode cX0_lay 87 = .ok (.putfield 57, 3) := by decide +kernel
theorem dX0_lay_90 : decode cX0_lay 90 = .ok (.aload_n 0, 1) := by decide +kernel
theorem dX0_lay_91 : decode cX0_lay 91 = .ok (.iconst 0, 1) := by decide +kernel
theorem dX0_lay_92 : decode cX0_lay 92 = .ok (.putfield 60, 3) := by decide +kernel
theorem dX0_lay_95 : decode cX0_lay 95 = .ok (.aload_n 0, 1) := by decide +kernel
theorem dX0_lay_96 : decode cX0_lay 96 = .ok (.iconst (-1), 1) := by decide +kernel
theorem dX0_lay_97 : decode cX0_lay 97 = .ok (.putfield 63, 3) := by decide +kernel
theorem dX0_lay_100 : decode cX0_lay 100 = .ok (.return_, 1) := by decide +kernel
theorem dX0_join_0 : decode cX0_join 0 = .ok (.aload_n 1, 1) := by decide +kernel
theorem dX0_join_1 : decode cX0_join 1 = .ok (.ifnull 42, 3) := by decide +kernel
theorem dX0_join_4 : decode cX0_join 4 = .ok (.aload_n 0, 1) := by decide +kernel
theorem dX0_join_5 : decode cX0_join 5 = .ok (.getfield 45, 3) := by decide +kernel
theorem dX0_join_8 : decode cX0_join 8 = .ok (.ifCond .lt 35, 3) := by decide +kernel
theorem dX0_join_11 : decode cX0_join 11 = .ok (.aload_n 0, 1) := by decide +kernel
theorem dX0_join_12 : decode cX0_join 12 = .ok (.getfield 45, 3) := by decide +kernel
theorem dX0_join_15 : decode cX0_join 15 = .ok (.iconst 5, 1) := by decide +kernel
theorem dX0_join_16 : decode cX0_join 16 = .ok (.if_icmp .ge 27, 3) := by decide +kernel
theorem dX0_join_19 : decode cX0_join 19 = .ok (.aload_n 1, 1) := by decide +kernel
theorem dX0_join_20 : decode cX0_join 20 = .ok (.invokevirtual 66, 3) := by decide +kernel
theorem dX0_join_23 : decode cX0_join 23 = .ok (.aload_n 0, 1) := by decide +kernel
theorem dX0_join_24 : decode cX0_join 24 = .ok (.getfield 19, 3) := by decide +kernel
theorem dX0_join_27 : decode cX0_join 27 = .ok (.aload_n 0, 1) := by decide +kernel
theorem dX0_join_28 : decode cX0_join 28 = .ok (.getfield 45, 3) := by decide +kernel
theorem dX0_join_31 : decode cX0_join 31 = .ok (.aload_n 1, 1) := by decide +kernel
theorem dX0_join_32 : decode cX0_join 32 = .ok (.aastore, 1) := by decide +kernel
theorem dX0_join_33 : decode cX0_join 33 = .ok (.aload_n 0, 1) := by decide +kernel
theorem dX0_join_34 : decode cX0_join 34 = .ok (.dup, 1) := by decide +kernel
theorem dX0_join_35 : decode cX0_join 35 = .ok (.getfield 45, 3) := by decide +kernel
theorem dX0_join_38 : decode cX0_join 38 = .ok (.iconst 1, 1) := by decide +kernel
theorem dX0_join_39 : decode cX0_join 39 = .ok (.iadd, 1) := by decide +kernel
theorem dX0_join_40 : decode cX0_join 40 = .ok (.putfield 45, 3) := by decide +kernel
theorem dX0_join_43 : decode cX0_join 43 = .ok (.return_, 1) := by decide +kernel
theorem dX0_heapAt_0 : decode cX0_heapAt 0 = .ok (.aload_n 0, 1) := by decide +kernel
theorem dX0_heapAt_1 : decode cX0_heapAt 1 = .ok (.getfield 11, 3) := by decide +kernel
theorem dX0_heapAt_4 : decode cX0_heapAt 4 = .ok (.iload_n 1, 1) := by decide +kernel
theorem dX0_heapAt_5 : decode cX0_heapAt 5 = .ok (.bipush 9, 2) := by decide +kernel
theorem dX0_heapAt_7 : decode cX0_heapAt 7 = .ok (.invokestatic 68, 3) := by decide +kernel
theorem dX0_heapAt_10 : decode cX0_heapAt 10 = .ok (.aaload, 1) := by decide +kernel
theorem dX0_heapAt_11 : decode cX0_heapAt 11 = .ok (.areturn, 1) := by decide +kernel
theorem dX0_badness_0 : decode cX0_badness 0 = .ok (.iconst 0, 1) := by decide +kernel
theorem dX0_badness_1 : decode cX0_badness 1 = .ok (.istore_n 1, 1) := by decide +kernel
theorem dX0_badness_2 : decode cX0_badness 2 = .ok (.iconst 0, 1) := by decide +kernel
theorem dX0_badness_3 : decode cX0_badness 3 = .ok (.istore_n 2, 1) := by decide +kernel
theorem dX0_badness_4 : decode cX0_badness 4 = .ok (.iload_n 2, 1) := by decide +kernel
theorem dX0_badness_5 : decode cX0_badness 5 = .ok (.aload_n 0, 1) := by decide +kernel
theorem dX0_badness_6 : decode cX0_badness 6 = .ok (.getfield 45, 3) := by decide +kernel
theorem dX0_badness_9 : decode cX0_badness 9 = .ok (.if_icmp .ge 59, 3) := by decide +kernel
theorem dX0_badness_12 : decode cX0_badness 12 = .ok (.iload_n 2, 1) := by decide +kernel
theorem dX0_badness_13 : decode cX0_badness 13 = .ok (.iconst 5, 1) := by decide +kernel
theorem dX0_badness_14 : decode cX0_badness 14 = .ok (.if_icmp .ge 54, 3) := by decide +kernel
theorem dX0_badness_17 : decode cX0_badness 17 = .ok (.aload_n 0, 1) := by decide +kernel
theorem dX0_badness_18 : decode cX0_badness 18 = .ok (.getfield 19, 3) := by decide +kernel
theorem dX0_badness_21 : decode cX0_badness 21 = .ok (.iload_n 2, 1) := by decide +kernel
theorem dX0_badness_22 : decode cX0_badness 22 = .ok (.aaload, 1) := by decide +kernel
theorem dX0_badness_23 : decode cX0_badness 23 = .ok (.astore_n 3, 1) := by decide +kernel
theorem dX0_badness_24 : decode cX0_badness 24 = .ok (.aload_n 3, 1) := by decide +kernel
theorem dX0_badness_25 : decode cX0_badness 25 = .ok (.ifnull 37, 3) := by decide +kernel
theorem dX0_badness_28 : decode cX0_badness 28 = .ok (.aload_n 0, 1) := by decide +kernel
theorem dX0_badness_29 : decode cX0_badness 29 = .ok (.getfield 34, 3) := by decide +kernel
theorem dX0_badness_32 : decode cX0_badness 32 = .ok (.ifnull 30, 3) := by decide +kernel
theorem dX0_badness_35 : decode cX0_badness 35 = .ok (.iload_n 1, 1) := by decide +kernel
theorem dX0_badness_36 : decode cX0_badness 36 = .ok (.aload_n 3, 1) := by decide +kernel
theorem dX0_badness_37 : decode cX0_badness 37 = .ok (.getfield 83, 3) := by decide +kernel
theorem dX0_badness_40 : decode cX0_badness 40 = .ok (.aload_n 0, 1) := by decide +kernel
theorem dX0_badness_41 : decode cX0_badness 41 = .ok (.getfield 34, 3) := by decide +kernel
theorem dX0_badness_44 : decode cX0_badness 44 = .ok (.iconst 2, 1) := by decide +kernel
theorem dX0_badness_45 : decode cX0_badness 45 = .ok (.aload_n 3, 1) := by decide +kernel
theorem dX0_badness_46 : decode cX0_badness 46 = .ok (.iconst 0, 1) := by decide +kernel
theorem dX0_badness_47 : decode cX0_badness 47 = .ok (.iconst 0, 1) := by decide +kernel
theorem dX0_badness_48 : decode cX0_badness 48 = .ok (.aload_n 3, 1) := by decide +kernel
theorem dX0_badness_49 : decode cX0_badness 49 = .ok (.getfield 88, 3) := by decide +kernel
theorem dX0_badness_52 : decode cX0_badness 52 = .ok (.aload_n 0, 1) := by decide +kernel
theorem dX0_badness_53 : decode cX0_badness 53 = .ok (.getfield 42, 3) := by decide +kernel
theorem dX0_badness_56 : decode cX0_badness 56 = .ok (.invokevirtual 91, 3) := by decide +kernel
theorem dX0_badness_59 : decode cX0_badness 59 = .ok (.imul, 1) := by decide +kernel
theorem dX0_badness_60 : decode cX0_badness 60 = .ok (.iadd, 1) := by decide +kernel
theorem dX0_badness_61 : decode cX0_badness 61 = .ok (.istore_n 1, 1) := by decide +kernel
theorem dX0_badness_62 : decode cX0_badness 62 = .ok (.iinc 2 1, 3) := by decide +kernel
theorem dX0_badness_65 : decode cX0_badness 65 = .ok (.goto (-61), 3) := by decide +kernel
theorem dX0_badness_68 : decode cX0_badness 68 = .ok (.iload_n 1, 1) := by decide +kernel
theorem dX0_badness_69 : decode cX0_badness 69 = .ok (.ireturn, 1) := by decide +kernel
theorem dX0_pass_0 : decode cX0_pass 0 = .ok (.iconst 0, 1) := by decide +kernel
theorem dX0_pass_1 : decode cX0_pass 1 = .ok (.istore_n 2, 1) := by decide +kernel
theorem dX0_pass_2 : decode cX0_pass 2 = .ok (.iload_n 2, 1) := by decide +kernel
theorem dX0_pass_3 : decode cX0_pass 3 = .ok (.iload_n 1, 1) := by decide +kernel
theorem dX0_pass_4 : decode cX0_pass 4 = .ok (.if_icmp .ge 87, 3) := by decide +kernel
theorem dX0_pass_7 : decode cX0_pass 7 = .ok (.iconst 0, 1) := by decide +kernel
theorem dX0_pass_8 : decode cX0_pass 8 = .ok (.istore_n 3, 1) := by decide +kernel
theorem dX0_pass_9 : decode cX0_pass 9 = .ok (.iload_n 3, 1) := by decide +kernel
theorem dX0_pass_10 : decode cX0_pass 10 = .ok (.aload_n 0, 1) := by decide +kernel
theorem dX0_pass_11 : decode cX0_pass 11 = .ok (.getfield 45, 3) := by decide +kernel
theorem dX0_pass_14 : decode cX0_pass 14 = .ok (.if_icmp .ge 61, 3) := by decide +kernel
theorem dX0_pass_17 : decode cX0_pass 17 = .ok (.iload_n 3, 1) := by decide +kernel
theorem dX0_pass_18 : decode cX0_pass 18 = .ok (.iconst 5, 1) := by decide +kernel
theorem dX0_pass_19 : decode cX0_pass 19 = .ok (.if_icmp .ge 56, 3) := by decide +kernel
theorem dX0_pass_22 : decode cX0_pass 22 = .ok (.aload_n 0, 1) := by decide +kernel
theorem dX0_pass_23 : decode cX0_pass 23 = .ok (.getfield 19, 3) := by decide +kernel
theorem dX0_pass_26 : decode cX0_pass 26 = .ok (.iload_n 3, 1) := by decide +kernel
theorem dX0_pass_27 : decode cX0_pass 27 = .ok (.aaload, 1) := by decide +kernel
theorem dX0_pass_28 : decode cX0_pass 28 = .ok (.astore 4, 2) := by decide +kernel
theorem dX0_pass_30 : decode cX0_pass 30 = .ok (.aload 4, 2) := by decide +kernel
theorem dX0_pass_32 : decode cX0_pass 32 = .ok (.ifnull 26, 3) := by decide +kernel
theorem dX0_pass_35 : decode cX0_pass 35 = .ok (.aload 4, 2) := by decide +kernel
theorem dX0_pass_37 : decode cX0_pass 37 = .ok (.getfield 95, 3) := by decide +kernel
theorem dX0_pass_40 : decode cX0_pass 40 = .ok (.iconst 1, 1) := by decide +kernel
theorem dX0_pass_41 : decode cX0_pass 41 = .ok (.if_icmp .le 17, 3) := by decide +kernel
theorem dX0_pass_44 : decode cX0_pass 44 = .ok (.aload 4, 2) := by decide +kernel
theorem dX0_pass_46 : decode cX0_pass 46 = .ok (.dup, 1) := by decide +kernel
theorem dX0_pass_47 : decode cX0_pass 47 = .ok (.getfield 95, 3) := by decide +kernel
theorem dX0_pass_50 : decode cX0_pass 50 = .ok (.iconst 1, 1) := by decide +kernel
theorem dX0_pass_51 : decode cX0_pass 51 = .ok (.isub, 1) := by decide +kernel
theorem dX0_pass_52 : decode cX0_pass 52 = .ok (.putfield 95, 3) := by decide +kernel
theorem dX0_pass_55 : decode cX0_pass 55 = .ok (.goto 14, 3) := by decide +kernel
theorem dX0_pass_58 : decode cX0_pass 58 = .ok (.aload 4, 2) := by decide +kernel
theorem dX0_pass_60 : decode cX0_pass 60 = .ok (.ifnull 9, 3) := by decide +kernel
theorem dX0_pass_63 : decode cX0_pass 63 = .ok (.aload_n 0, 1) := by decide +kernel
theorem dX0_pass_64 : decode cX0_pass 64 = .ok (.aload 4, 2) := by decide +kernel
theorem dX0_pass_66 : decode cX0_pass 66 = .ok (.invokevirtual 98, 3) := by decide +kernel
theorem dX0_pass_69 : decode cX0_pass 69 = .ok (.iinc 3 1, 3) := by decide +kernel
theorem dX0_pass_72 : decode cX0_pass 72 = .ok (.goto (-63), 3) := by decide +kernel
theorem dX0_pass_75 : decode cX0_pass 75 = .ok (.aload_n 0, 1) := by decide +kernel
theorem dX0_pass_76 : decode cX0_pass 76 = .ok (.dup, 1) := by decide +kernel
theorem dX0_pass_77 : decode cX0_pass 77 = .ok (.getfield 48, 3) := by decide +kernel
theorem dX0_pass_80 : decode cX0_pass 80 = .ok (.iconst 1, 1) := by decide +kernel
theorem dX0_pass_81 : decode cX0_pass 81 = .ok (.iadd, 1) := by decide +kernel
theorem dX0_pass_82 : decode cX0_pass 82 = .ok (.putfield 48, 3) := by decide +kernel
theorem dX0_pass_85 : decode cX0_pass 85 = .ok (.iinc 2 1, 3) := by decide +kernel
theorem dX0_pass_88 : decode cX0_pass 88 = .ok (.goto (-86), 3) := by decide +kernel
theorem dX0_pass_91 : decode cX0_pass 91 = .ok (.return_, 1) := by decide +kernel
theorem dX0_moveOn_0 : decode cX0_moveOn 0 = .ok (.aload_n 0, 1) := by decide +kernel
theorem dX0_moveOn_1 : decode cX0_moveOn 1 = .ok (.aload_n 1, 1) := by decide +kernel
theorem dX0_moveOn_2 : decode cX0_moveOn 2 = .ok (.getfield 102, 3) := by decide +kernel
theorem dX0_moveOn_5 : decode cX0_moveOn 5 = .ok (.invokevirtual 105, 3) := by decide +kernel
theorem dX0_moveOn_8 : decode cX0_moveOn 8 = .ok (.astore_n 2, 1) := by decide +kernel
theorem dX0_moveOn_9 : decode cX0_moveOn 9 = .ok (.aload_n 1, 1) := by decide +kernel
theorem dX0_moveOn_10 : decode cX0_moveOn 10 = .ok (.iconst 0, 1) := by decide +kernel
theorem dX0_moveOn_11 : decode cX0_moveOn 11 = .ok (.putfield 95, 3) := by decide +kernel
theorem dX0_moveOn_14 : decode cX0_moveOn 14 = .ok (.aload_n 1, 1) := by decide +kernel
theorem dX0_moveOn_15 : decode cX0_moveOn 15 = .ok (.getfield 109, 3) := by decide +kernel
theorem dX0_moveOn_18 : decode cX0_moveOn 18 = .ok (.iconst 2, 1) := by decide +kernel
theorem dX0_moveOn_19 : decode cX0_moveOn 19 = .ok (.if_icmp .ne 12, 3) := by decide +kernel
theorem dX0_moveOn_22 : decode cX0_moveOn 22 = .ok (.aload_n 0, 1) := by decide +kernel
theorem dX0_moveOn_23 : decode cX0_moveOn 23 = .ok (.aload_n 1, 1) := by decide +kernel
theorem dX0_moveOn_24 : decode cX0_moveOn 24 = .ok (.aload_n 2, 1) := by decide +kernel
theorem dX0_moveOn_25 : decode cX0_moveOn 25 = .ok (.invokevirtual 112, 3) := by decide +kernel
theorem dX0_moveOn_28 : decode cX0_moveOn 28 = .ok (.goto 64, 3) := by decide +kernel
theorem dX0_moveOn_31 : decode cX0_moveOn 31 = .ok (.aload_n 2, 1) := by decide +kernel
theorem dX0_moveOn_32 : decode cX0_moveOn 32 = .ok (.getfield 116, 3) := by decide +kernel
theorem dX0_moveOn_35 : decode cX0_moveOn 35 = .ok (.ifCond .le 28, 3) := by decide +kernel
theorem dX0_moveOn_38 : decode cX0_moveOn 38 = .ok (.aload_n 1, 1) := by decide +kernel
theorem dX0_moveOn_39 : decode cX0_moveOn 39 = .ok (.invokevirtual 119, 3) := by decide +kernel
theorem dX0_moveOn_42 : decode cX0_moveOn 42 = .ok (.ifCond .eq 21, 3) := by decide +kernel
theorem dX0_moveOn_45 : decode cX0_moveOn 45 = .ok (.aload_n 1, 1) := by decide +kernel
theorem dX0_moveOn_46 : decode cX0_moveOn 46 = .ok (.iconst 1, 1) := by decide +kernel
theorem dX0_moveOn_47 : decode cX0_moveOn 47 = .ok (.putfield 109, 3) := by decide +kernel
theorem dX0_moveOn_50 : decode cX0_moveOn 50 = .ok (.aload_n 1, 1) := by decide +kernel
theorem dX0_moveOn_51 : decode cX0_moveOn 51 = .ok (.dup, 1) := by decide +kernel
theorem dX0_moveOn_52 : decode cX0_moveOn 52 = .ok (.getfield 83, 3) := by decide +kernel
theorem dX0_moveOn_55 : decode cX0_moveOn 55 = .ok (.iconst 1, 1) := by decide +kernel
theorem dX0_moveOn_56 : decode cX0_moveOn 56 = .ok (.iadd, 1) := by decide +kernel
theorem dX0_moveOn_57 : decode cX0_moveOn 57 = .ok (.putfield 83, 3) := by decide +kernel
theorem dX0_moveOn_60 : decode cX0_moveOn 60 = .ok (.goto 32, 3) := by decide +kernel
theorem dX0_moveOn_63 : decode cX0_moveOn 63 = .ok (.aload_n 1, 1) := by decide +kernel
theorem dX0_moveOn_64 : decode cX0_moveOn 64 = .ok (.iconst 2, 1) := by decide +kernel
theorem dX0_moveOn_65 : decode cX0_moveOn 65 = .ok (.putfield 109, 3) := by decide +kernel
theorem dX0_moveOn_68 : decode cX0_moveOn 68 = .ok (.aload_n 1, 1) := by decide +kernel
theorem dX0_moveOn_69 : decode cX0_moveOn 69 = .ok (.aload_n 0, 1) := by decide +kernel
theorem dX0_moveOn_70 : decode cX0_moveOn 70 = .ok (.aload_n 1, 1) := by decide +kernel
theorem dX0_moveOn_71 : decode cX0_moveOn 71 = .ok (.aload_n 2, 1) := by decide +kernel
theorem dX0_moveOn_72 : decode cX0_moveOn 72 = .ok (.aload_n 1, 1) := by decide +kernel
theorem dX0_moveOn_73 : decode cX0_moveOn 73 = .ok (.getfield 88, 3) := by decide +kernel
theorem dX0_moveOn_76 : decode cX0_moveOn 76 = .ok (.invokevirtual 123, 3) := by decide +kernel
theorem dX0_moveOn_79 : decode cX0_moveOn 79 = .ok (.putfield 95, 3) := by decide +kernel
theorem dX0_moveOn_82 : decode cX0_moveOn 82 = .ok (.aload_n 2, 1) := by decide +kernel
theorem dX0_moveOn_83 : decode cX0_moveOn 83 = .ok (.dup, 1) := by decide +kernel
theorem dX0_moveOn_84 : decode cX0_moveOn 84 = .ok (.getfield 116, 3) := by decide +kernel
theorem dX0_moveOn_87 : decode cX0_moveOn 87 = .ok (.iconst 1, 1) := by decide +kernel
theorem dX0_moveOn_88 : decode cX0_moveOn 88 = .ok (.iadd, 1) := by decide +kernel
theorem dX0_moveOn_89 : decode cX0_moveOn 89 = .ok (.putfield 116, 3) := by decide +kernel
theorem dX0_moveOn_92 : decode cX0_moveOn 92 = .ok (.return_, 1) := by decide +kernel
theorem dX0_endTaking_0 : decode cX0_endTaking 0 = .ok (.aload_n 2, 1) := by decide +kernel
theorem dX0_endTaking_1 : decode cX0_endTaking 1 = .ok (.dup, 1) := by decide +kernel
theorem dX0_endTaking_2 : decode cX0_endTaking 2 = .ok (.getfield 116, 3) := by decide +kernel
theorem dX0_endTaking_5 : decode cX0_endTaking 5 = .ok (.iconst 1, 1) := by decide +kernel
theorem dX0_endTaking_6 : decode cX0_endTaking 6 = .ok (.isub, 1) := by decide +kernel
theorem dX0_endTaking_7 : decode cX0_endTaking 7 = .ok (.putfield 116, 3) := by decide +kernel
theorem dX0_endTaking_10 : decode cX0_endTaking 10 = .ok (.aload_n 2, 1) := by decide +kernel
theorem dX0_endTaking_11 : decode cX0_endTaking 11 = .ok (.aload_n 0, 1) := by decide +kernel
theorem dX0_endTaking_12 : decode cX0_endTaking 12 = .ok (.getfield 48, 3) := by decide +kernel
theorem dX0_endTaking_15 : decode cX0_endTaking 15 = .ok (.invokevirtual 127, 3) := by decide +kernel
theorem dX0_endTaking_18 : decode cX0_endTaking 18 = .ok (.istore_n 3, 1) := by decide +kernel
theorem dX0_endTaking_19 : decode cX0_endTaking 19 = .ok (.iload_n 3, 1) := by decide +kernel
theorem dX0_endTaking_20 : decode cX0_endTaking 20 = .ok (.iconst 1, 1) := by decide +kernel
theorem dX0_endTaking_21 : decode cX0_endTaking 21 = .ok (.if_icmp .ne 11, 3) := by decide +kernel
theorem dX0_endTaking_24 : decode cX0_endTaking 24 = .ok (.aload_n 1, 1) := by decide +kernel
theorem dX0_endTaking_25 : decode cX0_endTaking 25 = .ok (.iconst 1, 1) := by decide +kernel
theorem dX0_endTaking_26 : decode cX0_endTaking 26 = .ok (.putfield 131, 3) := by decide +kernel
theorem dX0_endTaking_29 : decode cX0_endTaking 29 = .ok (.goto 13, 3) := by decide +kernel
theorem dX0_endTaking_32 : decode cX0_endTaking 32 = .ok (.iload_n 3, 1) := by decide +kernel
theorem dX0_endTaking_33 : decode cX0_endTaking 33 = .ok (.iconst 2, 1) := by decide +kernel
theorem dX0_endTaking_34 : decode cX0_endTaking 34 = .ok (.if_icmp .ne 8, 3) := by decide +kernel
theorem dX0_endTaking_37 : decode cX0_endTaking 37 = .ok (.aload_n 1, 1) := by decide +kernel
theorem dX0_endTaking_38 : decode cX0_endTaking 38 = .ok (.iconst 1, 1) := by decide +kernel
theorem dX0_endTaking_39 : decode cX0_endTaking 39 = .ok (.putfield 135, 3) := by decide +kernel
theorem dX0_endTaking_42 : decode cX0_endTaking 42 = .ok (.aload_n 1, 1) := by decide +kernel
theorem dX0_endTaking_43 : decode cX0_endTaking 43 = .ok (.dup, 1) := by decide +kernel
theorem dX0_endTaking_44 : decode cX0_endTaking 44 = .ok (.getfield 138, 3) := by decide +kernel
theorem dX0_endTaking_47 : decode cX0_endTaking 47 = .ok (.iconst 1, 1) := by decide +kernel
theorem dX0_endTaking_48 : decode cX0_endTaking 48 = .ok (.iadd, 1) := by decide +kernel
theorem dX0_endTaking_49 : decode cX0_endTaking 49 = .ok (.putfield 138, 3) := by decide +kernel
theorem dX0_endTaking_52 : decode cX0_endTaking 52 = .ok (.aload_n 1, 1) := by decide +kernel
theorem dX0_endTaking_53 : decode cX0_endTaking 53 = .ok (.getfield 138, 3) := by decide +kernel
theorem dX0_endTaking_56 : decode cX0_endTaking 56 = .ok (.bipush 9, 2) := by decide +kernel
theorem dX0_endTaking_58 : decode cX0_endTaking 58 = .ok (.if_icmp .ne 8, 3) := by decide +kernel
theorem dX0_endTaking_61 : decode cX0_endTaking 61 = .ok (.aload_n 0, 1) := by decide +kernel
theorem dX0_endTaking_62 : decode cX0_endTaking 62 = .ok (.aload_n 1, 1) := by decide +kernel
theorem dX0_endTaking_63 : decode cX0_endTaking 63 = .ok (.invokevirtual 141, 3) := by decide +kernel
theorem dX0_endTaking_66 : decode cX0_endTaking 66 = .ok (.aload_n 1, 1) := by decide +kernel
theorem dX0_endTaking_67 : decode cX0_endTaking 67 = .ok (.iconst 0, 1) := by decide +kernel
theorem dX0_endTaking_68 : decode cX0_endTaking 68 = .ok (.putfield 109, 3) := by decide +kernel
theorem dX0_endTaking_71 : decode cX0_endTaking 71 = .ok (.aload_n 1, 1) := by decide +kernel
theorem dX0_endTaking_72 : decode cX0_endTaking 72 = .ok (.aload_n 0, 1) := by decide +kernel
theorem dX0_endTaking_73 : decode cX0_endTaking 73 = .ok (.aload_n 1, 1) := by decide +kernel
theorem dX0_endTaking_74 : decode cX0_endTaking 74 = .ok (.aload_n 2, 1) := by decide +kernel
theorem dX0_endTaking_75 : decode cX0_endTaking 75 = .ok (.aload_n 1, 1) := by decide +kernel
theorem dX0_endTaking_76 : decode cX0_endTaking 76 = .ok (.getfield 88, 3) := by decide +kernel
theorem dX0_endTaking_79 : decode cX0_endTaking 79 = .ok (.invokevirtual 144, 3) := by decide +kernel
theorem dX0_endTaking_82 : decode cX0_endTaking 82 = .ok (.putfield 95, 3) := by decide +kernel
theorem dX0_endTaking_85 : decode cX0_endTaking 85 = .ok (.aload_n 1, 1) := by decide +kernel
theorem dX0_endTaking_86 : decode cX0_endTaking 86 = .ok (.aload_n 1, 1) := by decide +kernel
theorem dX0_endTaking_87 : decode cX0_endTaking 87 = .ok (.getfield 102, 3) := by decide +kernel
theorem dX0_endTaking_90 : decode cX0_endTaking 90 = .ok (.iconst 1, 1) := by decide +kernel
theorem dX0_endTaking_91 : decode cX0_endTaking 91 = .ok (.iadd, 1) := by decide +kernel
theorem dX0_endTaking_92 : decode cX0_endTaking 92 = .ok (.bipush 9, 2) := by decide +kernel
theorem dX0_endTaking_94 : decode cX0_endTaking 94 = .ok (.irem, 1) := by decide +kernel
theorem dX0_endTaking_95 : decode cX0_endTaking 95 = .ok (.putfield 102, 3) := by decide +kernel
theorem dX0_endTaking_98 : decode cX0_endTaking 98 = .ok (.return_, 1) := by decide +kernel
theorem dX0_endProgramme_0 : decode cX0_endProgramme 0 = .ok (.aload_n 1, 1) := by decide +kernel
theorem dX0_endProgramme_1 : decode cX0_endProgramme 1 = .ok (.getfield 135, 3) := by decide +kernel
theorem dX0_endProgramme_4 : decode cX0_endProgramme 4 = .ok (.ifCond .eq 16, 3) := by decide +kernel
theorem dX0_endProgramme_7 : decode cX0_endProgramme 7 = .ok (.aload_n 0, 1) := by decide +kernel
theorem dX0_endProgramme_8 : decode cX0_endProgramme 8 = .ok (.dup, 1) := by decide +kernel
theorem dX0_endProgramme_9 : decode cX0_endProgramme 9 = .ok (.getfield 60, 3) := by decide +kernel
theorem dX0_endProgramme_12 : decode cX0_endProgramme 12 = .ok (.iconst 1, 1) := by decide +kernel
theorem dX0_endProgramme_13 : decode cX0_endProgramme 13 = .ok (.iadd, 1) := by decide +kernel
theorem dX0_endProgramme_14 : decode cX0_endProgramme 14 = .ok (.putfield 60, 3) := by decide +kernel
theorem dX0_endProgramme_17 : decode cX0_endProgramme 17 = .ok (.goto 20, 3) := by decide +kernel
theorem dX0_endProgramme_20 : decode cX0_endProgramme 20 = .ok (.aload_n 1, 1) := by decide +kernel
theorem dX0_endProgramme_21 : decode cX0_endProgramme 21 = .ok (.getfield 131, 3) := by decide +kernel
theorem dX0_endProgramme_24 : decode cX0_endProgramme 24 = .ok (.ifCond .eq 13, 3) := by decide +kernel
theorem dX0_endProgramme_27 : decode cX0_endProgramme 27 = .ok (.aload_n 0, 1) := by decide +kernel
theorem dX0_endProgramme_28 : decode cX0_endProgramme 28 = .ok (.dup, 1) := by decide +kernel
theorem dX0_endProgramme_29 : decode cX0_endProgramme 29 = .ok (.getfield 57, 3) := by decide +kernel
theorem dX0_endProgramme_32 : decode cX0_endProgramme 32 = .ok (.iconst 1, 1) := by decide +kernel
theorem dX0_endProgramme_33 : decode cX0_endProgramme 33 = .ok (.iadd, 1) := by decide +kernel
theorem dX0_endProgramme_34 : decode cX0_endProgramme 34 = .ok (.putfield 57, 3) := by decide +kernel
theorem dX0_endProgramme_37 : decode cX0_endProgramme 37 = .ok (.aload_n 1, 1) := by decide +kernel
theorem dX0_endProgramme_38 : decode cX0_endProgramme 38 = .ok (.getfield 135, 3) := by decide +kernel
theorem dX0_endProgramme_41 : decode cX0_endProgramme 41 = .ok (.ifCond .ne 10, 3) := by decide +kernel
theorem dX0_endProgramme_44 : decode cX0_endProgramme 44 = .ok (.aload_n 1, 1) := by decide +kernel
theorem dX0_endProgramme_45 : decode cX0_endProgramme 45 = .ok (.getfield 131, 3) := by decide +kernel
theorem dX0_endProgramme_48 : decode cX0_endProgramme 48 = .ok (.ifCond .eq 42, 3) := by decide +kernel
theorem dX0_endProgramme_51 : decode cX0_endProgramme 51 = .ok (.aload_n 0, 1) := by decide +kernel
theorem dX0_endProgramme_52 : decode cX0_endProgramme 52 = .ok (.getfield 51, 3) := by decide +kernel
theorem dX0_endProgramme_55 : decode cX0_endProgramme 55 = .ok (.ifCond .lt 35, 3) := by decide +kernel
theorem dX0_endProgramme_58 : decode cX0_endProgramme 58 = .ok (.aload_n 0, 1) := by decide +kernel
theorem dX0_endProgramme_59 : decode cX0_endProgramme 59 = .ok (.getfield 51, 3) := by decide +kernel
theorem dX0_endProgramme_62 : decode cX0_endProgramme 62 = .ok (.bipush 40, 2) := by decide +kernel
theorem dX0_endProgramme_64 : decode cX0_endProgramme 64 = .ok (.if_icmp .ge 26, 3) := by decide +kernel
theorem dX0_endProgramme_67 : decode cX0_endProgramme 67 = .ok (.aload_n 0, 1) := by decide +kernel
theorem dX0_endProgramme_68 : decode cX0_endProgramme 68 = .ok (.getfield 23, 3) := by decide +kernel
theorem dX0_endProgramme_71 : decode cX0_endProgramme 71 = .ok (.aload_n 0, 1) := by decide +kernel
theorem dX0_endProgramme_72 : decode cX0_endProgramme 72 = .ok (.getfield 51, 3) := by decide +kernel
theorem dX0_endProgramme_75 : decode cX0_endProgramme 75 = .ok (.aload_n 0, 1) := by decide +kernel
theorem dX0_endProgramme_76 : decode cX0_endProgramme 76 = .ok (.getfield 54, 3) := by decide +kernel
theorem dX0_endProgramme_79 : decode cX0_endProgramme 79 = .ok (.iastore, 1) := by decide +kernel
theorem dX0_endProgramme_80 : decode cX0_endProgramme 80 = .ok (.aload_n 0, 1) := by decide +kernel
theorem dX0_endProgramme_81 : decode cX0_endProgramme 81 = .ok (.dup, 1) := by decide +kernel
theorem dX0_endProgramme_82 : decode cX0_endProgramme 82 = .ok (.getfield 51, 3) := by decide +kernel
theorem dX0_endProgramme_85 : decode cX0_endProgramme 85 = .ok (.iconst 1, 1) := by decide +kernel
theorem dX0_endProgramme_86 : decode cX0_endProgramme 86 = .ok (.iadd, 1) := by decide +kernel
theorem dX0_endProgramme_87 : decode cX0_endProgramme 87 = .ok (.putfield 51, 3) := by decide +kernel
theorem dX0_endProgramme_90 : decode cX0_endProgramme 90 = .ok (.aload_n 0, 1) := by decide +kernel
theorem dX0_endProgramme_91 : decode cX0_endProgramme 91 = .ok (.dup, 1) := by decide +kernel
theorem dX0_endProgramme_92 : decode cX0_endProgramme 92 = .ok (.getfield 54, 3) := by decide +kernel
theorem dX0_endProgramme_95 : decode cX0_endProgramme 95 = .ok (.iconst 1, 1) := by decide +kernel
theorem dX0_endProgramme_96 : decode cX0_endProgramme 96 = .ok (.iadd, 1) := by decide +kernel
theorem dX0_endProgramme_97 : decode cX0_endProgramme 97 = .ok (.putfield 54, 3) := by decide +kernel
theorem dX0_endProgramme_100 : decode cX0_endProgramme 100 = .ok (.aload_n 0, 1) := by decide +kernel
theorem dX0_endProgramme_101 : decode cX0_endProgramme 101 = .ok (.getfield 54, 3) := by decide +kernel
theorem dX0_endProgramme_104 : decode cX0_endProgramme 104 = .ok (.aload_n 0, 1) := by decide +kernel
theorem dX0_endProgramme_105 : decode cX0_endProgramme 105 = .ok (.getfield 38, 3) := by decide +kernel
theorem dX0_endProgramme_108 : decode cX0_endProgramme 108 = .ok (.if_icmp .ne 11, 3) := by decide +kernel
theorem dX0_endProgramme_111 : decode cX0_endProgramme 111 = .ok (.aload_n 0, 1) := by decide +kernel
theorem dX0_endProgramme_112 : decode cX0_endProgramme 112 = .ok (.aload_n 0, 1) := by decide +kernel
theorem dX0_endProgramme_113 : decode cX0_endProgramme 113 = .ok (.getfield 48, 3) := by decide +kernel
theorem dX0_endProgramme_116 : decode cX0_endProgramme 116 = .ok (.putfield 63, 3) := by decide +kernel
theorem dX0_endProgramme_119 : decode cX0_endProgramme 119 = .ok (.aload_n 1, 1) := by decide +kernel
theorem dX0_endProgramme_120 : decode cX0_endProgramme 120 = .ok (.dup, 1) := by decide +kernel
theorem dX0_endProgramme_121 : decode cX0_endProgramme 121 = .ok (.getfield 88, 3) := by decide +kernel
theorem dX0_endProgramme_124 : decode cX0_endProgramme 124 = .ok (.iconst 1, 1) := by decide +kernel
theorem dX0_endProgramme_125 : decode cX0_endProgramme 125 = .ok (.iadd, 1) := by decide +kernel
theorem dX0_endProgramme_126 : decode cX0_endProgramme 126 = .ok (.putfield 88, 3) := by decide +kernel
theorem dX0_endProgramme_129 : decode cX0_endProgramme 129 = .ok (.aload_n 1, 1) := by decide +kernel
theorem dX0_endProgramme_130 : decode cX0_endProgramme 130 = .ok (.iconst 0, 1) := by decide +kernel
theorem dX0_endProgramme_131 : decode cX0_endProgramme 131 = .ok (.putfield 138, 3) := by decide +kernel
theorem dX0_endProgramme_134 : decode cX0_endProgramme 134 = .ok (.aload_n 1, 1) := by decide +kernel
theorem dX0_endProgramme_135 : decode cX0_endProgramme 135 = .ok (.iconst 0, 1) := by decide +kernel
theorem dX0_endProgramme_136 : decode cX0_endProgramme 136 = .ok (.putfield 131, 3) := by decide +kernel
theorem dX0_endProgramme_139 : decode cX0_endProgramme 139 = .ok (.aload_n 1, 1) := by decide +kernel
theorem dX0_endProgramme_140 : decode cX0_endProgramme 140 = .ok (.iconst 0, 1) := by decide +kernel
theorem dX0_endProgramme_141 : decode cX0_endProgramme 141 = .ok (.putfield 135, 3) := by decide +kernel
theorem dX0_endProgramme_144 : decode cX0_endProgramme 144 = .ok (.return_, 1) := by decide +kernel
theorem dX0_takesOf_0 : decode cX0_takesOf 0 = .ok (.aload_n 0, 1) := by decide +kernel
theorem dX0_takesOf_1 : decode cX0_takesOf 1 = .ok (.getfield 34, 3) := by decide +kernel
theorem dX0_takesOf_4 : decode cX0_takesOf 4 = .ok (.ifnonnull 7, 3) := by decide +kernel
theorem dX0_takesOf_7 : decode cX0_takesOf 7 = .ok (.iconst 1, 1) := by decide +kernel
theorem dX0_takesOf_8 : decode cX0_takesOf 8 = .ok (.goto 25, 3) := by decide +kernel
theorem dX0_takesOf_11 : decode cX0_takesOf 11 = .ok (.aload_n 0, 1) := by decide +kernel
theorem dX0_takesOf_12 : decode cX0_takesOf 12 = .ok (.getfield 34, 3) := by decide +kernel
theorem dX0_takesOf_15 : decode cX0_takesOf 15 = .ok (.iconst 0, 1) := by decide +kernel
theorem dX0_takesOf_16 : decode cX0_takesOf 16 = .ok (.aload_n 1, 1) := by decide +kernel
theorem dX0_takesOf_17 : decode cX0_takesOf 17 = .ok (.aload_n 2, 1) := by decide +kernel
theorem dX0_takesOf_18 : decode cX0_takesOf 18 = .ok (.getfield 147, 3) := by decide +kernel
theorem dX0_takesOf_21 : decode cX0_takesOf 21 = .ok (.aload_n 2, 1) := by decide +kernel
theorem dX0_takesOf_22 : decode cX0_takesOf 22 = .ok (.getfield 150, 3) := by decide +kernel
theorem dX0_takesOf_25 : decode cX0_takesOf 25 = .ok (.iload_n 3, 1) := by decide +kernel
theorem dX0_takesOf_26 : decode cX0_takesOf 26 = .ok (.aload_n 0, 1) := by decide +kernel
theorem dX0_takesOf_27 : decode cX0_takesOf 27 = .ok (.getfield 42, 3) := by decide +kernel
theorem dX0_takesOf_30 : decode cX0_takesOf 30 = .ok (.invokevirtual 91, 3) := by decide +kernel
theorem dX0_takesOf_33 : decode cX0_takesOf 33 = .ok (.istore 4, 2) := by decide +kernel
theorem dX0_takesOf_35 : decode cX0_takesOf 35 = .ok (.iconst 1, 1) := by decide +kernel
theorem dX0_takesOf_36 : decode cX0_takesOf 36 = .ok (.aload_n 1, 1) := by decide +kernel
theorem dX0_takesOf_37 : decode cX0_takesOf 37 = .ok (.iload 4, 2) := by decide +kernel
theorem dX0_takesOf_39 : decode cX0_takesOf 39 = .ok (.iload_n 3, 1) := by decide +kernel
theorem dX0_takesOf_40 : decode cX0_takesOf 40 = .ok (.invokevirtual 153, 3) := by decide +kernel
theorem dX0_takesOf_43 : decode cX0_takesOf 43 = .ok (.invokestatic 156, 3) := by decide +kernel
theorem dX0_takesOf_46 : decode cX0_takesOf 46 = .ok (.ireturn, 1) := by decide +kernel
theorem dX0_stepOf_0 : decode cX0_stepOf 0 = .ok (.aload_n 0, 1) := by decide +kernel
theorem dX0_stepOf_1 : decode cX0_stepOf 1 = .ok (.getfield 34, 3) := by decide +kernel
theorem dX0_stepOf_4 : decode cX0_stepOf 4 = .ok (.ifnonnull 7, 3) := by decide +kernel
theorem dX0_stepOf_7 : decode cX0_stepOf 7 = .ok (.iconst 1, 1) := by decide +kernel
theorem dX0_stepOf_8 : decode cX0_stepOf 8 = .ok (.goto 25, 3) := by decide +kernel
theorem dX0_stepOf_11 : decode cX0_stepOf 11 = .ok (.aload_n 0, 1) := by decide +kernel
theorem dX0_stepOf_12 : decode cX0_stepOf 12 = .ok (.getfield 34, 3) := by decide +kernel
theorem dX0_stepOf_15 : decode cX0_stepOf 15 = .ok (.iconst 1, 1) := by decide +kernel
theorem dX0_stepOf_16 : decode cX0_stepOf 16 = .ok (.aload_n 1, 1) := by decide +kernel
theorem dX0_stepOf_17 : decode cX0_stepOf 17 = .ok (.aload_n 2, 1) := by decide +kernel
theorem dX0_stepOf_18 : decode cX0_stepOf 18 = .ok (.getfield 147, 3) := by decide +kernel
theorem dX0_stepOf_21 : decode cX0_stepOf 21 = .ok (.aload_n 2, 1) := by decide +kernel
theorem dX0_stepOf_22 : decode cX0_stepOf 22 = .ok (.getfield 150, 3) := by decide +kernel
theorem dX0_stepOf_25 : decode cX0_stepOf 25 = .ok (.iload_n 3, 1) := by decide +kernel
theorem dX0_stepOf_26 : decode cX0_stepOf 26 = .ok (.aload_n 0, 1) := by decide +kernel
theorem dX0_stepOf_27 : decode cX0_stepOf 27 = .ok (.getfield 42, 3) := by decide +kernel
theorem dX0_stepOf_30 : decode cX0_stepOf 30 = .ok (.invokevirtual 91, 3) := by decide +kernel
theorem dX0_stepOf_33 : decode cX0_stepOf 33 = .ok (.istore 4, 2) := by decide +kernel
theorem dX0_stepOf_35 : decode cX0_stepOf 35 = .ok (.iconst 1, 1) := by decide +kernel
theorem dX0_stepOf_36 : decode cX0_stepOf 36 = .ok (.aload_n 1, 1) := by decide +kernel
theorem dX0_stepOf_37 : decode cX0_stepOf 37 = .ok (.iload 4, 2) := by decide +kernel
theorem dX0_stepOf_39 : decode cX0_stepOf 39 = .ok (.invokevirtual 159, 3) := by decide +kernel
theorem dX0_stepOf_42 : decode cX0_stepOf 42 = .ok (.invokestatic 156, 3) := by decide +kernel
theorem dX0_stepOf_45 : decode cX0_stepOf 45 = .ok (.ireturn, 1) := by decide +kernel
theorem dX1_init_0 : decode cX1_init 0 = .ok (.aload_n 0, 1) := by decide +kernel
theorem dX1_init_1 : decode cX1_init 1 = .ok (.iload_n 1, 1) := by decide +kernel
theorem dX1_init_2 : decode cX1_init 2 = .ok (.iload_n 2, 1) := by decide +kernel
theorem dX1_init_3 : decode cX1_init 3 = .ok (.iload_n 3, 1) := by decide +kernel
theorem dX1_init_4 : decode cX1_init 4 = .ok (.invokespecial 1, 3) := by decide +kernel
theorem dX1_init_7 : decode cX1_init 7 = .ok (.return_, 1) := by decide +kernel
theorem dX1_kind_0 : decode cX1_kind 0 = .ok (.iconst 4, 1) := by decide +kernel
theorem dX1_kind_1 : decode cX1_kind 1 = .ok (.ireturn, 1) := by decide +kernel
theorem dX1_takesFor_0 : decode cX1_takesFor 0 = .ok (.aload_n 0, 1) := by decide +kernel
theorem dX1_takesFor_1 : decode cX1_takesFor 1 = .ok (.iload_n 1, 1) := by decide +kernel
theorem dX1_takesFor_2 : decode cX1_takesFor 2 = .ok (.iload_n 2, 1) := by decide +kernel
theorem dX1_takesFor_3 : decode cX1_takesFor 3 = .ok (.invokespecial 11, 3) := by decide +kernel
theorem dX1_takesFor_6 : decode cX1_takesFor 6 = .ok (.iload_n 2, 1) := by decide +kernel
theorem dX1_takesFor_7 : decode cX1_takesFor 7 = .ok (.aload_n 0, 1) := by decide +kernel
theorem dX1_takesFor_8 : decode cX1_takesFor 8 = .ok (.getfield 15, 3) := by decide +kernel
theorem dX1_takesFor_11 : decode cX1_takesFor 11 = .ok (.if_icmp .le 7, 3) := by decide +kernel
theorem dX1_takesFor_14 : decode cX1_takesFor 14 = .ok (.iconst 2, 1) := by decide +kernel
theorem dX1_takesFor_15 : decode cX1_takesFor 15 = .ok (.goto 4, 3) := by decide +kernel
theorem dX1_takesFor_18 : decode cX1_takesFor 18 = .ok (.iconst 1, 1) := by decide +kernel
theorem dX1_takesFor_19 : decode cX1_takesFor 19 = .ok (.iadd, 1) := by decide +kernel
theorem dX1_takesFor_20 : decode cX1_takesFor 20 = .ok (.ireturn, 1) := by decide +kernel
theorem dX1_stepFor_0 : decode cX1_stepFor 0 = .ok (.iload_n 1, 1) := by decide +kernel
theorem dX1_stepFor_1 : decode cX1_stepFor 1 = .ok (.iconst 2, 1) := by decide +kernel
theorem dX1_stepFor_2 : decode cX1_stepFor 2 = .ok (.imul, 1) := by decide +kernel
theorem dX1_stepFor_3 : decode cX1_stepFor 3 = .ok (.ireturn, 1) := by decide +kernel
theorem dX2_init_0 : decode cX2_init 0 = .ok (.aload_n 0, 1) := by decide +kernel
theorem dX2_init_1 : decode cX2_init 1 = .ok (.invokespecial 3, 3) := by decide +kernel
theorem dX2_init_4 : decode cX2_init 4 = .ok (.aload_n 0, 1) := by decide +kernel
theorem dX2_init_5 : decode cX2_init 5 = .ok (.iload_n 1, 1) := by decide +kernel
theorem dX2_init_6 : decode cX2_init 6 = .ok (.putfield 9, 3) := by decide +kernel
theorem dX2_init_9 : decode cX2_init 9 = .ok (.return_, 1) := by decide +kernel
theorem dX2_beginGoing_0 : decode cX2_beginGoing 0 = .ok (.aload_n 0, 1) := by decide +kernel
theorem dX2_beginGoing_1 : decode cX2_beginGoing 1 = .ok (.iload_n 1, 1) := by decide +kernel
theorem dX2_beginGoing_2 : decode cX2_beginGoing 2 = .ok (.putfield 15, 3) := by decide +kernel
theorem dX2_beginGoing_5 : decode cX2_beginGoing 5 = .ok (.aload_n 0, 1) := by decide +kernel
theorem dX2_beginGoing_6 : decode cX2_beginGoing 6 = .ok (.iload_n 2, 1) := by decide +kernel
theorem dX2_beginGoing_7 : decode cX2_beginGoing 7 = .ok (.putfield 18, 3) := by decide +kernel
theorem dX2_beginGoing_10 : decode cX2_beginGoing 10 = .ok (.aload_n 0, 1) := by decide +kernel
theorem dX2_beginGoing_11 : decode cX2_beginGoing 11 = .ok (.iconst 0, 1) := by decide +kernel
theorem dX2_beginGoing_12 : decode cX2_beginGoing 12 = .ok (.putfield 21, 3) := by decide +kernel
theorem dX2_beginGoing_15 : decode cX2_beginGoing 15 = .ok (.aload_n 0, 1) := by decide +kernel
theorem dX2_beginGoing_16 : decode cX2_beginGoing 16 = .ok (.iconst 0, 1) := by decide +kernel
theorem dX2_beginGoing_17 : decode cX2_beginGoing 17 = .ok (.putfield 24, 3) := by decide +kernel
theorem dX2_beginGoing_20 : decode cX2_beginGoing 20 = .ok (.aload_n 0, 1) := by decide +kernel
theorem dX2_beginGoing_21 : decode cX2_beginGoing 21 = .ok (.iconst (-1), 1) := by decide +kernel
theorem dX2_beginGoing_22 : decode cX2_beginGoing 22 = .ok (.putfield 27, 3) := by decide +kernel
theorem dX2_beginGoing_25 : decode cX2_beginGoing 25 = .ok (.aload_n 0, 1) := by decide +kernel
theorem dX2_beginGoing_26 : decode cX2_beginGoing 26 = .ok (.iconst 0, 1) := by decide +kernel
theorem dX2_beginGoing_27 : decode cX2_beginGoing 27 = .ok (.putfield 30, 3) := by decide +kernel
theorem dX2_beginGoing_30 : decode cX2_beginGoing 30 = .ok (.return_, 1) := by decide +kernel
theorem dX2_lift_0 : decode cX2_lift 0 = .ok (.aload_n 0, 1) := by decide +kernel
theorem dX2_lift_1 : decode cX2_lift 1 = .ok (.getfield 15, 3) := by decide +kernel
theorem dX2_lift_4 : decode cX2_lift 4 = .ok (.ifCond .gt 10, 3) := by decide +kernel
theorem dX2_lift_7 : decode cX2_lift 7 = .ok (.aload_n 0, 1) := by decide +kernel
theorem dX2_lift_8 : decode cX2_lift 8 = .ok (.iconst 1, 1) := by decide +kernel
theorem dX2_lift_9 : decode cX2_lift 9 = .ok (.putfield 30, 3) := by decide +kernel
theorem dX2_lift_12 : decode cX2_lift 12 = .ok (.iconst 2, 1) := by decide +kernel
theorem dX2_lift_13 : decode cX2_lift 13 = .ok (.ireturn, 1) := by decide +kernel
theorem dX2_lift_14 : decode cX2_lift 14 = .ok (.aload_n 0, 1) := by decide +kernel
theorem dX2_lift_15 : decode cX2_lift 15 = .ok (.dup, 1) := by decide +kernel
theorem dX2_lift_16 : decode cX2_lift 16 = .ok (.getfield 21, 3) := by decide +kernel
theorem dX2_lift_19 : decode cX2_lift 19 = .ok (.iconst 1, 1) := by decide +kernel
theorem dX2_lift_20 : decode cX2_lift 20 = .ok (.iadd, 1) := by decide +kernel
theorem dX2_lift_21 : decode cX2_lift 21 = .ok (.putfield 21, 3) := by decide +kernel
theorem dX2_lift_24 : decode cX2_lift 24 = .ok (.aload_n 0, 1) := by decide +kernel
theorem dX2_lift_25 : decode cX2_lift 25 = .ok (.getfield 18, 3) := by decide +kernel
theorem dX2_lift_28 : decode cX2_lift 28 = .ok (.ifCond .eq 27, 3) := by decide +kernel
theorem dX2_lift_31 : decode cX2_lift 31 = .ok (.aload_n 0, 1) := by decide +kernel
theorem dX2_lift_32 : decode cX2_lift 32 = .ok (.getfield 21, 3) := by decide +kernel
theorem dX2_lift_35 : decode cX2_lift 35 = .ok (.aload_n 0, 1) := by decide +kernel
theorem dX2_lift_36 : decode cX2_lift 36 = .ok (.getfield 18, 3) := by decide +kernel
theorem dX2_lift_39 : decode cX2_lift 39 = .ok (.irem, 1) := by decide +kernel
theorem dX2_lift_40 : decode cX2_lift 40 = .ok (.ifCond .ne 15, 3) := by decide +kernel
theorem dX2_lift_43 : decode cX2_lift 43 = .ok (.aload_n 0, 1) := by decide +kernel
theorem dX2_lift_44 : decode cX2_lift 44 = .ok (.getfield 15, 3) := by decide +kernel
theorem dX2_lift_47 : decode cX2_lift 47 = .ok (.iconst 2, 1) := by decide +kernel
theorem dX2_lift_48 : decode cX2_lift 48 = .ok (.if_icmp .lt 7, 3) := by decide +kernel
theorem dX2_lift_51 : decode cX2_lift 51 = .ok (.iconst 1, 1) := by decide +kernel
theorem dX2_lift_52 : decode cX2_lift 52 = .ok (.goto 4, 3) := by decide +kernel
theorem dX2_lift_55 : decode cX2_lift 55 = .ok (.iconst 0, 1) := by decide +kernel
theorem dX2_lift_56 : decode cX2_lift 56 = .ok (.istore_n 2, 1) := by decide +kernel
theorem dX2_lift_57 : decode cX2_lift 57 = .ok (.aload_n 0, 1) := by decide +kernel
theorem dX2_lift_58 : decode cX2_lift 58 = .ok (.dup, 1) := by decide +kernel
theorem dX2_lift_59 : decode cX2_lift 59 = .ok (.getfield 15, 3) := by decide +kernel
theorem dX2_lift_62 : decode cX2_lift 62 = .ok (.iload_n 2, 1) := by decide +kernel
theorem dX2_lift_63 : decode cX2_lift 63 = .ok (.ifCond .eq 7, 3) := by decide +kernel
theorem dX2_lift_66 : decode cX2_lift 66 = .ok (.iconst 2, 1) := by decide +kernel
theorem dX2_lift_67 : decode cX2_lift 67 = .ok (.goto 4, 3) := by decide +kernel
theorem dX2_lift_70 : decode cX2_lift 70 = .ok (.iconst 1, 1) := by decide +kernel
theorem dX2_lift_71 : decode cX2_lift 71 = .ok (.isub, 1) := by decide +kernel
theorem dX2_lift_72 : decode cX2_lift 72 = .ok (.putfield 15, 3) := by decide +kernel
theorem dX2_lift_75 : decode cX2_lift 75 = .ok (.aload_n 0, 1) := by decide +kernel
theorem dX2_lift_76 : decode cX2_lift 76 = .ok (.getfield 15, 3) := by decide +kernel
theorem dX2_lift_79 : decode cX2_lift 79 = .ok (.ifCond .ne 8, 3) := by decide +kernel
theorem dX2_lift_82 : decode cX2_lift 82 = .ok (.aload_n 0, 1) := by decide +kernel
theorem dX2_lift_83 : decode cX2_lift 83 = .ok (.iload_n 1, 1) := by decide +kernel
theorem dX2_lift_84 : decode cX2_lift 84 = .ok (.putfield 27, 3) := by decide +kernel
theorem dX2_lift_87 : decode cX2_lift 87 = .ok (.iload_n 2, 1) := by decide +kernel
theorem dX2_lift_88 : decode cX2_lift 88 = .ok (.ifCond .eq 7, 3) := by decide +kernel
theorem dX2_lift_91 : decode cX2_lift 91 = .ok (.iconst 1, 1) := by decide +kernel
theorem dX2_lift_92 : decode cX2_lift 92 = .ok (.goto 4, 3) := by decide +kernel
theorem dX2_lift_95 : decode cX2_lift 95 = .ok (.iconst 0, 1) := by decide +kernel
theorem dX2_lift_96 : decode cX2_lift 96 = .ok (.ireturn, 1) := by decide +kernel
theorem dX3_init_0 : decode cX3_init 0 = .ok (.aload_n 0, 1) := by decide +kernel
theorem dX3_init_1 : decode cX3_init 1 = .ok (.invokespecial 3, 3) := by decide +kernel
theorem dX3_init_4 : decode cX3_init 4 = .ok (.aload_n 0, 1) := by decide +kernel
theorem dX3_init_5 : decode cX3_init 5 = .ok (.bipush 40, 2) := by decide +kernel
theorem dX3_init_7 : decode cX3_init 7 = .ok (.newarray .int, 2) := by decide +kernel
theorem dX3_init_9 : decode cX3_init 9 = .ok (.putfield 11, 3) := by decide +kernel
theorem dX3_init_12 : decode cX3_init 12 = .ok (.aload_n 0, 1) := by decide +kernel
theorem dX3_init_13 : decode cX3_init 13 = .ok (.bipush 6, 2) := by decide +kernel
theorem dX3_init_15 : decode cX3_init 15 = .ok (.newarray .int, 2) := by decide +kernel
theorem dX3_init_17 : decode cX3_init 17 = .ok (.putfield 15, 3) := by decide +kernel
theorem dX3_init_20 : decode cX3_init 20 = .ok (.aload_n 0, 1) := by decide +kernel
theorem dX3_init_21 : decode cX3_init 21 = .ok (.iconst 3, 1) := by decide +kernel
theorem dX3_init_22 : decode cX3_init 22 = .ok (.newarray .int, 2) := by decide +kernel
theorem dX3_init_24 : decode cX3_init 24 = .ok (.putfield 18, 3) := by decide +kernel
theorem dX3_init_27 : decode cX3_init 27 = .ok (.aload_n 0, 1) := by decide +kernel
theorem dX3_init_28 : decode cX3_init 28 = .ok (.aload_n 1, 1) := by decide +kernel
theorem dX3_init_29 : decode cX3_init 29 = .ok (.invokevirtual 21, 3) := by decide +kernel
theorem dX3_init_32 : decode cX3_init 32 = .ok (.checkcast 22, 3) := by decide +kernel
theorem dX3_init_35 : decode cX3_init 35 = .ok (.putfield 26, 3) := by decide +kernel
theorem dX3_init_38 : decode cX3_init 38 = .ok (.aload_n 0, 1) := by decide +kernel
theorem dX3_init_39 : decode cX3_init 39 = .ok (.aload_n 2, 1) := by decide +kernel
theorem dX3_init_40 : decode cX3_init 40 = .ok (.invokevirtual 21, 3) := by decide +kernel
theorem dX3_init_43 : decode cX3_init 43 = .ok (.checkcast 22, 3) := by decide +kernel
theorem dX3_init_46 : decode cX3_init 46 = .ok (.putfield 29, 3) := by decide +kernel
theorem dX3_init_49 : decode cX3_init 49 = .ok (.iconst 0, 1) := by decide +kernel
theorem dX3_init_50 : decode cX3_init 50 = .ok (.istore_n 3, 1) := by decide +kernel
theorem dX3_init_51 : decode cX3_init 51 = .ok (.iload_n 3, 1) := by decide +kernel
theorem dX3_init_52 : decode cX3_init 52 = .ok (.iconst 3, 1) := by decide +kernel
theorem dX3_init_53 : decode cX3_init 53 = .ok (.if_icmp .ge 79, 3) := by decide +kernel
theorem dX3_init_56 : decode cX3_init 56 = .ok (.aload_n 0, 1) := by decide +kernel
theorem dX3_init_57 : decode cX3_init 57 = .ok (.getfield 18, 3) := by decide +kernel
theorem dX3_init_60 : decode cX3_init 60 = .ok (.iload_n 3, 1) := by decide +kernel
theorem dX3_init_61 : decode cX3_init 61 = .ok (.iconst (-1), 1) := by decide +kernel
theorem dX3_init_62 : decode cX3_init 62 = .ok (.iastore, 1) := by decide +kernel
theorem dX3_init_63 : decode cX3_init 63 = .ok (.iload_n 3, 1) := by decide +kernel
theorem dX3_init_64 : decode cX3_init 64 = .ok (.iconst 1, 1) := by decide +kernel
theorem dX3_init_65 : decode cX3_init 65 = .ok (.iadd, 1) := by decide +kernel
theorem dX3_init_66 : decode cX3_init 66 = .ok (.aload_n 2, 1) := by decide +kernel
theorem dX3_init_67 : decode cX3_init 67 = .ok (.arraylength, 1) := by decide +kernel
theorem dX3_init_68 : decode cX3_init 68 = .ok (.if_icmp .ge 58, 3) := by decide +kernel
theorem dX3_init_71 : decode cX3_init 71 = .ok (.aload_n 2, 1) := by decide +kernel
theorem dX3_init_72 : decode cX3_init 72 = .ok (.iload_n 3, 1) := by decide +kernel
theorem dX3_init_73 : decode cX3_init 73 = .ok (.iconst 1, 1) := by decide +kernel
theorem dX3_init_74 : decode cX3_init 74 = .ok (.iadd, 1) := by decide +kernel
theorem dX3_init_75 : decode cX3_init 75 = .ok (.iaload, 1) := by decide +kernel
theorem dX3_init_76 : decode cX3_init 76 = .ok (.aload_n 2, 1) := by decide +kernel
theorem dX3_init_77 : decode cX3_init 77 = .ok (.iload_n 3, 1) := by decide +kernel
theorem dX3_init_78 : decode cX3_init 78 = .ok (.iaload, 1) := by decide +kernel
theorem dX3_init_79 : decode cX3_init 79 = .ok (.iconst 1, 1) := by decide +kernel
theorem dX3_init_80 : decode cX3_init 80 = .ok (.iadd, 1) := by decide +kernel
theorem dX3_init_81 : decode cX3_init 81 = .ok (.if_icmp .ne 45, 3) := by decide +kernel
theorem dX3_init_84 : decode cX3_init 84 = .ok (.aload_n 2, 1) := by decide +kernel
theorem dX3_init_85 : decode cX3_init 85 = .ok (.iload_n 3, 1) := by decide +kernel
theorem dX3_init_86 : decode cX3_init 86 = .ok (.iaload, 1) := by decide +kernel
theorem dX3_init_87 : decode cX3_init 87 = .ok (.istore 4, 2) := by decide +kernel
theorem dX3_init_89 : decode cX3_init 89 = .ok (.aload_n 0, 1) := by decide +kernel
theorem dX3_init_90 : decode cX3_init 90 = .ok (.getfield 18, 3) := by decide +kernel
theorem dX3_init_93 : decode cX3_init 93 = .ok (.iload_n 3, 1) := by decide +kernel
theorem dX3_init_94 : decode cX3_init 94 = .ok (.iload 4, 2) := by decide +kernel
theorem dX3_init_96 : decode cX3_init 96 = .ok (.ifCond .lt 28, 3) := by decide +kernel
theorem dX3_init_99 : decode cX3_init 99 = .ok (.iload 4, 2) := by decide +kernel
theorem dX3_init_101 : decode cX3_init 101 = .ok (.aload_n 1, 1) := by decide +kernel
theorem dX3_init_102 : decode cX3_init 102 = .ok (.arraylength, 1) := by decide +kernel
theorem dX3_init_103 : decode cX3_init 103 = .ok (.if_icmp .ge 21, 3) := by decide +kernel
theorem dX3_init_106 : decode cX3_init 106 = .ok (.aload_n 1, 1) := by decide +kernel
theorem dX3_init_107 : decode cX3_init 107 = .ok (.iload 4, 2) := by decide +kernel
theorem dX3_init_109 : decode cX3_init 109 = .ok (.iaload, 1) := by decide +kernel
theorem dX3_init_110 : decode cX3_init 110 = .ok (.ifCond .lt 14, 3) := by decide +kernel
theorem dX3_init_113 : decode cX3_init 113 = .ok (.iload_n 3, 1) := by decide +kernel
theorem dX3_init_114 : decode cX3_init 114 = .ok (.aload_n 1, 1) := by decide +kernel
theorem dX3_init_115 : decode cX3_init 115 = .ok (.iload 4, 2) := by decide +kernel
theorem dX3_init_117 : decode cX3_init 117 = .ok (.iaload, 1) := by decide +kernel
theorem dX3_init_118 : decode cX3_init 118 = .ok (.invokestatic 32, 3) := by decide +kernel
theorem dX3_init_121 : decode cX3_init 121 = .ok (.goto 4, 3) := by decide +kernel
theorem dX3_init_124 : decode cX3_init 124 = .ok (.iconst (-1), 1) := by decide +kernel
theorem dX3_init_125 : decode cX3_init 125 = .ok (.iastore, 1) := by decide +kernel
theorem dX3_init_126 : decode cX3_init 126 = .ok (.iinc 3 1, 3) := by decide +kernel
theorem dX3_init_129 : decode cX3_init 129 = .ok (.goto (-78), 3) := by decide +kernel
theorem dX3_init_132 : decode cX3_init 132 = .ok (.return_, 1) := by decide +kernel
theorem dX3_says_0 : decode cX3_says 0 = .ok (.iload_n 1, 1) := by decide +kernel
theorem dX3_says_1 : decode cX3_says 1 = .ok (.ifCond .lt 23, 3) := by decide +kernel
theorem dX3_says_4 : decode cX3_says 4 = .ok (.iload_n 1, 1) := by decide +kernel
theorem dX3_says_5 : decode cX3_says 5 = .ok (.iconst 3, 1) := by decide +kernel
theorem dX3_says_6 : decode cX3_says 6 = .ok (.if_icmp .ge 18, 3) := by decide +kernel
theorem dX3_says_9 : decode cX3_says 9 = .ok (.iload_n 1, 1) := by decide +kernel
theorem dX3_says_10 : decode cX3_says 10 = .ok (.iconst 1, 1) := by decide +kernel
theorem dX3_says_11 : decode cX3_says 11 = .ok (.iadd, 1) := by decide +kernel
theorem dX3_says_12 : decode cX3_says 12 = .ok (.aload_n 0, 1) := by decide +kernel
theorem dX3_says_13 : decode cX3_says 13 = .ok (.getfield 29, 3) := by decide +kernel
theorem dX3_says_16 : decode cX3_says 16 = .ok (.arraylength, 1) := by decide +kernel
theorem dX3_says_17 : decode cX3_says 17 = .ok (.if_icmp .ge 7, 3) := by decide +kernel
theorem dX3_says_20 : decode cX3_says 20 = .ok (.aload_n 2, 1) := by decide +kernel
theorem dX3_says_21 : decode cX3_says 21 = .ok (.ifnonnull 5, 3) := by decide +kernel
theorem dX3_says_24 : decode cX3_says 24 = .ok (.iconst 0, 1) := by decide +kernel
theorem dX3_says_25 : decode cX3_says 25 = .ok (.ireturn, 1) := by decide +kernel
theorem dX3_says_26 : decode cX3_says 26 = .ok (.aload_n 0, 1) := by decide +kernel
theorem dX3_says_27 : decode cX3_says 27 = .ok (.getfield 18, 3) := by decide +kernel
theorem dX3_says_30 : decode cX3_says 30 = .ok (.iload_n 1, 1) := by decide +kernel
theorem dX3_says_31 : decode cX3_says 31 = .ok (.iaload, 1) := by decide +kernel
theorem dX3_says_32 : decode cX3_says 32 = .ok (.iconst (-1), 1) := by decide +kernel
theorem dX3_says_33 : decode cX3_says 33 = .ok (.if_icmp .eq 10, 3) := by decide +kernel
theorem dX3_says_36 : decode cX3_says 36 = .ok (.aload_n 0, 1) := by decide +kernel
theorem dX3_says_37 : decode cX3_says 37 = .ok (.getfield 18, 3) := by decide +kernel
theorem dX3_says_40 : decode cX3_says 40 = .ok (.iload_n 1, 1) := by decide +kernel
theorem dX3_says_41 : decode cX3_says 41 = .ok (.iaload, 1) := by decide +kernel
theorem dX3_says_42 : decode cX3_says 42 = .ok (.ireturn, 1) := by decide +kernel
theorem dX3_says_43 : decode cX3_says 43 = .ok (.aload_n 0, 1) := by decide +kernel
theorem dX3_says_44 : decode cX3_says 44 = .ok (.getfield 15, 3) := by decide +kernel
theorem dX3_says_47 : decode cX3_says 47 = .ok (.iconst 0, 1) := by decide +kernel
theorem dX3_says_48 : decode cX3_says 48 = .ok (.iload_n 3, 1) := by decide +kernel
theorem dX3_says_49 : decode cX3_says 49 = .ok (.iastore, 1) := by decide +kernel
theorem dX3_says_50 : decode cX3_says 50 = .ok (.aload_n 0, 1) := by decide +kernel
theorem dX3_says_51 : decode cX3_says 51 = .ok (.getfield 15, 3) := by decide +kernel
theorem dX3_says_54 : decode cX3_says 54 = .ok (.iconst 1, 1) := by decide +kernel
theorem dX3_says_55 : decode cX3_says 55 = .ok (.aload_n 2, 1) := by decide +kernel
theorem dX3_says_56 : decode cX3_says 56 = .ok (.getfield 36, 3) := by decide +kernel
theorem dX3_says_59 : decode cX3_says 59 = .ok (.iastore, 1) := by decide +kernel
theorem dX3_says_60 : decode cX3_says 60 = .ok (.aload_n 0, 1) := by decide +kernel
theorem dX3_says_61 : decode cX3_says 61 = .ok (.getfield 15, 3) := by decide +kernel
theorem dX3_says_64 : decode cX3_says 64 = .ok (.iconst 2, 1) := by decide +kernel
theorem dX3_says_65 : decode cX3_says 65 = .ok (.aload_n 2, 1) := by decide +kernel
theorem dX3_says_66 : decode cX3_says 66 = .ok (.getfield 42, 3) := by decide +kernel
theorem dX3_says_69 : decode cX3_says 69 = .ok (.iastore, 1) := by decide +kernel
theorem dX3_says_70 : decode cX3_says 70 = .ok (.aload_n 0, 1) := by decide +kernel
theorem dX3_says_71 : decode cX3_says 71 = .ok (.getfield 15, 3) := by decide +kernel
theorem dX3_says_74 : decode cX3_says 74 = .ok (.iconst 3, 1) := by decide +kernel
theorem dX3_says_75 : decode cX3_says 75 = .ok (.iload 4, 2) := by decide +kernel
theorem dX3_says_77 : decode cX3_says 77 = .ok (.iastore, 1) := by decide +kernel
theorem dX3_says_78 : decode cX3_says 78 = .ok (.aload_n 0, 1) := by decide +kernel
theorem dX3_says_79 : decode cX3_says 79 = .ok (.getfield 15, 3) := by decide +kernel
theorem dX3_says_82 : decode cX3_says 82 = .ok (.iconst 4, 1) := by decide +kernel
theorem dX3_says_83 : decode cX3_says 83 = .ok (.iload 5, 2) := by decide +kernel
theorem dX3_says_85 : decode cX3_says 85 = .ok (.iastore, 1) := by decide +kernel
theorem dX3_says_86 : decode cX3_says 86 = .ok (.aload_n 0, 1) := by decide +kernel
theorem dX3_says_87 : decode cX3_says 87 = .ok (.getfield 15, 3) := by decide +kernel
theorem dX3_says_90 : decode cX3_says 90 = .ok (.iconst 5, 1) := by decide +kernel
theorem dX3_says_91 : decode cX3_says 91 = .ok (.iload 6, 2) := by decide +kernel
theorem dX3_says_93 : decode cX3_says 93 = .ok (.iastore, 1) := by decide +kernel
theorem dX3_says_94 : decode cX3_says 94 = .ok (.iconst 0, 1) := by decide +kernel
theorem dX3_says_95 : decode cX3_says 95 = .ok (.istore 7, 2) := by decide +kernel
theorem dX3_says_97 : decode cX3_says 97 = .ok (.iconst 0, 1) := by decide +kernel
theorem dX3_says_98 : decode cX3_says 98 = .ok (.aload_n 0, 1) := by decide +kernel
theorem dX3_says_99 : decode cX3_says 99 = .ok (.getfield 29, 3) := by decide +kernel
theorem dX3_says_102 : decode cX3_says 102 = .ok (.iload_n 1, 1) := by decide +kernel
theorem dX3_says_103 : decode cX3_says 103 = .ok (.iaload, 1) := by decide +kernel
theorem dX3_says_104 : decode cX3_says 104 = .ok (.invokestatic 45, 3) := by decide +kernel
theorem dX3_says_107 : decode cX3_says 107 = .ok (.istore 8, 2) := by decide +kernel
theorem dX3_says_109 : decode cX3_says 109 = .ok (.iload 8, 2) := by decide +kernel
theorem dX3_says_111 : decode cX3_says 111 = .ok (.aload_n 0, 1) := by decide +kernel
theorem dX3_says_112 : decode cX3_says 112 = .ok (.getfield 29, 3) := by decide +kernel
theorem dX3_says_115 : decode cX3_says 115 = .ok (.iload_n 1, 1) := by decide +kernel
theorem dX3_says_116 : decode cX3_says 116 = .ok (.iconst 1, 1) := by decide +kernel
theorem dX3_says_117 : decode cX3_says 117 = .ok (.iadd, 1) := by decide +kernel
theorem dX3_says_118 : decode cX3_says 118 = .ok (.iaload, 1) := by decide +kernel
theorem dX3_says_119 : decode cX3_says 119 = .ok (.if_icmp .ge 122, 3) := by decide +kernel
theorem dX3_says_122 : decode cX3_says 122 = .ok (.iload 8, 2) := by decide +kernel
theorem dX3_says_124 : decode cX3_says 124 = .ok (.aload_n 0, 1) := by decide +kernel
theorem dX3_says_125 : decode cX3_says 125 = .ok (.getfield 26, 3) := by decide +kernel
theorem dX3_says_128 : decode cX3_says 128 = .ok (.arraylength, 1) := by decide +kernel
theorem dX3_says_129 : decode cX3_says 129 = .ok (.if_icmp .ge 112, 3) := by decide +kernel
theorem dX3_says_132 : decode cX3_says 132 = .ok (.aload_n 0, 1) := by decide +kernel
theorem dX3_says_133 : decode cX3_says 133 = .ok (.getfield 26, 3) := by decide +kernel
theorem dX3_says_136 : decode cX3_says 136 = .ok (.iload 8, 2) := by decide +kernel
theorem dX3_says_138 : decode cX3_says 138 = .ok (.iaload, 1) := by decide +kernel
theorem dX3_says_139 : decode cX3_says 139 = .ok (.istore 9, 2) := by decide +kernel
theorem dX3_says_141 : decode cX3_says 141 = .ok (.iload 9, 2) := by decide +kernel
theorem dX3_says_143 : decode cX3_says 143 = .ok (.bipush (-6), 2) := by decide +kernel
theorem dX3_says_145 : decode cX3_says 145 = .ok (.if_icmp .lt 7, 3) := by decide +kernel
theorem dX3_says_148 : decode cX3_says 148 = .ok (.iconst 0, 1) := by decide +kernel
theorem dX3_says_149 : decode cX3_says 149 = .ok (.goto 15, 3) := by decide +kernel
theorem dX3_says_152 : decode cX3_says 152 = .ok (.iload 9, 2) := by decide +kernel
theorem dX3_says_154 : decode cX3_says 154 = .ok (.bipush (-19), 2) := by decide +kernel
theorem dX3_says_156 : decode cX3_says 156 = .ok (.if_icmp .lt 7, 3) := by decide +kernel
theorem dX3_says_159 : decode cX3_says 159 = .ok (.iconst 2, 1) := by decide +kernel
theorem dX3_says_160 : decode cX3_says 160 = .ok (.goto 4, 3) := by decide +kernel
theorem dX3_says_163 : decode cX3_says 163 = .ok (.iconst 1, 1) := by decide +kernel
theorem dX3_says_164 : decode cX3_says 164 = .ok (.istore 10, 2) := by decide +kernel
theorem dX3_says_166 : decode cX3_says 166 = .ok (.iload 7, 2) := by decide +kernel
theorem dX3_says_168 : decode cX3_says 168 = .ok (.iload 10, 2) := by decide +kernel
theorem dX3_says_170 : decode cX3_says 170 = .ok (.isub, 1) := by decide +kernel
theorem dX3_says_171 : decode cX3_says 171 = .ok (.istore 11, 2) := by decide +kernel
theorem dX3_says_173 : decode cX3_says 173 = .ok (.iload 11, 2) := by decide +kernel
theorem dX3_says_175 : decode cX3_says 175 = .ok (.ifCond .lt 10, 3) := by decide +kernel
theorem dX3_says_178 : decode cX3_says 178 = .ok (.iload 7, 2) := by decide +kernel
theorem dX3_says_180 : decode cX3_says 180 = .ok (.bipush 40, 2) := by decide +kernel
theorem dX3_says_182 : decode cX3_says 182 = .ok (.if_icmp .lt 5, 3) := by decide +kernel
theorem dX3_says_185 : decode cX3_says 185 = .ok (.iconst 0, 1) := by decide +kernel
theorem dX3_says_186 : decode cX3_says 186 = .ok (.ireturn, 1) := by decide +kernel
theorem dX3_says_187 : decode cX3_says 187 = .ok (.aload_n 0, 1) := by decide +kernel
theorem dX3_says_188 : decode cX3_says 188 = .ok (.getfield 11, 3) := by decide +kernel
theorem dX3_says_191 : decode cX3_says 191 = .ok (.iload 11, 2) := by decide +kernel
theorem dX3_says_193 : decode cX3_says 193 = .ok (.iload 10, 2) := by decide +kernel
theorem dX3_says_195 : decode cX3_says 195 = .ok (.ifCond .ne 12, 3) := by decide +kernel
theorem dX3_says_198 : decode cX3_says 198 = .ok (.aload_n 0, 1) := by decide +kernel
theorem dX3_says_199 : decode cX3_says 199 = .ok (.iload 9, 2) := by decide +kernel
theorem dX3_says_201 : decode cX3_says 201 = .ok (.invokevirtual 50, 3) := by decide +kernel
theorem dX3_says_204 : decode cX3_says 204 = .ok (.goto 24, 3) := by decide +kernel
theorem dX3_says_207 : decode cX3_says 207 = .ok (.iload 9, 2) := by decide +kernel
theorem dX3_says_209 : decode cX3_says 209 = .ok (.aload_n 0, 1) := by decide +kernel
theorem dX3_says_210 : decode cX3_says 210 = .ok (.getfield 11, 3) := by decide +kernel
theorem dX3_says_213 : decode cX3_says 213 = .ok (.iload 11, 2) := by decide +kernel
theorem dX3_says_215 : decode cX3_says 215 = .ok (.iaload, 1) := by decide +kernel
theorem dX3_says_216 : decode cX3_says 216 = .ok (.aload_n 0, 1) := by decide +kernel
theorem dX3_says_217 : decode cX3_says 217 = .ok (.getfield 11, 3) := by decide +kernel
theorem dX3_says_220 : decode cX3_says 220 = .ok (.iload 7, 2) := by decide +kernel
theorem dX3_says_222 : decode cX3_says 222 = .ok (.iconst 1, 1) := by decide +kernel
theorem dX3_says_223 : decode cX3_says 223 = .ok (.isub, 1) := by decide +kernel
theorem dX3_says_224 : decode cX3_says 224 = .ok (.iaload, 1) := by decide +kernel
theorem dX3_says_225 : decode cX3_says 225 = .ok (.invokestatic 54, 3) := by decide +kernel
theorem dX3_says_228 : decode cX3_says 228 = .ok (.iastore, 1) := by decide +kernel
theorem dX3_says_229 : decode cX3_says 229 = .ok (.iload 11, 2) := by decide +kernel
theorem dX3_says_231 : decode cX3_says 231 = .ok (.iconst 1, 1) := by decide +kernel
theorem dX3_says_232 : decode cX3_says 232 = .ok (.iadd, 1) := by decide +kernel
theorem dX3_says_233 : decode cX3_says 233 = .ok (.istore 7, 2) := by decide +kernel
theorem dX3_says_235 : decode cX3_says 235 = .ok (.iinc 8 1, 3) := by decide +kernel
theorem dX3_says_238 : decode cX3_says 238 = .ok (.goto (-129), 3) := by decide +kernel
theorem dX3_says_241 : decode cX3_says 241 = .ok (.iload_n 1, 1) := by decide +kernel
theorem dX3_says_242 : decode cX3_says 242 = .ok (.iload 7, 2) := by decide +kernel
theorem dX3_says_244 : decode cX3_says 244 = .ok (.iconst 1, 1) := by decide +kernel
theorem dX3_says_245 : decode cX3_says 245 = .ok (.if_icmp .ne 12, 3) := by decide +kernel
theorem dX3_says_248 : decode cX3_says 248 = .ok (.aload_n 0, 1) := by decide +kernel
theorem dX3_says_249 : decode cX3_says 249 = .ok (.getfield 11, 3) := by decide +kernel
theorem dX3_says_252 : decode cX3_says 252 = .ok (.iconst 0, 1) := by decide +kernel
theorem dX3_says_253 : decode cX3_says 253 = .ok (.iaload, 1) := by decide +kernel
theorem dX3_says_254 : decode cX3_says 254 = .ok (.goto 4, 3) := by decide +kernel
theorem dX3_says_257 : decode cX3_says 257 = .ok (.iconst 0, 1) := by decide +kernel
theorem dX3_says_258 : decode cX3_says 258 = .ok (.invokestatic 32, 3) := by decide +kernel
theorem dX3_says_261 : decode cX3_says 261 = .ok (.ireturn, 1) := by decide +kernel
theorem dX3_bounded_0 : decode cX3_bounded 0 = .ok (.iload_n 0, 1) := by decide +kernel
theorem dX3_bounded_1 : decode cX3_bounded 1 = .ok (.iconst 2, 1) := by decide +kernel
theorem dX3_bounded_2 : decode cX3_bounded 2 = .ok (.if_icmp .ne 16, 3) := by decide +kernel
theorem dX3_bounded_5 : decode cX3_bounded 5 = .ok (.bipush 99, 2) := by decide +kernel
theorem dX3_bounded_7 : decode cX3_bounded 7 = .ok (.iconst 0, 1) := by decide +kernel
theorem dX3_bounded_8 : decode cX3_bounded 8 = .ok (.iload_n 1, 1) := by decide +kernel
theorem dX3_bounded_9 : decode cX3_bounded 9 = .ok (.invokestatic 45, 3) := by decide +kernel
theorem dX3_bounded_12 : decode cX3_bounded 12 = .ok (.invokestatic 58, 3) := by decide +kernel
theorem dX3_bounded_15 : decode cX3_bounded 15 = .ok (.goto 13, 3) := by decide +kernel
theorem dX3_bounded_18 : decode cX3_bounded 18 = .ok (.bipush 20, 2) := by decide +kernel
theorem dX3_bounded_20 : decode cX3_bounded 20 = .ok (.iconst 1, 1) := by decide +kernel
theorem dX3_bounded_21 : decode cX3_bounded 21 = .ok (.iload_n 1, 1) := by decide +kernel
theorem dX3_bounded_22 : decode cX3_bounded 22 = .ok (.invokestatic 45, 3) := by decide +kernel
theorem dX3_bounded_25 : decode cX3_bounded 25 = .ok (.invokestatic 58, 3) := by decide +kernel
theorem dX3_bounded_28 : decode cX3_bounded 28 = .ok (.ireturn, 1) := by decide +kernel
theorem dX3_read_0 : decode cX3_read 0 = .ok (.iconst (-1), 1) := by decide +kernel
theorem dX3_read_1 : decode cX3_read 1 = .ok (.iload_n 1, 1) := by decide +kernel
theorem dX3_read_2 : decode cX3_read 2 = .ok (.isub, 1) := by decide +kernel
theorem dX3_read_3 : decode cX3_read 3 = .ok (.istore_n 2, 1) := by decide +kernel
theorem dX3_read_4 : decode cX3_read 4 = .ok (.iload_n 2, 1) := by decide +kernel
theorem dX3_read_5 : decode cX3_read 5 = .ok (.ifCond .lt 18, 3) := by decide +kernel
theorem dX3_read_8 : decode cX3_read 8 = .ok (.iload_n 2, 1) := by decide +kernel
theorem dX3_read_9 : decode cX3_read 9 = .ok (.bipush 6, 2) := by decide +kernel
theorem dX3_read_11 : decode cX3_read 11 = .ok (.if_icmp .ge 12, 3) := by decide +kernel
theorem dX3_read_14 : decode cX3_read 14 = .ok (.aload_n 0, 1) := by decide +kernel
theorem dX3_read_15 : decode cX3_read 15 = .ok (.getfield 15, 3) := by decide +kernel
theorem dX3_read_18 : decode cX3_read 18 = .ok (.iload_n 2, 1) := by decide +kernel
theorem dX3_read_19 : decode cX3_read 19 = .ok (.iaload, 1) := by decide +kernel
theorem dX3_read_20 : decode cX3_read 20 = .ok (.goto 4, 3) := by decide +kernel
theorem dX3_read_23 : decode cX3_read 23 = .ok (.iload_n 1, 1) := by decide +kernel
theorem dX3_read_24 : decode cX3_read 24 = .ok (.ireturn, 1) := by decide +kernel
theorem dX3_worked_0 : decode cX3_worked 0 = .ok (.iload_n 0, 1) := by decide +kernel
theorem dX3_worked_1 : decode cX3_worked 1 = .ok (.tableswitch 131 (-21) (-11) #[121, 131, 131, 131, 117, 113, 109, 98, 87, 73, 59], 59) := by decide +kernel
theorem dX3_worked_60 : decode cX3_worked 60 = .ok (.iload_n 1, 1) := by decide +kernel
theorem dX3_worked_61 : decode cX3_worked 61 = .ok (.ifCond .ne 7, 3) := by decide +kernel
theorem dX3_worked_64 : decode cX3_worked 64 = .ok (.iload_n 2, 1) := by decide +kernel
theorem dX3_worked_65 : decode cX3_worked 65 = .ok (.ifCond .eq 7, 3) := by decide +kernel
theorem dX3_worked_68 : decode cX3_worked 68 = .ok (.iconst 1, 1) := by decide +kernel
theorem dX3_worked_69 : decode cX3_worked 69 = .ok (.goto 4, 3) := by decide +kernel
theorem dX3_worked_72 : decode cX3_worked 72 = .ok (.iconst 0, 1) := by decide +kernel
theorem dX3_worked_73 : decode cX3_worked 73 = .ok (.ireturn, 1) := by decide +kernel
theorem dX3_worked_74 : decode cX3_worked 74 = .ok (.iload_n 1, 1) := by decide +kernel
theorem dX3_worked_75 : decode cX3_worked 75 = .ok (.ifCond .eq 11, 3) := by decide +kernel
theorem dX3_worked_78 : decode cX3_worked 78 = .ok (.iload_n 2, 1) := by decide +kernel
theorem dX3_worked_79 : decode cX3_worked 79 = .ok (.ifCond .eq 7, 3) := by decide +kernel
theorem dX3_worked_82 : decode cX3_worked 82 = .ok (.iconst 1, 1) := by decide +kernel
theorem dX3_worked_83 : decode cX3_worked 83 = .ok (.goto 4, 3) := by decide +kernel
theorem dX3_worked_86 : decode cX3_worked 86 = .ok (.iconst 0, 1) := by decide +kernel
theorem dX3_worked_87 : decode cX3_worked 87 = .ok (.ireturn, 1) := by decide +kernel
theorem dX3_worked_88 : decode cX3_worked 88 = .ok (.iload_n 1, 1) := by decide +kernel
theorem dX3_worked_89 : decode cX3_worked 89 = .ok (.iload_n 2, 1) := by decide +kernel
theorem dX3_worked_90 : decode cX3_worked 90 = .ok (.if_icmp .ge 7, 3) := by decide +kernel
theorem dX3_worked_93 : decode cX3_worked 93 = .ok (.iconst 1, 1) := by decide +kernel
theorem dX3_worked_94 : decode cX3_worked 94 = .ok (.goto 4, 3) := by decide +kernel
theorem dX3_worked_97 : decode cX3_worked 97 = .ok (.iconst 0, 1) := by decide +kernel
theorem dX3_worked_98 : decode cX3_worked 98 = .ok (.ireturn, 1) := by decide +kernel
theorem dX3_worked_99 : decode cX3_worked 99 = .ok (.iload_n 1, 1) := by decide +kernel
theorem dX3_worked_100 : decode cX3_worked 100 = .ok (.iload_n 2, 1) := by decide +kernel
theorem dX3_worked_101 : decode cX3_worked 101 = .ok (.if_icmp .ne 7, 3) := by decide +kernel
theorem dX3_worked_104 : decode cX3_worked 104 = .ok (.iconst 1, 1) := by decide +kernel
theorem dX3_worked_105 : decode cX3_worked 105 = .ok (.goto 4, 3) := by decide +kernel
theorem dX3_worked_108 : decode cX3_worked 108 = .ok (.iconst 0, 1) := by decide +kernel
theorem dX3_worked_109 : decode cX3_worked 109 = .ok (.ireturn, 1) := by decide +kernel
theorem dX3_worked_110 : decode cX3_worked 110 = .ok (.iload_n 1, 1) := by decide +kernel
theorem dX3_worked_111 : decode cX3_worked 111 = .ok (.iload_n 2, 1) := by decide +kernel
theorem dX3_worked_112 : decode cX3_worked 112 = .ok (.iadd, 1) := by decide +kernel
theorem dX3_worked_113 : decode cX3_worked 113 = .ok (.ireturn, 1) := by decide +kernel
theorem dX3_worked_114 : decode cX3_worked 114 = .ok (.iload_n 1, 1) := by decide +kernel
theorem dX3_worked_115 : decode cX3_worked 115 = .ok (.iload_n 2, 1) := by decide +kernel
theorem dX3_worked_116 : decode cX3_worked 116 = .ok (.isub, 1) := by decide +kernel
theorem dX3_worked_117 : decode cX3_worked 117 = .ok (.ireturn, 1) := by decide +kernel
theorem dX3_worked_118 : decode cX3_worked 118 = .ok (.iload_n 1, 1) := by decide +kernel
theorem dX3_worked_119 : decode cX3_worked 119 = .ok (.iload_n 2, 1) := by decide +kernel
theorem dX3_worked_120 : decode cX3_worked 120 = .ok (.imul, 1) := by decide +kernel
theorem dX3_worked_121 : decode cX3_worked 121 = .ok (.ireturn, 1) := by decide +kernel
theorem dX3_worked_122 : decode cX3_worked 122 = .ok (.iload_n 2, 1) := by decide +kernel
theorem dX3_worked_123 : decode cX3_worked 123 = .ok (.ifCond .ne 7, 3) := by decide +kernel
theorem dX3_worked_126 : decode cX3_worked 126 = .ok (.iconst 1, 1) := by decide +kernel
theorem dX3_worked_127 : decode cX3_worked 127 = .ok (.goto 4, 3) := by decide +kernel
theorem dX3_worked_130 : decode cX3_worked 130 = .ok (.iconst 0, 1) := by decide +kernel
theorem dX3_worked_131 : decode cX3_worked 131 = .ok (.ireturn, 1) := by decide +kernel
theorem dX3_worked_132 : decode cX3_worked 132 = .ok (.iload_n 2, 1) := by decide +kernel
theorem dX3_worked_133 : decode cX3_worked 133 = .ok (.ineg, 1) := by decide +kernel
theorem dX3_worked_134 : decode cX3_worked 134 = .ok (.ireturn, 1) := by decide +kernel
theorem dX4_init_0 : decode cX4_init 0 = .ok (.aload_n 0, 1) := by decide +kernel
theorem dX4_init_1 : decode cX4_init 1 = .ok (.iload_n 1, 1) := by decide +kernel
theorem dX4_init_2 : decode cX4_init 2 = .ok (.iload_n 2, 1) := by decide +kernel
theorem dX4_init_3 : decode cX4_init 3 = .ok (.iload_n 3, 1) := by decide +kernel
theorem dX4_init_4 : decode cX4_init 4 = .ok (.invokespecial 1, 3) := by decide +kernel
theorem dX4_init_7 : decode cX4_init 7 = .ok (.return_, 1) := by decide +kernel
theorem dX4_kind_0 : decode cX4_kind 0 = .ok (.iconst 3, 1) := by decide +kernel
theorem dX4_kind_1 : decode cX4_kind 1 = .ok (.ireturn, 1) := by decide +kernel
theorem dX4_takesFor_0 : decode cX4_takesFor 0 = .ok (.aload_n 0, 1) := by decide +kernel
theorem dX4_takesFor_1 : decode cX4_takesFor 1 = .ok (.iload_n 1, 1) := by decide +kernel
theorem dX4_takesFor_2 : decode cX4_takesFor 2 = .ok (.iload_n 2, 1) := by decide +kernel
theorem dX4_takesFor_3 : decode cX4_takesFor 3 = .ok (.invokespecial 11, 3) := by decide +kernel
theorem dX4_takesFor_6 : decode cX4_takesFor 6 = .ok (.iconst 1, 1) := by decide +kernel
theorem dX4_takesFor_7 : decode cX4_takesFor 7 = .ok (.iadd, 1) := by decide +kernel
theorem dX4_takesFor_8 : decode cX4_takesFor 8 = .ok (.ireturn, 1) := by decide +kernel
theorem dX4_waits_0 : decode cX4_waits 0 = .ok (.iconst 0, 1) := by decide +kernel
theorem dX4_waits_1 : decode cX4_waits 1 = .ok (.ireturn, 1) := by decide +kernel
theorem dX5_init_0 : decode cX5_init 0 = .ok (.aload_n 0, 1) := by decide +kernel
theorem dX5_init_1 : decode cX5_init 1 = .ok (.iload_n 1, 1) := by decide +kernel
theorem dX5_init_2 : decode cX5_init 2 = .ok (.iload_n 2, 1) := by decide +kernel
theorem dX5_init_3 : decode cX5_init 3 = .ok (.iload_n 3, 1) := by decide +kernel
theorem dX5_init_4 : decode cX5_init 4 = .ok (.invokespecial 1, 3) := by decide +kernel
theorem dX5_init_7 : decode cX5_init 7 = .ok (.return_, 1) := by decide +kernel
theorem dX5_kind_0 : decode cX5_kind 0 = .ok (.iconst 1, 1) := by decide +kernel
theorem dX5_kind_1 : decode cX5_kind 1 = .ok (.ireturn, 1) := by decide +kernel
theorem dX5_stepFor_0 : decode cX5_stepFor 0 = .ok (.iload_n 1, 1) := by decide +kernel
theorem dX5_stepFor_1 : decode cX5_stepFor 1 = .ok (.aload_n 0, 1) := by decide +kernel
theorem dX5_stepFor_2 : decode cX5_stepFor 2 = .ok (.getfield 11, 3) := by decide +kernel
theorem dX5_stepFor_5 : decode cX5_stepFor 5 = .ok (.iconst 3, 1) := by decide +kernel
theorem dX5_stepFor_6 : decode cX5_stepFor 6 = .ok (.idiv, 1) := by decide +kernel
theorem dX5_stepFor_7 : decode cX5_stepFor 7 = .ok (.isub, 1) := by decide +kernel
theorem dX5_stepFor_8 : decode cX5_stepFor 8 = .ok (.ireturn, 1) := by decide +kernel
theorem dX6_init_0 : decode cX6_init 0 = .ok (.aload_n 0, 1) := by decide +kernel
theorem dX6_init_1 : decode cX6_init 1 = .ok (.invokespecial 3, 3) := by decide +kernel
theorem dX6_init_4 : decode cX6_init 4 = .ok (.aload_n 0, 1) := by decide +kernel
theorem dX6_init_5 : decode cX6_init 5 = .ok (.iconst (-1), 1) := by decide +kernel
theorem dX6_init_6 : decode cX6_init 6 = .ok (.putfield 9, 3) := by decide +kernel
theorem dX6_init_9 : decode cX6_init 9 = .ok (.aload_n 0, 1) := by decide +kernel
theorem dX6_init_10 : decode cX6_init 10 = .ok (.bipush 40, 2) := by decide +kernel
theorem dX6_init_12 : decode cX6_init 12 = .ok (.newarray .int, 2) := by decide +kernel
theorem dX6_init_14 : decode cX6_init 14 = .ok (.putfield 15, 3) := by decide +kernel
theorem dX6_init_17 : decode cX6_init 17 = .ok (.return_, 1) := by decide +kernel
theorem dX6_become_0 : decode cX6_become 0 = .ok (.aload_n 0, 1) := by decide +kernel
theorem dX6_become_1 : decode cX6_become 1 = .ok (.iload_n 1, 1) := by decide +kernel
theorem dX6_become_2 : decode cX6_become 2 = .ok (.putfield 9, 3) := by decide +kernel
theorem dX6_become_5 : decode cX6_become 5 = .ok (.aload_n 0, 1) := by decide +kernel
theorem dX6_become_6 : decode cX6_become 6 = .ok (.iconst 0, 1) := by decide +kernel
theorem dX6_become_7 : decode cX6_become 7 = .ok (.iload_n 2, 1) := by decide +kernel
theorem dX6_become_8 : decode cX6_become 8 = .ok (.bipush 40, 2) := by decide +kernel
theorem dX6_become_10 : decode cX6_become 10 = .ok (.invokestatic 19, 3) := by decide +kernel
theorem dX6_become_13 : decode cX6_become 13 = .ok (.invokestatic 25, 3) := by decide +kernel
theorem dX6_become_16 : decode cX6_become 16 = .ok (.putfield 28, 3) := by decide +kernel
theorem dX6_become_19 : decode cX6_become 19 = .ok (.aload_n 0, 1) := by decide +kernel
theorem dX6_become_20 : decode cX6_become 20 = .ok (.getfield 15, 3) := by decide +kernel
theorem dX6_become_23 : decode cX6_become 23 = .ok (.iconst 0, 1) := by decide +kernel
theorem dX6_become_24 : decode cX6_become 24 = .ok (.invokestatic 31, 3) := by decide +kernel
theorem dX6_become_27 : decode cX6_become 27 = .ok (.return_, 1) := by decide +kernel
theorem dX6_missing_0 : decode cX6_missing 0 = .ok (.aload_n 0, 1) := by decide +kernel
theorem dX6_missing_1 : decode cX6_missing 1 = .ok (.getfield 9, 3) := by decide +kernel
theorem dX6_missing_4 : decode cX6_missing 4 = .ok (.iconst (-1), 1) := by decide +kernel
theorem dX6_missing_5 : decode cX6_missing 5 = .ok (.if_icmp .ne 7, 3) := by decide +kernel
theorem dX6_missing_8 : decode cX6_missing 8 = .ok (.iconst 1, 1) := by decide +kernel
theorem dX6_missing_9 : decode cX6_missing 9 = .ok (.goto 4, 3) := by decide +kernel
theorem dX6_missing_12 : decode cX6_missing 12 = .ok (.iconst 0, 1) := by decide +kernel
theorem dX6_missing_13 : decode cX6_missing 13 = .ok (.ireturn, 1) := by decide +kernel
theorem dX6_holds_0 : decode cX6_holds 0 = .ok (.iload_n 1, 1) := by decide +kernel
theorem dX6_holds_1 : decode cX6_holds 1 = .ok (.ifCond .lt 21, 3) := by decide +kernel
theorem dX6_holds_4 : decode cX6_holds 4 = .ok (.iload_n 2, 1) := by decide +kernel
theorem dX6_holds_5 : decode cX6_holds 5 = .ok (.ifCond .lt 17, 3) := by decide +kernel
theorem dX6_holds_8 : decode cX6_holds 8 = .ok (.iload_n 1, 1) := by decide +kernel
theorem dX6_holds_9 : decode cX6_holds 9 = .ok (.aload_n 0, 1) := by decide +kernel
theorem dX6_holds_10 : decode cX6_holds 10 = .ok (.getfield 28, 3) := by decide +kernel
theorem dX6_holds_13 : decode cX6_holds 13 = .ok (.iload_n 2, 1) := by decide +kernel
theorem dX6_holds_14 : decode cX6_holds 14 = .ok (.isub, 1) := by decide +kernel
theorem dX6_holds_15 : decode cX6_holds 15 = .ok (.if_icmp .gt 7, 3) := by decide +kernel
theorem dX6_holds_18 : decode cX6_holds 18 = .ok (.iconst 1, 1) := by decide +kernel
theorem dX6_holds_19 : decode cX6_holds 19 = .ok (.goto 4, 3) := by decide +kernel
theorem dX6_holds_22 : decode cX6_holds 22 = .ok (.iconst 0, 1) := by decide +kernel
theorem dX6_holds_23 : decode cX6_holds 23 = .ok (.ireturn, 1) := by decide +kernel
theorem dX6_put_0 : decode cX6_put 0 = .ok (.aload_n 0, 1) := by decide +kernel
theorem dX6_put_1 : decode cX6_put 1 = .ok (.iload_n 1, 1) := by decide +kernel
theorem dX6_put_2 : decode cX6_put 2 = .ok (.iconst 1, 1) := by decide +kernel
theorem dX6_put_3 : decode cX6_put 3 = .ok (.invokevirtual 37, 3) := by decide +kernel
theorem dX6_put_6 : decode cX6_put 6 = .ok (.ifCond .eq 35, 3) := by decide +kernel
theorem dX6_put_9 : decode cX6_put 9 = .ok (.aload_n 0, 1) := by decide +kernel
theorem dX6_put_10 : decode cX6_put 10 = .ok (.getfield 15, 3) := by decide +kernel
theorem dX6_put_13 : decode cX6_put 13 = .ok (.iload_n 1, 1) := by decide +kernel
theorem dX6_put_14 : decode cX6_put 14 = .ok (.aload_n 0, 1) := by decide +kernel
theorem dX6_put_15 : decode cX6_put 15 = .ok (.getfield 9, 3) := by decide +kernel
theorem dX6_put_18 : decode cX6_put 18 = .ok (.ifCond .ne 8, 3) := by decide +kernel
theorem dX6_put_21 : decode cX6_put 21 = .ok (.iload_n 2, 1) := by decide +kernel
theorem dX6_put_22 : decode cX6_put 22 = .ok (.i2b, 1) := by decide +kernel
theorem dX6_put_23 : decode cX6_put 23 = .ok (.goto 17, 3) := by decide +kernel
theorem dX6_put_26 : decode cX6_put 26 = .ok (.aload_n 0, 1) := by decide +kernel
theorem dX6_put_27 : decode cX6_put 27 = .ok (.getfield 9, 3) := by decide +kernel
theorem dX6_put_30 : decode cX6_put 30 = .ok (.iconst 1, 1) := by decide +kernel
theorem dX6_put_31 : decode cX6_put 31 = .ok (.if_icmp .ne 8, 3) := by decide +kernel
theorem dX6_put_34 : decode cX6_put 34 = .ok (.iload_n 2, 1) := by decide +kernel
theorem dX6_put_35 : decode cX6_put 35 = .ok (.i2s, 1) := by decide +kernel
theorem dX6_put_36 : decode cX6_put 36 = .ok (.goto 4, 3) := by decide +kernel
theorem dX6_put_39 : decode cX6_put 39 = .ok (.iload_n 2, 1) := by decide +kernel
theorem dX6_put_40 : decode cX6_put 40 = .ok (.iastore, 1) := by decide +kernel
theorem dX6_put_41 : decode cX6_put 41 = .ok (.return_, 1) := by decide +kernel
theorem dX7_init_0 : decode cX7_init 0 = .ok (.aload_n 0, 1) := by decide +kernel
theorem dX7_init_1 : decode cX7_init 1 = .ok (.invokespecial 3, 3) := by decide +kernel
theorem dX7_init_4 : decode cX7_init 4 = .ok (.aload_n 0, 1) := by decide +kernel
theorem dX7_init_5 : decode cX7_init 5 = .ok (.sipush 160, 3) := by decide +kernel
theorem dX7_init_8 : decode cX7_init 8 = .ok (.newarray .int, 2) := by decide +kernel
theorem dX7_init_10 : decode cX7_init 10 = .ok (.putfield 9, 3) := by decide +kernel
theorem dX7_init_13 : decode cX7_init 13 = .ok (.aload_n 0, 1) := by decide +kernel
theorem dX7_init_14 : decode cX7_init 14 = .ok (.sipush 160, 3) := by decide +kernel
theorem dX7_init_17 : decode cX7_init 17 = .ok (.newarray .int, 2) := by decide +kernel
theorem dX7_init_19 : decode cX7_init 19 = .ok (.putfield 15, 3) := by decide +kernel
theorem dX7_init_22 : decode cX7_init 22 = .ok (.aload_n 0, 1) := by decide +kernel
theorem dX7_init_23 : decode cX7_init 23 = .ok (.iconst 4, 1) := by decide +kernel
theorem dX7_init_24 : decode cX7_init 24 = .ok (.newarray .int, 2) := by decide +kernel
theorem dX7_init_26 : decode cX7_init 26 = .ok (.putfield 20, 3) := by decide +kernel
theorem dX7_init_29 : decode cX7_init 29 = .ok (.return_, 1) := by decide +kernel
theorem dX7_add_0 : decode cX7_add 0 = .ok (.aload_n 0, 1) := by decide +kernel
theorem dX7_add_1 : decode cX7_add 1 = .ok (.getfield 23, 3) := by decide +kernel
theorem dX7_add_4 : decode cX7_add 4 = .ok (.ifCond .lt 33, 3) := by decide +kernel
theorem dX7_add_7 : decode cX7_add 7 = .ok (.aload_n 0, 1) := by decide +kernel
theorem dX7_add_8 : decode cX7_add 8 = .ok (.getfield 23, 3) := by decide +kernel
theorem dX7_add_11 : decode cX7_add 11 = .ok (.sipush 160, 3) := by decide +kernel
theorem dX7_add_14 : decode cX7_add 14 = .ok (.if_icmp .ge 23, 3) := by decide +kernel
theorem dX7_add_17 : decode cX7_add 17 = .ok (.aload_n 0, 1) := by decide +kernel
theorem dX7_add_18 : decode cX7_add 18 = .ok (.getfield 9, 3) := by decide +kernel
theorem dX7_add_21 : decode cX7_add 21 = .ok (.aload_n 0, 1) := by decide +kernel
theorem dX7_add_22 : decode cX7_add 22 = .ok (.getfield 23, 3) := by decide +kernel
theorem dX7_add_25 : decode cX7_add 25 = .ok (.iload_n 1, 1) := by decide +kernel
theorem dX7_add_26 : decode cX7_add 26 = .ok (.iastore, 1) := by decide +kernel
theorem dX7_add_27 : decode cX7_add 27 = .ok (.aload_n 0, 1) := by decide +kernel
theorem dX7_add_28 : decode cX7_add 28 = .ok (.dup, 1) := by decide +kernel
theorem dX7_add_29 : decode cX7_add 29 = .ok (.getfield 23, 3) := by decide +kernel
theorem dX7_add_32 : decode cX7_add 32 = .ok (.iconst 1, 1) := by decide +kernel
theorem dX7_add_33 : decode cX7_add 33 = .ok (.iadd, 1) := by decide +kernel
theorem dX7_add_34 : decode cX7_add 34 = .ok (.putfield 23, 3) := by decide +kernel
theorem dX7_add_37 : decode cX7_add 37 = .ok (.return_, 1) := by decide +kernel
theorem dX7_read_0 : decode cX7_read 0 = .ok (.aload_n 0, 1) := by decide +kernel
theorem dX7_read_1 : decode cX7_read 1 = .ok (.iconst 0, 1) := by decide +kernel
theorem dX7_read_2 : decode cX7_read 2 = .ok (.putfield 27, 3) := by decide +kernel
theorem dX7_read_5 : decode cX7_read 5 = .ok (.aload_n 0, 1) := by decide +kernel
theorem dX7_read_6 : decode cX7_read 6 = .ok (.iconst (-1), 1) := by decide +kernel
theorem dX7_read_7 : decode cX7_read 7 = .ok (.putfield 30, 3) := by decide +kernel
theorem dX7_read_10 : decode cX7_read 10 = .ok (.aload_n 0, 1) := by decide +kernel
theorem dX7_read_11 : decode cX7_read 11 = .ok (.iconst 0, 1) := by decide +kernel
theorem dX7_read_12 : decode cX7_read 12 = .ok (.putfield 33, 3) := by decide +kernel
theorem dX7_read_15 : decode cX7_read 15 = .ok (.aload_n 0, 1) := by decide +kernel
theorem dX7_read_16 : decode cX7_read 16 = .ok (.invokevirtual 36, 3) := by decide +kernel
theorem dX7_read_19 : decode cX7_read 19 = .ok (.aload_n 0, 1) := by decide +kernel
theorem dX7_read_20 : decode cX7_read 20 = .ok (.iconst 0, 1) := by decide +kernel
theorem dX7_read_21 : decode cX7_read 21 = .ok (.iconst 4, 1) := by decide +kernel
theorem dX7_read_22 : decode cX7_read 22 = .ok (.invokevirtual 39, 3) := by decide +kernel
theorem dX7_read_25 : decode cX7_read 25 = .ok (.aload_n 0, 1) := by decide +kernel
theorem dX7_read_26 : decode cX7_read 26 = .ok (.iconst 1, 1) := by decide +kernel
theorem dX7_read_27 : decode cX7_read 27 = .ok (.iconst 5, 1) := by decide +kernel
theorem dX7_read_28 : decode cX7_read 28 = .ok (.invokevirtual 39, 3) := by decide +kernel
theorem dX7_read_31 : decode cX7_read 31 = .ok (.aload_n 0, 1) := by decide +kernel
theorem dX7_read_32 : decode cX7_read 32 = .ok (.iconst 2, 1) := by decide +kernel
theorem dX7_read_33 : decode cX7_read 33 = .ok (.bipush 6, 2) := by decide +kernel
theorem dX7_read_35 : decode cX7_read 35 = .ok (.invokevirtual 39, 3) := by decide +kernel
theorem dX7_read_38 : decode cX7_read 38 = .ok (.aload_n 0, 1) := by decide +kernel
theorem dX7_read_39 : decode cX7_read 39 = .ok (.getfield 20, 3) := by decide +kernel
theorem dX7_read_42 : decode cX7_read 42 = .ok (.iconst 3, 1) := by decide +kernel
theorem dX7_read_43 : decode cX7_read 43 = .ok (.aload_n 0, 1) := by decide +kernel
theorem dX7_read_44 : decode cX7_read 44 = .ok (.getfield 33, 3) := by decide +kernel
theorem dX7_read_47 : decode cX7_read 47 = .ok (.iastore, 1) := by decide +kernel
theorem dX7_read_48 : decode cX7_read 48 = .ok (.aload_n 0, 1) := by decide +kernel
theorem dX7_read_49 : decode cX7_read 49 = .ok (.getfield 43, 3) := by decide +kernel
theorem dX7_read_52 : decode cX7_read 52 = .ok (.ifCond .eq 7, 3) := by decide +kernel
theorem dX7_read_55 : decode cX7_read 55 = .ok (.aload_n 0, 1) := by decide +kernel
theorem dX7_read_56 : decode cX7_read 56 = .ok (.invokevirtual 46, 3) := by decide +kernel
theorem dX7_read_59 : decode cX7_read 59 = .ok (.aload_n 0, 1) := by decide +kernel
theorem dX7_read_60 : decode cX7_read 60 = .ok (.getfield 30, 3) := by decide +kernel
theorem dX7_read_63 : decode cX7_read 63 = .ok (.ireturn, 1) := by decide +kernel
theorem dX7_lastRead_0 : decode cX7_lastRead 0 = .ok (.iconst 0, 1) := by decide +kernel
theorem dX7_lastRead_1 : decode cX7_lastRead 1 = .ok (.aload_n 0, 1) := by decide +kernel
theorem dX7_lastRead_2 : decode cX7_lastRead 2 = .ok (.getfield 33, 3) := by decide +kernel
theorem dX7_lastRead_5 : decode cX7_lastRead 5 = .ok (.sipush 160, 3) := by decide +kernel
theorem dX7_lastRead_8 : decode cX7_lastRead 8 = .ok (.invokestatic 49, 3) := by decide +kernel
theorem dX7_lastRead_11 : decode cX7_lastRead 11 = .ok (.invokestatic 55, 3) := by decide +kernel
theorem dX7_lastRead_14 : decode cX7_lastRead 14 = .ok (.istore_n 1, 1) := by decide +kernel
theorem dX7_lastRead_15 : decode cX7_lastRead 15 = .ok (.new 18, 3) := by decide +kernel
theorem dX7_lastRead_18 : decode cX7_lastRead 18 = .ok (.dup, 1) := by decide +kernel
theorem dX7_lastRead_19 : decode cX7_lastRead 19 = .ok (.aload_n 0, 1) := by decide +kernel
theorem dX7_lastRead_20 : decode cX7_lastRead 20 = .ok (.getfield 15, 3) := by decide +kernel
theorem dX7_lastRead_23 : decode cX7_lastRead 23 = .ok (.iload_n 1, 1) := by decide +kernel
theorem dX7_lastRead_24 : decode cX7_lastRead 24 = .ok (.invokestatic 58, 3) := by decide +kernel
theorem dX7_lastRead_27 : decode cX7_lastRead 27 = .ok (.aload_n 0, 1) := by decide +kernel
theorem dX7_lastRead_28 : decode cX7_lastRead 28 = .ok (.getfield 20, 3) := by decide +kernel
theorem dX7_lastRead_31 : decode cX7_lastRead 31 = .ok (.invokespecial 64, 3) := by decide +kernel
theorem dX7_lastRead_34 : decode cX7_lastRead 34 = .ok (.areturn, 1) := by decide +kernel
theorem dX7_readPart_0 : decode cX7_readPart 0 = .ok (.iload_n 1, 1) := by decide +kernel
theorem dX7_readPart_1 : decode cX7_readPart 1 = .ok (.ifCond .lt 18, 3) := by decide +kernel
theorem dX7_readPart_4 : decode cX7_readPart 4 = .ok (.iload_n 1, 1) := by decide +kernel
theorem dX7_readPart_5 : decode cX7_readPart 5 = .ok (.iconst 3, 1) := by decide +kernel
theorem dX7_readPart_6 : decode cX7_readPart 6 = .ok (.if_icmp .ge 13, 3) := by decide +kernel
theorem dX7_readPart_9 : decode cX7_readPart 9 = .ok (.aload_n 0, 1) := by decide +kernel
theorem dX7_readPart_10 : decode cX7_readPart 10 = .ok (.getfield 20, 3) := by decide +kernel
theorem dX7_readPart_13 : decode cX7_readPart 13 = .ok (.iload_n 1, 1) := by decide +kernel
theorem dX7_readPart_14 : decode cX7_readPart 14 = .ok (.aload_n 0, 1) := by decide +kernel
theorem dX7_readPart_15 : decode cX7_readPart 15 = .ok (.getfield 33, 3) := by decide +kernel
theorem dX7_readPart_18 : decode cX7_readPart 18 = .ok (.iastore, 1) := by decide +kernel
theorem dX7_readPart_19 : decode cX7_readPart 19 = .ok (.aload_n 0, 1) := by decide +kernel
theorem dX7_readPart_20 : decode cX7_readPart 20 = .ok (.iload_n 2, 1) := by decide +kernel
theorem dX7_readPart_21 : decode cX7_readPart 21 = .ok (.invokevirtual 67, 3) := by decide +kernel
theorem dX7_readPart_24 : decode cX7_readPart 24 = .ok (.aload_n 0, 1) := by decide +kernel
theorem dX7_readPart_25 : decode cX7_readPart 25 = .ok (.iconst 0, 1) := by decide +kernel
theorem dX7_readPart_26 : decode cX7_readPart 26 = .ok (.invokevirtual 71, 3) := by decide +kernel
theorem dX7_readPart_29 : decode cX7_readPart 29 = .ok (.aload_n 0, 1) := by decide +kernel
theorem dX7_readPart_30 : decode cX7_readPart 30 = .ok (.bipush 59, 2) := by decide +kernel
theorem dX7_readPart_32 : decode cX7_readPart 32 = .ok (.invokevirtual 67, 3) := by decide +kernel
theorem dX7_readPart_35 : decode cX7_readPart 35 = .ok (.return_, 1) := by decide +kernel
theorem dX7_readOr_0 : decode cX7_readOr 0 = .ok (.aload_n 0, 1) := by decide +kernel
theorem dX7_readOr_1 : decode cX7_readOr 1 = .ok (.iload_n 1, 1) := by decide +kernel
theorem dX7_readOr_2 : decode cX7_readOr 2 = .ok (.invokevirtual 74, 3) := by decide +kernel
theorem dX7_readOr_5 : decode cX7_readOr 5 = .ok (.iconst 0, 1) := by decide +kernel
theorem dX7_readOr_6 : decode cX7_readOr 6 = .ok (.istore_n 2, 1) := by decide +kernel
theorem dX7_readOr_7 : decode cX7_readOr 7 = .ok (.iload_n 2, 1) := by decide +kernel
theorem dX7_readOr_8 : decode cX7_readOr 8 = .ok (.sipush 160, 3) := by decide +kernel
theorem dX7_readOr_11 : decode cX7_readOr 11 = .ok (.if_icmp .ge 41, 3) := by decide +kernel
theorem dX7_readOr_14 : decode cX7_readOr 14 = .ok (.aload_n 0, 1) := by decide +kernel
theorem dX7_readOr_15 : decode cX7_readOr 15 = .ok (.getfield 43, 3) := by decide +kernel
theorem dX7_readOr_18 : decode cX7_readOr 18 = .ok (.bipush 7, 2) := by decide +kernel
theorem dX7_readOr_20 : decode cX7_readOr 20 = .ok (.if_icmp .ne 32, 3) := by decide +kernel
theorem dX7_readOr_23 : decode cX7_readOr 23 = .ok (.aload_n 0, 1) := by decide +kernel
theorem dX7_readOr_24 : decode cX7_readOr 24 = .ok (.getfield 30, 3) := by decide +kernel
theorem dX7_readOr_27 : decode cX7_readOr 27 = .ok (.iconst (-1), 1) := by decide +kernel
theorem dX7_readOr_28 : decode cX7_readOr 28 = .ok (.if_icmp .ne 24, 3) := by decide +kernel
theorem dX7_readOr_31 : decode cX7_readOr 31 = .ok (.aload_n 0, 1) := by decide +kernel
theorem dX7_readOr_32 : decode cX7_readOr 32 = .ok (.invokevirtual 36, 3) := by decide +kernel
theorem dX7_readOr_35 : decode cX7_readOr 35 = .ok (.aload_n 0, 1) := by decide +kernel
theorem dX7_readOr_36 : decode cX7_readOr 36 = .ok (.iload_n 1, 1) := by decide +kernel
theorem dX7_readOr_37 : decode cX7_readOr 37 = .ok (.invokevirtual 74, 3) := by decide +kernel
theorem dX7_readOr_40 : decode cX7_readOr 40 = .ok (.aload_n 0, 1) := by decide +kernel
theorem dX7_readOr_41 : decode cX7_readOr 41 = .ok (.bipush (-11), 2) := by decide +kernel
theorem dX7_readOr_43 : decode cX7_readOr 43 = .ok (.invokevirtual 77, 3) := by decide +kernel
theorem dX7_readOr_46 : decode cX7_readOr 46 = .ok (.iinc 2 1, 3) := by decide +kernel
theorem dX7_readOr_49 : decode cX7_readOr 49 = .ok (.goto (-42), 3) := by decide +kernel
theorem dX7_readOr_52 : decode cX7_readOr 52 = .ok (.return_, 1) := by decide +kernel
theorem dX7_readAnd_0 : decode cX7_readAnd 0 = .ok (.aload_n 0, 1) := by decide +kernel
theorem dX7_readAnd_1 : decode cX7_readAnd 1 = .ok (.iload_n 1, 1) := by decide +kernel
theorem dX7_readAnd_2 : decode cX7_readAnd 2 = .ok (.invokevirtual 80, 3) := by decide +kernel
theorem dX7_readAnd_5 : decode cX7_readAnd 5 = .ok (.iconst 0, 1) := by decide +kernel
theorem dX7_readAnd_6 : decode cX7_readAnd 6 = .ok (.istore_n 2, 1) := by decide +kernel
theorem dX7_readAnd_7 : decode cX7_readAnd 7 = .ok (.iload_n 2, 1) := by decide +kernel
theorem dX7_readAnd_8 : decode cX7_readAnd 8 = .ok (.sipush 160, 3) := by decide +kernel
theorem dX7_readAnd_11 : decode cX7_readAnd 11 = .ok (.if_icmp .ge 41, 3) := by decide +kernel
theorem dX7_readAnd_14 : decode cX7_readAnd 14 = .ok (.aload_n 0, 1) := by decide +kernel
theorem dX7_readAnd_15 : decode cX7_readAnd 15 = .ok (.getfield 43, 3) := by decide +kernel
theorem dX7_readAnd_18 : decode cX7_readAnd 18 = .ok (.bipush 8, 2) := by decide +kernel
theorem dX7_readAnd_20 : decode cX7_readAnd 20 = .ok (.if_icmp .ne 32, 3) := by decide +kernel
theorem dX7_readAnd_23 : decode cX7_readAnd 23 = .ok (.aload_n 0, 1) := by decide +kernel
theorem dX7_readAnd_24 : decode cX7_readAnd 24 = .ok (.getfield 30, 3) := by decide +kernel
theorem dX7_readAnd_27 : decode cX7_readAnd 27 = .ok (.iconst (-1), 1) := by decide +kernel
theorem dX7_readAnd_28 : decode cX7_readAnd 28 = .ok (.if_icmp .ne 24, 3) := by decide +kernel
theorem dX7_readAnd_31 : decode cX7_readAnd 31 = .ok (.aload_n 0, 1) := by decide +kernel
theorem dX7_readAnd_32 : decode cX7_readAnd 32 = .ok (.invokevirtual 36, 3) := by decide +kernel
theorem dX7_readAnd_35 : decode cX7_readAnd 35 = .ok (.aload_n 0, 1) := by decide +kernel
theorem dX7_readAnd_36 : decode cX7_readAnd 36 = .ok (.iload_n 1, 1) := by decide +kernel
theorem dX7_readAnd_37 : decode cX7_readAnd 37 = .ok (.invokevirtual 80, 3) := by decide +kernel
theorem dX7_readAnd_40 : decode cX7_readAnd 40 = .ok (.aload_n 0, 1) := by decide +kernel
theorem dX7_readAnd_41 : decode cX7_readAnd 41 = .ok (.bipush (-12), 2) := by decide +kernel
theorem dX7_readAnd_43 : decode cX7_readAnd 43 = .ok (.invokevirtual 77, 3) := by decide +kernel
theorem dX7_readAnd_46 : decode cX7_readAnd 46 = .ok (.iinc 2 1, 3) := by decide +kernel
theorem dX7_readAnd_49 : decode cX7_readAnd 49 = .ok (.goto (-42), 3) := by decide +kernel
theorem dX7_readAnd_52 : decode cX7_readAnd 52 = .ok (.return_, 1) := by decide +kernel
theorem dX7_readNot_0 : decode cX7_readNot 0 = .ok (.aload_n 0, 1) := by decide +kernel
theorem dX7_readNot_1 : decode cX7_readNot 1 = .ok (.getfield 43, 3) := by decide +kernel
theorem dX7_readNot_4 : decode cX7_readNot 4 = .ok (.bipush 9, 2) := by decide +kernel
theorem dX7_readNot_6 : decode cX7_readNot 6 = .ok (.if_icmp .ne 29, 3) := by decide +kernel
theorem dX7_readNot_9 : decode cX7_readNot 9 = .ok (.aload_n 0, 1) := by decide +kernel
theorem dX7_readNot_10 : decode cX7_readNot 10 = .ok (.iload_n 1, 1) := by decide +kernel
theorem dX7_readNot_11 : decode cX7_readNot 11 = .ok (.invokevirtual 83, 3) := by decide +kernel
theorem dX7_readNot_14 : decode cX7_readNot 14 = .ok (.ifCond .eq 20, 3) := by decide +kernel
theorem dX7_readNot_17 : decode cX7_readNot 17 = .ok (.aload_n 0, 1) := by decide +kernel
theorem dX7_readNot_18 : decode cX7_readNot 18 = .ok (.invokevirtual 36, 3) := by decide +kernel
theorem dX7_readNot_21 : decode cX7_readNot 21 = .ok (.aload_n 0, 1) := by decide +kernel
theorem dX7_readNot_22 : decode cX7_readNot 22 = .ok (.iload_n 1, 1) := by decide +kernel
theorem dX7_readNot_23 : decode cX7_readNot 23 = .ok (.iconst 1, 1) := by decide +kernel
theorem dX7_readNot_24 : decode cX7_readNot 24 = .ok (.iadd, 1) := by decide +kernel
theorem dX7_readNot_25 : decode cX7_readNot 25 = .ok (.invokevirtual 80, 3) := by decide +kernel
theorem dX7_readNot_28 : decode cX7_readNot 28 = .ok (.aload_n 0, 1) := by decide +kernel
theorem dX7_readNot_29 : decode cX7_readNot 29 = .ok (.bipush (-21), 2) := by decide +kernel
theorem dX7_readNot_31 : decode cX7_readNot 31 = .ok (.invokevirtual 77, 3) := by decide +kernel
theorem dX7_readNot_34 : decode cX7_readNot 34 = .ok (.return_, 1) := by decide +kernel
theorem dX7_readNot_35 : decode cX7_readNot 35 = .ok (.aload_n 0, 1) := by decide +kernel
theorem dX7_readNot_36 : decode cX7_readNot 36 = .ok (.iload_n 1, 1) := by decide +kernel
theorem dX7_readNot_37 : decode cX7_readNot 37 = .ok (.invokevirtual 87, 3) := by decide +kernel
theorem dX7_readNot_40 : decode cX7_readNot 40 = .ok (.aload_n 0, 1) := by decide +kernel
theorem dX7_readNot_41 : decode cX7_readNot 41 = .ok (.getfield 43, 3) := by decide +kernel
theorem dX7_readNot_44 : decode cX7_readNot 44 = .ok (.bipush 60, 2) := by decide +kernel
theorem dX7_readNot_46 : decode cX7_readNot 46 = .ok (.if_icmp .eq 12, 3) := by decide +kernel
theorem dX7_readNot_49 : decode cX7_readNot 49 = .ok (.aload_n 0, 1) := by decide +kernel
theorem dX7_readNot_50 : decode cX7_readNot 50 = .ok (.getfield 43, 3) := by decide +kernel
theorem dX7_readNot_53 : decode cX7_readNot 53 = .ok (.bipush 61, 2) := by decide +kernel
theorem dX7_readNot_55 : decode cX7_readNot 55 = .ok (.if_icmp .ne 34, 3) := by decide +kernel
theorem dX7_readNot_58 : decode cX7_readNot 58 = .ok (.aload_n 0, 1) := by decide +kernel
theorem dX7_readNot_59 : decode cX7_readNot 59 = .ok (.getfield 43, 3) := by decide +kernel
theorem dX7_readNot_62 : decode cX7_readNot 62 = .ok (.bipush 60, 2) := by decide +kernel
theorem dX7_readNot_64 : decode cX7_readNot 64 = .ok (.if_icmp .ne 8, 3) := by decide +kernel
theorem dX7_readNot_67 : decode cX7_readNot 67 = .ok (.bipush (-13), 2) := by decide +kernel
theorem dX7_readNot_69 : decode cX7_readNot 69 = .ok (.goto 5, 3) := by decide +kernel
theorem dX7_readNot_72 : decode cX7_readNot 72 = .ok (.bipush (-14), 2) := by decide +kernel
theorem dX7_readNot_74 : decode cX7_readNot 74 = .ok (.istore_n 2, 1) := by decide +kernel
theorem dX7_readNot_75 : decode cX7_readNot 75 = .ok (.aload_n 0, 1) := by decide +kernel
theorem dX7_readNot_76 : decode cX7_readNot 76 = .ok (.invokevirtual 36, 3) := by decide +kernel
theorem dX7_readNot_79 : decode cX7_readNot 79 = .ok (.aload_n 0, 1) := by decide +kernel
theorem dX7_readNot_80 : decode cX7_readNot 80 = .ok (.iload_n 1, 1) := by decide +kernel
theorem dX7_readNot_81 : decode cX7_readNot 81 = .ok (.invokevirtual 87, 3) := by decide +kernel
theorem dX7_readNot_84 : decode cX7_readNot 84 = .ok (.aload_n 0, 1) := by decide +kernel
theorem dX7_readNot_85 : decode cX7_readNot 85 = .ok (.iload_n 2, 1) := by decide +kernel
theorem dX7_readNot_86 : decode cX7_readNot 86 = .ok (.invokevirtual 77, 3) := by decide +kernel
theorem dX7_readNot_89 : decode cX7_readNot 89 = .ok (.return_, 1) := by decide +kernel
theorem dX7_readSum_0 : decode cX7_readSum 0 = .ok (.aload_n 0, 1) := by decide +kernel
theorem dX7_readSum_1 : decode cX7_readSum 1 = .ok (.iload_n 1, 1) := by decide +kernel
theorem dX7_readSum_2 : decode cX7_readSum 2 = .ok (.invokevirtual 90, 3) := by decide +kernel
theorem dX7_readSum_5 : decode cX7_readSum 5 = .ok (.iconst 0, 1) := by decide +kernel
theorem dX7_readSum_6 : decode cX7_readSum 6 = .ok (.istore_n 2, 1) := by decide +kernel
theorem dX7_readSum_7 : decode cX7_readSum 7 = .ok (.iload_n 2, 1) := by decide +kernel
theorem dX7_readSum_8 : decode cX7_readSum 8 = .ok (.sipush 160, 3) := by decide +kernel
theorem dX7_readSum_11 : decode cX7_readSum 11 = .ok (.if_icmp .ge 66, 3) := by decide +kernel
theorem dX7_readSum_14 : decode cX7_readSum 14 = .ok (.aload_n 0, 1) := by decide +kernel
theorem dX7_readSum_15 : decode cX7_readSum 15 = .ok (.getfield 43, 3) := by decide +kernel
theorem dX7_readSum_18 : decode cX7_readSum 18 = .ok (.bipush 43, 2) := by decide +kernel
theorem dX7_readSum_20 : decode cX7_readSum 20 = .ok (.if_icmp .eq 12, 3) := by decide +kernel
theorem dX7_readSum_23 : decode cX7_readSum 23 = .ok (.aload_n 0, 1) := by decide +kernel
theorem dX7_readSum_24 : decode cX7_readSum 24 = .ok (.getfield 43, 3) := by decide +kernel
theorem dX7_readSum_27 : decode cX7_readSum 27 = .ok (.bipush 45, 2) := by decide +kernel
theorem dX7_readSum_29 : decode cX7_readSum 29 = .ok (.if_icmp .ne 48, 3) := by decide +kernel
theorem dX7_readSum_32 : decode cX7_readSum 32 = .ok (.aload_n 0, 1) := by decide +kernel
theorem dX7_readSum_33 : decode cX7_readSum 33 = .ok (.getfield 30, 3) := by decide +kernel
theorem dX7_readSum_36 : decode cX7_readSum 36 = .ok (.iconst (-1), 1) := by decide +kernel
theorem dX7_readSum_37 : decode cX7_readSum 37 = .ok (.if_icmp .ne 40, 3) := by decide +kernel
theorem dX7_readSum_40 : decode cX7_readSum 40 = .ok (.aload_n 0, 1) := by decide +kernel
theorem dX7_readSum_41 : decode cX7_readSum 41 = .ok (.getfield 43, 3) := by decide +kernel
theorem dX7_readSum_44 : decode cX7_readSum 44 = .ok (.bipush 43, 2) := by decide +kernel
theorem dX7_readSum_46 : decode cX7_readSum 46 = .ok (.if_icmp .ne 8, 3) := by decide +kernel
theorem dX7_readSum_49 : decode cX7_readSum 49 = .ok (.bipush (-15), 2) := by decide +kernel
theorem dX7_readSum_51 : decode cX7_readSum 51 = .ok (.goto 5, 3) := by decide +kernel
theorem dX7_readSum_54 : decode cX7_readSum 54 = .ok (.bipush (-16), 2) := by decide +kernel
theorem dX7_readSum_56 : decode cX7_readSum 56 = .ok (.istore_n 3, 1) := by decide +kernel
theorem dX7_readSum_57 : decode cX7_readSum 57 = .ok (.aload_n 0, 1) := by decide +kernel
theorem dX7_readSum_58 : decode cX7_readSum 58 = .ok (.invokevirtual 36, 3) := by decide +kernel
theorem dX7_readSum_61 : decode cX7_readSum 61 = .ok (.aload_n 0, 1) := by decide +kernel
theorem dX7_readSum_62 : decode cX7_readSum 62 = .ok (.iload_n 1, 1) := by decide +kernel
theorem dX7_readSum_63 : decode cX7_readSum 63 = .ok (.invokevirtual 90, 3) := by decide +kernel
theorem dX7_readSum_66 : decode cX7_readSum 66 = .ok (.aload_n 0, 1) := by decide +kernel
theorem dX7_readSum_67 : decode cX7_readSum 67 = .ok (.iload_n 3, 1) := by decide +kernel
theorem dX7_readSum_68 : decode cX7_readSum 68 = .ok (.invokevirtual 77, 3) := by decide +kernel
theorem dX7_readSum_71 : decode cX7_readSum 71 = .ok (.iinc 2 1, 3) := by decide +kernel
theorem dX7_readSum_74 : decode cX7_readSum 74 = .ok (.goto (-67), 3) := by decide +kernel
theorem dX7_readSum_77 : decode cX7_readSum 77 = .ok (.return_, 1) := by decide +kernel
theorem dX7_readTerm_0 : decode cX7_readTerm 0 = .ok (.aload_n 0, 1) := by decide +kernel
theorem dX7_readTerm_1 : decode cX7_readTerm 1 = .ok (.iload_n 1, 1) := by decide +kernel
theorem dX7_readTerm_2 : decode cX7_readTerm 2 = .ok (.invokevirtual 93, 3) := by decide +kernel
theorem dX7_readTerm_5 : decode cX7_readTerm 5 = .ok (.iconst 0, 1) := by decide +kernel
theorem dX7_readTerm_6 : decode cX7_readTerm 6 = .ok (.istore_n 2, 1) := by decide +kernel
theorem dX7_readTerm_7 : decode cX7_readTerm 7 = .ok (.iload_n 2, 1) := by decide +kernel
theorem dX7_readTerm_8 : decode cX7_readTerm 8 = .ok (.sipush 160, 3) := by decide +kernel
theorem dX7_readTerm_11 : decode cX7_readTerm 11 = .ok (.if_icmp .ge 41, 3) := by decide +kernel
theorem dX7_readTerm_14 : decode cX7_readTerm 14 = .ok (.aload_n 0, 1) := by decide +kernel
theorem dX7_readTerm_15 : decode cX7_readTerm 15 = .ok (.getfield 43, 3) := by decide +kernel
theorem dX7_readTerm_18 : decode cX7_readTerm 18 = .ok (.bipush 42, 2) := by decide +kernel
theorem dX7_readTerm_20 : decode cX7_readTerm 20 = .ok (.if_icmp .ne 32, 3) := by decide +kernel
theorem dX7_readTerm_23 : decode cX7_readTerm 23 = .ok (.aload_n 0, 1) := by decide +kernel
theorem dX7_readTerm_24 : decode cX7_readTerm 24 = .ok (.getfield 30, 3) := by decide +kernel
theorem dX7_readTerm_27 : decode cX7_readTerm 27 = .ok (.iconst (-1), 1) := by decide +kernel
theorem dX7_readTerm_28 : decode cX7_readTerm 28 = .ok (.if_icmp .ne 24, 3) := by decide +kernel
theorem dX7_readTerm_31 : decode cX7_readTerm 31 = .ok (.aload_n 0, 1) := by decide +kernel
theorem dX7_readTerm_32 : decode cX7_readTerm 32 = .ok (.invokevirtual 36, 3) := by decide +kernel
theorem dX7_readTerm_35 : decode cX7_readTerm 35 = .ok (.aload_n 0, 1) := by decide +kernel
theorem dX7_readTerm_36 : decode cX7_readTerm 36 = .ok (.iload_n 1, 1) := by decide +kernel
theorem dX7_readTerm_37 : decode cX7_readTerm 37 = .ok (.invokevirtual 93, 3) := by decide +kernel
theorem dX7_readTerm_40 : decode cX7_readTerm 40 = .ok (.aload_n 0, 1) := by decide +kernel
theorem dX7_readTerm_41 : decode cX7_readTerm 41 = .ok (.bipush (-17), 2) := by decide +kernel
theorem dX7_readTerm_43 : decode cX7_readTerm 43 = .ok (.invokevirtual 77, 3) := by decide +kernel
theorem dX7_readTerm_46 : decode cX7_readTerm 46 = .ok (.iinc 2 1, 3) := by decide +kernel
theorem dX7_readTerm_49 : decode cX7_readTerm 49 = .ok (.goto (-42), 3) := by decide +kernel
theorem dX7_readTerm_52 : decode cX7_readTerm 52 = .ok (.return_, 1) := by decide +kernel
theorem dX7_readOne_0 : decode cX7_readOne 0 = .ok (.aload_n 0, 1) := by decide +kernel
theorem dX7_readOne_1 : decode cX7_readOne 1 = .ok (.getfield 43, 3) := by decide +kernel
theorem dX7_readOne_4 : decode cX7_readOne 4 = .ok (.iconst 2, 1) := by decide +kernel
theorem dX7_readOne_5 : decode cX7_readOne 5 = .ok (.if_icmp .eq 11, 3) := by decide +kernel
theorem dX7_readOne_8 : decode cX7_readOne 8 = .ok (.aload_n 0, 1) := by decide +kernel
theorem dX7_readOne_9 : decode cX7_readOne 9 = .ok (.getfield 43, 3) := by decide +kernel
theorem dX7_readOne_12 : decode cX7_readOne 12 = .ok (.iconst 3, 1) := by decide +kernel
theorem dX7_readOne_13 : decode cX7_readOne 13 = .ok (.if_icmp .ne 18, 3) := by decide +kernel
theorem dX7_readOne_16 : decode cX7_readOne 16 = .ok (.aload_n 0, 1) := by decide +kernel
theorem dX7_readOne_17 : decode cX7_readOne 17 = .ok (.aload_n 0, 1) := by decide +kernel
theorem dX7_readOne_18 : decode cX7_readOne 18 = .ok (.getfield 96, 3) := by decide +kernel
theorem dX7_readOne_21 : decode cX7_readOne 21 = .ok (.invokevirtual 77, 3) := by decide +kernel
theorem dX7_readOne_24 : decode cX7_readOne 24 = .ok (.aload_n 0, 1) := by decide +kernel
theorem dX7_readOne_25 : decode cX7_readOne 25 = .ok (.invokevirtual 36, 3) := by decide +kernel
theorem dX7_readOne_28 : decode cX7_readOne 28 = .ok (.goto 81, 3) := by decide +kernel
theorem dX7_readOne_31 : decode cX7_readOne 31 = .ok (.aload_n 0, 1) := by decide +kernel
theorem dX7_readOne_32 : decode cX7_readOne 32 = .ok (.getfield 43, 3) := by decide +kernel
theorem dX7_readOne_35 : decode cX7_readOne 35 = .ok (.bipush 45, 2) := by decide +kernel
theorem dX7_readOne_37 : decode cX7_readOne 37 = .ok (.if_icmp .ne 31, 3) := by decide +kernel
theorem dX7_readOne_40 : decode cX7_readOne 40 = .ok (.aload_n 0, 1) := by decide +kernel
theorem dX7_readOne_41 : decode cX7_readOne 41 = .ok (.iload_n 1, 1) := by decide +kernel
theorem dX7_readOne_42 : decode cX7_readOne 42 = .ok (.invokevirtual 83, 3) := by decide +kernel
theorem dX7_readOne_45 : decode cX7_readOne 45 = .ok (.ifCond .eq 23, 3) := by decide +kernel
theorem dX7_readOne_48 : decode cX7_readOne 48 = .ok (.aload_n 0, 1) := by decide +kernel
theorem dX7_readOne_49 : decode cX7_readOne 49 = .ok (.invokevirtual 36, 3) := by decide +kernel
theorem dX7_readOne_52 : decode cX7_readOne 52 = .ok (.aload_n 0, 1) := by decide +kernel
theorem dX7_readOne_53 : decode cX7_readOne 53 = .ok (.iload_n 1, 1) := by decide +kernel
theorem dX7_readOne_54 : decode cX7_readOne 54 = .ok (.iconst 1, 1) := by decide +kernel
theorem dX7_readOne_55 : decode cX7_readOne 55 = .ok (.iadd, 1) := by decide +kernel
theorem dX7_readOne_56 : decode cX7_readOne 56 = .ok (.invokevirtual 93, 3) := by decide +kernel
theorem dX7_readOne_59 : decode cX7_readOne 59 = .ok (.aload_n 0, 1) := by decide +kernel
theorem dX7_readOne_60 : decode cX7_readOne 60 = .ok (.bipush (-22), 2) := by decide +kernel
theorem dX7_readOne_62 : decode cX7_readOne 62 = .ok (.invokevirtual 77, 3) := by decide +kernel
theorem dX7_readOne_65 : decode cX7_readOne 65 = .ok (.goto 44, 3) := by decide +kernel
theorem dX7_readOne_68 : decode cX7_readOne 68 = .ok (.aload_n 0, 1) := by decide +kernel
theorem dX7_readOne_69 : decode cX7_readOne 69 = .ok (.getfield 43, 3) := by decide +kernel
theorem dX7_readOne_72 : decode cX7_readOne 72 = .ok (.bipush 40, 2) := by decide +kernel
theorem dX7_readOne_74 : decode cX7_readOne 74 = .ok (.if_icmp .ne 31, 3) := by decide +kernel
theorem dX7_readOne_77 : decode cX7_readOne 77 = .ok (.aload_n 0, 1) := by decide +kernel
theorem dX7_readOne_78 : decode cX7_readOne 78 = .ok (.iload_n 1, 1) := by decide +kernel
theorem dX7_readOne_79 : decode cX7_readOne 79 = .ok (.invokevirtual 83, 3) := by decide +kernel
theorem dX7_readOne_82 : decode cX7_readOne 82 = .ok (.ifCond .eq 23, 3) := by decide +kernel
theorem dX7_readOne_85 : decode cX7_readOne 85 = .ok (.aload_n 0, 1) := by decide +kernel
theorem dX7_readOne_86 : decode cX7_readOne 86 = .ok (.invokevirtual 36, 3) := by decide +kernel
theorem dX7_readOne_89 : decode cX7_readOne 89 = .ok (.aload_n 0, 1) := by decide +kernel
theorem dX7_readOne_90 : decode cX7_readOne 90 = .ok (.iload_n 1, 1) := by decide +kernel
theorem dX7_readOne_91 : decode cX7_readOne 91 = .ok (.iconst 1, 1) := by decide +kernel
theorem dX7_readOne_92 : decode cX7_readOne 92 = .ok (.iadd, 1) := by decide +kernel
theorem dX7_readOne_93 : decode cX7_readOne 93 = .ok (.invokevirtual 71, 3) := by decide +kernel
theorem dX7_readOne_96 : decode cX7_readOne 96 = .ok (.aload_n 0, 1) := by decide +kernel
theorem dX7_readOne_97 : decode cX7_readOne 97 = .ok (.bipush 41, 2) := by decide +kernel
theorem dX7_readOne_99 : decode cX7_readOne 99 = .ok (.invokevirtual 67, 3) := by decide +kernel
theorem dX7_readOne_102 : decode cX7_readOne 102 = .ok (.goto 7, 3) := by decide +kernel
theorem dX7_readOne_105 : decode cX7_readOne 105 = .ok (.aload_n 0, 1) := by decide +kernel
theorem dX7_readOne_106 : decode cX7_readOne 106 = .ok (.invokevirtual 46, 3) := by decide +kernel
theorem dX7_readOne_109 : decode cX7_readOne 109 = .ok (.return_, 1) := by decide +kernel
theorem dX7_mayOpen_0 : decode cX7_mayOpen 0 = .ok (.iload_n 1, 1) := by decide +kernel
theorem dX7_mayOpen_1 : decode cX7_mayOpen 1 = .ok (.iconst 5, 1) := by decide +kernel
theorem dX7_mayOpen_2 : decode cX7_mayOpen 2 = .ok (.if_icmp .lt 7, 3) := by decide +kernel
theorem dX7_mayOpen_5 : decode cX7_mayOpen 5 = .ok (.aload_n 0, 1) := by decide +kernel
theorem dX7_mayOpen_6 : decode cX7_mayOpen 6 = .ok (.invokevirtual 46, 3) := by decide +kernel
theorem dX7_mayOpen_9 : decode cX7_mayOpen 9 = .ok (.aload_n 0, 1) := by decide +kernel
theorem dX7_mayOpen_10 : decode cX7_mayOpen 10 = .ok (.getfield 30, 3) := by decide +kernel
theorem dX7_mayOpen_13 : decode cX7_mayOpen 13 = .ok (.iconst (-1), 1) := by decide +kernel
theorem dX7_mayOpen_14 : decode cX7_mayOpen 14 = .ok (.if_icmp .ne 7, 3) := by decide +kernel
theorem dX7_mayOpen_17 : decode cX7_mayOpen 17 = .ok (.iconst 1, 1) := by decide +kernel
theorem dX7_mayOpen_18 : decode cX7_mayOpen 18 = .ok (.goto 4, 3) := by decide +kernel
theorem dX7_mayOpen_21 : decode cX7_mayOpen 21 = .ok (.iconst 0, 1) := by decide +kernel
theorem dX7_mayOpen_22 : decode cX7_mayOpen 22 = .ok (.ireturn, 1) := by decide +kernel
theorem dX7_expect_0 : decode cX7_expect 0 = .ok (.aload_n 0, 1) := by decide +kernel
theorem dX7_expect_1 : decode cX7_expect 1 = .ok (.getfield 43, 3) := by decide +kernel
theorem dX7_expect_4 : decode cX7_expect 4 = .ok (.iload_n 1, 1) := by decide +kernel
theorem dX7_expect_5 : decode cX7_expect 5 = .ok (.if_icmp .ne 10, 3) := by decide +kernel
theorem dX7_expect_8 : decode cX7_expect 8 = .ok (.aload_n 0, 1) := by decide +kernel
theorem dX7_expect_9 : decode cX7_expect 9 = .ok (.invokevirtual 36, 3) := by decide +kernel
theorem dX7_expect_12 : decode cX7_expect 12 = .ok (.goto 7, 3) := by decide +kernel
theorem dX7_expect_15 : decode cX7_expect 15 = .ok (.aload_n 0, 1) := by decide +kernel
theorem dX7_expect_16 : decode cX7_expect 16 = .ok (.invokevirtual 46, 3) := by decide +kernel
theorem dX7_expect_19 : decode cX7_expect 19 = .ok (.return_, 1) := by decide +kernel
theorem dX7_fail_0 : decode cX7_fail 0 = .ok (.aload_n 0, 1) := by decide +kernel
theorem dX7_fail_1 : decode cX7_fail 1 = .ok (.getfield 30, 3) := by decide +kernel
theorem dX7_fail_4 : decode cX7_fail 4 = .ok (.iconst (-1), 1) := by decide +kernel
theorem dX7_fail_5 : decode cX7_fail 5 = .ok (.if_icmp .ne 11, 3) := by decide +kernel
theorem dX7_fail_8 : decode cX7_fail 8 = .ok (.aload_n 0, 1) := by decide +kernel
theorem dX7_fail_9 : decode cX7_fail 9 = .ok (.aload_n 0, 1) := by decide +kernel
theorem dX7_fail_10 : decode cX7_fail 10 = .ok (.getfield 99, 3) := by decide +kernel
theorem dX7_fail_13 : decode cX7_fail 13 = .ok (.putfield 30, 3) := by decide +kernel
theorem dX7_fail_16 : decode cX7_fail 16 = .ok (.return_, 1) := by decide +kernel
theorem dX7_put_0 : decode cX7_put 0 = .ok (.aload_n 0, 1) := by decide +kernel
theorem dX7_put_1 : decode cX7_put 1 = .ok (.getfield 33, 3) := by decide +kernel
theorem dX7_put_4 : decode cX7_put 4 = .ok (.ifCond .lt 33, 3) := by decide +kernel
theorem dX7_put_7 : decode cX7_put 7 = .ok (.aload_n 0, 1) := by decide +kernel
theorem dX7_put_8 : decode cX7_put 8 = .ok (.getfield 33, 3) := by decide +kernel
theorem dX7_put_11 : decode cX7_put 11 = .ok (.sipush 160, 3) := by decide +kernel
theorem dX7_put_14 : decode cX7_put 14 = .ok (.if_icmp .ge 23, 3) := by decide +kernel
theorem dX7_put_17 : decode cX7_put 17 = .ok (.aload_n 0, 1) := by decide +kernel
theorem dX7_put_18 : decode cX7_put 18 = .ok (.getfield 15, 3) := by decide +kernel
theorem dX7_put_21 : decode cX7_put 21 = .ok (.aload_n 0, 1) := by decide +kernel
theorem dX7_put_22 : decode cX7_put 22 = .ok (.getfield 33, 3) := by decide +kernel
theorem dX7_put_25 : decode cX7_put 25 = .ok (.iload_n 1, 1) := by decide +kernel
theorem dX7_put_26 : decode cX7_put 26 = .ok (.iastore, 1) := by decide +kernel
theorem dX7_put_27 : decode cX7_put 27 = .ok (.aload_n 0, 1) := by decide +kernel
theorem dX7_put_28 : decode cX7_put 28 = .ok (.dup, 1) := by decide +kernel
theorem dX7_put_29 : decode cX7_put 29 = .ok (.getfield 33, 3) := by decide +kernel
theorem dX7_put_32 : decode cX7_put 32 = .ok (.iconst 1, 1) := by decide +kernel
theorem dX7_put_33 : decode cX7_put 33 = .ok (.iadd, 1) := by decide +kernel
theorem dX7_put_34 : decode cX7_put 34 = .ok (.putfield 33, 3) := by decide +kernel
theorem dX7_put_37 : decode cX7_put 37 = .ok (.return_, 1) := by decide +kernel
theorem dX7_nextToken_0 : decode cX7_nextToken 0 = .ok (.iconst 0, 1) := by decide +kernel
theorem dX7_nextToken_1 : decode cX7_nextToken 1 = .ok (.istore_n 1, 1) := by decide +kernel
theorem dX7_nextToken_2 : decode cX7_nextToken 2 = .ok (.iload_n 1, 1) := by decide +kernel
theorem dX7_nextToken_3 : decode cX7_nextToken 3 = .ok (.sipush 160, 3) := by decide +kernel
theorem dX7_nextToken_6 : decode cX7_nextToken 6 = .ok (.if_icmp .ge 45, 3) := by decide +kernel
theorem dX7_nextToken_9 : decode cX7_nextToken 9 = .ok (.aload_n 0, 1) := by decide +kernel
theorem dX7_nextToken_10 : decode cX7_nextToken 10 = .ok (.aload_n 0, 1) := by decide +kernel
theorem dX7_nextToken_11 : decode cX7_nextToken 11 = .ok (.getfield 27, 3) := by decide +kernel
theorem dX7_nextToken_14 : decode cX7_nextToken 14 = .ok (.invokevirtual 102, 3) := by decide +kernel
theorem dX7_nextToken_17 : decode cX7_nextToken 17 = .ok (.bipush 32, 2) := by decide +kernel
theorem dX7_nextToken_19 : decode cX7_nextToken 19 = .ok (.if_icmp .eq 16, 3) := by decide +kernel
theorem dX7_nextToken_22 : decode cX7_nextToken 22 = .ok (.aload_n 0, 1) := by decide +kernel
theorem dX7_nextToken_23 : decode cX7_nextToken 23 = .ok (.aload_n 0, 1) := by decide +kernel
theorem dX7_nextToken_24 : decode cX7_nextToken 24 = .ok (.getfield 27, 3) := by decide +kernel
theorem dX7_nextToken_27 : decode cX7_nextToken 27 = .ok (.invokevirtual 102, 3) := by decide +kernel
theorem dX7_nextToken_30 : decode cX7_nextToken 30 = .ok (.bipush 10, 2) := by decide +kernel
theorem dX7_nextToken_32 : decode cX7_nextToken 32 = .ok (.if_icmp .ne 19, 3) := by decide +kernel
theorem dX7_nextToken_35 : decode cX7_nextToken 35 = .ok (.aload_n 0, 1) := by decide +kernel
theorem dX7_nextToken_36 : decode cX7_nextToken 36 = .ok (.dup, 1) := by decide +kernel
theorem dX7_nextToken_37 : decode cX7_nextToken 37 = .ok (.getfield 27, 3) := by decide +kernel
theorem dX7_nextToken_40 : decode cX7_nextToken 40 = .ok (.iconst 1, 1) := by decide +kernel
theorem dX7_nextToken_41 : decode cX7_nextToken 41 = .ok (.iadd, 1) := by decide +kernel
theorem dX7_nextToken_42 : decode cX7_nextToken 42 = .ok (.putfield 27, 3) := by decide +kernel
theorem dX7_nextToken_45 : decode cX7_nextToken 45 = .ok (.iinc 1 1, 3) := by decide +kernel
theorem dX7_nextToken_48 : decode cX7_nextToken 48 = .ok (.goto (-46), 3) := by decide +kernel
theorem dX7_nextToken_51 : decode cX7_nextToken 51 = .ok (.aload_n 0, 1) := by decide +kernel
theorem dX7_nextToken_52 : decode cX7_nextToken 52 = .ok (.aload_n 0, 1) := by decide +kernel
theorem dX7_nextToken_53 : decode cX7_nextToken 53 = .ok (.getfield 27, 3) := by decide +kernel
theorem dX7_nextToken_56 : decode cX7_nextToken 56 = .ok (.putfield 99, 3) := by decide +kernel
theorem dX7_nextToken_59 : decode cX7_nextToken 59 = .ok (.aload_n 0, 1) := by decide +kernel
theorem dX7_nextToken_60 : decode cX7_nextToken 60 = .ok (.aload_n 0, 1) := by decide +kernel
theorem dX7_nextToken_61 : decode cX7_nextToken 61 = .ok (.getfield 27, 3) := by decide +kernel
theorem dX7_nextToken_64 : decode cX7_nextToken 64 = .ok (.invokevirtual 102, 3) := by decide +kernel
theorem dX7_nextToken_67 : decode cX7_nextToken 67 = .ok (.istore_n 1, 1) := by decide +kernel
theorem dX7_nextToken_68 : decode cX7_nextToken 68 = .ok (.iload_n 1, 1) := by decide +kernel
theorem dX7_nextToken_69 : decode cX7_nextToken 69 = .ok (.iconst (-1), 1) := by decide +kernel
theorem dX7_nextToken_70 : decode cX7_nextToken 70 = .ok (.if_icmp .ne 11, 3) := by decide +kernel
theorem dX7_nextToken_73 : decode cX7_nextToken 73 = .ok (.aload_n 0, 1) := by decide +kernel
theorem dX7_nextToken_74 : decode cX7_nextToken 74 = .ok (.iconst 0, 1) := by decide +kernel
theorem dX7_nextToken_75 : decode cX7_nextToken 75 = .ok (.putfield 43, 3) := by decide +kernel
theorem dX7_nextToken_78 : decode cX7_nextToken 78 = .ok (.goto 57, 3) := by decide +kernel
theorem dX7_nextToken_81 : decode cX7_nextToken 81 = .ok (.iload_n 1, 1) := by decide +kernel
theorem dX7_nextToken_82 : decode cX7_nextToken 82 = .ok (.invokestatic 106, 3) := by decide +kernel
theorem dX7_nextToken_85 : decode cX7_nextToken 85 = .ok (.ifCond .eq 10, 3) := by decide +kernel
theorem dX7_nextToken_88 : decode cX7_nextToken 88 = .ok (.aload_n 0, 1) := by decide +kernel
theorem dX7_nextToken_89 : decode cX7_nextToken 89 = .ok (.invokevirtual 109, 3) := by decide +kernel
theorem dX7_nextToken_92 : decode cX7_nextToken 92 = .ok (.goto 43, 3) := by decide +kernel
theorem dX7_nextToken_95 : decode cX7_nextToken 95 = .ok (.iload_n 1, 1) := by decide +kernel
theorem dX7_nextToken_96 : decode cX7_nextToken 96 = .ok (.invokestatic 112, 3) := by decide +kernel
theorem dX7_nextToken_99 : decode cX7_nextToken 99 = .ok (.ifCond .eq 10, 3) := by decide +kernel
theorem dX7_nextToken_102 : decode cX7_nextToken 102 = .ok (.aload_n 0, 1) := by decide +kernel
theorem dX7_nextToken_103 : decode cX7_nextToken 103 = .ok (.invokevirtual 115, 3) := by decide +kernel
theorem dX7_nextToken_106 : decode cX7_nextToken 106 = .ok (.goto 29, 3) := by decide +kernel
theorem dX7_nextToken_109 : decode cX7_nextToken 109 = .ok (.aload_n 0, 1) := by decide +kernel
theorem dX7_nextToken_110 : decode cX7_nextToken 110 = .ok (.dup, 1) := by decide +kernel
theorem dX7_nextToken_111 : decode cX7_nextToken 111 = .ok (.getfield 27, 3) := by decide +kernel
theorem dX7_nextToken_114 : decode cX7_nextToken 114 = .ok (.iconst 1, 1) := by decide +kernel
theorem dX7_nextToken_115 : decode cX7_nextToken 115 = .ok (.iadd, 1) := by decide +kernel
theorem dX7_nextToken_116 : decode cX7_nextToken 116 = .ok (.putfield 27, 3) := by decide +kernel
theorem dX7_nextToken_119 : decode cX7_nextToken 119 = .ok (.aload_n 0, 1) := by decide +kernel
theorem dX7_nextToken_120 : decode cX7_nextToken 120 = .ok (.iload_n 1, 1) := by decide +kernel
theorem dX7_nextToken_121 : decode cX7_nextToken 121 = .ok (.invokestatic 118, 3) := by decide +kernel
theorem dX7_nextToken_124 : decode cX7_nextToken 124 = .ok (.ifCond .eq 7, 3) := by decide +kernel
theorem dX7_nextToken_127 : decode cX7_nextToken 127 = .ok (.iload_n 1, 1) := by decide +kernel
theorem dX7_nextToken_128 : decode cX7_nextToken 128 = .ok (.goto 4, 3) := by decide +kernel
theorem dX7_nextToken_131 : decode cX7_nextToken 131 = .ok (.iconst 1, 1) := by decide +kernel
theorem dX7_nextToken_132 : decode cX7_nextToken 132 = .ok (.putfield 43, 3) := by decide +kernel
theorem dX7_nextToken_135 : decode cX7_nextToken 135 = .ok (.return_, 1) := by decide +kernel
theorem dX7_takeWord_0 : decode cX7_takeWord 0 = .ok (.iconst 0, 1) := by decide +kernel
theorem dX7_takeWord_1 : decode cX7_takeWord 1 = .ok (.istore_n 1, 1) := by decide +kernel
theorem dX7_takeWord_2 : decode cX7_takeWord 2 = .ok (.iload_n 1, 1) := by decide +kernel
theorem dX7_takeWord_3 : decode cX7_takeWord 3 = .ok (.sipush 160, 3) := by decide +kernel
theorem dX7_takeWord_6 : decode cX7_takeWord 6 = .ok (.if_icmp .ge 33, 3) := by decide +kernel
theorem dX7_takeWord_9 : decode cX7_takeWord 9 = .ok (.aload_n 0, 1) := by decide +kernel
theorem dX7_takeWord_10 : decode cX7_takeWord 10 = .ok (.aload_n 0, 1) := by decide +kernel
theorem dX7_takeWord_11 : decode cX7_takeWord 11 = .ok (.getfield 27, 3) := by decide +kernel
theorem dX7_takeWord_14 : decode cX7_takeWord 14 = .ok (.invokevirtual 102, 3) := by decide +kernel
theorem dX7_takeWord_17 : decode cX7_takeWord 17 = .ok (.invokestatic 106, 3) := by decide +kernel
theorem dX7_takeWord_20 : decode cX7_takeWord 20 = .ok (.ifCond .eq 19, 3) := by decide +kernel
theorem dX7_takeWord_23 : decode cX7_takeWord 23 = .ok (.aload_n 0, 1) := by decide +kernel
theorem dX7_takeWord_24 : decode cX7_takeWord 24 = .ok (.dup, 1) := by decide +kernel
theorem dX7_takeWord_25 : decode cX7_takeWord 25 = .ok (.getfield 27, 3) := by decide +kernel
theorem dX7_takeWord_28 : decode cX7_takeWord 28 = .ok (.iconst 1, 1) := by decide +kernel
theorem dX7_takeWord_29 : decode cX7_takeWord 29 = .ok (.iadd, 1) := by decide +kernel
theorem dX7_takeWord_30 : decode cX7_takeWord 30 = .ok (.putfield 27, 3) := by decide +kernel
theorem dX7_takeWord_33 : decode cX7_takeWord 33 = .ok (.iinc 1 1, 3) := by decide +kernel
theorem dX7_takeWord_36 : decode cX7_takeWord 36 = .ok (.goto (-34), 3) := by decide +kernel
theorem dX7_takeWord_39 : decode cX7_takeWord 39 = .ok (.aload_n 0, 1) := by decide +kernel
theorem dX7_takeWord_40 : decode cX7_takeWord 40 = .ok (.aload_n 0, 1) := by decide +kernel
theorem dX7_takeWord_41 : decode cX7_takeWord 41 = .ok (.ldc 121, 2) := by decide +kernel
theorem dX7_takeWord_43 : decode cX7_takeWord 43 = .ok (.invokevirtual 123, 3) := by decide +kernel
theorem dX7_takeWord_46 : decode cX7_takeWord 46 = .ok (.ifCond .eq 7, 3) := by decide +kernel
theorem dX7_takeWord_49 : decode cX7_takeWord 49 = .ok (.iconst 4, 1) := by decide +kernel
theorem dX7_takeWord_50 : decode cX7_takeWord 50 = .ok (.goto 73, 3) := by decide +kernel
theorem dX7_takeWord_53 : decode cX7_takeWord 53 = .ok (.aload_n 0, 1) := by decide +kernel
theorem dX7_takeWord_54 : decode cX7_takeWord 54 = .ok (.ldc 127, 2) := by decide +kernel
theorem dX7_takeWord_56 : decode cX7_takeWord 56 = .ok (.invokevirtual 123, 3) := by decide +kernel
theorem dX7_takeWord_59 : decode cX7_takeWord 59 = .ok (.ifCond .eq 7, 3) := by decide +kernel
theorem dX7_takeWord_62 : decode cX7_takeWord 62 = .ok (.iconst 5, 1) := by decide +kernel
theorem dX7_takeWord_63 : decode cX7_takeWord 63 = .ok (.goto 60, 3) := by decide +kernel
theorem dX7_takeWord_66 : decode cX7_takeWord 66 = .ok (.aload_n 0, 1) := by decide +kernel
theorem dX7_takeWord_67 : decode cX7_takeWord 67 = .ok (.ldc 129, 2) := by decide +kernel
theorem dX7_takeWord_69 : decode cX7_takeWord 69 = .ok (.invokevirtual 123, 3) := by decide +kernel
theorem dX7_takeWord_72 : decode cX7_takeWord 72 = .ok (.ifCond .eq 8, 3) := by decide +kernel
theorem dX7_takeWord_75 : decode cX7_takeWord 75 = .ok (.bipush 6, 2) := by decide +kernel
theorem dX7_takeWord_77 : decode cX7_takeWord 77 = .ok (.goto 46, 3) := by decide +kernel
theorem dX7_takeWord_80 : decode cX7_takeWord 80 = .ok (.aload_n 0, 1) := by decide +kernel
theorem dX7_takeWord_81 : decode cX7_takeWord 81 = .ok (.ldc 131, 2) := by decide +kernel
theorem dX7_takeWord_83 : decode cX7_takeWord 83 = .ok (.invokevirtual 123, 3) := by decide +kernel
theorem dX7_takeWord_86 : decode cX7_takeWord 86 = .ok (.ifCond .eq 8, 3) := by decide +kernel
theorem dX7_takeWord_89 : decode cX7_takeWord 89 = .ok (.bipush 7, 2) := by decide +kernel
theorem dX7_takeWord_91 : decode cX7_takeWord 91 = .ok (.goto 32, 3) := by decide +kernel
theorem dX7_takeWord_94 : decode cX7_takeWord 94 = .ok (.aload_n 0, 1) := by decide +kernel
theorem dX7_takeWord_95 : decode cX7_takeWord 95 = .ok (.ldc 133, 2) := by decide +kernel
theorem dX7_takeWord_97 : decode cX7_takeWord 97 = .ok (.invokevirtual 123, 3) := by decide +kernel
theorem dX7_takeWord_100 : decode cX7_takeWord 100 = .ok (.ifCond .eq 8, 3) := by decide +kernel
theorem dX7_takeWord_103 : decode cX7_takeWord 103 = .ok (.bipush 8, 2) := by decide +kernel
theorem dX7_takeWord_105 : decode cX7_takeWord 105 = .ok (.goto 18, 3) := by decide +kernel
theorem dX7_takeWord_108 : decode cX7_takeWord 108 = .ok (.aload_n 0, 1) := by decide +kernel
theorem dX7_takeWord_109 : decode cX7_takeWord 109 = .ok (.ldc 135, 2) := by decide +kernel
theorem dX7_takeWord_111 : decode cX7_takeWord 111 = .ok (.invokevirtual 123, 3) := by decide +kernel
theorem dX7_takeWord_114 : decode cX7_takeWord 114 = .ok (.ifCond .eq 8, 3) := by decide +kernel
theorem dX7_takeWord_117 : decode cX7_takeWord 117 = .ok (.bipush 9, 2) := by decide +kernel
theorem dX7_takeWord_119 : decode cX7_takeWord 119 = .ok (.goto 4, 3) := by decide +kernel
theorem dX7_takeWord_122 : decode cX7_takeWord 122 = .ok (.iconst 1, 1) := by decide +kernel
theorem dX7_takeWord_123 : decode cX7_takeWord 123 = .ok (.putfield 43, 3) := by decide +kernel
theorem dX7_takeWord_126 : decode cX7_takeWord 126 = .ok (.aload_n 0, 1) := by decide +kernel
theorem dX7_takeWord_127 : decode cX7_takeWord 127 = .ok (.ldc 137, 2) := by decide +kernel
theorem dX7_takeWord_129 : decode cX7_takeWord 129 = .ok (.invokevirtual 123, 3) := by decide +kernel
theorem dX7_takeWord_132 : decode cX7_takeWord 132 = .ok (.ifCond .eq 7, 3) := by decide +kernel
theorem dX7_takeWord_135 : decode cX7_takeWord 135 = .ok (.iconst 0, 1) := by decide +kernel
theorem dX7_takeWord_136 : decode cX7_takeWord 136 = .ok (.goto 69, 3) := by decide +kernel
theorem dX7_takeWord_139 : decode cX7_takeWord 139 = .ok (.aload_n 0, 1) := by decide +kernel
theorem dX7_takeWord_140 : decode cX7_takeWord 140 = .ok (.ldc 139, 2) := by decide +kernel
theorem dX7_takeWord_142 : decode cX7_takeWord 142 = .ok (.invokevirtual 123, 3) := by decide +kernel
theorem dX7_takeWord_145 : decode cX7_takeWord 145 = .ok (.ifCond .eq 7, 3) := by decide +kernel
theorem dX7_takeWord_148 : decode cX7_takeWord 148 = .ok (.iconst 1, 1) := by decide +kernel
theorem dX7_takeWord_149 : decode cX7_takeWord 149 = .ok (.goto 56, 3) := by decide +kernel
theorem dX7_takeWord_152 : decode cX7_takeWord 152 = .ok (.aload_n 0, 1) := by decide +kernel
theorem dX7_takeWord_153 : decode cX7_takeWord 153 = .ok (.ldc 141, 2) := by decide +kernel
theorem dX7_takeWord_155 : decode cX7_takeWord 155 = .ok (.invokevirtual 123, 3) := by decide +kernel
theorem dX7_takeWord_158 : decode cX7_takeWord 158 = .ok (.ifCond .eq 7, 3) := by decide +kernel
theorem dX7_takeWord_161 : decode cX7_takeWord 161 = .ok (.iconst 2, 1) := by decide +kernel
theorem dX7_takeWord_162 : decode cX7_takeWord 162 = .ok (.goto 43, 3) := by decide +kernel
theorem dX7_takeWord_165 : decode cX7_takeWord 165 = .ok (.aload_n 0, 1) := by decide +kernel
theorem dX7_takeWord_166 : decode cX7_takeWord 166 = .ok (.ldc 143, 2) := by decide +kernel
theorem dX7_takeWord_168 : decode cX7_takeWord 168 = .ok (.invokevirtual 123, 3) := by decide +kernel
theorem dX7_takeWord_171 : decode cX7_takeWord 171 = .ok (.ifCond .eq 7, 3) := by decide +kernel
theorem dX7_takeWord_174 : decode cX7_takeWord 174 = .ok (.iconst 3, 1) := by decide +kernel
theorem dX7_takeWord_175 : decode cX7_takeWord 175 = .ok (.goto 30, 3) := by decide +kernel
theorem dX7_takeWord_178 : decode cX7_takeWord 178 = .ok (.aload_n 0, 1) := by decide +kernel
theorem dX7_takeWord_179 : decode cX7_takeWord 179 = .ok (.ldc 145, 2) := by decide +kernel
theorem dX7_takeWord_181 : decode cX7_takeWord 181 = .ok (.invokevirtual 123, 3) := by decide +kernel
theorem dX7_takeWord_184 : decode cX7_takeWord 184 = .ok (.ifCond .eq 7, 3) := by decide +kernel
theorem dX7_takeWord_187 : decode cX7_takeWord 187 = .ok (.iconst 4, 1) := by decide +kernel
theorem dX7_takeWord_188 : decode cX7_takeWord 188 = .ok (.goto 17, 3) := by decide +kernel
theorem dX7_takeWord_191 : decode cX7_takeWord 191 = .ok (.aload_n 0, 1) := by decide +kernel
theorem dX7_takeWord_192 : decode cX7_takeWord 192 = .ok (.ldc 147, 2) := by decide +kernel
theorem dX7_takeWord_194 : decode cX7_takeWord 194 = .ok (.invokevirtual 123, 3) := by decide +kernel
theorem dX7_takeWord_197 : decode cX7_takeWord 197 = .ok (.ifCond .eq 7, 3) := by decide +kernel
theorem dX7_takeWord_200 : decode cX7_takeWord 200 = .ok (.iconst 5, 1) := by decide +kernel
theorem dX7_takeWord_201 : decode cX7_takeWord 201 = .ok (.goto 4, 3) := by decide +kernel
theorem dX7_takeWord_204 : decode cX7_takeWord 204 = .ok (.iconst (-1), 1) := by decide +kernel
theorem dX7_takeWord_205 : decode cX7_takeWord 205 = .ok (.istore_n 1, 1) := by decide +kernel
theorem dX7_takeWord_206 : decode cX7_takeWord 206 = .ok (.iload_n 1, 1) := by decide +kernel
theorem dX7_takeWord_207 : decode cX7_takeWord 207 = .ok (.iconst (-1), 1) := by decide +kernel
theorem dX7_takeWord_208 : decode cX7_takeWord 208 = .ok (.if_icmp .eq 15, 3) := by decide +kernel
theorem dX7_takeWord_211 : decode cX7_takeWord 211 = .ok (.aload_n 0, 1) := by decide +kernel
theorem dX7_takeWord_212 : decode cX7_takeWord 212 = .ok (.iconst 3, 1) := by decide +kernel
theorem dX7_takeWord_213 : decode cX7_takeWord 213 = .ok (.putfield 43, 3) := by decide +kernel
theorem dX7_takeWord_216 : decode cX7_takeWord 216 = .ok (.aload_n 0, 1) := by decide +kernel
theorem dX7_takeWord_217 : decode cX7_takeWord 217 = .ok (.iconst (-1), 1) := by decide +kernel
theorem dX7_takeWord_218 : decode cX7_takeWord 218 = .ok (.iload_n 1, 1) := by decide +kernel
theorem dX7_takeWord_219 : decode cX7_takeWord 219 = .ok (.isub, 1) := by decide +kernel
theorem dX7_takeWord_220 : decode cX7_takeWord 220 = .ok (.putfield 96, 3) := by decide +kernel
theorem dX7_takeWord_223 : decode cX7_takeWord 223 = .ok (.return_, 1) := by decide +kernel
theorem dX7_takeNumber_0 : decode cX7_takeNumber 0 = .ok (.iconst 0, 1) := by decide +kernel
theorem dX7_takeNumber_1 : decode cX7_takeNumber 1 = .ok (.istore_n 1, 1) := by decide +kernel
theorem dX7_takeNumber_2 : decode cX7_takeNumber 2 = .ok (.iconst 0, 1) := by decide +kernel
theorem dX7_takeNumber_3 : decode cX7_takeNumber 3 = .ok (.istore_n 2, 1) := by decide +kernel
theorem dX7_takeNumber_4 : decode cX7_takeNumber 4 = .ok (.iload_n 2, 1) := by decide +kernel
theorem dX7_takeNumber_5 : decode cX7_takeNumber 5 = .ok (.sipush 160, 3) := by decide +kernel
theorem dX7_takeNumber_8 : decode cX7_takeNumber 8 = .ok (.if_icmp .ge 50, 3) := by decide +kernel
theorem dX7_takeNumber_11 : decode cX7_takeNumber 11 = .ok (.aload_n 0, 1) := by decide +kernel
theorem dX7_takeNumber_12 : decode cX7_takeNumber 12 = .ok (.aload_n 0, 1) := by decide +kernel
theorem dX7_takeNumber_13 : decode cX7_takeNumber 13 = .ok (.getfield 27, 3) := by decide +kernel
theorem dX7_takeNumber_16 : decode cX7_takeNumber 16 = .ok (.invokevirtual 102, 3) := by decide +kernel
theorem dX7_takeNumber_19 : decode cX7_takeNumber 19 = .ok (.invokestatic 112, 3) := by decide +kernel
theorem dX7_takeNumber_22 : decode cX7_takeNumber 22 = .ok (.ifCond .eq 36, 3) := by decide +kernel
theorem dX7_takeNumber_25 : decode cX7_takeNumber 25 = .ok (.iload_n 1, 1) := by decide +kernel
theorem dX7_takeNumber_26 : decode cX7_takeNumber 26 = .ok (.bipush 10, 2) := by decide +kernel
theorem dX7_takeNumber_28 : decode cX7_takeNumber 28 = .ok (.imul, 1) := by decide +kernel
theorem dX7_takeNumber_29 : decode cX7_takeNumber 29 = .ok (.aload_n 0, 1) := by decide +kernel
theorem dX7_takeNumber_30 : decode cX7_takeNumber 30 = .ok (.aload_n 0, 1) := by decide +kernel
theorem dX7_takeNumber_31 : decode cX7_takeNumber 31 = .ok (.getfield 27, 3) := by decide +kernel
theorem dX7_takeNumber_34 : decode cX7_takeNumber 34 = .ok (.invokevirtual 102, 3) := by decide +kernel
theorem dX7_takeNumber_37 : decode cX7_takeNumber 37 = .ok (.iadd, 1) := by decide +kernel
theorem dX7_takeNumber_38 : decode cX7_takeNumber 38 = .ok (.bipush 48, 2) := by decide +kernel
theorem dX7_takeNumber_40 : decode cX7_takeNumber 40 = .ok (.isub, 1) := by decide +kernel
theorem dX7_takeNumber_41 : decode cX7_takeNumber 41 = .ok (.istore_n 1, 1) := by decide +kernel
theorem dX7_takeNumber_42 : decode cX7_takeNumber 42 = .ok (.aload_n 0, 1) := by decide +kernel
theorem dX7_takeNumber_43 : decode cX7_takeNumber 43 = .ok (.dup, 1) := by decide +kernel
theorem dX7_takeNumber_44 : decode cX7_takeNumber 44 = .ok (.getfield 27, 3) := by decide +kernel
theorem dX7_takeNumber_47 : decode cX7_takeNumber 47 = .ok (.iconst 1, 1) := by decide +kernel
theorem dX7_takeNumber_48 : decode cX7_takeNumber 48 = .ok (.iadd, 1) := by decide +kernel
theorem dX7_takeNumber_49 : decode cX7_takeNumber 49 = .ok (.putfield 27, 3) := by decide +kernel
theorem dX7_takeNumber_52 : decode cX7_takeNumber 52 = .ok (.iinc 2 1, 3) := by decide +kernel
theorem dX7_takeNumber_55 : decode cX7_takeNumber 55 = .ok (.goto (-51), 3) := by decide +kernel
theorem dX7_takeNumber_58 : decode cX7_takeNumber 58 = .ok (.aload_n 0, 1) := by decide +kernel
theorem dX7_takeNumber_59 : decode cX7_takeNumber 59 = .ok (.aload_n 0, 1) := by decide +kernel
theorem dX7_takeNumber_60 : decode cX7_takeNumber 60 = .ok (.getfield 27, 3) := by decide +kernel
theorem dX7_takeNumber_63 : decode cX7_takeNumber 63 = .ok (.aload_n 0, 1) := by decide +kernel
theorem dX7_takeNumber_64 : decode cX7_takeNumber 64 = .ok (.getfield 99, 3) := by decide +kernel
theorem dX7_takeNumber_67 : decode cX7_takeNumber 67 = .ok (.isub, 1) := by decide +kernel
theorem dX7_takeNumber_68 : decode cX7_takeNumber 68 = .ok (.iconst 4, 1) := by decide +kernel
theorem dX7_takeNumber_69 : decode cX7_takeNumber 69 = .ok (.if_icmp .le 7, 3) := by decide +kernel
theorem dX7_takeNumber_72 : decode cX7_takeNumber 72 = .ok (.iconst 1, 1) := by decide +kernel
theorem dX7_takeNumber_73 : decode cX7_takeNumber 73 = .ok (.goto 4, 3) := by decide +kernel
theorem dX7_takeNumber_76 : decode cX7_takeNumber 76 = .ok (.iconst 2, 1) := by decide +kernel
theorem dX7_takeNumber_77 : decode cX7_takeNumber 77 = .ok (.putfield 43, 3) := by decide +kernel
theorem dX7_takeNumber_80 : decode cX7_takeNumber 80 = .ok (.aload_n 0, 1) := by decide +kernel
theorem dX7_takeNumber_81 : decode cX7_takeNumber 81 = .ok (.iload_n 1, 1) := by decide +kernel
theorem dX7_takeNumber_82 : decode cX7_takeNumber 82 = .ok (.putfield 96, 3) := by decide +kernel
theorem dX7_takeNumber_85 : decode cX7_takeNumber 85 = .ok (.return_, 1) := by decide +kernel
theorem dX7_spells_0 : decode cX7_spells 0 = .ok (.aload_n 1, 1) := by decide +kernel
theorem dX7_spells_1 : decode cX7_spells 1 = .ok (.invokevirtual 149, 3) := by decide +kernel
theorem dX7_spells_4 : decode cX7_spells 4 = .ok (.aload_n 0, 1) := by decide +kernel
theorem dX7_spells_5 : decode cX7_spells 5 = .ok (.getfield 27, 3) := by decide +kernel
theorem dX7_spells_8 : decode cX7_spells 8 = .ok (.aload_n 0, 1) := by decide +kernel
theorem dX7_spells_9 : decode cX7_spells 9 = .ok (.getfield 99, 3) := by decide +kernel
theorem dX7_spells_12 : decode cX7_spells 12 = .ok (.isub, 1) := by decide +kernel
theorem dX7_spells_13 : decode cX7_spells 13 = .ok (.if_icmp .eq 5, 3) := by decide +kernel
theorem dX7_spells_16 : decode cX7_spells 16 = .ok (.iconst 0, 1) := by decide +kernel
theorem dX7_spells_17 : decode cX7_spells 17 = .ok (.ireturn, 1) := by decide +kernel
theorem dX7_spells_18 : decode cX7_spells 18 = .ok (.iconst 0, 1) := by decide +kernel
theorem dX7_spells_19 : decode cX7_spells 19 = .ok (.istore_n 2, 1) := by decide +kernel
theorem dX7_spells_20 : decode cX7_spells 20 = .ok (.iload_n 2, 1) := by decide +kernel
theorem dX7_spells_21 : decode cX7_spells 21 = .ok (.aload_n 1, 1) := by decide +kernel
theorem dX7_spells_22 : decode cX7_spells 22 = .ok (.invokevirtual 149, 3) := by decide +kernel
theorem dX7_spells_25 : decode cX7_spells 25 = .ok (.if_icmp .ge 43, 3) := by decide +kernel
theorem dX7_spells_28 : decode cX7_spells 28 = .ok (.aload_n 0, 1) := by decide +kernel
theorem dX7_spells_29 : decode cX7_spells 29 = .ok (.getfield 99, 3) := by decide +kernel
theorem dX7_spells_32 : decode cX7_spells 32 = .ok (.iload_n 2, 1) := by decide +kernel
theorem dX7_spells_33 : decode cX7_spells 33 = .ok (.iadd, 1) := by decide +kernel
theorem dX7_spells_34 : decode cX7_spells 34 = .ok (.istore_n 3, 1) := by decide +kernel
theorem dX7_spells_35 : decode cX7_spells 35 = .ok (.iload_n 3, 1) := by decide +kernel
theorem dX7_spells_36 : decode cX7_spells 36 = .ok (.ifCond .lt 24, 3) := by decide +kernel
theorem dX7_spells_39 : decode cX7_spells 39 = .ok (.iload_n 3, 1) := by decide +kernel
theorem dX7_spells_40 : decode cX7_spells 40 = .ok (.sipush 160, 3) := by decide +kernel
theorem dX7_spells_43 : decode cX7_spells 43 = .ok (.if_icmp .ge 17, 3) := by decide +kernel
theorem dX7_spells_46 : decode cX7_spells 46 = .ok (.aload_n 0, 1) := by decide +kernel
theorem dX7_spells_47 : decode cX7_spells 47 = .ok (.getfield 9, 3) := by decide +kernel
theorem dX7_spells_50 : decode cX7_spells 50 = .ok (.iload_n 3, 1) := by decide +kernel
theorem dX7_spells_51 : decode cX7_spells 51 = .ok (.iaload, 1) := by decide +kernel
theorem dX7_spells_52 : decode cX7_spells 52 = .ok (.aload_n 1, 1) := by decide +kernel
theorem dX7_spells_53 : decode cX7_spells 53 = .ok (.iload_n 2, 1) := by decide +kernel
theorem dX7_spells_54 : decode cX7_spells 54 = .ok (.invokevirtual 155, 3) := by decide +kernel
theorem dX7_spells_57 : decode cX7_spells 57 = .ok (.if_icmp .eq 5, 3) := by decide +kernel
theorem dX7_spells_60 : decode cX7_spells 60 = .ok (.iconst 0, 1) := by decide +kernel
theorem dX7_spells_61 : decode cX7_spells 61 = .ok (.ireturn, 1) := by decide +kernel
theorem dX7_spells_62 : decode cX7_spells 62 = .ok (.iinc 2 1, 3) := by decide +kernel
theorem dX7_spells_65 : decode cX7_spells 65 = .ok (.goto (-45), 3) := by decide +kernel
theorem dX7_spells_68 : decode cX7_spells 68 = .ok (.iconst 1, 1) := by decide +kernel
theorem dX7_spells_69 : decode cX7_spells 69 = .ok (.ireturn, 1) := by decide +kernel
theorem dX7_byteAt_0 : decode cX7_byteAt 0 = .ok (.iload_n 1, 1) := by decide +kernel
theorem dX7_byteAt_1 : decode cX7_byteAt 1 = .ok (.ifCond .lt 27, 3) := by decide +kernel
theorem dX7_byteAt_4 : decode cX7_byteAt 4 = .ok (.iload_n 1, 1) := by decide +kernel
theorem dX7_byteAt_5 : decode cX7_byteAt 5 = .ok (.aload_n 0, 1) := by decide +kernel
theorem dX7_byteAt_6 : decode cX7_byteAt 6 = .ok (.getfield 23, 3) := by decide +kernel
theorem dX7_byteAt_9 : decode cX7_byteAt 9 = .ok (.if_icmp .ge 19, 3) := by decide +kernel
theorem dX7_byteAt_12 : decode cX7_byteAt 12 = .ok (.iload_n 1, 1) := by decide +kernel
theorem dX7_byteAt_13 : decode cX7_byteAt 13 = .ok (.sipush 160, 3) := by decide +kernel
theorem dX7_byteAt_16 : decode cX7_byteAt 16 = .ok (.if_icmp .ge 12, 3) := by decide +kernel
theorem dX7_byteAt_19 : decode cX7_byteAt 19 = .ok (.aload_n 0, 1) := by decide +kernel
theorem dX7_byteAt_20 : decode cX7_byteAt 20 = .ok (.getfield 9, 3) := by decide +kernel
theorem dX7_byteAt_23 : decode cX7_byteAt 23 = .ok (.iload_n 1, 1) := by decide +kernel
theorem dX7_byteAt_24 : decode cX7_byteAt 24 = .ok (.iaload, 1) := by decide +kernel
theorem dX7_byteAt_25 : decode cX7_byteAt 25 = .ok (.goto 4, 3) := by decide +kernel
theorem dX7_byteAt_28 : decode cX7_byteAt 28 = .ok (.iconst (-1), 1) := by decide +kernel
theorem dX7_byteAt_29 : decode cX7_byteAt 29 = .ok (.ireturn, 1) := by decide +kernel
theorem dX7_isLetter_0 : decode cX7_isLetter 0 = .ok (.iload_n 0, 1) := by decide +kernel
theorem dX7_isLetter_1 : decode cX7_isLetter 1 = .ok (.bipush 97, 2) := by decide +kernel
theorem dX7_isLetter_3 : decode cX7_isLetter 3 = .ok (.if_icmp .lt 13, 3) := by decide +kernel
theorem dX7_isLetter_6 : decode cX7_isLetter 6 = .ok (.iload_n 0, 1) := by decide +kernel
theorem dX7_isLetter_7 : decode cX7_isLetter 7 = .ok (.bipush 122, 2) := by decide +kernel
theorem dX7_isLetter_9 : decode cX7_isLetter 9 = .ok (.if_icmp .gt 7, 3) := by decide +kernel
theorem dX7_isLetter_12 : decode cX7_isLetter 12 = .ok (.iconst 1, 1) := by decide +kernel
theorem dX7_isLetter_13 : decode cX7_isLetter 13 = .ok (.goto 4, 3) := by decide +kernel
theorem dX7_isLetter_16 : decode cX7_isLetter 16 = .ok (.iconst 0, 1) := by decide +kernel
theorem dX7_isLetter_17 : decode cX7_isLetter 17 = .ok (.ireturn, 1) := by decide +kernel
theorem dX7_isDigit_0 : decode cX7_isDigit 0 = .ok (.iload_n 0, 1) := by decide +kernel
theorem dX7_isDigit_1 : decode cX7_isDigit 1 = .ok (.bipush 48, 2) := by decide +kernel
theorem dX7_isDigit_3 : decode cX7_isDigit 3 = .ok (.if_icmp .lt 13, 3) := by decide +kernel
theorem dX7_isDigit_6 : decode cX7_isDigit 6 = .ok (.iload_n 0, 1) := by decide +kernel
theorem dX7_isDigit_7 : decode cX7_isDigit 7 = .ok (.bipush 57, 2) := by decide +kernel
theorem dX7_isDigit_9 : decode cX7_isDigit 9 = .ok (.if_icmp .gt 7, 3) := by decide +kernel
theorem dX7_isDigit_12 : decode cX7_isDigit 12 = .ok (.iconst 1, 1) := by decide +kernel
theorem dX7_isDigit_13 : decode cX7_isDigit 13 = .ok (.goto 4, 3) := by decide +kernel
theorem dX7_isDigit_16 : decode cX7_isDigit 16 = .ok (.iconst 0, 1) := by decide +kernel
theorem dX7_isDigit_17 : decode cX7_isDigit 17 = .ok (.ireturn, 1) := by decide +kernel
theorem dX7_isSign_0 : decode cX7_isSign 0 = .ok (.iload_n 0, 1) := by decide +kernel
theorem dX7_isSign_1 : decode cX7_isSign 1 = .ok (.bipush 40, 2) := by decide +kernel
theorem dX7_isSign_3 : decode cX7_isSign 3 = .ok (.if_icmp .eq 45, 3) := by decide +kernel
theorem dX7_isSign_6 : decode cX7_isSign 6 = .ok (.iload_n 0, 1) := by decide +kernel
theorem dX7_isSign_7 : decode cX7_isSign 7 = .ok (.bipush 41, 2) := by decide +kernel
theorem dX7_isSign_9 : decode cX7_isSign 9 = .ok (.if_icmp .eq 39, 3) := by decide +kernel
theorem dX7_isSign_12 : decode cX7_isSign 12 = .ok (.iload_n 0, 1) := by decide +kernel
theorem dX7_isSign_13 : decode cX7_isSign 13 = .ok (.bipush 59, 2) := by decide +kernel
theorem dX7_isSign_15 : decode cX7_isSign 15 = .ok (.if_icmp .eq 33, 3) := by decide +kernel
theorem dX7_isSign_18 : decode cX7_isSign 18 = .ok (.iload_n 0, 1) := by decide +kernel
theorem dX7_isSign_19 : decode cX7_isSign 19 = .ok (.bipush 43, 2) := by decide +kernel
theorem dX7_isSign_21 : decode cX7_isSign 21 = .ok (.if_icmp .eq 27, 3) := by decide +kernel
theorem dX7_isSign_24 : decode cX7_isSign 24 = .ok (.iload_n 0, 1) := by decide +kernel
theorem dX7_isSign_25 : decode cX7_isSign 25 = .ok (.bipush 45, 2) := by decide +kernel
theorem dX7_isSign_27 : decode cX7_isSign 27 = .ok (.if_icmp .eq 21, 3) := by decide +kernel
theorem dX7_isSign_30 : decode cX7_isSign 30 = .ok (.iload_n 0, 1) := by decide +kernel
theorem dX7_isSign_31 : decode cX7_isSign 31 = .ok (.bipush 42, 2) := by decide +kernel
theorem dX7_isSign_33 : decode cX7_isSign 33 = .ok (.if_icmp .eq 15, 3) := by decide +kernel
theorem dX7_isSign_36 : decode cX7_isSign 36 = .ok (.iload_n 0, 1) := by decide +kernel
theorem dX7_isSign_37 : decode cX7_isSign 37 = .ok (.bipush 60, 2) := by decide +kernel
theorem dX7_isSign_39 : decode cX7_isSign 39 = .ok (.if_icmp .eq 9, 3) := by decide +kernel
theorem dX7_isSign_42 : decode cX7_isSign 42 = .ok (.iload_n 0, 1) := by decide +kernel
theorem dX7_isSign_43 : decode cX7_isSign 43 = .ok (.bipush 61, 2) := by decide +kernel
theorem dX7_isSign_45 : decode cX7_isSign 45 = .ok (.if_icmp .ne 7, 3) := by decide +kernel
theorem dX7_isSign_48 : decode cX7_isSign 48 = .ok (.iconst 1, 1) := by decide +kernel
theorem dX7_isSign_49 : decode cX7_isSign 49 = .ok (.goto 4, 3) := by decide +kernel
theorem dX7_isSign_52 : decode cX7_isSign 52 = .ok (.iconst 0, 1) := by decide +kernel
theorem dX7_isSign_53 : decode cX7_isSign 53 = .ok (.ireturn, 1) := by decide +kernel
theorem dX8_init_0 : decode cX8_init 0 = .ok (.aload_n 0, 1) := by decide +kernel
theorem dX8_init_1 : decode cX8_init 1 = .ok (.iload_n 1, 1) := by decide +kernel
theorem dX8_init_2 : decode cX8_init 2 = .ok (.iload_n 2, 1) := by decide +kernel
theorem dX8_init_3 : decode cX8_init 3 = .ok (.iload_n 3, 1) := by decide +kernel
theorem dX8_init_4 : decode cX8_init 4 = .ok (.invokespecial 1, 3) := by decide +kernel
theorem dX8_init_7 : decode cX8_init 7 = .ok (.return_, 1) := by decide +kernel
theorem dX8_kind_0 : decode cX8_kind 0 = .ok (.iconst 2, 1) := by decide +kernel
theorem dX8_kind_1 : decode cX8_kind 1 = .ok (.ireturn, 1) := by decide +kernel
theorem dX8_takesFor_0 : decode cX8_takesFor 0 = .ok (.iload_n 1, 1) := by decide +kernel
theorem dX8_takesFor_1 : decode cX8_takesFor 1 = .ok (.aload_n 0, 1) := by decide +kernel
theorem dX8_takesFor_2 : decode cX8_takesFor 2 = .ok (.getfield 11, 3) := by decide +kernel
theorem dX8_takesFor_5 : decode cX8_takesFor 5 = .ok (.iconst 2, 1) := by decide +kernel
theorem dX8_takesFor_6 : decode cX8_takesFor 6 = .ok (.idiv, 1) := by decide +kernel
theorem dX8_takesFor_7 : decode cX8_takesFor 7 = .ok (.iadd, 1) := by decide +kernel
theorem dX8_takesFor_8 : decode cX8_takesFor 8 = .ok (.ireturn, 1) := by decide +kernel
theorem dX9_init_0 : decode cX9_init 0 = .ok (.aload_n 0, 1) := by decide +kernel
theorem dX9_init_1 : decode cX9_init 1 = .ok (.iload_n 1, 1) := by decide +kernel
theorem dX9_init_2 : decode cX9_init 2 = .ok (.iload_n 2, 1) := by decide +kernel
theorem dX9_init_3 : decode cX9_init 3 = .ok (.iload_n 3, 1) := by decide +kernel
theorem dX9_init_4 : decode cX9_init 4 = .ok (.invokespecial 1, 3) := by decide +kernel
theorem dX9_init_7 : decode cX9_init 7 = .ok (.return_, 1) := by decide +kernel
theorem dX9_kind_0 : decode cX9_kind 0 = .ok (.iconst 5, 1) := by decide +kernel
theorem dX9_kind_1 : decode cX9_kind 1 = .ok (.ireturn, 1) := by decide +kernel
theorem dX9_takesFor_0 : decode cX9_takesFor 0 = .ok (.iload_n 2, 1) := by decide +kernel
theorem dX9_takesFor_1 : decode cX9_takesFor 1 = .ok (.aload_n 0, 1) := by decide +kernel
theorem dX9_takesFor_2 : decode cX9_takesFor 2 = .ok (.getfield 11, 3) := by decide +kernel
theorem dX9_takesFor_5 : decode cX9_takesFor 5 = .ok (.if_icmp .lt 9, 3) := by decide +kernel
theorem dX9_takesFor_8 : decode cX9_takesFor 8 = .ok (.iload_n 1, 1) := by decide +kernel
theorem dX9_takesFor_9 : decode cX9_takesFor 9 = .ok (.iconst 2, 1) := by decide +kernel
theorem dX9_takesFor_10 : decode cX9_takesFor 10 = .ok (.idiv, 1) := by decide +kernel
theorem dX9_takesFor_11 : decode cX9_takesFor 11 = .ok (.goto 4, 3) := by decide +kernel
theorem dX9_takesFor_14 : decode cX9_takesFor 14 = .ok (.iload_n 1, 1) := by decide +kernel
theorem dX9_takesFor_15 : decode cX9_takesFor 15 = .ok (.ireturn, 1) := by decide +kernel
theorem dX10_init_0 : decode cX10_init 0 = .ok (.aload_n 0, 1) := by decide +kernel
theorem dX10_init_1 : decode cX10_init 1 = .ok (.invokespecial 1, 3) := by decide +kernel
theorem dX10_init_4 : decode cX10_init 4 = .ok (.aload_n 0, 1) := by decide +kernel
theorem dX10_init_5 : decode cX10_init 5 = .ok (.iload_n 1, 1) := by decide +kernel
theorem dX10_init_6 : decode cX10_init 6 = .ok (.putfield 7, 3) := by decide +kernel
theorem dX10_init_9 : decode cX10_init 9 = .ok (.aload_n 0, 1) := by decide +kernel
theorem dX10_init_10 : decode cX10_init 10 = .ok (.iload_n 2, 1) := by decide +kernel
theorem dX10_init_11 : decode cX10_init 11 = .ok (.putfield 13, 3) := by decide +kernel
theorem dX10_init_14 : decode cX10_init 14 = .ok (.aload_n 0, 1) := by decide +kernel
theorem dX10_init_15 : decode cX10_init 15 = .ok (.iload_n 3, 1) := by decide +kernel
theorem dX10_init_16 : decode cX10_init 16 = .ok (.putfield 16, 3) := by decide +kernel
theorem dX10_init_19 : decode cX10_init 19 = .ok (.return_, 1) := by decide +kernel
theorem dX10_kind_0 : decode cX10_kind 0 = .ok (.iconst 0, 1) := by decide +kernel
theorem dX10_kind_1 : decode cX10_kind 1 = .ok (.ireturn, 1) := by decide +kernel
theorem dX10_takesFor_0 : decode cX10_takesFor 0 = .ok (.iload_n 1, 1) := by decide +kernel
theorem dX10_takesFor_1 : decode cX10_takesFor 1 = .ok (.ireturn, 1) := by decide +kernel
theorem dX10_stepFor_0 : decode cX10_stepFor 0 = .ok (.iload_n 1, 1) := by decide +kernel
theorem dX10_stepFor_1 : decode cX10_stepFor 1 = .ok (.ireturn, 1) := by decide +kernel
theorem dX10_waits_0 : decode cX10_waits 0 = .ok (.iconst 1, 1) := by decide +kernel
theorem dX10_waits_1 : decode cX10_waits 1 = .ok (.ireturn, 1) := by decide +kernel
theorem dX10_beginGoing_0 : decode cX10_beginGoing 0 = .ok (.aload_n 0, 1) := by decide +kernel
theorem dX10_beginGoing_1 : decode cX10_beginGoing 1 = .ok (.aload_n 0, 1) := by decide +kernel
theorem dX10_beginGoing_2 : decode cX10_beginGoing 2 = .ok (.getfield 16, 3) := by decide +kernel
theorem dX10_beginGoing_5 : decode cX10_beginGoing 5 = .ok (.putfield 19, 3) := by decide +kernel
theorem dX10_beginGoing_8 : decode cX10_beginGoing 8 = .ok (.aload_n 0, 1) := by decide +kernel
theorem dX10_beginGoing_9 : decode cX10_beginGoing 9 = .ok (.iconst 1, 1) := by decide +kernel
theorem dX10_beginGoing_10 : decode cX10_beginGoing 10 = .ok (.putfield 22, 3) := by decide +kernel
theorem dX10_beginGoing_13 : decode cX10_beginGoing 13 = .ok (.aload_n 0, 1) := by decide +kernel
theorem dX10_beginGoing_14 : decode cX10_beginGoing 14 = .ok (.iconst 0, 1) := by decide +kernel
theorem dX10_beginGoing_15 : decode cX10_beginGoing 15 = .ok (.putfield 25, 3) := by decide +kernel
theorem dX10_beginGoing_18 : decode cX10_beginGoing 18 = .ok (.aload_n 0, 1) := by decide +kernel
theorem dX10_beginGoing_19 : decode cX10_beginGoing 19 = .ok (.iconst 0, 1) := by decide +kernel
theorem dX10_beginGoing_20 : decode cX10_beginGoing 20 = .ok (.putfield 28, 3) := by decide +kernel
theorem dX10_beginGoing_23 : decode cX10_beginGoing 23 = .ok (.aload_n 0, 1) := by decide +kernel
theorem dX10_beginGoing_24 : decode cX10_beginGoing 24 = .ok (.iconst 0, 1) := by decide +kernel
theorem dX10_beginGoing_25 : decode cX10_beginGoing 25 = .ok (.putfield 31, 3) := by decide +kernel
theorem dX10_beginGoing_28 : decode cX10_beginGoing 28 = .ok (.aload_n 0, 1) := by decide +kernel
theorem dX10_beginGoing_29 : decode cX10_beginGoing 29 = .ok (.iconst 0, 1) := by decide +kernel
theorem dX10_beginGoing_30 : decode cX10_beginGoing 30 = .ok (.putfield 34, 3) := by decide +kernel
theorem dX10_beginGoing_33 : decode cX10_beginGoing 33 = .ok (.aload_n 0, 1) := by decide +kernel
theorem dX10_beginGoing_34 : decode cX10_beginGoing 34 = .ok (.iconst 0, 1) := by decide +kernel
theorem dX10_beginGoing_35 : decode cX10_beginGoing 35 = .ok (.putfield 37, 3) := by decide +kernel
theorem dX10_beginGoing_38 : decode cX10_beginGoing 38 = .ok (.aload_n 0, 1) := by decide +kernel
theorem dX10_beginGoing_39 : decode cX10_beginGoing 39 = .ok (.iconst 0, 1) := by decide +kernel
theorem dX10_beginGoing_40 : decode cX10_beginGoing 40 = .ok (.putfield 41, 3) := by decide +kernel
theorem dX10_beginGoing_43 : decode cX10_beginGoing 43 = .ok (.return_, 1) := by decide +kernel
theorem dX11_init_0 : decode cX11_init 0 = .ok (.aload_n 0, 1) := by decide +kernel
theorem dX11_init_1 : decode cX11_init 1 = .ok (.invokespecial 1, 3) := by decide +kernel
theorem dX11_init_4 : decode cX11_init 4 = .ok (.aload_n 0, 1) := by decide +kernel
theorem dX11_init_5 : decode cX11_init 5 = .ok (.bipush 9, 2) := by decide +kernel
theorem dX11_init_7 : decode cX11_init 7 = .ok (.newarray .int, 2) := by decide +kernel
theorem dX11_init_9 : decode cX11_init 9 = .ok (.putfield 9, 3) := by decide +kernel
theorem dX11_init_12 : decode cX11_init 12 = .ok (.aload_n 0, 1) := by decide +kernel
theorem dX11_init_13 : decode cX11_init 13 = .ok (.bipush 9, 2) := by decide +kernel
theorem dX11_init_15 : decode cX11_init 15 = .ok (.newarray .int, 2) := by decide +kernel
theorem dX11_init_17 : decode cX11_init 17 = .ok (.putfield 13, 3) := by decide +kernel
theorem dX11_init_20 : decode cX11_init 20 = .ok (.aload_n 0, 1) := by decide +kernel
theorem dX11_init_21 : decode cX11_init 21 = .ok (.bipush 20, 2) := by decide +kernel
theorem dX11_init_23 : decode cX11_init 23 = .ok (.putfield 16, 3) := by decide +kernel
theorem dX11_init_26 : decode cX11_init 26 = .ok (.aload_n 0, 1) := by decide +kernel
theorem dX11_init_27 : decode cX11_init 27 = .ok (.iconst 5, 1) := by decide +kernel
theorem dX11_init_28 : decode cX11_init 28 = .ok (.anewarray 20, 3) := by decide +kernel
theorem dX11_init_31 : decode cX11_init 31 = .ok (.putfield 22, 3) := by decide +kernel
theorem dX11_init_34 : decode cX11_init 34 = .ok (.aload_n 0, 1) := by decide +kernel
theorem dX11_init_35 : decode cX11_init 35 = .ok (.bipush 6, 2) := by decide +kernel
theorem dX11_init_37 : decode cX11_init 37 = .ok (.anewarray 26, 3) := by decide +kernel
theorem dX11_init_40 : decode cX11_init 40 = .ok (.putfield 28, 3) := by decide +kernel
theorem dX11_init_43 : decode cX11_init 43 = .ok (.aload_n 0, 1) := by decide +kernel
theorem dX11_init_44 : decode cX11_init 44 = .ok (.new 32, 3) := by decide +kernel
theorem dX11_init_47 : decode cX11_init 47 = .ok (.dup, 1) := by decide +kernel
theorem dX11_init_48 : decode cX11_init 48 = .ok (.invokespecial 34, 3) := by decide +kernel
theorem dX11_init_51 : decode cX11_init 51 = .ok (.putfield 35, 3) := by decide +kernel
theorem dX11_init_54 : decode cX11_init 54 = .ok (.aload_n 0, 1) := by decide +kernel
theorem dX11_init_55 : decode cX11_init 55 = .ok (.iconst 4, 1) := by decide +kernel
theorem dX11_init_56 : decode cX11_init 56 = .ok (.anewarray 39, 3) := by decide +kernel
theorem dX11_init_59 : decode cX11_init 59 = .ok (.putfield 41, 3) := by decide +kernel
theorem dX11_init_62 : decode cX11_init 62 = .ok (.aload_n 0, 1) := by decide +kernel
theorem dX11_init_63 : decode cX11_init 63 = .ok (.new 45, 3) := by decide +kernel
theorem dX11_init_66 : decode cX11_init 66 = .ok (.dup, 1) := by decide +kernel
theorem dX11_init_67 : decode cX11_init 67 = .ok (.invokespecial 47, 3) := by decide +kernel
theorem dX11_init_70 : decode cX11_init 70 = .ok (.putfield 48, 3) := by decide +kernel
theorem dX11_init_73 : decode cX11_init 73 = .ok (.aload_n 0, 1) := by decide +kernel
theorem dX11_init_74 : decode cX11_init 74 = .ok (.iconst 5, 1) := by decide +kernel
theorem dX11_init_75 : decode cX11_init 75 = .ok (.newarray .int, 2) := by decide +kernel
theorem dX11_init_77 : decode cX11_init 77 = .ok (.putfield 52, 3) := by decide +kernel
theorem dX11_init_80 : decode cX11_init 80 = .ok (.aload_n 0, 1) := by decide +kernel
theorem dX11_init_81 : decode cX11_init 81 = .ok (.bipush 6, 2) := by decide +kernel
theorem dX11_init_83 : decode cX11_init 83 = .ok (.bipush 10, 2) := by decide +kernel
theorem dX11_init_85 : decode cX11_init 85 = .ok (.multianewarray 55 2, 4) := by decide +kernel
theorem dX11_init_89 : decode cX11_init 89 = .ok (.putfield 57, 3) := by decide +kernel
theorem dX11_init_92 : decode cX11_init 92 = .ok (.aload_n 0, 1) := by decide +kernel
theorem dX11_init_93 : decode cX11_init 93 = .ok (.iconst 5, 1) := by decide +kernel
theorem dX11_init_94 : decode cX11_init 94 = .ok (.newarray .int, 2) := by decide +kernel
theorem dX11_init_96 : decode cX11_init 96 = .ok (.putfield 60, 3) := by decide +kernel
theorem dX11_init_99 : decode cX11_init 99 = .ok (.aload_n 0, 1) := by decide +kernel
theorem dX11_init_100 : decode cX11_init 100 = .ok (.bipush 9, 2) := by decide +kernel
theorem dX11_init_102 : decode cX11_init 102 = .ok (.newarray .int, 2) := by decide +kernel
theorem dX11_init_104 : decode cX11_init 104 = .ok (.putfield 63, 3) := by decide +kernel
theorem dX11_init_107 : decode cX11_init 107 = .ok (.aload_n 0, 1) := by decide +kernel
theorem dX11_init_108 : decode cX11_init 108 = .ok (.bipush 9, 2) := by decide +kernel
theorem dX11_init_110 : decode cX11_init 110 = .ok (.newarray .int, 2) := by decide +kernel
theorem dX11_init_112 : decode cX11_init 112 = .ok (.putfield 66, 3) := by decide +kernel
theorem dX11_init_115 : decode cX11_init 115 = .ok (.aload_n 0, 1) := by decide +kernel
theorem dX11_init_116 : decode cX11_init 116 = .ok (.iconst 5, 1) := by decide +kernel
theorem dX11_init_117 : decode cX11_init 117 = .ok (.newarray .int, 2) := by decide +kernel
theorem dX11_init_119 : decode cX11_init 119 = .ok (.putfield 69, 3) := by decide +kernel
theorem dX11_init_122 : decode cX11_init 122 = .ok (.aload_n 0, 1) := by decide +kernel
theorem dX11_init_123 : decode cX11_init 123 = .ok (.iconst (-1), 1) := by decide +kernel
theorem dX11_init_124 : decode cX11_init 124 = .ok (.putfield 72, 3) := by decide +kernel
theorem dX11_init_127 : decode cX11_init 127 = .ok (.aload_n 0, 1) := by decide +kernel
theorem dX11_init_128 : decode cX11_init 128 = .ok (.getfield 9, 3) := by decide +kernel
theorem dX11_init_131 : decode cX11_init 131 = .ok (.bipush 50, 2) := by decide +kernel
theorem dX11_init_133 : decode cX11_init 133 = .ok (.invokestatic 75, 3) := by decide +kernel
theorem dX11_init_136 : decode cX11_init 136 = .ok (.aload_n 0, 1) := by decide +kernel
theorem dX11_init_137 : decode cX11_init 137 = .ok (.getfield 28, 3) := by decide +kernel
theorem dX11_init_140 : decode cX11_init 140 = .ok (.iconst 0, 1) := by decide +kernel
theorem dX11_init_141 : decode cX11_init 141 = .ok (.new 26, 3) := by decide +kernel
theorem dX11_init_144 : decode cX11_init 144 = .ok (.dup, 1) := by decide +kernel
theorem dX11_init_145 : decode cX11_init 145 = .ok (.getstatic 81, 3) := by decide +kernel
theorem dX11_init_148 : decode cX11_init 148 = .ok (.getstatic 84, 3) := by decide +kernel
theorem dX11_init_151 : decode cX11_init 151 = .ok (.invokespecial 87, 3) := by decide +kernel
theorem dX11_init_154 : decode cX11_init 154 = .ok (.aastore, 1) := by decide +kernel
theorem dX11_init_155 : decode cX11_init 155 = .ok (.aload_n 0, 1) := by decide +kernel
theorem dX11_init_156 : decode cX11_init 156 = .ok (.iconst 1, 1) := by decide +kernel
theorem dX11_init_157 : decode cX11_init 157 = .ok (.putfield 90, 3) := by decide +kernel
theorem dX11_init_160 : decode cX11_init 160 = .ok (.iconst 0, 1) := by decide +kernel
theorem dX11_init_161 : decode cX11_init 161 = .ok (.istore_n 1, 1) := by decide +kernel
theorem dX11_init_162 : decode cX11_init 162 = .ok (.iload_n 1, 1) := by decide +kernel
theorem dX11_init_163 : decode cX11_init 163 = .ok (.iconst 4, 1) := by decide +kernel
theorem dX11_init_164 : decode cX11_init 164 = .ok (.if_icmp .ge 22, 3) := by decide +kernel
theorem dX11_init_167 : decode cX11_init 167 = .ok (.aload_n 0, 1) := by decide +kernel
theorem dX11_init_168 : decode cX11_init 168 = .ok (.getfield 41, 3) := by decide +kernel
theorem dX11_init_171 : decode cX11_init 171 = .ok (.iload_n 1, 1) := by decide +kernel
theorem dX11_init_172 : decode cX11_init 172 = .ok (.new 39, 3) := by decide +kernel
theorem dX11_init_175 : decode cX11_init 175 = .ok (.dup, 1) := by decide +kernel
theorem dX11_init_176 : decode cX11_init 176 = .ok (.invokespecial 93, 3) := by decide +kernel
theorem dX11_init_179 : decode cX11_init 179 = .ok (.aastore, 1) := by decide +kernel
theorem dX11_init_180 : decode cX11_init 180 = .ok (.iinc 1 1, 3) := by decide +kernel
theorem dX11_init_183 : decode cX11_init 183 = .ok (.goto (-21), 3) := by decide +kernel
theorem dX11_init_186 : decode cX11_init 186 = .ok (.return_, 1) := by decide +kernel
theorem dX11_set_0 : decode cX11_set 0 = .ok (.iload_n 1, 1) := by decide +kernel
theorem dX11_set_1 : decode cX11_set 1 = .ok (.ifCond .lt 8, 3) := by decide +kernel
theorem dX11_set_4 : decode cX11_set 4 = .ok (.iload_n 1, 1) := by decide +kernel
theorem dX11_set_5 : decode cX11_set 5 = .ok (.iconst 2, 1) := by decide +kernel
theorem dX11_set_6 : decode cX11_set 6 = .ok (.if_icmp .le 6, 3) := by decide +kernel
theorem dX11_set_9 : decode cX11_set 9 = .ok (.bipush (-5), 2) := by decide +kernel
theorem dX11_set_11 : decode cX11_set 11 = .ok (.ireturn, 1) := by decide +kernel
theorem dX11_set_12 : decode cX11_set 12 = .ok (.iload_n 1, 1) := by decide +kernel
theorem dX11_set_13 : decode cX11_set 13 = .ok (.iconst 2, 1) := by decide +kernel
theorem dX11_set_14 : decode cX11_set 14 = .ok (.if_icmp .ne 9, 3) := by decide +kernel
theorem dX11_set_17 : decode cX11_set 17 = .ok (.aload_n 0, 1) := by decide +kernel
theorem dX11_set_18 : decode cX11_set 18 = .ok (.iload_n 3, 1) := by decide +kernel
theorem dX11_set_19 : decode cX11_set 19 = .ok (.invokevirtual 103, 3) := by decide +kernel
theorem dX11_set_22 : decode cX11_set 22 = .ok (.ireturn, 1) := by decide +kernel
theorem dX11_set_23 : decode cX11_set 23 = .ok (.iload_n 2, 1) := by decide +kernel
theorem dX11_set_24 : decode cX11_set 24 = .ok (.invokestatic 107, 3) := by decide +kernel
theorem dX11_set_27 : decode cX11_set 27 = .ok (.ifCond .eq 6, 3) := by decide +kernel
theorem dX11_set_30 : decode cX11_set 30 = .ok (.bipush (-6), 2) := by decide +kernel
theorem dX11_set_32 : decode cX11_set 32 = .ok (.ireturn, 1) := by decide +kernel
theorem dX11_set_33 : decode cX11_set 33 = .ok (.iload_n 3, 1) := by decide +kernel
theorem dX11_set_34 : decode cX11_set 34 = .ok (.ifCond .lt 19, 3) := by decide +kernel
theorem dX11_set_37 : decode cX11_set 37 = .ok (.iload_n 3, 1) := by decide +kernel
theorem dX11_set_38 : decode cX11_set 38 = .ok (.iload_n 1, 1) := by decide +kernel
theorem dX11_set_39 : decode cX11_set 39 = .ok (.ifCond .ne 9, 3) := by decide +kernel
theorem dX11_set_42 : decode cX11_set 42 = .ok (.sipush 200, 3) := by decide +kernel
theorem dX11_set_45 : decode cX11_set 45 = .ok (.goto 5, 3) := by decide +kernel
theorem dX11_set_48 : decode cX11_set 48 = .ok (.bipush 9, 2) := by decide +kernel
theorem dX11_set_50 : decode cX11_set 50 = .ok (.if_icmp .le 6, 3) := by decide +kernel
theorem dX11_set_53 : decode cX11_set 53 = .ok (.bipush (-7), 2) := by decide +kernel
theorem dX11_set_55 : decode cX11_set 55 = .ok (.ireturn, 1) := by decide +kernel
theorem dX11_set_56 : decode cX11_set 56 = .ok (.iload_n 1, 1) := by decide +kernel
theorem dX11_set_57 : decode cX11_set 57 = .ok (.ifCond .ne 10, 3) := by decide +kernel
theorem dX11_set_60 : decode cX11_set 60 = .ok (.aload_n 0, 1) := by decide +kernel
theorem dX11_set_61 : decode cX11_set 61 = .ok (.getfield 9, 3) := by decide +kernel
theorem dX11_set_64 : decode cX11_set 64 = .ok (.goto 7, 3) := by decide +kernel
theorem dX11_set_67 : decode cX11_set 67 = .ok (.aload_n 0, 1) := by decide +kernel
theorem dX11_set_68 : decode cX11_set 68 = .ok (.getfield 13, 3) := by decide +kernel
theorem dX11_set_71 : decode cX11_set 71 = .ok (.astore 4, 2) := by decide +kernel
theorem dX11_set_73 : decode cX11_set 73 = .ok (.aload 4, 2) := by decide +kernel
theorem dX11_set_75 : decode cX11_set 75 = .ok (.iload_n 2, 1) := by decide +kernel
theorem dX11_set_76 : decode cX11_set 76 = .ok (.iaload, 1) := by decide +kernel
theorem dX11_set_77 : decode cX11_set 77 = .ok (.istore 5, 2) := by decide +kernel
theorem dX11_set_79 : decode cX11_set 79 = .ok (.aload 4, 2) := by decide +kernel
theorem dX11_set_81 : decode cX11_set 81 = .ok (.iload_n 2, 1) := by decide +kernel
theorem dX11_set_82 : decode cX11_set 82 = .ok (.iload_n 3, 1) := by decide +kernel
theorem dX11_set_83 : decode cX11_set 83 = .ok (.iastore, 1) := by decide +kernel
theorem dX11_set_84 : decode cX11_set 84 = .ok (.iload 5, 2) := by decide +kernel
theorem dX11_set_86 : decode cX11_set 86 = .ok (.ireturn, 1) := by decide +kernel
theorem dX11_changeWant_0 : decode cX11_changeWant 0 = .ok (.iload_n 1, 1) := by decide +kernel
theorem dX11_changeWant_1 : decode cX11_changeWant 1 = .ok (.iconst 1, 1) := by decide +kernel
theorem dX11_changeWant_2 : decode cX11_changeWant 2 = .ok (.if_icmp .lt 10, 3) := by decide +kernel
theorem dX11_changeWant_5 : decode cX11_changeWant 5 = .ok (.iload_n 1, 1) := by decide +kernel
theorem dX11_changeWant_6 : decode cX11_changeWant 6 = .ok (.sipush 200, 3) := by decide +kernel
theorem dX11_changeWant_9 : decode cX11_changeWant 9 = .ok (.if_icmp .le 6, 3) := by decide +kernel
theorem dX11_changeWant_12 : decode cX11_changeWant 12 = .ok (.bipush (-7), 2) := by decide +kernel
theorem dX11_changeWant_14 : decode cX11_changeWant 14 = .ok (.ireturn, 1) := by decide +kernel
theorem dX11_changeWant_15 : decode cX11_changeWant 15 = .ok (.aload_n 0, 1) := by decide +kernel
theorem dX11_changeWant_16 : decode cX11_changeWant 16 = .ok (.getfield 16, 3) := by decide +kernel
theorem dX11_changeWant_19 : decode cX11_changeWant 19 = .ok (.istore_n 2, 1) := by decide +kernel
theorem dX11_changeWant_20 : decode cX11_changeWant 20 = .ok (.aload_n 0, 1) := by decide +kernel
theorem dX11_changeWant_21 : decode cX11_changeWant 21 = .ok (.iload_n 1, 1) := by decide +kernel
theorem dX11_changeWant_22 : decode cX11_changeWant 22 = .ok (.putfield 16, 3) := by decide +kernel
theorem dX11_changeWant_25 : decode cX11_changeWant 25 = .ok (.iload_n 2, 1) := by decide +kernel
theorem dX11_changeWant_26 : decode cX11_changeWant 26 = .ok (.ireturn, 1) := by decide +kernel
theorem dX11_heap_0 : decode cX11_heap 0 = .ok (.iload_n 1, 1) := by decide +kernel
theorem dX11_heap_1 : decode cX11_heap 1 = .ok (.invokestatic 107, 3) := by decide +kernel
theorem dX11_heap_4 : decode cX11_heap 4 = .ok (.ifCond .eq 6, 3) := by decide +kernel
theorem dX11_heap_7 : decode cX11_heap 7 = .ok (.bipush (-6), 2) := by decide +kernel
theorem dX11_heap_9 : decode cX11_heap 9 = .ok (.ireturn, 1) := by decide +kernel
theorem dX11_heap_10 : decode cX11_heap 10 = .ok (.iload_n 2, 1) := by decide +kernel
theorem dX11_heap_11 : decode cX11_heap 11 = .ok (.ifCond .lt 8, 3) := by decide +kernel
theorem dX11_heap_14 : decode cX11_heap 14 = .ok (.iload_n 2, 1) := by decide +kernel
theorem dX11_heap_15 : decode cX11_heap 15 = .ok (.iconst 1, 1) := by decide +kernel
theorem dX11_heap_16 : decode cX11_heap 16 = .ok (.if_icmp .le 6, 3) := by decide +kernel
theorem dX11_heap_19 : decode cX11_heap 19 = .ok (.bipush (-7), 2) := by decide +kernel
theorem dX11_heap_21 : decode cX11_heap 21 = .ok (.ireturn, 1) := by decide +kernel
theorem dX11_heap_22 : decode cX11_heap 22 = .ok (.iload_n 2, 1) := by decide +kernel
theorem dX11_heap_23 : decode cX11_heap 23 = .ok (.ifCond .ne 12, 3) := by decide +kernel
theorem dX11_heap_26 : decode cX11_heap 26 = .ok (.aload_n 0, 1) := by decide +kernel
theorem dX11_heap_27 : decode cX11_heap 27 = .ok (.getfield 9, 3) := by decide +kernel
theorem dX11_heap_30 : decode cX11_heap 30 = .ok (.iload_n 1, 1) := by decide +kernel
theorem dX11_heap_31 : decode cX11_heap 31 = .ok (.iaload, 1) := by decide +kernel
theorem dX11_heap_32 : decode cX11_heap 32 = .ok (.goto 9, 3) := by decide +kernel
theorem dX11_heap_35 : decode cX11_heap 35 = .ok (.aload_n 0, 1) := by decide +kernel
theorem dX11_heap_36 : decode cX11_heap 36 = .ok (.getfield 13, 3) := by decide +kernel
theorem dX11_heap_39 : decode cX11_heap 39 = .ok (.iload_n 1, 1) := by decide +kernel
theorem dX11_heap_40 : decode cX11_heap 40 = .ok (.iaload, 1) := by decide +kernel
theorem dX11_heap_41 : decode cX11_heap 41 = .ok (.ireturn, 1) := by decide +kernel
theorem dX11_feed_0 : decode cX11_feed 0 = .ok (.iload_n 1, 1) := by decide +kernel
theorem dX11_feed_1 : decode cX11_feed 1 = .ok (.iconst 1, 1) := by decide +kernel
theorem dX11_feed_2 : decode cX11_feed 2 = .ok (.if_icmp .lt 46, 3) := by decide +kernel
theorem dX11_feed_5 : decode cX11_feed 5 = .ok (.iload_n 1, 1) := by decide +kernel
theorem dX11_feed_6 : decode cX11_feed 6 = .ok (.iconst 5, 1) := by decide +kernel
theorem dX11_feed_7 : decode cX11_feed 7 = .ok (.if_icmp .gt 41, 3) := by decide +kernel
theorem dX11_feed_10 : decode cX11_feed 10 = .ok (.iload_n 2, 1) := by decide +kernel
theorem dX11_feed_11 : decode cX11_feed 11 = .ok (.invokestatic 111, 3) := by decide +kernel
theorem dX11_feed_14 : decode cX11_feed 14 = .ok (.ifCond .ne 34, 3) := by decide +kernel
theorem dX11_feed_17 : decode cX11_feed 17 = .ok (.iload_n 3, 1) := by decide +kernel
theorem dX11_feed_18 : decode cX11_feed 18 = .ok (.invokestatic 111, 3) := by decide +kernel
theorem dX11_feed_21 : decode cX11_feed 21 = .ok (.ifCond .ne 27, 3) := by decide +kernel
theorem dX11_feed_24 : decode cX11_feed 24 = .ok (.iload 4, 2) := by decide +kernel
theorem dX11_feed_26 : decode cX11_feed 26 = .ok (.invokestatic 111, 3) := by decide +kernel
theorem dX11_feed_29 : decode cX11_feed 29 = .ok (.ifCond .ne 19, 3) := by decide +kernel
theorem dX11_feed_32 : decode cX11_feed 32 = .ok (.iload 5, 2) := by decide +kernel
theorem dX11_feed_34 : decode cX11_feed 34 = .ok (.invokestatic 111, 3) := by decide +kernel
theorem dX11_feed_37 : decode cX11_feed 37 = .ok (.ifCond .ne 11, 3) := by decide +kernel
theorem dX11_feed_40 : decode cX11_feed 40 = .ok (.iload 6, 2) := by decide +kernel
theorem dX11_feed_42 : decode cX11_feed 42 = .ok (.invokestatic 111, 3) := by decide +kernel
theorem dX11_feed_45 : decode cX11_feed 45 = .ok (.ifCond .eq 6, 3) := by decide +kernel
theorem dX11_feed_48 : decode cX11_feed 48 = .ok (.bipush (-2), 2) := by decide +kernel
theorem dX11_feed_50 : decode cX11_feed 50 = .ok (.ireturn, 1) := by decide +kernel
theorem dX11_feed_51 : decode cX11_feed 51 = .ok (.iload_n 1, 1) := by decide +kernel
theorem dX11_feed_52 : decode cX11_feed 52 = .ok (.sipush 160, 3) := by decide +kernel
theorem dX11_feed_55 : decode cX11_feed 55 = .ok (.aload_n 0, 1) := by decide +kernel
theorem dX11_feed_56 : decode cX11_feed 56 = .ok (.getfield 35, 3) := by decide +kernel
theorem dX11_feed_59 : decode cX11_feed 59 = .ok (.getfield 100, 3) := by decide +kernel
theorem dX11_feed_62 : decode cX11_feed 62 = .ok (.isub, 1) := by decide +kernel
theorem dX11_feed_63 : decode cX11_feed 63 = .ok (.if_icmp .le 6, 3) := by decide +kernel
theorem dX11_feed_66 : decode cX11_feed 66 = .ok (.bipush (-4), 2) := by decide +kernel
theorem dX11_feed_68 : decode cX11_feed 68 = .ok (.ireturn, 1) := by decide +kernel
theorem dX11_feed_69 : decode cX11_feed 69 = .ok (.aload_n 0, 1) := by decide +kernel
theorem dX11_feed_70 : decode cX11_feed 70 = .ok (.getfield 35, 3) := by decide +kernel
theorem dX11_feed_73 : decode cX11_feed 73 = .ok (.iload_n 2, 1) := by decide +kernel
theorem dX11_feed_74 : decode cX11_feed 74 = .ok (.invokevirtual 114, 3) := by decide +kernel
theorem dX11_feed_77 : decode cX11_feed 77 = .ok (.iload_n 1, 1) := by decide +kernel
theorem dX11_feed_78 : decode cX11_feed 78 = .ok (.iconst 1, 1) := by decide +kernel
theorem dX11_feed_79 : decode cX11_feed 79 = .ok (.if_icmp .le 11, 3) := by decide +kernel
theorem dX11_feed_82 : decode cX11_feed 82 = .ok (.aload_n 0, 1) := by decide +kernel
theorem dX11_feed_83 : decode cX11_feed 83 = .ok (.getfield 35, 3) := by decide +kernel
theorem dX11_feed_86 : decode cX11_feed 86 = .ok (.iload_n 3, 1) := by decide +kernel
theorem dX11_feed_87 : decode cX11_feed 87 = .ok (.invokevirtual 114, 3) := by decide +kernel
theorem dX11_feed_90 : decode cX11_feed 90 = .ok (.iload_n 1, 1) := by decide +kernel
theorem dX11_feed_91 : decode cX11_feed 91 = .ok (.iconst 2, 1) := by decide +kernel
theorem dX11_feed_92 : decode cX11_feed 92 = .ok (.if_icmp .le 12, 3) := by decide +kernel
theorem dX11_feed_95 : decode cX11_feed 95 = .ok (.aload_n 0, 1) := by decide +kernel
theorem dX11_feed_96 : decode cX11_feed 96 = .ok (.getfield 35, 3) := by decide +kernel
theorem dX11_feed_99 : decode cX11_feed 99 = .ok (.iload 4, 2) := by decide +kernel
theorem dX11_feed_101 : decode cX11_feed 101 = .ok (.invokevirtual 114, 3) := by decide +kernel
theorem dX11_feed_104 : decode cX11_feed 104 = .ok (.iload_n 1, 1) := by decide +kernel
theorem dX11_feed_105 : decode cX11_feed 105 = .ok (.iconst 3, 1) := by decide +kernel
theorem dX11_feed_106 : decode cX11_feed 106 = .ok (.if_icmp .le 12, 3) := by decide +kernel
theorem dX11_feed_109 : decode cX11_feed 109 = .ok (.aload_n 0, 1) := by decide +kernel
theorem dX11_feed_110 : decode cX11_feed 110 = .ok (.getfield 35, 3) := by decide +kernel
theorem dX11_feed_113 : decode cX11_feed 113 = .ok (.iload 5, 2) := by decide +kernel
theorem dX11_feed_115 : decode cX11_feed 115 = .ok (.invokevirtual 114, 3) := by decide +kernel
theorem dX11_feed_118 : decode cX11_feed 118 = .ok (.iload_n 1, 1) := by decide +kernel
theorem dX11_feed_119 : decode cX11_feed 119 = .ok (.iconst 4, 1) := by decide +kernel
theorem dX11_feed_120 : decode cX11_feed 120 = .ok (.if_icmp .le 12, 3) := by decide +kernel
theorem dX11_feed_123 : decode cX11_feed 123 = .ok (.aload_n 0, 1) := by decide +kernel
theorem dX11_feed_124 : decode cX11_feed 124 = .ok (.getfield 35, 3) := by decide +kernel
theorem dX11_feed_127 : decode cX11_feed 127 = .ok (.iload 6, 2) := by decide +kernel
theorem dX11_feed_129 : decode cX11_feed 129 = .ok (.invokevirtual 114, 3) := by decide +kernel
theorem dX11_feed_132 : decode cX11_feed 132 = .ok (.aload_n 0, 1) := by decide +kernel
theorem dX11_feed_133 : decode cX11_feed 133 = .ok (.getfield 35, 3) := by decide +kernel
theorem dX11_feed_136 : decode cX11_feed 136 = .ok (.getfield 100, 3) := by decide +kernel
theorem dX11_feed_139 : decode cX11_feed 139 = .ok (.ireturn, 1) := by decide +kernel
theorem dX11_text_0 : decode cX11_text 0 = .ok (.aload_n 0, 1) := by decide +kernel
theorem dX11_text_1 : decode cX11_text 1 = .ok (.getfield 90, 3) := by decide +kernel
theorem dX11_text_4 : decode cX11_text 4 = .ok (.ifCond .lt 12, 3) := by decide +kernel
theorem dX11_text_7 : decode cX11_text 7 = .ok (.aload_n 0, 1) := by decide +kernel
theorem dX11_text_8 : decode cX11_text 8 = .ok (.getfield 90, 3) := by decide +kernel
theorem dX11_text_11 : decode cX11_text 11 = .ok (.bipush 6, 2) := by decide +kernel
theorem dX11_text_13 : decode cX11_text 13 = .ok (.if_icmp .lt 6, 3) := by decide +kernel
theorem dX11_text_16 : decode cX11_text 16 = .ok (.bipush (-4), 2) := by decide +kernel
theorem dX11_text_18 : decode cX11_text 18 = .ok (.ireturn, 1) := by decide +kernel
theorem dX11_text_19 : decode cX11_text 19 = .ok (.aload_n 0, 1) := by decide +kernel
theorem dX11_text_20 : decode cX11_text 20 = .ok (.getfield 35, 3) := by decide +kernel
theorem dX11_text_23 : decode cX11_text 23 = .ok (.invokevirtual 118, 3) := by decide +kernel
theorem dX11_text_26 : decode cX11_text 26 = .ok (.istore_n 1, 1) := by decide +kernel
theorem dX11_text_27 : decode cX11_text 27 = .ok (.aload_n 0, 1) := by decide +kernel
theorem dX11_text_28 : decode cX11_text 28 = .ok (.getfield 35, 3) := by decide +kernel
theorem dX11_text_31 : decode cX11_text 31 = .ok (.iconst 0, 1) := by decide +kernel
theorem dX11_text_32 : decode cX11_text 32 = .ok (.putfield 100, 3) := by decide +kernel
theorem dX11_text_35 : decode cX11_text 35 = .ok (.iload_n 1, 1) := by decide +kernel
theorem dX11_text_36 : decode cX11_text 36 = .ok (.iconst (-1), 1) := by decide +kernel
theorem dX11_text_37 : decode cX11_text 37 = .ok (.if_icmp .eq 8, 3) := by decide +kernel
theorem dX11_text_40 : decode cX11_text 40 = .ok (.bipush (-100), 2) := by decide +kernel
theorem dX11_text_42 : decode cX11_text 42 = .ok (.iload_n 1, 1) := by decide +kernel
theorem dX11_text_43 : decode cX11_text 43 = .ok (.isub, 1) := by decide +kernel
theorem dX11_text_44 : decode cX11_text 44 = .ok (.ireturn, 1) := by decide +kernel
theorem dX11_text_45 : decode cX11_text 45 = .ok (.aload_n 0, 1) := by decide +kernel
theorem dX11_text_46 : decode cX11_text 46 = .ok (.getfield 28, 3) := by decide +kernel
theorem dX11_text_49 : decode cX11_text 49 = .ok (.aload_n 0, 1) := by decide +kernel
theorem dX11_text_50 : decode cX11_text 50 = .ok (.getfield 90, 3) := by decide +kernel
theorem dX11_text_53 : decode cX11_text 53 = .ok (.aload_n 0, 1) := by decide +kernel
theorem dX11_text_54 : decode cX11_text 54 = .ok (.getfield 35, 3) := by decide +kernel
theorem dX11_text_57 : decode cX11_text 57 = .ok (.invokevirtual 122, 3) := by decide +kernel
theorem dX11_text_60 : decode cX11_text 60 = .ok (.aastore, 1) := by decide +kernel
theorem dX11_text_61 : decode cX11_text 61 = .ok (.aload_n 0, 1) := by decide +kernel
theorem dX11_text_62 : decode cX11_text 62 = .ok (.dup, 1) := by decide +kernel
theorem dX11_text_63 : decode cX11_text 63 = .ok (.getfield 90, 3) := by decide +kernel
theorem dX11_text_66 : decode cX11_text 66 = .ok (.iconst 1, 1) := by decide +kernel
theorem dX11_text_67 : decode cX11_text 67 = .ok (.iadd, 1) := by decide +kernel
theorem dX11_text_68 : decode cX11_text 68 = .ok (.putfield 90, 3) := by decide +kernel
theorem dX11_text_71 : decode cX11_text 71 = .ok (.aload_n 0, 1) := by decide +kernel
theorem dX11_text_72 : decode cX11_text 72 = .ok (.getfield 90, 3) := by decide +kernel
theorem dX11_text_75 : decode cX11_text 75 = .ok (.iconst 1, 1) := by decide +kernel
theorem dX11_text_76 : decode cX11_text 76 = .ok (.isub, 1) := by decide +kernel
theorem dX11_text_77 : decode cX11_text 77 = .ok (.ireturn, 1) := by decide +kernel
theorem dX11_force_0 : decode cX11_force 0 = .ok (.iload_n 1, 1) := by decide +kernel
theorem dX11_force_1 : decode cX11_force 1 = .ok (.ifCond .lt 11, 3) := by decide +kernel
theorem dX11_force_4 : decode cX11_force 4 = .ok (.iload_n 1, 1) := by decide +kernel
theorem dX11_force_5 : decode cX11_force 5 = .ok (.aload_n 0, 1) := by decide +kernel
theorem dX11_force_6 : decode cX11_force 6 = .ok (.getfield 90, 3) := by decide +kernel
theorem dX11_force_9 : decode cX11_force 9 = .ok (.if_icmp .lt 6, 3) := by decide +kernel
theorem dX11_force_12 : decode cX11_force 12 = .ok (.bipush (-2), 2) := by decide +kernel
theorem dX11_force_14 : decode cX11_force 14 = .ok (.ireturn, 1) := by decide +kernel
theorem dX11_force_15 : decode cX11_force 15 = .ok (.aload_n 0, 1) := by decide +kernel
theorem dX11_force_16 : decode cX11_force 16 = .ok (.getfield 97, 3) := by decide +kernel
theorem dX11_force_19 : decode cX11_force 19 = .ok (.istore_n 2, 1) := by decide +kernel
theorem dX11_force_20 : decode cX11_force 20 = .ok (.aload_n 0, 1) := by decide +kernel
theorem dX11_force_21 : decode cX11_force 21 = .ok (.iload_n 1, 1) := by decide +kernel
theorem dX11_force_22 : decode cX11_force 22 = .ok (.putfield 97, 3) := by decide +kernel
theorem dX11_force_25 : decode cX11_force 25 = .ok (.iload_n 2, 1) := by decide +kernel
theorem dX11_force_26 : decode cX11_force 26 = .ok (.ireturn, 1) := by decide +kernel
theorem dX11_walker_0 : decode cX11_walker 0 = .ok (.iload_n 1, 1) := by decide +kernel
theorem dX11_walker_1 : decode cX11_walker 1 = .ok (.ifCond .lt 26, 3) := by decide +kernel
theorem dX11_walker_4 : decode cX11_walker 4 = .ok (.iload_n 1, 1) := by decide +kernel
theorem dX11_walker_5 : decode cX11_walker 5 = .ok (.bipush 6, 2) := by decide +kernel
theorem dX11_walker_7 : decode cX11_walker 7 = .ok (.if_icmp .ge 20, 3) := by decide +kernel
theorem dX11_walker_10 : decode cX11_walker 10 = .ok (.iload_n 2, 1) := by decide +kernel
theorem dX11_walker_11 : decode cX11_walker 11 = .ok (.ifCond .lt 16, 3) := by decide +kernel
theorem dX11_walker_14 : decode cX11_walker 14 = .ok (.iload_n 2, 1) := by decide +kernel
theorem dX11_walker_15 : decode cX11_walker 15 = .ok (.bipush 9, 2) := by decide +kernel
theorem dX11_walker_17 : decode cX11_walker 17 = .ok (.if_icmp .gt 10, 3) := by decide +kernel
theorem dX11_walker_20 : decode cX11_walker 20 = .ok (.iload_n 3, 1) := by decide +kernel
theorem dX11_walker_21 : decode cX11_walker 21 = .ok (.invokestatic 107, 3) := by decide +kernel
theorem dX11_walker_24 : decode cX11_walker 24 = .ok (.ifCond .eq 6, 3) := by decide +kernel
theorem dX11_walker_27 : decode cX11_walker 27 = .ok (.bipush (-2), 2) := by decide +kernel
theorem dX11_walker_29 : decode cX11_walker 29 = .ok (.ireturn, 1) := by decide +kernel
theorem dX11_walker_30 : decode cX11_walker 30 = .ok (.aload_n 0, 1) := by decide +kernel
theorem dX11_walker_31 : decode cX11_walker 31 = .ok (.getfield 94, 3) := by decide +kernel
theorem dX11_walker_34 : decode cX11_walker 34 = .ok (.ifCond .lt 11, 3) := by decide +kernel
theorem dX11_walker_37 : decode cX11_walker 37 = .ok (.aload_n 0, 1) := by decide +kernel
theorem dX11_walker_38 : decode cX11_walker 38 = .ok (.getfield 94, 3) := by decide +kernel
theorem dX11_walker_41 : decode cX11_walker 41 = .ok (.iconst 5, 1) := by decide +kernel
theorem dX11_walker_42 : decode cX11_walker 42 = .ok (.if_icmp .lt 6, 3) := by decide +kernel
theorem dX11_walker_45 : decode cX11_walker 45 = .ok (.bipush (-4), 2) := by decide +kernel
theorem dX11_walker_47 : decode cX11_walker 47 = .ok (.ireturn, 1) := by decide +kernel
theorem dX11_walker_48 : decode cX11_walker 48 = .ok (.aload_n 0, 1) := by decide +kernel
theorem dX11_walker_49 : decode cX11_walker 49 = .ok (.getfield 22, 3) := by decide +kernel
theorem dX11_walker_52 : decode cX11_walker 52 = .ok (.aload_n 0, 1) := by decide +kernel
theorem dX11_walker_53 : decode cX11_walker 53 = .ok (.getfield 94, 3) := by decide +kernel
theorem dX11_walker_56 : decode cX11_walker 56 = .ok (.iload_n 1, 1) := by decide +kernel
theorem dX11_walker_57 : decode cX11_walker 57 = .ok (.aload_n 0, 1) := by decide +kernel
theorem dX11_walker_58 : decode cX11_walker 58 = .ok (.getfield 94, 3) := by decide +kernel
theorem dX11_walker_61 : decode cX11_walker 61 = .ok (.iload_n 2, 1) := by decide +kernel
theorem dX11_walker_62 : decode cX11_walker 62 = .ok (.iload_n 3, 1) := by decide +kernel
theorem dX11_walker_63 : decode cX11_walker 63 = .ok (.invokestatic 147, 3) := by decide +kernel
theorem dX11_walker_66 : decode cX11_walker 66 = .ok (.aastore, 1) := by decide +kernel
theorem dX11_walker_67 : decode cX11_walker 67 = .ok (.aload_n 0, 1) := by decide +kernel
theorem dX11_walker_68 : decode cX11_walker 68 = .ok (.dup, 1) := by decide +kernel
theorem dX11_walker_69 : decode cX11_walker 69 = .ok (.getfield 94, 3) := by decide +kernel
theorem dX11_walker_72 : decode cX11_walker 72 = .ok (.iconst 1, 1) := by decide +kernel
theorem dX11_walker_73 : decode cX11_walker 73 = .ok (.iadd, 1) := by decide +kernel
theorem dX11_walker_74 : decode cX11_walker 74 = .ok (.putfield 94, 3) := by decide +kernel
theorem dX11_walker_77 : decode cX11_walker 77 = .ok (.aload_n 0, 1) := by decide +kernel
theorem dX11_walker_78 : decode cX11_walker 78 = .ok (.getfield 94, 3) := by decide +kernel
theorem dX11_walker_81 : decode cX11_walker 81 = .ok (.iconst 1, 1) := by decide +kernel
theorem dX11_walker_82 : decode cX11_walker 82 = .ok (.isub, 1) := by decide +kernel
theorem dX11_walker_83 : decode cX11_walker 83 = .ok (.ireturn, 1) := by decide +kernel
theorem dX11_told_0 : decode cX11_told 0 = .ok (.aload_n 0, 1) := by decide +kernel
theorem dX11_told_1 : decode cX11_told 1 = .ok (.iload_n 1, 1) := by decide +kernel
theorem dX11_told_2 : decode cX11_told 2 = .ok (.invokevirtual 135, 3) := by decide +kernel
theorem dX11_told_5 : decode cX11_told 5 = .ok (.astore_n 3, 1) := by decide +kernel
theorem dX11_told_6 : decode cX11_told 6 = .ok (.aload_n 3, 1) := by decide +kernel
theorem dX11_told_7 : decode cX11_told 7 = .ok (.ifnonnull 6, 3) := by decide +kernel
theorem dX11_told_10 : decode cX11_told 10 = .ok (.bipush (-5), 2) := by decide +kernel
theorem dX11_told_12 : decode cX11_told 12 = .ok (.ireturn, 1) := by decide +kernel
theorem dX11_told_13 : decode cX11_told 13 = .ok (.iload_n 2, 1) := by decide +kernel
theorem dX11_told_14 : decode cX11_told 14 = .ok (.tableswitch 58 0 3 #[30, 35, 40, 45], 30) := by decide +kernel
theorem dX11_told_44 : decode cX11_told 44 = .ok (.aload_n 3, 1) := by decide +kernel
theorem dX11_told_45 : decode cX11_told 45 = .ok (.invokevirtual 154, 3) := by decide +kernel
theorem dX11_told_48 : decode cX11_told 48 = .ok (.ireturn, 1) := by decide +kernel
theorem dX11_told_49 : decode cX11_told 49 = .ok (.aload_n 3, 1) := by decide +kernel
theorem dX11_told_50 : decode cX11_told 50 = .ok (.getfield 157, 3) := by decide +kernel
theorem dX11_told_53 : decode cX11_told 53 = .ok (.ireturn, 1) := by decide +kernel
theorem dX11_told_54 : decode cX11_told 54 = .ok (.aload_n 3, 1) := by decide +kernel
theorem dX11_told_55 : decode cX11_told 55 = .ok (.getfield 151, 3) := by decide +kernel
theorem dX11_told_58 : decode cX11_told 58 = .ok (.ireturn, 1) := by decide +kernel
theorem dX11_told_59 : decode cX11_told 59 = .ok (.aload_n 3, 1) := by decide +kernel
theorem dX11_told_60 : decode cX11_told 60 = .ok (.invokevirtual 160, 3) := by decide +kernel
theorem dX11_told_63 : decode cX11_told 63 = .ok (.ifCond .eq 7, 3) := by decide +kernel
theorem dX11_told_66 : decode cX11_told 66 = .ok (.iconst 1, 1) := by decide +kernel
theorem dX11_told_67 : decode cX11_told 67 = .ok (.goto 4, 3) := by decide +kernel
theorem dX11_told_70 : decode cX11_told 70 = .ok (.iconst 0, 1) := by decide +kernel
theorem dX11_told_71 : decode cX11_told 71 = .ok (.ireturn, 1) := by decide +kernel
theorem dX11_told_72 : decode cX11_told 72 = .ok (.bipush (-7), 2) := by decide +kernel
theorem dX11_told_74 : decode cX11_told 74 = .ok (.ireturn, 1) := by decide +kernel
theorem dX11_run_0 : decode cX11_run 0 = .ok (.iload_n 1, 1) := by decide +kernel
theorem dX11_run_1 : decode cX11_run 1 = .ok (.invokestatic 164, 3) := by decide +kernel
theorem dX11_run_4 : decode cX11_run 4 = .ok (.ifCond .ne 12, 3) := by decide +kernel
theorem dX11_run_7 : decode cX11_run 7 = .ok (.iload_n 2, 1) := by decide +kernel
theorem dX11_run_8 : decode cX11_run 8 = .ok (.ifCond .lt 8, 3) := by decide +kernel
theorem dX11_run_11 : decode cX11_run 11 = .ok (.iload_n 2, 1) := by decide +kernel
theorem dX11_run_12 : decode cX11_run 12 = .ok (.iconst 4, 1) := by decide +kernel
theorem dX11_run_13 : decode cX11_run 13 = .ok (.if_icmp .le 6, 3) := by decide +kernel
theorem dX11_run_16 : decode cX11_run 16 = .ok (.bipush (-2), 2) := by decide +kernel
theorem dX11_run_18 : decode cX11_run 18 = .ok (.ireturn, 1) := by decide +kernel
theorem dX11_run_19 : decode cX11_run 19 = .ok (.aload_n 0, 1) := by decide +kernel
theorem dX11_run_20 : decode cX11_run 20 = .ok (.invokevirtual 167, 3) := by decide +kernel
theorem dX11_run_23 : decode cX11_run 23 = .ok (.aload_n 0, 1) := by decide +kernel
theorem dX11_run_24 : decode cX11_run 24 = .ok (.getfield 48, 3) := by decide +kernel
theorem dX11_run_27 : decode cX11_run 27 = .ok (.iload_n 1, 1) := by decide +kernel
theorem dX11_run_28 : decode cX11_run 28 = .ok (.invokevirtual 170, 3) := by decide +kernel
theorem dX11_run_31 : decode cX11_run 31 = .ok (.iload_n 2, 1) := by decide +kernel
theorem dX11_run_32 : decode cX11_run 32 = .ok (.tableswitch 64 0 3 #[32, 40, 48, 56], 32) := by decide +kernel
theorem dX11_run_64 : decode cX11_run 64 = .ok (.aload_n 0, 1) := by decide +kernel
theorem dX11_run_65 : decode cX11_run 65 = .ok (.getfield 48, 3) := by decide +kernel
theorem dX11_run_68 : decode cX11_run 68 = .ok (.getfield 173, 3) := by decide +kernel
theorem dX11_run_71 : decode cX11_run 71 = .ok (.ireturn, 1) := by decide +kernel
theorem dX11_run_72 : decode cX11_run 72 = .ok (.aload_n 0, 1) := by decide +kernel
theorem dX11_run_73 : decode cX11_run 73 = .ok (.getfield 48, 3) := by decide +kernel
theorem dX11_run_76 : decode cX11_run 76 = .ok (.getfield 176, 3) := by decide +kernel
theorem dX11_run_79 : decode cX11_run 79 = .ok (.ireturn, 1) := by decide +kernel
theorem dX11_run_80 : decode cX11_run 80 = .ok (.aload_n 0, 1) := by decide +kernel
theorem dX11_run_81 : decode cX11_run 81 = .ok (.getfield 48, 3) := by decide +kernel
theorem dX11_run_84 : decode cX11_run 84 = .ok (.getfield 179, 3) := by decide +kernel
theorem dX11_run_87 : decode cX11_run 87 = .ok (.ireturn, 1) := by decide +kernel
theorem dX11_run_88 : decode cX11_run 88 = .ok (.aload_n 0, 1) := by decide +kernel
theorem dX11_run_89 : decode cX11_run 89 = .ok (.getfield 48, 3) := by decide +kernel
theorem dX11_run_92 : decode cX11_run 92 = .ok (.invokevirtual 182, 3) := by decide +kernel
theorem dX11_run_95 : decode cX11_run 95 = .ok (.ireturn, 1) := by decide +kernel
theorem dX11_run_96 : decode cX11_run 96 = .ok (.aload_n 0, 1) := by decide +kernel
theorem dX11_run_97 : decode cX11_run 97 = .ok (.getfield 48, 3) := by decide +kernel
theorem dX11_run_100 : decode cX11_run 100 = .ok (.getfield 185, 3) := by decide +kernel
theorem dX11_run_103 : decode cX11_run 103 = .ok (.ireturn, 1) := by decide +kernel
theorem dX11_one_0 : decode cX11_one 0 = .ok (.aload_n 0, 1) := by decide +kernel
theorem dX11_one_1 : decode cX11_one 1 = .ok (.iload_n 1, 1) := by decide +kernel
theorem dX11_one_2 : decode cX11_one 2 = .ok (.invokevirtual 135, 3) := by decide +kernel
theorem dX11_one_5 : decode cX11_one 5 = .ok (.astore 4, 2) := by decide +kernel
theorem dX11_one_7 : decode cX11_one 7 = .ok (.aload 4, 2) := by decide +kernel
theorem dX11_one_9 : decode cX11_one 9 = .ok (.ifnonnull 6, 3) := by decide +kernel
theorem dX11_one_12 : decode cX11_one 12 = .ok (.bipush (-5), 2) := by decide +kernel
theorem dX11_one_14 : decode cX11_one 14 = .ok (.ireturn, 1) := by decide +kernel
theorem dX11_one_15 : decode cX11_one 15 = .ok (.iload_n 2, 1) := by decide +kernel
theorem dX11_one_16 : decode cX11_one 16 = .ok (.invokestatic 164, 3) := by decide +kernel
theorem dX11_one_19 : decode cX11_one 19 = .ok (.ifCond .ne 12, 3) := by decide +kernel
theorem dX11_one_22 : decode cX11_one 22 = .ok (.iload_n 3, 1) := by decide +kernel
theorem dX11_one_23 : decode cX11_one 23 = .ok (.ifCond .lt 8, 3) := by decide +kernel
theorem dX11_one_26 : decode cX11_one 26 = .ok (.iload_n 3, 1) := by decide +kernel
theorem dX11_one_27 : decode cX11_one 27 = .ok (.iconst 4, 1) := by decide +kernel
theorem dX11_one_28 : decode cX11_one 28 = .ok (.if_icmp .le 6, 3) := by decide +kernel
theorem dX11_one_31 : decode cX11_one 31 = .ok (.bipush (-7), 2) := by decide +kernel
theorem dX11_one_33 : decode cX11_one 33 = .ok (.ireturn, 1) := by decide +kernel
theorem dX11_one_34 : decode cX11_one 34 = .ok (.aload_n 0, 1) := by decide +kernel
theorem dX11_one_35 : decode cX11_one 35 = .ok (.invokevirtual 167, 3) := by decide +kernel
theorem dX11_one_38 : decode cX11_one 38 = .ok (.aload_n 0, 1) := by decide +kernel
theorem dX11_one_39 : decode cX11_one 39 = .ok (.getfield 48, 3) := by decide +kernel
theorem dX11_one_42 : decode cX11_one 42 = .ok (.iload_n 2, 1) := by decide +kernel
theorem dX11_one_43 : decode cX11_one 43 = .ok (.invokevirtual 170, 3) := by decide +kernel
theorem dX11_one_46 : decode cX11_one 46 = .ok (.iload_n 3, 1) := by decide +kernel
theorem dX11_one_47 : decode cX11_one 47 = .ok (.tableswitch 53 0 3 #[29, 35, 41, 47], 29) := by decide +kernel
theorem dX11_one_76 : decode cX11_one 76 = .ok (.aload 4, 2) := by decide +kernel
theorem dX11_one_78 : decode cX11_one 78 = .ok (.getfield 188, 3) := by decide +kernel
theorem dX11_one_81 : decode cX11_one 81 = .ok (.ireturn, 1) := by decide +kernel
theorem dX11_one_82 : decode cX11_one 82 = .ok (.aload 4, 2) := by decide +kernel
theorem dX11_one_84 : decode cX11_one 84 = .ok (.getfield 191, 3) := by decide +kernel
theorem dX11_one_87 : decode cX11_one 87 = .ok (.ireturn, 1) := by decide +kernel
theorem dX11_one_88 : decode cX11_one 88 = .ok (.aload 4, 2) := by decide +kernel
theorem dX11_one_90 : decode cX11_one 90 = .ok (.getfield 194, 3) := by decide +kernel
theorem dX11_one_93 : decode cX11_one 93 = .ok (.ireturn, 1) := by decide +kernel
theorem dX11_one_94 : decode cX11_one 94 = .ok (.aload 4, 2) := by decide +kernel
theorem dX11_one_96 : decode cX11_one 96 = .ok (.getfield 197, 3) := by decide +kernel
theorem dX11_one_99 : decode cX11_one 99 = .ok (.ireturn, 1) := by decide +kernel
theorem dX11_one_100 : decode cX11_one 100 = .ok (.aload 4, 2) := by decide +kernel
theorem dX11_one_102 : decode cX11_one 102 = .ok (.getfield 200, 3) := by decide +kernel
theorem dX11_one_105 : decode cX11_one 105 = .ok (.ireturn, 1) := by decide +kernel
theorem dX11_height_0 : decode cX11_height 0 = .ok (.iload_n 1, 1) := by decide +kernel
theorem dX11_height_1 : decode cX11_height 1 = .ok (.invokestatic 107, 3) := by decide +kernel
theorem dX11_height_4 : decode cX11_height 4 = .ok (.ifCond .eq 6, 3) := by decide +kernel
theorem dX11_height_7 : decode cX11_height 7 = .ok (.bipush (-6), 2) := by decide +kernel
theorem dX11_height_9 : decode cX11_height 9 = .ok (.ireturn, 1) := by decide +kernel
theorem dX11_height_10 : decode cX11_height 10 = .ok (.iload_n 2, 1) := by decide +kernel
theorem dX11_height_11 : decode cX11_height 11 = .ok (.invokestatic 164, 3) := by decide +kernel
theorem dX11_height_14 : decode cX11_height 14 = .ok (.ifCond .ne 12, 3) := by decide +kernel
theorem dX11_height_17 : decode cX11_height 17 = .ok (.iload_n 3, 1) := by decide +kernel
theorem dX11_height_18 : decode cX11_height 18 = .ok (.ifCond .lt 8, 3) := by decide +kernel
theorem dX11_height_21 : decode cX11_height 21 = .ok (.iload_n 3, 1) := by decide +kernel
theorem dX11_height_22 : decode cX11_height 22 = .ok (.iconst 1, 1) := by decide +kernel
theorem dX11_height_23 : decode cX11_height 23 = .ok (.if_icmp .le 6, 3) := by decide +kernel
theorem dX11_height_26 : decode cX11_height 26 = .ok (.bipush (-7), 2) := by decide +kernel
theorem dX11_height_28 : decode cX11_height 28 = .ok (.ireturn, 1) := by decide +kernel
theorem dX11_height_29 : decode cX11_height 29 = .ok (.aload_n 0, 1) := by decide +kernel
theorem dX11_height_30 : decode cX11_height 30 = .ok (.invokevirtual 167, 3) := by decide +kernel
theorem dX11_height_33 : decode cX11_height 33 = .ok (.aload_n 0, 1) := by decide +kernel
theorem dX11_height_34 : decode cX11_height 34 = .ok (.getfield 48, 3) := by decide +kernel
theorem dX11_height_37 : decode cX11_height 37 = .ok (.iload_n 2, 1) := by decide +kernel
theorem dX11_height_38 : decode cX11_height 38 = .ok (.invokevirtual 170, 3) := by decide +kernel
theorem dX11_height_41 : decode cX11_height 41 = .ok (.iload_n 3, 1) := by decide +kernel
theorem dX11_height_42 : decode cX11_height 42 = .ok (.ifCond .ne 17, 3) := by decide +kernel
theorem dX11_height_45 : decode cX11_height 45 = .ok (.aload_n 0, 1) := by decide +kernel
theorem dX11_height_46 : decode cX11_height 46 = .ok (.getfield 48, 3) := by decide +kernel
theorem dX11_height_49 : decode cX11_height 49 = .ok (.iload_n 1, 1) := by decide +kernel
theorem dX11_height_50 : decode cX11_height 50 = .ok (.invokevirtual 203, 3) := by decide +kernel
theorem dX11_height_53 : decode cX11_height 53 = .ok (.getfield 207, 3) := by decide +kernel
theorem dX11_height_56 : decode cX11_height 56 = .ok (.goto 14, 3) := by decide +kernel
theorem dX11_height_59 : decode cX11_height 59 = .ok (.aload_n 0, 1) := by decide +kernel
theorem dX11_height_60 : decode cX11_height 60 = .ok (.getfield 48, 3) := by decide +kernel
theorem dX11_height_63 : decode cX11_height 63 = .ok (.iload_n 1, 1) := by decide +kernel
theorem dX11_height_64 : decode cX11_height 64 = .ok (.invokevirtual 203, 3) := by decide +kernel
theorem dX11_height_67 : decode cX11_height 67 = .ok (.getfield 211, 3) := by decide +kernel
theorem dX11_height_70 : decode cX11_height 70 = .ok (.ireturn, 1) := by decide +kernel
theorem dX11_go_0 : decode cX11_go 0 = .ok (.iload_n 1, 1) := by decide +kernel
theorem dX11_go_1 : decode cX11_go 1 = .ok (.invokestatic 164, 3) := by decide +kernel
theorem dX11_go_4 : decode cX11_go 4 = .ok (.ifCond .eq 6, 3) := by decide +kernel
theorem dX11_go_7 : decode cX11_go 7 = .ok (.bipush (-2), 2) := by decide +kernel
theorem dX11_go_9 : decode cX11_go 9 = .ok (.ireturn, 1) := by decide +kernel
theorem dX11_go_10 : decode cX11_go 10 = .ok (.aload_n 0, 1) := by decide +kernel
theorem dX11_go_11 : decode cX11_go 11 = .ok (.invokevirtual 167, 3) := by decide +kernel
theorem dX11_go_14 : decode cX11_go 14 = .ok (.aload_n 0, 1) := by decide +kernel
theorem dX11_go_15 : decode cX11_go 15 = .ok (.getfield 48, 3) := by decide +kernel
theorem dX11_go_18 : decode cX11_go 18 = .ok (.iload_n 1, 1) := by decide +kernel
theorem dX11_go_19 : decode cX11_go 19 = .ok (.invokevirtual 170, 3) := by decide +kernel
theorem dX11_go_22 : decode cX11_go 22 = .ok (.iconst 0, 1) := by decide +kernel
theorem dX11_go_23 : decode cX11_go 23 = .ok (.istore_n 2, 1) := by decide +kernel
theorem dX11_go_24 : decode cX11_go 24 = .ok (.iload_n 2, 1) := by decide +kernel
theorem dX11_go_25 : decode cX11_go 25 = .ok (.bipush 9, 2) := by decide +kernel
theorem dX11_go_27 : decode cX11_go 27 = .ok (.if_icmp .ge 26, 3) := by decide +kernel
theorem dX11_go_30 : decode cX11_go 30 = .ok (.aload_n 0, 1) := by decide +kernel
theorem dX11_go_31 : decode cX11_go 31 = .ok (.getfield 9, 3) := by decide +kernel
theorem dX11_go_34 : decode cX11_go 34 = .ok (.iload_n 2, 1) := by decide +kernel
theorem dX11_go_35 : decode cX11_go 35 = .ok (.aload_n 0, 1) := by decide +kernel
theorem dX11_go_36 : decode cX11_go 36 = .ok (.getfield 48, 3) := by decide +kernel
theorem dX11_go_39 : decode cX11_go 39 = .ok (.iload_n 2, 1) := by decide +kernel
theorem dX11_go_40 : decode cX11_go 40 = .ok (.invokevirtual 203, 3) := by decide +kernel
theorem dX11_go_43 : decode cX11_go 43 = .ok (.getfield 207, 3) := by decide +kernel
theorem dX11_go_46 : decode cX11_go 46 = .ok (.iastore, 1) := by decide +kernel
theorem dX11_go_47 : decode cX11_go 47 = .ok (.iinc 2 1, 3) := by decide +kernel
theorem dX11_go_50 : decode cX11_go 50 = .ok (.goto (-26), 3) := by decide +kernel
theorem dX11_go_53 : decode cX11_go 53 = .ok (.aload_n 0, 1) := by decide +kernel
theorem dX11_go_54 : decode cX11_go 54 = .ok (.getfield 48, 3) := by decide +kernel
theorem dX11_go_57 : decode cX11_go 57 = .ok (.getfield 173, 3) := by decide +kernel
theorem dX11_go_60 : decode cX11_go 60 = .ok (.ireturn, 1) := by decide +kernel
theorem dX11_best_0 : decode cX11_best 0 = .ok (.iload_n 1, 1) := by decide +kernel
theorem dX11_best_1 : decode cX11_best 1 = .ok (.ifCond .lt 8, 3) := by decide +kernel
theorem dX11_best_4 : decode cX11_best 4 = .ok (.iload_n 1, 1) := by decide +kernel
theorem dX11_best_5 : decode cX11_best 5 = .ok (.iconst 2, 1) := by decide +kernel
theorem dX11_best_6 : decode cX11_best 6 = .ok (.if_icmp .le 6, 3) := by decide +kernel
theorem dX11_best_9 : decode cX11_best 9 = .ok (.bipush (-2), 2) := by decide +kernel
theorem dX11_best_11 : decode cX11_best 11 = .ok (.ireturn, 1) := by decide +kernel
theorem dX11_best_12 : decode cX11_best 12 = .ok (.ldc 220, 2) := by decide +kernel
theorem dX11_best_14 : decode cX11_best 14 = .ok (.istore_n 2, 1) := by decide +kernel
theorem dX11_best_15 : decode cX11_best 15 = .ok (.iconst (-1), 1) := by decide +kernel
theorem dX11_best_16 : decode cX11_best 16 = .ok (.istore_n 3, 1) := by decide +kernel
theorem dX11_best_17 : decode cX11_best 17 = .ok (.iconst 0, 1) := by decide +kernel
theorem dX11_best_18 : decode cX11_best 18 = .ok (.istore 4, 2) := by decide +kernel
theorem dX11_best_20 : decode cX11_best 20 = .ok (.iconst 1, 1) := by decide +kernel
theorem dX11_best_21 : decode cX11_best 21 = .ok (.istore 5, 2) := by decide +kernel
theorem dX11_best_23 : decode cX11_best 23 = .ok (.aload_n 0, 1) := by decide +kernel
theorem dX11_best_24 : decode cX11_best 24 = .ok (.invokevirtual 221, 3) := by decide +kernel
theorem dX11_best_27 : decode cX11_best 27 = .ok (.iconst 0, 1) := by decide +kernel
theorem dX11_best_28 : decode cX11_best 28 = .ok (.istore 6, 2) := by decide +kernel
theorem dX11_best_30 : decode cX11_best 30 = .ok (.iload 6, 2) := by decide +kernel
theorem dX11_best_32 : decode cX11_best 32 = .ok (.bipush 120, 2) := by decide +kernel
theorem dX11_best_34 : decode cX11_best 34 = .ok (.if_icmp .ge 147, 3) := by decide +kernel
theorem dX11_best_37 : decode cX11_best 37 = .ok (.iload 5, 2) := by decide +kernel
theorem dX11_best_39 : decode cX11_best 39 = .ok (.ifCond .eq 142, 3) := by decide +kernel
theorem dX11_best_42 : decode cX11_best 42 = .ok (.aload_n 0, 1) := by decide +kernel
theorem dX11_best_43 : decode cX11_best 43 = .ok (.invokevirtual 224, 3) := by decide +kernel
theorem dX11_best_46 : decode cX11_best 46 = .ok (.iload_n 2, 1) := by decide +kernel
theorem dX11_best_47 : decode cX11_best 47 = .ok (.iconst 1, 1) := by decide +kernel
theorem dX11_best_48 : decode cX11_best 48 = .ok (.iadd, 1) := by decide +kernel
theorem dX11_best_49 : decode cX11_best 49 = .ok (.sipush 600, 3) := by decide +kernel
theorem dX11_best_52 : decode cX11_best 52 = .ok (.invokestatic 227, 3) := by decide +kernel
theorem dX11_best_55 : decode cX11_best 55 = .ok (.istore 7, 2) := by decide +kernel
theorem dX11_best_57 : decode cX11_best 57 = .ok (.aload_n 0, 1) := by decide +kernel
theorem dX11_best_58 : decode cX11_best 58 = .ok (.getfield 48, 3) := by decide +kernel
theorem dX11_best_61 : decode cX11_best 61 = .ok (.iload 7, 2) := by decide +kernel
theorem dX11_best_63 : decode cX11_best 63 = .ok (.invokevirtual 170, 3) := by decide +kernel
theorem dX11_best_66 : decode cX11_best 66 = .ok (.aload_n 0, 1) := by decide +kernel
theorem dX11_best_67 : decode cX11_best 67 = .ok (.getfield 48, 3) := by decide +kernel
theorem dX11_best_70 : decode cX11_best 70 = .ok (.getfield 185, 3) := by decide +kernel
theorem dX11_best_73 : decode cX11_best 73 = .ok (.iconst (-1), 1) := by decide +kernel
theorem dX11_best_74 : decode cX11_best 74 = .ok (.if_icmp .ne 8, 3) := by decide +kernel
theorem dX11_best_77 : decode cX11_best 77 = .ok (.ldc 220, 2) := by decide +kernel
theorem dX11_best_79 : decode cX11_best 79 = .ok (.goto 10, 3) := by decide +kernel
theorem dX11_best_82 : decode cX11_best 82 = .ok (.aload_n 0, 1) := by decide +kernel
theorem dX11_best_83 : decode cX11_best 83 = .ok (.getfield 48, 3) := by decide +kernel
theorem dX11_best_86 : decode cX11_best 86 = .ok (.getfield 185, 3) := by decide +kernel
theorem dX11_best_89 : decode cX11_best 89 = .ok (.istore 8, 2) := by decide +kernel
theorem dX11_best_91 : decode cX11_best 91 = .ok (.iload 8, 2) := by decide +kernel
theorem dX11_best_93 : decode cX11_best 93 = .ok (.iload_n 2, 1) := by decide +kernel
theorem dX11_best_94 : decode cX11_best 94 = .ok (.if_icmp .gt 75, 3) := by decide +kernel
theorem dX11_best_97 : decode cX11_best 97 = .ok (.aload_n 0, 1) := by decide +kernel
theorem dX11_best_98 : decode cX11_best 98 = .ok (.getfield 48, 3) := by decide +kernel
theorem dX11_best_101 : decode cX11_best 101 = .ok (.sipush 600, 3) := by decide +kernel
theorem dX11_best_104 : decode cX11_best 104 = .ok (.iload 7, 2) := by decide +kernel
theorem dX11_best_106 : decode cX11_best 106 = .ok (.isub, 1) := by decide +kernel
theorem dX11_best_107 : decode cX11_best 107 = .ok (.invokevirtual 170, 3) := by decide +kernel
theorem dX11_best_110 : decode cX11_best 110 = .ok (.aload_n 0, 1) := by decide +kernel
theorem dX11_best_111 : decode cX11_best 111 = .ok (.getfield 48, 3) := by decide +kernel
theorem dX11_best_114 : decode cX11_best 114 = .ok (.getfield 185, 3) := by decide +kernel
theorem dX11_best_117 : decode cX11_best 117 = .ok (.iconst (-1), 1) := by decide +kernel
theorem dX11_best_118 : decode cX11_best 118 = .ok (.if_icmp .ne 8, 3) := by decide +kernel
theorem dX11_best_121 : decode cX11_best 121 = .ok (.ldc 220, 2) := by decide +kernel
theorem dX11_best_123 : decode cX11_best 123 = .ok (.goto 10, 3) := by decide +kernel
theorem dX11_best_126 : decode cX11_best 126 = .ok (.aload_n 0, 1) := by decide +kernel
theorem dX11_best_127 : decode cX11_best 127 = .ok (.getfield 48, 3) := by decide +kernel
theorem dX11_best_130 : decode cX11_best 130 = .ok (.getfield 185, 3) := by decide +kernel
theorem dX11_best_133 : decode cX11_best 133 = .ok (.istore 8, 2) := by decide +kernel
theorem dX11_best_135 : decode cX11_best 135 = .ok (.iload 8, 2) := by decide +kernel
theorem dX11_best_137 : decode cX11_best 137 = .ok (.iload_n 2, 1) := by decide +kernel
theorem dX11_best_138 : decode cX11_best 138 = .ok (.if_icmp .lt 14, 3) := by decide +kernel
theorem dX11_best_141 : decode cX11_best 141 = .ok (.aload_n 0, 1) := by decide +kernel
theorem dX11_best_142 : decode cX11_best 142 = .ok (.getfield 48, 3) := by decide +kernel
theorem dX11_best_145 : decode cX11_best 145 = .ok (.getfield 173, 3) := by decide +kernel
theorem dX11_best_148 : decode cX11_best 148 = .ok (.iload_n 3, 1) := by decide +kernel
theorem dX11_best_149 : decode cX11_best 149 = .ok (.if_icmp .le 20, 3) := by decide +kernel
theorem dX11_best_152 : decode cX11_best 152 = .ok (.iload 8, 2) := by decide +kernel
theorem dX11_best_154 : decode cX11_best 154 = .ok (.istore_n 2, 1) := by decide +kernel
theorem dX11_best_155 : decode cX11_best 155 = .ok (.aload_n 0, 1) := by decide +kernel
theorem dX11_best_156 : decode cX11_best 156 = .ok (.getfield 48, 3) := by decide +kernel
theorem dX11_best_159 : decode cX11_best 159 = .ok (.getfield 173, 3) := by decide +kernel
theorem dX11_best_162 : decode cX11_best 162 = .ok (.istore_n 3, 1) := by decide +kernel
theorem dX11_best_163 : decode cX11_best 163 = .ok (.aload_n 0, 1) := by decide +kernel
theorem dX11_best_164 : decode cX11_best 164 = .ok (.invokevirtual 230, 3) := by decide +kernel
theorem dX11_best_167 : decode cX11_best 167 = .ok (.istore 4, 2) := by decide +kernel
theorem dX11_best_169 : decode cX11_best 169 = .ok (.aload_n 0, 1) := by decide +kernel
theorem dX11_best_170 : decode cX11_best 170 = .ok (.invokevirtual 233, 3) := by decide +kernel
theorem dX11_best_173 : decode cX11_best 173 = .ok (.istore 5, 2) := by decide +kernel
theorem dX11_best_175 : decode cX11_best 175 = .ok (.iinc 6 1, 3) := by decide +kernel
theorem dX11_best_178 : decode cX11_best 178 = .ok (.goto (-148), 3) := by decide +kernel
theorem dX11_best_181 : decode cX11_best 181 = .ok (.iload_n 1, 1) := by decide +kernel
theorem dX11_best_182 : decode cX11_best 182 = .ok (.ifCond .ne 15, 3) := by decide +kernel
theorem dX11_best_185 : decode cX11_best 185 = .ok (.iload_n 2, 1) := by decide +kernel
theorem dX11_best_186 : decode cX11_best 186 = .ok (.ldc 220, 2) := by decide +kernel
theorem dX11_best_188 : decode cX11_best 188 = .ok (.if_icmp .ne 7, 3) := by decide +kernel
theorem dX11_best_191 : decode cX11_best 191 = .ok (.iconst (-1), 1) := by decide +kernel
theorem dX11_best_192 : decode cX11_best 192 = .ok (.goto 4, 3) := by decide +kernel
theorem dX11_best_195 : decode cX11_best 195 = .ok (.iload_n 2, 1) := by decide +kernel
theorem dX11_best_196 : decode cX11_best 196 = .ok (.ireturn, 1) := by decide +kernel
theorem dX11_best_197 : decode cX11_best 197 = .ok (.iload_n 1, 1) := by decide +kernel
theorem dX11_best_198 : decode cX11_best 198 = .ok (.iconst 1, 1) := by decide +kernel
theorem dX11_best_199 : decode cX11_best 199 = .ok (.if_icmp .ne 7, 3) := by decide +kernel
theorem dX11_best_202 : decode cX11_best 202 = .ok (.iload_n 3, 1) := by decide +kernel
theorem dX11_best_203 : decode cX11_best 203 = .ok (.goto 5, 3) := by decide +kernel
theorem dX11_best_206 : decode cX11_best 206 = .ok (.iload 4, 2) := by decide +kernel
theorem dX11_best_208 : decode cX11_best 208 = .ok (.ireturn, 1) := by decide +kernel
theorem dX11_start_0 : decode cX11_start 0 = .ok (.aload_n 0, 1) := by decide +kernel
theorem dX11_start_1 : decode cX11_start 1 = .ok (.iload_n 1, 1) := by decide +kernel
theorem dX11_start_2 : decode cX11_start 2 = .ok (.invokevirtual 135, 3) := by decide +kernel
theorem dX11_start_5 : decode cX11_start 5 = .ok (.astore_n 3, 1) := by decide +kernel
theorem dX11_start_6 : decode cX11_start 6 = .ok (.aload_n 3, 1) := by decide +kernel
theorem dX11_start_7 : decode cX11_start 7 = .ok (.ifnonnull 6, 3) := by decide +kernel
theorem dX11_start_10 : decode cX11_start 10 = .ok (.bipush (-5), 2) := by decide +kernel
theorem dX11_start_12 : decode cX11_start 12 = .ok (.ireturn, 1) := by decide +kernel
theorem dX11_start_13 : decode cX11_start 13 = .ok (.iload_n 2, 1) := by decide +kernel
theorem dX11_start_14 : decode cX11_start 14 = .ok (.ifCond .lt 8, 3) := by decide +kernel
theorem dX11_start_17 : decode cX11_start 17 = .ok (.iload_n 2, 1) := by decide +kernel
theorem dX11_start_18 : decode cX11_start 18 = .ok (.iconst 1, 1) := by decide +kernel
theorem dX11_start_19 : decode cX11_start 19 = .ok (.if_icmp .le 6, 3) := by decide +kernel
theorem dX11_start_22 : decode cX11_start 22 = .ok (.bipush (-7), 2) := by decide +kernel
theorem dX11_start_24 : decode cX11_start 24 = .ok (.ireturn, 1) := by decide +kernel
theorem dX11_start_25 : decode cX11_start 25 = .ok (.iconst (-1), 1) := by decide +kernel
theorem dX11_start_26 : decode cX11_start 26 = .ok (.istore 4, 2) := by decide +kernel
theorem dX11_start_28 : decode cX11_start 28 = .ok (.iconst (-1), 1) := by decide +kernel
theorem dX11_start_29 : decode cX11_start 29 = .ok (.istore 5, 2) := by decide +kernel
theorem dX11_start_31 : decode cX11_start 31 = .ok (.iconst 0, 1) := by decide +kernel
theorem dX11_start_32 : decode cX11_start 32 = .ok (.istore 6, 2) := by decide +kernel
theorem dX11_start_34 : decode cX11_start 34 = .ok (.iload 6, 2) := by decide +kernel
theorem dX11_start_36 : decode cX11_start 36 = .ok (.bipush 9, 2) := by decide +kernel
theorem dX11_start_38 : decode cX11_start 38 = .ok (.if_icmp .ge 54, 3) := by decide +kernel
theorem dX11_start_41 : decode cX11_start 41 = .ok (.aload_n 0, 1) := by decide +kernel
theorem dX11_start_42 : decode cX11_start 42 = .ok (.invokevirtual 167, 3) := by decide +kernel
theorem dX11_start_45 : decode cX11_start 45 = .ok (.aload_n 3, 1) := by decide +kernel
theorem dX11_start_46 : decode cX11_start 46 = .ok (.iload 6, 2) := by decide +kernel
theorem dX11_start_48 : decode cX11_start 48 = .ok (.putfield 188, 3) := by decide +kernel
theorem dX11_start_51 : decode cX11_start 51 = .ok (.aload_n 0, 1) := by decide +kernel
theorem dX11_start_52 : decode cX11_start 52 = .ok (.getfield 48, 3) := by decide +kernel
theorem dX11_start_55 : decode cX11_start 55 = .ok (.sipush 600, 3) := by decide +kernel
theorem dX11_start_58 : decode cX11_start 58 = .ok (.invokevirtual 170, 3) := by decide +kernel
theorem dX11_start_61 : decode cX11_start 61 = .ok (.aload_n 0, 1) := by decide +kernel
theorem dX11_start_62 : decode cX11_start 62 = .ok (.getfield 48, 3) := by decide +kernel
theorem dX11_start_65 : decode cX11_start 65 = .ok (.getfield 173, 3) := by decide +kernel
theorem dX11_start_68 : decode cX11_start 68 = .ok (.iload 5, 2) := by decide +kernel
theorem dX11_start_70 : decode cX11_start 70 = .ok (.if_icmp .le 16, 3) := by decide +kernel
theorem dX11_start_73 : decode cX11_start 73 = .ok (.iload 6, 2) := by decide +kernel
theorem dX11_start_75 : decode cX11_start 75 = .ok (.istore 4, 2) := by decide +kernel
theorem dX11_start_77 : decode cX11_start 77 = .ok (.aload_n 0, 1) := by decide +kernel
theorem dX11_start_78 : decode cX11_start 78 = .ok (.getfield 48, 3) := by decide +kernel
theorem dX11_start_81 : decode cX11_start 81 = .ok (.getfield 173, 3) := by decide +kernel
theorem dX11_start_84 : decode cX11_start 84 = .ok (.istore 5, 2) := by decide +kernel
theorem dX11_start_86 : decode cX11_start 86 = .ok (.iinc 6 1, 3) := by decide +kernel
theorem dX11_start_89 : decode cX11_start 89 = .ok (.goto (-55), 3) := by decide +kernel
theorem dX11_start_92 : decode cX11_start 92 = .ok (.iload_n 2, 1) := by decide +kernel
theorem dX11_start_93 : decode cX11_start 93 = .ok (.ifCond .ne 8, 3) := by decide +kernel
theorem dX11_start_96 : decode cX11_start 96 = .ok (.iload 4, 2) := by decide +kernel
theorem dX11_start_98 : decode cX11_start 98 = .ok (.goto 5, 3) := by decide +kernel
theorem dX11_start_101 : decode cX11_start 101 = .ok (.iload 5, 2) := by decide +kernel
theorem dX11_start_103 : decode cX11_start 103 = .ok (.ireturn, 1) := by decide +kernel
theorem dX11_layByOrder_0 : decode cX11_layByOrder 0 = .ok (.aload_n 0, 1) := by decide +kernel
theorem dX11_layByOrder_1 : decode cX11_layByOrder 1 = .ok (.invokevirtual 243, 3) := by decide +kernel
theorem dX11_layByOrder_4 : decode cX11_layByOrder 4 = .ok (.iconst 0, 1) := by decide +kernel
theorem dX11_layByOrder_5 : decode cX11_layByOrder 5 = .ok (.istore_n 1, 1) := by decide +kernel
theorem dX11_layByOrder_6 : decode cX11_layByOrder 6 = .ok (.iload_n 1, 1) := by decide +kernel
theorem dX11_layByOrder_7 : decode cX11_layByOrder 7 = .ok (.aload_n 0, 1) := by decide +kernel
theorem dX11_layByOrder_8 : decode cX11_layByOrder 8 = .ok (.getfield 94, 3) := by decide +kernel
theorem dX11_layByOrder_11 : decode cX11_layByOrder 11 = .ok (.if_icmp .ge 31, 3) := by decide +kernel
theorem dX11_layByOrder_14 : decode cX11_layByOrder 14 = .ok (.iload_n 1, 1) := by decide +kernel
theorem dX11_layByOrder_15 : decode cX11_layByOrder 15 = .ok (.iconst 5, 1) := by decide +kernel
theorem dX11_layByOrder_16 : decode cX11_layByOrder 16 = .ok (.if_icmp .ge 26, 3) := by decide +kernel
theorem dX11_layByOrder_19 : decode cX11_layByOrder 19 = .ok (.aload_n 0, 1) := by decide +kernel
theorem dX11_layByOrder_20 : decode cX11_layByOrder 20 = .ok (.getfield 48, 3) := by decide +kernel
theorem dX11_layByOrder_23 : decode cX11_layByOrder 23 = .ok (.aload_n 0, 1) := by decide +kernel
theorem dX11_layByOrder_24 : decode cX11_layByOrder 24 = .ok (.aload_n 0, 1) := by decide +kernel
theorem dX11_layByOrder_25 : decode cX11_layByOrder 25 = .ok (.getfield 52, 3) := by decide +kernel
theorem dX11_layByOrder_28 : decode cX11_layByOrder 28 = .ok (.iload_n 1, 1) := by decide +kernel
theorem dX11_layByOrder_29 : decode cX11_layByOrder 29 = .ok (.iaload, 1) := by decide +kernel
theorem dX11_layByOrder_30 : decode cX11_layByOrder 30 = .ok (.invokevirtual 135, 3) := by decide +kernel
theorem dX11_layByOrder_33 : decode cX11_layByOrder 33 = .ok (.invokevirtual 246, 3) := by decide +kernel
theorem dX11_layByOrder_36 : decode cX11_layByOrder 36 = .ok (.iinc 1 1, 3) := by decide +kernel
theorem dX11_layByOrder_39 : decode cX11_layByOrder 39 = .ok (.goto (-33), 3) := by decide +kernel
theorem dX11_layByOrder_42 : decode cX11_layByOrder 42 = .ok (.return_, 1) := by decide +kernel
theorem dX11_orderByNumbers_0 : decode cX11_orderByNumbers 0 = .ok (.iconst 0, 1) := by decide +kernel
theorem dX11_orderByNumbers_1 : decode cX11_orderByNumbers 1 = .ok (.istore_n 1, 1) := by decide +kernel
theorem dX11_orderByNumbers_2 : decode cX11_orderByNumbers 2 = .ok (.iload_n 1, 1) := by decide +kernel
theorem dX11_orderByNumbers_3 : decode cX11_orderByNumbers 3 = .ok (.iconst 5, 1) := by decide +kernel
theorem dX11_orderByNumbers_4 : decode cX11_orderByNumbers 4 = .ok (.if_icmp .ge 16, 3) := by decide +kernel
theorem dX11_orderByNumbers_7 : decode cX11_orderByNumbers 7 = .ok (.aload_n 0, 1) := by decide +kernel
theorem dX11_orderByNumbers_8 : decode cX11_orderByNumbers 8 = .ok (.getfield 52, 3) := by decide +kernel
theorem dX11_orderByNumbers_11 : decode cX11_orderByNumbers 11 = .ok (.iload_n 1, 1) := by decide +kernel
theorem dX11_orderByNumbers_12 : decode cX11_orderByNumbers 12 = .ok (.iload_n 1, 1) := by decide +kernel
theorem dX11_orderByNumbers_13 : decode cX11_orderByNumbers 13 = .ok (.iastore, 1) := by decide +kernel
theorem dX11_orderByNumbers_14 : decode cX11_orderByNumbers 14 = .ok (.iinc 1 1, 3) := by decide +kernel
theorem dX11_orderByNumbers_17 : decode cX11_orderByNumbers 17 = .ok (.goto (-15), 3) := by decide +kernel
theorem dX11_orderByNumbers_20 : decode cX11_orderByNumbers 20 = .ok (.return_, 1) := by decide +kernel
theorem dX11_orderAsDigits_0 : decode cX11_orderAsDigits 0 = .ok (.iconst 0, 1) := by decide +kernel
theorem dX11_orderAsDigits_1 : decode cX11_orderAsDigits 1 = .ok (.istore_n 1, 1) := by decide +kernel
theorem dX11_orderAsDigits_2 : decode cX11_orderAsDigits 2 = .ok (.iconst 0, 1) := by decide +kernel
theorem dX11_orderAsDigits_3 : decode cX11_orderAsDigits 3 = .ok (.istore_n 2, 1) := by decide +kernel
theorem dX11_orderAsDigits_4 : decode cX11_orderAsDigits 4 = .ok (.iload_n 2, 1) := by decide +kernel
theorem dX11_orderAsDigits_5 : decode cX11_orderAsDigits 5 = .ok (.aload_n 0, 1) := by decide +kernel
theorem dX11_orderAsDigits_6 : decode cX11_orderAsDigits 6 = .ok (.getfield 94, 3) := by decide +kernel
theorem dX11_orderAsDigits_9 : decode cX11_orderAsDigits 9 = .ok (.if_icmp .ge 28, 3) := by decide +kernel
theorem dX11_orderAsDigits_12 : decode cX11_orderAsDigits 12 = .ok (.iload_n 2, 1) := by decide +kernel
theorem dX11_orderAsDigits_13 : decode cX11_orderAsDigits 13 = .ok (.iconst 5, 1) := by decide +kernel
theorem dX11_orderAsDigits_14 : decode cX11_orderAsDigits 14 = .ok (.if_icmp .ge 23, 3) := by decide +kernel
theorem dX11_orderAsDigits_17 : decode cX11_orderAsDigits 17 = .ok (.iload_n 1, 1) := by decide +kernel
theorem dX11_orderAsDigits_18 : decode cX11_orderAsDigits 18 = .ok (.bipush 10, 2) := by decide +kernel
theorem dX11_orderAsDigits_20 : decode cX11_orderAsDigits 20 = .ok (.imul, 1) := by decide +kernel
theorem dX11_orderAsDigits_21 : decode cX11_orderAsDigits 21 = .ok (.aload_n 0, 1) := by decide +kernel
theorem dX11_orderAsDigits_22 : decode cX11_orderAsDigits 22 = .ok (.getfield 52, 3) := by decide +kernel
theorem dX11_orderAsDigits_25 : decode cX11_orderAsDigits 25 = .ok (.iload_n 2, 1) := by decide +kernel
theorem dX11_orderAsDigits_26 : decode cX11_orderAsDigits 26 = .ok (.iaload, 1) := by decide +kernel
theorem dX11_orderAsDigits_27 : decode cX11_orderAsDigits 27 = .ok (.iadd, 1) := by decide +kernel
theorem dX11_orderAsDigits_28 : decode cX11_orderAsDigits 28 = .ok (.iconst 1, 1) := by decide +kernel
theorem dX11_orderAsDigits_29 : decode cX11_orderAsDigits 29 = .ok (.iadd, 1) := by decide +kernel
theorem dX11_orderAsDigits_30 : decode cX11_orderAsDigits 30 = .ok (.istore_n 1, 1) := by decide +kernel
theorem dX11_orderAsDigits_31 : decode cX11_orderAsDigits 31 = .ok (.iinc 2 1, 3) := by decide +kernel
theorem dX11_orderAsDigits_34 : decode cX11_orderAsDigits 34 = .ok (.goto (-30), 3) := by decide +kernel
theorem dX11_orderAsDigits_37 : decode cX11_orderAsDigits 37 = .ok (.iload_n 1, 1) := by decide +kernel
theorem dX11_orderAsDigits_38 : decode cX11_orderAsDigits 38 = .ok (.ireturn, 1) := by decide +kernel
theorem dX11_nextOrder_0 : decode cX11_nextOrder 0 = .ok (.aload_n 0, 1) := by decide +kernel
theorem dX11_nextOrder_1 : decode cX11_nextOrder 1 = .ok (.getfield 94, 3) := by decide +kernel
theorem dX11_nextOrder_4 : decode cX11_nextOrder 4 = .ok (.iconst 5, 1) := by decide +kernel
theorem dX11_nextOrder_5 : decode cX11_nextOrder 5 = .ok (.invokestatic 227, 3) := by decide +kernel
theorem dX11_nextOrder_8 : decode cX11_nextOrder 8 = .ok (.iconst 1, 1) := by decide +kernel
theorem dX11_nextOrder_9 : decode cX11_nextOrder 9 = .ok (.isub, 1) := by decide +kernel
theorem dX11_nextOrder_10 : decode cX11_nextOrder 10 = .ok (.istore_n 1, 1) := by decide +kernel
theorem dX11_nextOrder_11 : decode cX11_nextOrder 11 = .ok (.iload_n 1, 1) := by decide +kernel
theorem dX11_nextOrder_12 : decode cX11_nextOrder 12 = .ok (.iconst 1, 1) := by decide +kernel
theorem dX11_nextOrder_13 : decode cX11_nextOrder 13 = .ok (.isub, 1) := by decide +kernel
theorem dX11_nextOrder_14 : decode cX11_nextOrder 14 = .ok (.istore_n 2, 1) := by decide +kernel
theorem dX11_nextOrder_15 : decode cX11_nextOrder 15 = .ok (.iload_n 2, 1) := by decide +kernel
theorem dX11_nextOrder_16 : decode cX11_nextOrder 16 = .ok (.ifCond .lt 29, 3) := by decide +kernel
theorem dX11_nextOrder_19 : decode cX11_nextOrder 19 = .ok (.aload_n 0, 1) := by decide +kernel
theorem dX11_nextOrder_20 : decode cX11_nextOrder 20 = .ok (.getfield 52, 3) := by decide +kernel
theorem dX11_nextOrder_23 : decode cX11_nextOrder 23 = .ok (.iload_n 2, 1) := by decide +kernel
theorem dX11_nextOrder_24 : decode cX11_nextOrder 24 = .ok (.iaload, 1) := by decide +kernel
theorem dX11_nextOrder_25 : decode cX11_nextOrder 25 = .ok (.aload_n 0, 1) := by decide +kernel
theorem dX11_nextOrder_26 : decode cX11_nextOrder 26 = .ok (.getfield 52, 3) := by decide +kernel
theorem dX11_nextOrder_29 : decode cX11_nextOrder 29 = .ok (.iload_n 2, 1) := by decide +kernel
theorem dX11_nextOrder_30 : decode cX11_nextOrder 30 = .ok (.iconst 1, 1) := by decide +kernel
theorem dX11_nextOrder_31 : decode cX11_nextOrder 31 = .ok (.iadd, 1) := by decide +kernel
theorem dX11_nextOrder_32 : decode cX11_nextOrder 32 = .ok (.iaload, 1) := by decide +kernel
theorem dX11_nextOrder_33 : decode cX11_nextOrder 33 = .ok (.if_icmp .ge 6, 3) := by decide +kernel
theorem dX11_nextOrder_36 : decode cX11_nextOrder 36 = .ok (.goto 9, 3) := by decide +kernel
theorem dX11_nextOrder_39 : decode cX11_nextOrder 39 = .ok (.iinc 2 (-1), 3) := by decide +kernel
theorem dX11_nextOrder_42 : decode cX11_nextOrder 42 = .ok (.goto (-27), 3) := by decide +kernel
theorem dX11_nextOrder_45 : decode cX11_nextOrder 45 = .ok (.iload_n 2, 1) := by decide +kernel
theorem dX11_nextOrder_46 : decode cX11_nextOrder 46 = .ok (.ifCond .ge 5, 3) := by decide +kernel
theorem dX11_nextOrder_49 : decode cX11_nextOrder 49 = .ok (.iconst 0, 1) := by decide +kernel
theorem dX11_nextOrder_50 : decode cX11_nextOrder 50 = .ok (.ireturn, 1) := by decide +kernel
theorem dX11_nextOrder_51 : decode cX11_nextOrder 51 = .ok (.iload_n 1, 1) := by decide +kernel
theorem dX11_nextOrder_52 : decode cX11_nextOrder 52 = .ok (.istore_n 3, 1) := by decide +kernel
theorem dX11_nextOrder_53 : decode cX11_nextOrder 53 = .ok (.iload_n 3, 1) := by decide +kernel
theorem dX11_nextOrder_54 : decode cX11_nextOrder 54 = .ok (.iload_n 2, 1) := by decide +kernel
theorem dX11_nextOrder_55 : decode cX11_nextOrder 55 = .ok (.iconst 1, 1) := by decide +kernel
theorem dX11_nextOrder_56 : decode cX11_nextOrder 56 = .ok (.iadd, 1) := by decide +kernel
theorem dX11_nextOrder_57 : decode cX11_nextOrder 57 = .ok (.if_icmp .le 27, 3) := by decide +kernel
theorem dX11_nextOrder_60 : decode cX11_nextOrder 60 = .ok (.aload_n 0, 1) := by decide +kernel
theorem dX11_nextOrder_61 : decode cX11_nextOrder 61 = .ok (.getfield 52, 3) := by decide +kernel
theorem dX11_nextOrder_64 : decode cX11_nextOrder 64 = .ok (.iload_n 3, 1) := by decide +kernel
theorem dX11_nextOrder_65 : decode cX11_nextOrder 65 = .ok (.iaload, 1) := by decide +kernel
theorem dX11_nextOrder_66 : decode cX11_nextOrder 66 = .ok (.aload_n 0, 1) := by decide +kernel
theorem dX11_nextOrder_67 : decode cX11_nextOrder 67 = .ok (.getfield 52, 3) := by decide +kernel
theorem dX11_nextOrder_70 : decode cX11_nextOrder 70 = .ok (.iload_n 2, 1) := by decide +kernel
theorem dX11_nextOrder_71 : decode cX11_nextOrder 71 = .ok (.iaload, 1) := by decide +kernel
theorem dX11_nextOrder_72 : decode cX11_nextOrder 72 = .ok (.if_icmp .le 6, 3) := by decide +kernel
theorem dX11_nextOrder_75 : decode cX11_nextOrder 75 = .ok (.goto 9, 3) := by decide +kernel
theorem dX11_nextOrder_78 : decode cX11_nextOrder 78 = .ok (.iinc 3 (-1), 3) := by decide +kernel
theorem dX11_nextOrder_81 : decode cX11_nextOrder 81 = .ok (.goto (-28), 3) := by decide +kernel
theorem dX11_nextOrder_84 : decode cX11_nextOrder 84 = .ok (.aload_n 0, 1) := by decide +kernel
theorem dX11_nextOrder_85 : decode cX11_nextOrder 85 = .ok (.iload_n 2, 1) := by decide +kernel
theorem dX11_nextOrder_86 : decode cX11_nextOrder 86 = .ok (.iload_n 3, 1) := by decide +kernel
theorem dX11_nextOrder_87 : decode cX11_nextOrder 87 = .ok (.invokevirtual 250, 3) := by decide +kernel
theorem dX11_nextOrder_90 : decode cX11_nextOrder 90 = .ok (.iload_n 2, 1) := by decide +kernel
theorem dX11_nextOrder_91 : decode cX11_nextOrder 91 = .ok (.iconst 1, 1) := by decide +kernel
theorem dX11_nextOrder_92 : decode cX11_nextOrder 92 = .ok (.iadd, 1) := by decide +kernel
theorem dX11_nextOrder_93 : decode cX11_nextOrder 93 = .ok (.istore 4, 2) := by decide +kernel
theorem dX11_nextOrder_95 : decode cX11_nextOrder 95 = .ok (.iload_n 1, 1) := by decide +kernel
theorem dX11_nextOrder_96 : decode cX11_nextOrder 96 = .ok (.istore 5, 2) := by decide +kernel
theorem dX11_nextOrder_98 : decode cX11_nextOrder 98 = .ok (.iload 4, 2) := by decide +kernel
theorem dX11_nextOrder_100 : decode cX11_nextOrder 100 = .ok (.iload 5, 2) := by decide +kernel
theorem dX11_nextOrder_102 : decode cX11_nextOrder 102 = .ok (.if_icmp .ge 20, 3) := by decide +kernel
theorem dX11_nextOrder_105 : decode cX11_nextOrder 105 = .ok (.aload_n 0, 1) := by decide +kernel
theorem dX11_nextOrder_106 : decode cX11_nextOrder 106 = .ok (.iload 4, 2) := by decide +kernel
theorem dX11_nextOrder_108 : decode cX11_nextOrder 108 = .ok (.iload 5, 2) := by decide +kernel
theorem dX11_nextOrder_110 : decode cX11_nextOrder 110 = .ok (.invokevirtual 250, 3) := by decide +kernel
theorem dX11_nextOrder_113 : decode cX11_nextOrder 113 = .ok (.iinc 4 1, 3) := by decide +kernel
theorem dX11_nextOrder_116 : decode cX11_nextOrder 116 = .ok (.iinc 5 (-1), 3) := by decide +kernel
theorem dX11_nextOrder_119 : decode cX11_nextOrder 119 = .ok (.goto (-21), 3) := by decide +kernel
theorem dX11_nextOrder_122 : decode cX11_nextOrder 122 = .ok (.iconst 1, 1) := by decide +kernel
theorem dX11_nextOrder_123 : decode cX11_nextOrder 123 = .ok (.ireturn, 1) := by decide +kernel
theorem dX11_swapInOrder_0 : decode cX11_swapInOrder 0 = .ok (.iload_n 1, 1) := by decide +kernel
theorem dX11_swapInOrder_1 : decode cX11_swapInOrder 1 = .ok (.ifCond .lt 43, 3) := by decide +kernel
theorem dX11_swapInOrder_4 : decode cX11_swapInOrder 4 = .ok (.iload_n 1, 1) := by decide +kernel
theorem dX11_swapInOrder_5 : decode cX11_swapInOrder 5 = .ok (.iconst 5, 1) := by decide +kernel
theorem dX11_swapInOrder_6 : decode cX11_swapInOrder 6 = .ok (.if_icmp .ge 38, 3) := by decide +kernel
theorem dX11_swapInOrder_9 : decode cX11_swapInOrder 9 = .ok (.iload_n 2, 1) := by decide +kernel
theorem dX11_swapInOrder_10 : decode cX11_swapInOrder 10 = .ok (.ifCond .lt 34, 3) := by decide +kernel
theorem dX11_swapInOrder_13 : decode cX11_swapInOrder 13 = .ok (.iload_n 2, 1) := by decide +kernel
theorem dX11_swapInOrder_14 : decode cX11_swapInOrder 14 = .ok (.iconst 5, 1) := by decide +kernel
theorem dX11_swapInOrder_15 : decode cX11_swapInOrder 15 = .ok (.if_icmp .ge 29, 3) := by decide +kernel
theorem dX11_swapInOrder_18 : decode cX11_swapInOrder 18 = .ok (.aload_n 0, 1) := by decide +kernel
theorem dX11_swapInOrder_19 : decode cX11_swapInOrder 19 = .ok (.getfield 52, 3) := by decide +kernel
theorem dX11_swapInOrder_22 : decode cX11_swapInOrder 22 = .ok (.iload_n 1, 1) := by decide +kernel
theorem dX11_swapInOrder_23 : decode cX11_swapInOrder 23 = .ok (.iaload, 1) := by decide +kernel
theorem dX11_swapInOrder_24 : decode cX11_swapInOrder 24 = .ok (.istore_n 3, 1) := by decide +kernel
theorem dX11_swapInOrder_25 : decode cX11_swapInOrder 25 = .ok (.aload_n 0, 1) := by decide +kernel
theorem dX11_swapInOrder_26 : decode cX11_swapInOrder 26 = .ok (.getfield 52, 3) := by decide +kernel
theorem dX11_swapInOrder_29 : decode cX11_swapInOrder 29 = .ok (.iload_n 1, 1) := by decide +kernel
theorem dX11_swapInOrder_30 : decode cX11_swapInOrder 30 = .ok (.aload_n 0, 1) := by decide +kernel
theorem dX11_swapInOrder_31 : decode cX11_swapInOrder 31 = .ok (.getfield 52, 3) := by decide +kernel
theorem dX11_swapInOrder_34 : decode cX11_swapInOrder 34 = .ok (.iload_n 2, 1) := by decide +kernel
theorem dX11_swapInOrder_35 : decode cX11_swapInOrder 35 = .ok (.iaload, 1) := by decide +kernel
theorem dX11_swapInOrder_36 : decode cX11_swapInOrder 36 = .ok (.iastore, 1) := by decide +kernel
theorem dX11_swapInOrder_37 : decode cX11_swapInOrder 37 = .ok (.aload_n 0, 1) := by decide +kernel
theorem dX11_swapInOrder_38 : decode cX11_swapInOrder 38 = .ok (.getfield 52, 3) := by decide +kernel
theorem dX11_swapInOrder_41 : decode cX11_swapInOrder 41 = .ok (.iload_n 2, 1) := by decide +kernel
theorem dX11_swapInOrder_42 : decode cX11_swapInOrder 42 = .ok (.iload_n 3, 1) := by decide +kernel
theorem dX11_swapInOrder_43 : decode cX11_swapInOrder 43 = .ok (.iastore, 1) := by decide +kernel
theorem dX11_swapInOrder_44 : decode cX11_swapInOrder 44 = .ok (.return_, 1) := by decide +kernel
theorem dX11_judge_0 : decode cX11_judge 0 = .ok (.aload_n 0, 1) := by decide +kernel
end
section
theorem dX11_judge_1 : decode cX11_judge 1 = .ok (.iload_n 1, 1) := by decide +kernel
theorem dX11_judge_2 : decode cX11_judge 2 = .ok (.iload_n 2, 1) := by decide +kernel
theorem dX11_judge_3 : decode cX11_judge 3 = .ok (.invokevirtual 283, 3) := by decide +kernel
theorem dX11_judge_6 : decode cX11_judge 6 = .ok (.istore_n 3, 1) := by decide +kernel
theorem dX11_judge_7 : decode cX11_judge 7 = .ok (.iload_n 3, 1) := by decide +kernel
theorem dX11_judge_8 : decode cX11_judge 8 = .ok (.ifCond .eq 5, 3) := by decide +kernel
theorem dX11_judge_11 : decode cX11_judge 11 = .ok (.iload_n 3, 1) := by decide +kernel
theorem dX11_judge_12 : decode cX11_judge 12 = .ok (.ireturn, 1) := by decide +kernel
theorem dX11_judge_13 : decode cX11_judge 13 = .ok (.aload_n 0, 1) := by decide +kernel
theorem dX11_judge_14 : decode cX11_judge 14 = .ok (.invokevirtual 167, 3) := by decide +kernel
theorem dX11_judge_17 : decode cX11_judge 17 = .ok (.aload_n 0, 1) := by decide +kernel
theorem dX11_judge_18 : decode cX11_judge 18 = .ok (.getfield 48, 3) := by decide +kernel
theorem dX11_judge_21 : decode cX11_judge 21 = .ok (.iload_n 2, 1) := by decide +kernel
theorem dX11_judge_22 : decode cX11_judge 22 = .ok (.invokevirtual 170, 3) := by decide +kernel
theorem dX11_judge_25 : decode cX11_judge 25 = .ok (.aload_n 0, 1) := by decide +kernel
theorem dX11_judge_26 : decode cX11_judge 26 = .ok (.iload_n 1, 1) := by decide +kernel
theorem dX11_judge_27 : decode cX11_judge 27 = .ok (.invokevirtual 286, 3) := by decide +kernel
theorem dX11_judge_30 : decode cX11_judge 30 = .ok (.ireturn, 1) := by decide +kernel
theorem dX11_film_0 : decode cX11_film 0 = .ok (.aload_n 0, 1) := by decide +kernel
theorem dX11_film_1 : decode cX11_film 1 = .ok (.iload_n 1, 1) := by decide +kernel
theorem dX11_film_2 : decode cX11_film 2 = .ok (.invokevirtual 303, 3) := by decide +kernel
theorem dX11_film_5 : decode cX11_film 5 = .ok (.astore_n 3, 1) := by decide +kernel
theorem dX11_film_6 : decode cX11_film 6 = .ok (.aload_n 3, 1) := by decide +kernel
theorem dX11_film_7 : decode cX11_film 7 = .ok (.ifnull 10, 3) := by decide +kernel
theorem dX11_film_10 : decode cX11_film 10 = .ok (.iload_n 2, 1) := by decide +kernel
theorem dX11_film_11 : decode cX11_film 11 = .ok (.invokestatic 164, 3) := by decide +kernel
theorem dX11_film_14 : decode cX11_film 14 = .ok (.ifCond .eq 6, 3) := by decide +kernel
theorem dX11_film_17 : decode cX11_film 17 = .ok (.bipush (-2), 2) := by decide +kernel
theorem dX11_film_19 : decode cX11_film 19 = .ok (.ireturn, 1) := by decide +kernel
theorem dX11_film_20 : decode cX11_film 20 = .ok (.aload_n 0, 1) := by decide +kernel
theorem dX11_film_21 : decode cX11_film 21 = .ok (.invokevirtual 167, 3) := by decide +kernel
theorem dX11_film_24 : decode cX11_film 24 = .ok (.aload_n 0, 1) := by decide +kernel
theorem dX11_film_25 : decode cX11_film 25 = .ok (.getfield 48, 3) := by decide +kernel
theorem dX11_film_28 : decode cX11_film 28 = .ok (.iload_n 2, 1) := by decide +kernel
theorem dX11_film_29 : decode cX11_film 29 = .ok (.invokevirtual 170, 3) := by decide +kernel
theorem dX11_film_32 : decode cX11_film 32 = .ok (.aload_n 3, 1) := by decide +kernel
theorem dX11_film_33 : decode cX11_film 33 = .ok (.iconst 1, 1) := by decide +kernel
theorem dX11_film_34 : decode cX11_film 34 = .ok (.bipush 9, 2) := by decide +kernel
theorem dX11_film_36 : decode cX11_film 36 = .ok (.invokevirtual 307, 3) := by decide +kernel
theorem dX11_film_39 : decode cX11_film 39 = .ok (.iconst 0, 1) := by decide +kernel
theorem dX11_film_40 : decode cX11_film 40 = .ok (.istore 4, 2) := by decide +kernel
theorem dX11_film_42 : decode cX11_film 42 = .ok (.iload 4, 2) := by decide +kernel
theorem dX11_film_44 : decode cX11_film 44 = .ok (.bipush 9, 2) := by decide +kernel
theorem dX11_film_46 : decode cX11_film 46 = .ok (.if_icmp .ge 27, 3) := by decide +kernel
theorem dX11_film_49 : decode cX11_film 49 = .ok (.aload_n 3, 1) := by decide +kernel
theorem dX11_film_50 : decode cX11_film 50 = .ok (.iload 4, 2) := by decide +kernel
theorem dX11_film_52 : decode cX11_film 52 = .ok (.aload_n 0, 1) := by decide +kernel
theorem dX11_film_53 : decode cX11_film 53 = .ok (.getfield 48, 3) := by decide +kernel
theorem dX11_film_56 : decode cX11_film 56 = .ok (.iload 4, 2) := by decide +kernel
theorem dX11_film_58 : decode cX11_film 58 = .ok (.invokevirtual 203, 3) := by decide +kernel
theorem dX11_film_61 : decode cX11_film 61 = .ok (.getfield 207, 3) := by decide +kernel
theorem dX11_film_64 : decode cX11_film 64 = .ok (.invokevirtual 310, 3) := by decide +kernel
theorem dX11_film_67 : decode cX11_film 67 = .ok (.iinc 4 1, 3) := by decide +kernel
theorem dX11_film_70 : decode cX11_film 70 = .ok (.goto (-28), 3) := by decide +kernel
theorem dX11_film_73 : decode cX11_film 73 = .ok (.bipush 9, 2) := by decide +kernel
theorem dX11_film_75 : decode cX11_film 75 = .ok (.ireturn, 1) := by decide +kernel
theorem dX11_refusedTelling_0 : decode cX11_refusedTelling 0 = .ok (.aload_n 0, 1) := by decide +kernel
theorem dX11_refusedTelling_1 : decode cX11_refusedTelling 1 = .ok (.iload_n 1, 1) := by decide +kernel
theorem dX11_refusedTelling_2 : decode cX11_refusedTelling 2 = .ok (.invokevirtual 303, 3) := by decide +kernel
theorem dX11_refusedTelling_5 : decode cX11_refusedTelling 5 = .ok (.astore_n 2, 1) := by decide +kernel
theorem dX11_refusedTelling_6 : decode cX11_refusedTelling 6 = .ok (.aload_n 2, 1) := by decide +kernel
theorem dX11_refusedTelling_7 : decode cX11_refusedTelling 7 = .ok (.ifnonnull 6, 3) := by decide +kernel
theorem dX11_refusedTelling_10 : decode cX11_refusedTelling 10 = .ok (.bipush (-2), 2) := by decide +kernel
theorem dX11_refusedTelling_12 : decode cX11_refusedTelling 12 = .ok (.ireturn, 1) := by decide +kernel
theorem dX11_refusedTelling_13 : decode cX11_refusedTelling 13 = .ok (.aload_n 2, 1) := by decide +kernel
theorem dX11_refusedTelling_14 : decode cX11_refusedTelling 14 = .ok (.invokevirtual 313, 3) := by decide +kernel
theorem dX11_refusedTelling_17 : decode cX11_refusedTelling 17 = .ok (.ifCond .eq 6, 3) := by decide +kernel
theorem dX11_refusedTelling_20 : decode cX11_refusedTelling 20 = .ok (.bipush (-11), 2) := by decide +kernel
theorem dX11_refusedTelling_22 : decode cX11_refusedTelling 22 = .ok (.ireturn, 1) := by decide +kernel
theorem dX11_refusedTelling_23 : decode cX11_refusedTelling 23 = .ok (.aload_n 2, 1) := by decide +kernel
theorem dX11_refusedTelling_24 : decode cX11_refusedTelling 24 = .ok (.getfield 316, 3) := by decide +kernel
theorem dX11_refusedTelling_27 : decode cX11_refusedTelling 27 = .ok (.bipush 9, 2) := by decide +kernel
theorem dX11_refusedTelling_29 : decode cX11_refusedTelling 29 = .ok (.if_icmp .ne 7, 3) := by decide +kernel
theorem dX11_refusedTelling_32 : decode cX11_refusedTelling 32 = .ok (.iconst 0, 1) := by decide +kernel
theorem dX11_refusedTelling_33 : decode cX11_refusedTelling 33 = .ok (.goto 5, 3) := by decide +kernel
theorem dX11_refusedTelling_36 : decode cX11_refusedTelling 36 = .ok (.bipush (-2), 2) := by decide +kernel
theorem dX11_refusedTelling_38 : decode cX11_refusedTelling 38 = .ok (.ireturn, 1) := by decide +kernel
theorem dX11_refusedJudging_0 : decode cX11_refusedJudging 0 = .ok (.aload_n 0, 1) := by decide +kernel
theorem dX11_refusedJudging_1 : decode cX11_refusedJudging 1 = .ok (.iload_n 1, 1) := by decide +kernel
theorem dX11_refusedJudging_2 : decode cX11_refusedJudging 2 = .ok (.invokevirtual 289, 3) := by decide +kernel
theorem dX11_refusedJudging_5 : decode cX11_refusedJudging 5 = .ok (.istore_n 3, 1) := by decide +kernel
theorem dX11_refusedJudging_6 : decode cX11_refusedJudging 6 = .ok (.iload_n 3, 1) := by decide +kernel
theorem dX11_refusedJudging_7 : decode cX11_refusedJudging 7 = .ok (.ifCond .ne 15, 3) := by decide +kernel
theorem dX11_refusedJudging_10 : decode cX11_refusedJudging 10 = .ok (.iload_n 2, 1) := by decide +kernel
theorem dX11_refusedJudging_11 : decode cX11_refusedJudging 11 = .ok (.invokestatic 164, 3) := by decide +kernel
theorem dX11_refusedJudging_14 : decode cX11_refusedJudging 14 = .ok (.ifCond .eq 8, 3) := by decide +kernel
theorem dX11_refusedJudging_17 : decode cX11_refusedJudging 17 = .ok (.bipush (-7), 2) := by decide +kernel
theorem dX11_refusedJudging_19 : decode cX11_refusedJudging 19 = .ok (.goto 4, 3) := by decide +kernel
theorem dX11_refusedJudging_22 : decode cX11_refusedJudging 22 = .ok (.iload_n 3, 1) := by decide +kernel
theorem dX11_refusedJudging_23 : decode cX11_refusedJudging 23 = .ok (.ireturn, 1) := by decide +kernel
theorem dX11_firstOtherwise_0 : decode cX11_firstOtherwise 0 = .ok (.aload_n 0, 1) := by decide +kernel
theorem dX11_firstOtherwise_1 : decode cX11_firstOtherwise 1 = .ok (.iload_n 1, 1) := by decide +kernel
theorem dX11_firstOtherwise_2 : decode cX11_firstOtherwise 2 = .ok (.invokevirtual 303, 3) := by decide +kernel
theorem dX11_firstOtherwise_5 : decode cX11_firstOtherwise 5 = .ok (.astore_n 2, 1) := by decide +kernel
theorem dX11_firstOtherwise_6 : decode cX11_firstOtherwise 6 = .ok (.iconst 0, 1) := by decide +kernel
theorem dX11_firstOtherwise_7 : decode cX11_firstOtherwise 7 = .ok (.istore_n 3, 1) := by decide +kernel
theorem dX11_firstOtherwise_8 : decode cX11_firstOtherwise 8 = .ok (.iload_n 3, 1) := by decide +kernel
theorem dX11_firstOtherwise_9 : decode cX11_firstOtherwise 9 = .ok (.bipush 9, 2) := by decide +kernel
theorem dX11_firstOtherwise_11 : decode cX11_firstOtherwise 11 = .ok (.if_icmp .ge 35, 3) := by decide +kernel
theorem dX11_firstOtherwise_14 : decode cX11_firstOtherwise 14 = .ok (.aload_n 2, 1) := by decide +kernel
theorem dX11_firstOtherwise_15 : decode cX11_firstOtherwise 15 = .ok (.ifnull 31, 3) := by decide +kernel
theorem dX11_firstOtherwise_18 : decode cX11_firstOtherwise 18 = .ok (.aload_n 2, 1) := by decide +kernel
theorem dX11_firstOtherwise_19 : decode cX11_firstOtherwise 19 = .ok (.getfield 317, 3) := by decide +kernel
theorem dX11_firstOtherwise_22 : decode cX11_firstOtherwise 22 = .ok (.iload_n 3, 1) := by decide +kernel
theorem dX11_firstOtherwise_23 : decode cX11_firstOtherwise 23 = .ok (.iaload, 1) := by decide +kernel
theorem dX11_firstOtherwise_24 : decode cX11_firstOtherwise 24 = .ok (.aload_n 0, 1) := by decide +kernel
theorem dX11_firstOtherwise_25 : decode cX11_firstOtherwise 25 = .ok (.getfield 48, 3) := by decide +kernel
theorem dX11_firstOtherwise_28 : decode cX11_firstOtherwise 28 = .ok (.iload_n 3, 1) := by decide +kernel
theorem dX11_firstOtherwise_29 : decode cX11_firstOtherwise 29 = .ok (.invokevirtual 203, 3) := by decide +kernel
theorem dX11_firstOtherwise_32 : decode cX11_firstOtherwise 32 = .ok (.getfield 207, 3) := by decide +kernel
theorem dX11_firstOtherwise_35 : decode cX11_firstOtherwise 35 = .ok (.if_icmp .eq 5, 3) := by decide +kernel
theorem dX11_firstOtherwise_38 : decode cX11_firstOtherwise 38 = .ok (.iload_n 3, 1) := by decide +kernel
theorem dX11_firstOtherwise_39 : decode cX11_firstOtherwise 39 = .ok (.ireturn, 1) := by decide +kernel
theorem dX11_firstOtherwise_40 : decode cX11_firstOtherwise 40 = .ok (.iinc 3 1, 3) := by decide +kernel
theorem dX11_firstOtherwise_43 : decode cX11_firstOtherwise 43 = .ok (.goto (-35), 3) := by decide +kernel
theorem dX11_firstOtherwise_46 : decode cX11_firstOtherwise 46 = .ok (.iconst (-1), 1) := by decide +kernel
theorem dX11_firstOtherwise_47 : decode cX11_firstOtherwise 47 = .ok (.ireturn, 1) := by decide +kernel
theorem dX11_noHeap_0 : decode cX11_noHeap 0 = .ok (.iload_n 0, 1) := by decide +kernel
theorem dX11_noHeap_1 : decode cX11_noHeap 1 = .ok (.ifCond .lt 9, 3) := by decide +kernel
theorem dX11_noHeap_4 : decode cX11_noHeap 4 = .ok (.iload_n 0, 1) := by decide +kernel
theorem dX11_noHeap_5 : decode cX11_noHeap 5 = .ok (.bipush 9, 2) := by decide +kernel
theorem dX11_noHeap_7 : decode cX11_noHeap 7 = .ok (.if_icmp .lt 7, 3) := by decide +kernel
theorem dX11_noHeap_10 : decode cX11_noHeap 10 = .ok (.iconst 1, 1) := by decide +kernel
theorem dX11_noHeap_11 : decode cX11_noHeap 11 = .ok (.goto 4, 3) := by decide +kernel
theorem dX11_noHeap_14 : decode cX11_noHeap 14 = .ok (.iconst 0, 1) := by decide +kernel
theorem dX11_noHeap_15 : decode cX11_noHeap 15 = .ok (.ireturn, 1) := by decide +kernel
theorem dX11_noByte_0 : decode cX11_noByte 0 = .ok (.iload_n 0, 1) := by decide +kernel
theorem dX11_noByte_1 : decode cX11_noByte 1 = .ok (.ifCond .lt 10, 3) := by decide +kernel
theorem dX11_noByte_4 : decode cX11_noByte 4 = .ok (.iload_n 0, 1) := by decide +kernel
theorem dX11_noByte_5 : decode cX11_noByte 5 = .ok (.sipush 255, 3) := by decide +kernel
theorem dX11_noByte_8 : decode cX11_noByte 8 = .ok (.if_icmp .le 7, 3) := by decide +kernel
theorem dX11_noByte_11 : decode cX11_noByte 11 = .ok (.iconst 1, 1) := by decide +kernel
theorem dX11_noByte_12 : decode cX11_noByte 12 = .ok (.goto 4, 3) := by decide +kernel
theorem dX11_noByte_15 : decode cX11_noByte 15 = .ok (.iconst 0, 1) := by decide +kernel
theorem dX11_noByte_16 : decode cX11_noByte 16 = .ok (.ireturn, 1) := by decide +kernel
theorem dX11_noSeconds_0 : decode cX11_noSeconds 0 = .ok (.iload_n 0, 1) := by decide +kernel
theorem dX11_noSeconds_1 : decode cX11_noSeconds 1 = .ok (.ifCond .lt 10, 3) := by decide +kernel
theorem dX11_noSeconds_4 : decode cX11_noSeconds 4 = .ok (.iload_n 0, 1) := by decide +kernel
theorem dX11_noSeconds_5 : decode cX11_noSeconds 5 = .ok (.sipush 600, 3) := by decide +kernel
theorem dX11_noSeconds_8 : decode cX11_noSeconds 8 = .ok (.if_icmp .le 7, 3) := by decide +kernel
theorem dX11_noSeconds_11 : decode cX11_noSeconds 11 = .ok (.iconst 1, 1) := by decide +kernel
theorem dX11_noSeconds_12 : decode cX11_noSeconds 12 = .ok (.goto 4, 3) := by decide +kernel
theorem dX11_noSeconds_15 : decode cX11_noSeconds 15 = .ok (.iconst 0, 1) := by decide +kernel
theorem dX11_noSeconds_16 : decode cX11_noSeconds 16 = .ok (.ireturn, 1) := by decide +kernel
theorem dX11_walkerOf_0 : decode cX11_walkerOf 0 = .ok (.iload_n 1, 1) := by decide +kernel
theorem dX11_walkerOf_1 : decode cX11_walkerOf 1 = .ok (.ifCond .lt 25, 3) := by decide +kernel
theorem dX11_walkerOf_4 : decode cX11_walkerOf 4 = .ok (.iload_n 1, 1) := by decide +kernel
theorem dX11_walkerOf_5 : decode cX11_walkerOf 5 = .ok (.aload_n 0, 1) := by decide +kernel
theorem dX11_walkerOf_6 : decode cX11_walkerOf 6 = .ok (.getfield 94, 3) := by decide +kernel
theorem dX11_walkerOf_9 : decode cX11_walkerOf 9 = .ok (.if_icmp .ge 17, 3) := by decide +kernel
theorem dX11_walkerOf_12 : decode cX11_walkerOf 12 = .ok (.iload_n 1, 1) := by decide +kernel
theorem dX11_walkerOf_13 : decode cX11_walkerOf 13 = .ok (.iconst 5, 1) := by decide +kernel
theorem dX11_walkerOf_14 : decode cX11_walkerOf 14 = .ok (.if_icmp .ge 12, 3) := by decide +kernel
theorem dX11_walkerOf_17 : decode cX11_walkerOf 17 = .ok (.aload_n 0, 1) := by decide +kernel
theorem dX11_walkerOf_18 : decode cX11_walkerOf 18 = .ok (.getfield 22, 3) := by decide +kernel
theorem dX11_walkerOf_21 : decode cX11_walkerOf 21 = .ok (.iload_n 1, 1) := by decide +kernel
theorem dX11_walkerOf_22 : decode cX11_walkerOf 22 = .ok (.aaload, 1) := by decide +kernel
theorem dX11_walkerOf_23 : decode cX11_walkerOf 23 = .ok (.goto 4, 3) := by decide +kernel
theorem dX11_walkerOf_26 : decode cX11_walkerOf 26 = .ok (.aconst_null, 1) := by decide +kernel
theorem dX11_walkerOf_27 : decode cX11_walkerOf 27 = .ok (.areturn, 1) := by decide +kernel
theorem dX11_textOf_0 : decode cX11_textOf 0 = .ok (.iload_n 1, 1) := by decide +kernel
theorem dX11_textOf_1 : decode cX11_textOf 1 = .ok (.ifCond .lt 26, 3) := by decide +kernel
theorem dX11_textOf_4 : decode cX11_textOf 4 = .ok (.iload_n 1, 1) := by decide +kernel
theorem dX11_textOf_5 : decode cX11_textOf 5 = .ok (.aload_n 0, 1) := by decide +kernel
theorem dX11_textOf_6 : decode cX11_textOf 6 = .ok (.getfield 90, 3) := by decide +kernel
theorem dX11_textOf_9 : decode cX11_textOf 9 = .ok (.if_icmp .ge 18, 3) := by decide +kernel
theorem dX11_textOf_12 : decode cX11_textOf 12 = .ok (.iload_n 1, 1) := by decide +kernel
theorem dX11_textOf_13 : decode cX11_textOf 13 = .ok (.bipush 6, 2) := by decide +kernel
theorem dX11_textOf_15 : decode cX11_textOf 15 = .ok (.if_icmp .ge 12, 3) := by decide +kernel
theorem dX11_textOf_18 : decode cX11_textOf 18 = .ok (.aload_n 0, 1) := by decide +kernel
theorem dX11_textOf_19 : decode cX11_textOf 19 = .ok (.getfield 28, 3) := by decide +kernel
theorem dX11_textOf_22 : decode cX11_textOf 22 = .ok (.iload_n 1, 1) := by decide +kernel
theorem dX11_textOf_23 : decode cX11_textOf 23 = .ok (.aaload, 1) := by decide +kernel
theorem dX11_textOf_24 : decode cX11_textOf 24 = .ok (.goto 4, 3) := by decide +kernel
theorem dX11_textOf_27 : decode cX11_textOf 27 = .ok (.aconst_null, 1) := by decide +kernel
theorem dX11_textOf_28 : decode cX11_textOf 28 = .ok (.areturn, 1) := by decide +kernel
theorem dX11_sheetOf_0 : decode cX11_sheetOf 0 = .ok (.iload_n 1, 1) := by decide +kernel
theorem dX11_sheetOf_1 : decode cX11_sheetOf 1 = .ok (.ifCond .lt 17, 3) := by decide +kernel
theorem dX11_sheetOf_4 : decode cX11_sheetOf 4 = .ok (.iload_n 1, 1) := by decide +kernel
theorem dX11_sheetOf_5 : decode cX11_sheetOf 5 = .ok (.iconst 4, 1) := by decide +kernel
theorem dX11_sheetOf_6 : decode cX11_sheetOf 6 = .ok (.if_icmp .ge 12, 3) := by decide +kernel
theorem dX11_sheetOf_9 : decode cX11_sheetOf 9 = .ok (.aload_n 0, 1) := by decide +kernel
theorem dX11_sheetOf_10 : decode cX11_sheetOf 10 = .ok (.getfield 41, 3) := by decide +kernel
theorem dX11_sheetOf_13 : decode cX11_sheetOf 13 = .ok (.iload_n 1, 1) := by decide +kernel
theorem dX11_sheetOf_14 : decode cX11_sheetOf 14 = .ok (.aaload, 1) := by decide +kernel
theorem dX11_sheetOf_15 : decode cX11_sheetOf 15 = .ok (.goto 4, 3) := by decide +kernel
theorem dX11_sheetOf_18 : decode cX11_sheetOf 18 = .ok (.aconst_null, 1) := by decide +kernel
theorem dX11_sheetOf_19 : decode cX11_sheetOf 19 = .ok (.areturn, 1) := by decide +kernel
theorem dX11_layPlain_0 : decode cX11_layPlain 0 = .ok (.aload_n 0, 1) := by decide +kernel
theorem dX11_layPlain_1 : decode cX11_layPlain 1 = .ok (.iconst (-1), 1) := by decide +kernel
theorem dX11_layPlain_2 : decode cX11_layPlain 2 = .ok (.invokevirtual 236, 3) := by decide +kernel
theorem dX11_layPlain_5 : decode cX11_layPlain 5 = .ok (.return_, 1) := by decide +kernel
theorem dX11_layWithout_0 : decode cX11_layWithout 0 = .ok (.aload_n 0, 1) := by decide +kernel
theorem dX11_layWithout_1 : decode cX11_layWithout 1 = .ok (.invokevirtual 243, 3) := by decide +kernel
theorem dX11_layWithout_4 : decode cX11_layWithout 4 = .ok (.iconst 0, 1) := by decide +kernel
theorem dX11_layWithout_5 : decode cX11_layWithout 5 = .ok (.istore_n 2, 1) := by decide +kernel
theorem dX11_layWithout_6 : decode cX11_layWithout 6 = .ok (.iload_n 2, 1) := by decide +kernel
theorem dX11_layWithout_7 : decode cX11_layWithout 7 = .ok (.aload_n 0, 1) := by decide +kernel
theorem dX11_layWithout_8 : decode cX11_layWithout 8 = .ok (.getfield 94, 3) := by decide +kernel
theorem dX11_layWithout_11 : decode cX11_layWithout 11 = .ok (.if_icmp .ge 26, 3) := by decide +kernel
theorem dX11_layWithout_14 : decode cX11_layWithout 14 = .ok (.iload_n 2, 1) := by decide +kernel
theorem dX11_layWithout_15 : decode cX11_layWithout 15 = .ok (.iload_n 1, 1) := by decide +kernel
theorem dX11_layWithout_16 : decode cX11_layWithout 16 = .ok (.if_icmp .eq 15, 3) := by decide +kernel
theorem dX11_layWithout_19 : decode cX11_layWithout 19 = .ok (.aload_n 0, 1) := by decide +kernel
theorem dX11_layWithout_20 : decode cX11_layWithout 20 = .ok (.getfield 48, 3) := by decide +kernel
theorem dX11_layWithout_23 : decode cX11_layWithout 23 = .ok (.aload_n 0, 1) := by decide +kernel
theorem dX11_layWithout_24 : decode cX11_layWithout 24 = .ok (.iload_n 2, 1) := by decide +kernel
theorem dX11_layWithout_25 : decode cX11_layWithout 25 = .ok (.invokevirtual 135, 3) := by decide +kernel
theorem dX11_layWithout_28 : decode cX11_layWithout 28 = .ok (.invokevirtual 246, 3) := by decide +kernel
theorem dX11_layWithout_31 : decode cX11_layWithout 31 = .ok (.iinc 2 1, 3) := by decide +kernel
theorem dX11_layWithout_34 : decode cX11_layWithout 34 = .ok (.goto (-28), 3) := by decide +kernel
theorem dX11_layWithout_37 : decode cX11_layWithout 37 = .ok (.return_, 1) := by decide +kernel
theorem dX11_layHeaps_0 : decode cX11_layHeaps 0 = .ok (.aload_n 0, 1) := by decide +kernel
theorem dX11_layHeaps_1 : decode cX11_layHeaps 1 = .ok (.getfield 48, 3) := by decide +kernel
theorem dX11_layHeaps_4 : decode cX11_layHeaps 4 = .ok (.aload_n 0, 1) := by decide +kernel
theorem dX11_layHeaps_5 : decode cX11_layHeaps 5 = .ok (.getfield 9, 3) := by decide +kernel
theorem dX11_layHeaps_8 : decode cX11_layHeaps 8 = .ok (.aload_n 0, 1) := by decide +kernel
theorem dX11_layHeaps_9 : decode cX11_layHeaps 9 = .ok (.getfield 13, 3) := by decide +kernel
theorem dX11_layHeaps_12 : decode cX11_layHeaps 12 = .ok (.aload_n 0, 1) := by decide +kernel
theorem dX11_layHeaps_13 : decode cX11_layHeaps 13 = .ok (.aload_n 0, 1) := by decide +kernel
theorem dX11_layHeaps_14 : decode cX11_layHeaps 14 = .ok (.getfield 97, 3) := by decide +kernel
theorem dX11_layHeaps_17 : decode cX11_layHeaps 17 = .ok (.invokevirtual 139, 3) := by decide +kernel
theorem dX11_layHeaps_20 : decode cX11_layHeaps 20 = .ok (.aload_n 0, 1) := by decide +kernel
theorem dX11_layHeaps_21 : decode cX11_layHeaps 21 = .ok (.getfield 16, 3) := by decide +kernel
theorem dX11_layHeaps_24 : decode cX11_layHeaps 24 = .ok (.aload_n 0, 1) := by decide +kernel
theorem dX11_layHeaps_25 : decode cX11_layHeaps 25 = .ok (.getfield 94, 3) := by decide +kernel
theorem dX11_layHeaps_28 : decode cX11_layHeaps 28 = .ok (.invokevirtual 360, 3) := by decide +kernel
theorem dX11_layHeaps_31 : decode cX11_layHeaps 31 = .ok (.return_, 1) := by decide +kernel
theorem dX11_newWalker_0 : decode cX11_newWalker 0 = .ok (.iload_n 0, 1) := by decide +kernel
theorem dX11_newWalker_1 : decode cX11_newWalker 1 = .ok (.tableswitch 90 1 5 #[35, 46, 57, 68, 79], 35) := by decide +kernel
theorem dX11_newWalker_36 : decode cX11_newWalker 36 = .ok (.new 364, 3) := by decide +kernel
theorem dX11_newWalker_39 : decode cX11_newWalker 39 = .ok (.dup, 1) := by decide +kernel
theorem dX11_newWalker_40 : decode cX11_newWalker 40 = .ok (.iload_n 1, 1) := by decide +kernel
theorem dX11_newWalker_41 : decode cX11_newWalker 41 = .ok (.iload_n 2, 1) := by decide +kernel
theorem dX11_newWalker_42 : decode cX11_newWalker 42 = .ok (.iload_n 3, 1) := by decide +kernel
theorem dX11_newWalker_43 : decode cX11_newWalker 43 = .ok (.invokespecial 366, 3) := by decide +kernel
theorem dX11_newWalker_46 : decode cX11_newWalker 46 = .ok (.areturn, 1) := by decide +kernel
theorem dX11_newWalker_47 : decode cX11_newWalker 47 = .ok (.new 369, 3) := by decide +kernel
theorem dX11_newWalker_50 : decode cX11_newWalker 50 = .ok (.dup, 1) := by decide +kernel
theorem dX11_newWalker_51 : decode cX11_newWalker 51 = .ok (.iload_n 1, 1) := by decide +kernel
theorem dX11_newWalker_52 : decode cX11_newWalker 52 = .ok (.iload_n 2, 1) := by decide +kernel
theorem dX11_newWalker_53 : decode cX11_newWalker 53 = .ok (.iload_n 3, 1) := by decide +kernel
theorem dX11_newWalker_54 : decode cX11_newWalker 54 = .ok (.invokespecial 371, 3) := by decide +kernel
theorem dX11_newWalker_57 : decode cX11_newWalker 57 = .ok (.areturn, 1) := by decide +kernel
theorem dX11_newWalker_58 : decode cX11_newWalker 58 = .ok (.new 372, 3) := by decide +kernel
theorem dX11_newWalker_61 : decode cX11_newWalker 61 = .ok (.dup, 1) := by decide +kernel
theorem dX11_newWalker_62 : decode cX11_newWalker 62 = .ok (.iload_n 1, 1) := by decide +kernel
theorem dX11_newWalker_63 : decode cX11_newWalker 63 = .ok (.iload_n 2, 1) := by decide +kernel
theorem dX11_newWalker_64 : decode cX11_newWalker 64 = .ok (.iload_n 3, 1) := by decide +kernel
theorem dX11_newWalker_65 : decode cX11_newWalker 65 = .ok (.invokespecial 374, 3) := by decide +kernel
theorem dX11_newWalker_68 : decode cX11_newWalker 68 = .ok (.areturn, 1) := by decide +kernel
theorem dX11_newWalker_69 : decode cX11_newWalker 69 = .ok (.new 375, 3) := by decide +kernel
theorem dX11_newWalker_72 : decode cX11_newWalker 72 = .ok (.dup, 1) := by decide +kernel
theorem dX11_newWalker_73 : decode cX11_newWalker 73 = .ok (.iload_n 1, 1) := by decide +kernel
theorem dX11_newWalker_74 : decode cX11_newWalker 74 = .ok (.iload_n 2, 1) := by decide +kernel
theorem dX11_newWalker_75 : decode cX11_newWalker 75 = .ok (.iload_n 3, 1) := by decide +kernel
theorem dX11_newWalker_76 : decode cX11_newWalker 76 = .ok (.invokespecial 377, 3) := by decide +kernel
theorem dX11_newWalker_79 : decode cX11_newWalker 79 = .ok (.areturn, 1) := by decide +kernel
theorem dX11_newWalker_80 : decode cX11_newWalker 80 = .ok (.new 378, 3) := by decide +kernel
theorem dX11_newWalker_83 : decode cX11_newWalker 83 = .ok (.dup, 1) := by decide +kernel
theorem dX11_newWalker_84 : decode cX11_newWalker 84 = .ok (.iload_n 1, 1) := by decide +kernel
theorem dX11_newWalker_85 : decode cX11_newWalker 85 = .ok (.iload_n 2, 1) := by decide +kernel
theorem dX11_newWalker_86 : decode cX11_newWalker 86 = .ok (.iload_n 3, 1) := by decide +kernel
theorem dX11_newWalker_87 : decode cX11_newWalker 87 = .ok (.invokespecial 380, 3) := by decide +kernel
theorem dX11_newWalker_90 : decode cX11_newWalker 90 = .ok (.areturn, 1) := by decide +kernel
theorem dX11_newWalker_91 : decode cX11_newWalker 91 = .ok (.new 20, 3) := by decide +kernel
theorem dX11_newWalker_94 : decode cX11_newWalker 94 = .ok (.dup, 1) := by decide +kernel
theorem dX11_newWalker_95 : decode cX11_newWalker 95 = .ok (.iload_n 1, 1) := by decide +kernel
theorem dX11_newWalker_96 : decode cX11_newWalker 96 = .ok (.iload_n 2, 1) := by decide +kernel
theorem dX11_newWalker_97 : decode cX11_newWalker 97 = .ok (.iload_n 3, 1) := by decide +kernel
theorem dX11_newWalker_98 : decode cX11_newWalker 98 = .ok (.invokespecial 381, 3) := by decide +kernel
theorem dX11_newWalker_101 : decode cX11_newWalker 101 = .ok (.areturn, 1) := by decide +kernel
theorem dJ5_init_d00df_0 : decode cJ5_init_d00df 0 = .ok (.aload_n 0, 1) := by decide +kernel
theorem dJ5_init_d00df_1 : decode cJ5_init_d00df 1 = .ok (.invokespecial 3, 3) := by decide +kernel
theorem dJ5_init_d00df_4 : decode cJ5_init_d00df 4 = .ok (.getstatic 18, 3) := by decide +kernel
theorem dJ5_init_d00df_7 : decode cJ5_init_d00df 7 = .ok (.ifCond .eq 18, 3) := by decide +kernel
theorem dJ5_init_d00df_10 : decode cJ5_init_d00df 10 = .ok (.aload_n 0, 1) := by decide +kernel
theorem dJ5_init_d00df_11 : decode cJ5_init_d00df 11 = .ok (.iload_n 1, 1) := by decide +kernel
theorem dJ5_init_d00df_12 : decode cJ5_init_d00df 12 = .ok (.newarray .byte, 2) := by decide +kernel
theorem dJ5_init_d00df_14 : decode cJ5_init_d00df 14 = .ok (.putfield 15, 3) := by decide +kernel
theorem dJ5_init_d00df_17 : decode cJ5_init_d00df 17 = .ok (.aload_n 0, 1) := by decide +kernel
theorem dJ5_init_d00df_18 : decode cJ5_init_d00df 18 = .ok (.iconst 0, 1) := by decide +kernel
theorem dJ5_init_d00df_19 : decode cJ5_init_d00df 19 = .ok (.putfield 22, 3) := by decide +kernel
theorem dJ5_init_d00df_22 : decode cJ5_init_d00df 22 = .ok (.goto 16, 3) := by decide +kernel
theorem dJ5_init_d00df_25 : decode cJ5_init_d00df 25 = .ok (.aload_n 0, 1) := by decide +kernel
theorem dJ5_init_d00df_26 : decode cJ5_init_d00df 26 = .ok (.iload_n 1, 1) := by decide +kernel
theorem dJ5_init_d00df_27 : decode cJ5_init_d00df 27 = .ok (.invokestatic 26, 3) := by decide +kernel
theorem dJ5_init_d00df_30 : decode cJ5_init_d00df 30 = .ok (.putfield 15, 3) := by decide +kernel
theorem dJ5_init_d00df_33 : decode cJ5_init_d00df 33 = .ok (.aload_n 0, 1) := by decide +kernel
theorem dJ5_init_d00df_34 : decode cJ5_init_d00df 34 = .ok (.iconst 1, 1) := by decide +kernel
theorem dJ5_init_d00df_35 : decode cJ5_init_d00df 35 = .ok (.putfield 22, 3) := by decide +kernel
theorem dJ5_init_d00df_38 : decode cJ5_init_d00df 38 = .ok (.return_, 1) := by decide +kernel
theorem dJ5_length_8abf5_0 : decode cJ5_length_8abf5 0 = .ok (.aload_n 0, 1) := by decide +kernel
theorem dJ5_length_8abf5_1 : decode cJ5_length_8abf5 1 = .ok (.getfield 79, 3) := by decide +kernel
theorem dJ5_length_8abf5_4 : decode cJ5_length_8abf5 4 = .ok (.ireturn, 1) := by decide +kernel
theorem dJ5_ensureCapacityInternal_d00df_0 : decode cJ5_ensureCapacityInternal_d00df 0 = .ok (.aload_n 0, 1) := by decide +kernel
theorem dJ5_ensureCapacityInternal_d00df_1 : decode cJ5_ensureCapacityInternal_d00df 1 = .ok (.getfield 15, 3) := by decide +kernel
theorem dJ5_ensureCapacityInternal_d00df_4 : decode cJ5_ensureCapacityInternal_d00df 4 = .ok (.arraylength, 1) := by decide +kernel
theorem dJ5_ensureCapacityInternal_d00df_5 : decode cJ5_ensureCapacityInternal_d00df 5 = .ok (.aload_n 0, 1) := by decide +kernel
theorem dJ5_ensureCapacityInternal_d00df_6 : decode cJ5_ensureCapacityInternal_d00df 6 = .ok (.getfield 22, 3) := by decide +kernel
theorem dJ5_ensureCapacityInternal_d00df_9 : decode cJ5_ensureCapacityInternal_d00df 9 = .ok (.ishr, 1) := by decide +kernel
theorem dJ5_ensureCapacityInternal_d00df_10 : decode cJ5_ensureCapacityInternal_d00df 10 = .ok (.istore_n 2, 1) := by decide +kernel
theorem dJ5_ensureCapacityInternal_d00df_11 : decode cJ5_ensureCapacityInternal_d00df 11 = .ok (.iload_n 1, 1) := by decide +kernel
theorem dJ5_ensureCapacityInternal_d00df_12 : decode cJ5_ensureCapacityInternal_d00df 12 = .ok (.iload_n 2, 1) := by decide +kernel
theorem dJ5_ensureCapacityInternal_d00df_13 : decode cJ5_ensureCapacityInternal_d00df 13 = .ok (.isub, 1) := by decide +kernel
theorem dJ5_ensureCapacityInternal_d00df_14 : decode cJ5_ensureCapacityInternal_d00df 14 = .ok (.ifCond .le 24, 3) := by decide +kernel
theorem dJ5_ensureCapacityInternal_d00df_17 : decode cJ5_ensureCapacityInternal_d00df 17 = .ok (.aload_n 0, 1) := by decide +kernel
theorem dJ5_ensureCapacityInternal_d00df_18 : decode cJ5_ensureCapacityInternal_d00df 18 = .ok (.aload_n 0, 1) := by decide +kernel
theorem dJ5_ensureCapacityInternal_d00df_19 : decode cJ5_ensureCapacityInternal_d00df 19 = .ok (.getfield 15, 3) := by decide +kernel
theorem dJ5_ensureCapacityInternal_d00df_22 : decode cJ5_ensureCapacityInternal_d00df 22 = .ok (.aload_n 0, 1) := by decide +kernel
theorem dJ5_ensureCapacityInternal_d00df_23 : decode cJ5_ensureCapacityInternal_d00df 23 = .ok (.iload_n 1, 1) := by decide +kernel
theorem dJ5_ensureCapacityInternal_d00df_24 : decode cJ5_ensureCapacityInternal_d00df 24 = .ok (.invokevirtual 104, 3) := by decide +kernel
theorem dJ5_ensureCapacityInternal_d00df_27 : decode cJ5_ensureCapacityInternal_d00df 27 = .ok (.aload_n 0, 1) := by decide +kernel
theorem dJ5_ensureCapacityInternal_d00df_28 : decode cJ5_ensureCapacityInternal_d00df 28 = .ok (.getfield 22, 3) := by decide +kernel
theorem dJ5_ensureCapacityInternal_d00df_31 : decode cJ5_ensureCapacityInternal_d00df 31 = .ok (.ishl, 1) := by decide +kernel
theorem dJ5_ensureCapacityInternal_d00df_32 : decode cJ5_ensureCapacityInternal_d00df 32 = .ok (.invokestatic 108, 3) := by decide +kernel
theorem dJ5_ensureCapacityInternal_d00df_35 : decode cJ5_ensureCapacityInternal_d00df 35 = .ok (.putfield 15, 3) := by decide +kernel
theorem dJ5_ensureCapacityInternal_d00df_38 : decode cJ5_ensureCapacityInternal_d00df 38 = .ok (.return_, 1) := by decide +kernel
theorem dJ5_newCapacity_0f7a4_0 : decode cJ5_newCapacity_0f7a4 0 = .ok (.aload_n 0, 1) := by decide +kernel
theorem dJ5_newCapacity_0f7a4_1 : decode cJ5_newCapacity_0f7a4 1 = .ok (.getfield 15, 3) := by decide +kernel
theorem dJ5_newCapacity_0f7a4_4 : decode cJ5_newCapacity_0f7a4 4 = .ok (.arraylength, 1) := by decide +kernel
theorem dJ5_newCapacity_0f7a4_5 : decode cJ5_newCapacity_0f7a4 5 = .ok (.istore_n 2, 1) := by decide +kernel
theorem dJ5_newCapacity_0f7a4_6 : decode cJ5_newCapacity_0f7a4 6 = .ok (.iload_n 1, 1) := by decide +kernel
theorem dJ5_newCapacity_0f7a4_7 : decode cJ5_newCapacity_0f7a4 7 = .ok (.aload_n 0, 1) := by decide +kernel
theorem dJ5_newCapacity_0f7a4_8 : decode cJ5_newCapacity_0f7a4 8 = .ok (.getfield 22, 3) := by decide +kernel
theorem dJ5_newCapacity_0f7a4_11 : decode cJ5_newCapacity_0f7a4 11 = .ok (.ishl, 1) := by decide +kernel
theorem dJ5_newCapacity_0f7a4_12 : decode cJ5_newCapacity_0f7a4 12 = .ok (.istore_n 3, 1) := by decide +kernel
theorem dJ5_newCapacity_0f7a4_13 : decode cJ5_newCapacity_0f7a4 13 = .ok (.iload_n 3, 1) := by decide +kernel
theorem dJ5_newCapacity_0f7a4_14 : decode cJ5_newCapacity_0f7a4 14 = .ok (.iload_n 2, 1) := by decide +kernel
theorem dJ5_newCapacity_0f7a4_15 : decode cJ5_newCapacity_0f7a4 15 = .ok (.isub, 1) := by decide +kernel
theorem dJ5_newCapacity_0f7a4_16 : decode cJ5_newCapacity_0f7a4 16 = .ok (.istore 4, 2) := by decide +kernel
theorem dJ5_newCapacity_0f7a4_18 : decode cJ5_newCapacity_0f7a4 18 = .ok (.iload_n 2, 1) := by decide +kernel
theorem dJ5_newCapacity_0f7a4_19 : decode cJ5_newCapacity_0f7a4 19 = .ok (.iload 4, 2) := by decide +kernel
theorem dJ5_newCapacity_0f7a4_21 : decode cJ5_newCapacity_0f7a4 21 = .ok (.iload_n 2, 1) := by decide +kernel
theorem dJ5_newCapacity_0f7a4_22 : decode cJ5_newCapacity_0f7a4 22 = .ok (.iconst 2, 1) := by decide +kernel
theorem dJ5_newCapacity_0f7a4_23 : decode cJ5_newCapacity_0f7a4 23 = .ok (.aload_n 0, 1) := by decide +kernel
theorem dJ5_newCapacity_0f7a4_24 : decode cJ5_newCapacity_0f7a4 24 = .ok (.getfield 22, 3) := by decide +kernel
theorem dJ5_newCapacity_0f7a4_27 : decode cJ5_newCapacity_0f7a4 27 = .ok (.ishl, 1) := by decide +kernel
theorem dJ5_newCapacity_0f7a4_28 : decode cJ5_newCapacity_0f7a4 28 = .ok (.iadd, 1) := by decide +kernel
theorem dJ5_newCapacity_0f7a4_29 : decode cJ5_newCapacity_0f7a4 29 = .ok (.invokestatic 114, 3) := by decide +kernel
theorem dJ5_newCapacity_0f7a4_32 : decode cJ5_newCapacity_0f7a4 32 = .ok (.istore 5, 2) := by decide +kernel
theorem dJ5_newCapacity_0f7a4_34 : decode cJ5_newCapacity_0f7a4 34 = .ok (.iload 5, 2) := by decide +kernel
theorem dJ5_newCapacity_0f7a4_36 : decode cJ5_newCapacity_0f7a4 36 = .ok (.ldc 39, 2) := by decide +kernel
theorem dJ5_newCapacity_0f7a4_38 : decode cJ5_newCapacity_0f7a4 38 = .ok (.if_icmp .ne 13, 3) := by decide +kernel
theorem dJ5_newCapacity_0f7a4_41 : decode cJ5_newCapacity_0f7a4 41 = .ok (.new 120, 3) := by decide +kernel
theorem dJ5_newCapacity_0f7a4_44 : decode cJ5_newCapacity_0f7a4 44 = .ok (.dup, 1) := by decide +kernel
theorem dJ5_newCapacity_0f7a4_45 : decode cJ5_newCapacity_0f7a4 45 = .ok (.ldc 122, 2) := by decide +kernel
theorem dJ5_newCapacity_0f7a4_47 : decode cJ5_newCapacity_0f7a4 47 = .ok (.invokespecial 124, 3) := by decide +kernel
theorem dJ5_newCapacity_0f7a4_50 : decode cJ5_newCapacity_0f7a4 50 = .ok (.athrow, 1) := by decide +kernel
theorem dJ5_newCapacity_0f7a4_51 : decode cJ5_newCapacity_0f7a4 51 = .ok (.iload 5, 2) := by decide +kernel
theorem dJ5_newCapacity_0f7a4_53 : decode cJ5_newCapacity_0f7a4 53 = .ok (.aload_n 0, 1) := by decide +kernel
theorem dJ5_newCapacity_0f7a4_54 : decode cJ5_newCapacity_0f7a4 54 = .ok (.getfield 22, 3) := by decide +kernel
theorem dJ5_newCapacity_0f7a4_57 : decode cJ5_newCapacity_0f7a4 57 = .ok (.ishr, 1) := by decide +kernel
theorem dJ5_newCapacity_0f7a4_58 : decode cJ5_newCapacity_0f7a4 58 = .ok (.ireturn, 1) := by decide +kernel
theorem dJ5_append_cf1ce_0 : decode cJ5_append_cf1ce 0 = .ok (.aload_n 1, 1) := by decide +kernel
theorem dJ5_append_cf1ce_1 : decode cJ5_append_cf1ce 1 = .ok (.ifnonnull 8, 3) := by decide +kernel
theorem dJ5_append_cf1ce_4 : decode cJ5_append_cf1ce 4 = .ok (.aload_n 0, 1) := by decide +kernel
theorem dJ5_append_cf1ce_5 : decode cJ5_append_cf1ce 5 = .ok (.invokevirtual 204, 3) := by decide +kernel
theorem dJ5_append_cf1ce_8 : decode cJ5_append_cf1ce 8 = .ok (.areturn, 1) := by decide +kernel
theorem dJ5_append_cf1ce_9 : decode cJ5_append_cf1ce 9 = .ok (.aload_n 1, 1) := by decide +kernel
theorem dJ5_append_cf1ce_10 : decode cJ5_append_cf1ce 10 = .ok (.invokevirtual 32, 3) := by decide +kernel
theorem dJ5_append_cf1ce_13 : decode cJ5_append_cf1ce 13 = .ok (.istore_n 2, 1) := by decide +kernel
theorem dJ5_append_cf1ce_14 : decode cJ5_append_cf1ce 14 = .ok (.aload_n 0, 1) := by decide +kernel
theorem dJ5_append_cf1ce_15 : decode cJ5_append_cf1ce 15 = .ok (.aload_n 0, 1) := by decide +kernel
theorem dJ5_append_cf1ce_16 : decode cJ5_append_cf1ce 16 = .ok (.getfield 79, 3) := by decide +kernel
theorem dJ5_append_cf1ce_19 : decode cJ5_append_cf1ce 19 = .ok (.iload_n 2, 1) := by decide +kernel
theorem dJ5_append_cf1ce_20 : decode cJ5_append_cf1ce 20 = .ok (.iadd, 1) := by decide +kernel
theorem dJ5_append_cf1ce_21 : decode cJ5_append_cf1ce 21 = .ok (.invokevirtual 100, 3) := by decide +kernel
theorem dJ5_append_cf1ce_24 : decode cJ5_append_cf1ce 24 = .ok (.aload_n 0, 1) := by decide +kernel
theorem dJ5_append_cf1ce_25 : decode cJ5_append_cf1ce 25 = .ok (.aload_n 0, 1) := by decide +kernel
theorem dJ5_append_cf1ce_26 : decode cJ5_append_cf1ce 26 = .ok (.getfield 79, 3) := by decide +kernel
theorem dJ5_append_cf1ce_29 : decode cJ5_append_cf1ce 29 = .ok (.aload_n 1, 1) := by decide +kernel
theorem dJ5_append_cf1ce_30 : decode cJ5_append_cf1ce 30 = .ok (.invokevirtual 208, 3) := by decide +kernel
theorem dJ5_append_cf1ce_33 : decode cJ5_append_cf1ce 33 = .ok (.aload_n 0, 1) := by decide +kernel
theorem dJ5_append_cf1ce_34 : decode cJ5_append_cf1ce 34 = .ok (.dup, 1) := by decide +kernel
theorem dJ5_append_cf1ce_35 : decode cJ5_append_cf1ce 35 = .ok (.getfield 79, 3) := by decide +kernel
theorem dJ5_append_cf1ce_38 : decode cJ5_append_cf1ce 38 = .ok (.iload_n 2, 1) := by decide +kernel
theorem dJ5_append_cf1ce_39 : decode cJ5_append_cf1ce 39 = .ok (.iadd, 1) := by decide +kernel
theorem dJ5_append_cf1ce_40 : decode cJ5_append_cf1ce 40 = .ok (.putfield 79, 3) := by decide +kernel
theorem dJ5_append_cf1ce_43 : decode cJ5_append_cf1ce 43 = .ok (.aload_n 0, 1) := by decide +kernel
theorem dJ5_append_cf1ce_44 : decode cJ5_append_cf1ce 44 = .ok (.areturn, 1) := by decide +kernel
theorem dJ5_append_c97b9_0 : decode cJ5_append_c97b9 0 = .ok (.aload_n 0, 1) := by decide +kernel
theorem dJ5_append_c97b9_1 : decode cJ5_append_c97b9 1 = .ok (.getfield 79, 3) := by decide +kernel
theorem dJ5_append_c97b9_4 : decode cJ5_append_c97b9 4 = .ok (.istore_n 2, 1) := by decide +kernel
theorem dJ5_append_c97b9_5 : decode cJ5_append_c97b9 5 = .ok (.iload_n 2, 1) := by decide +kernel
theorem dJ5_append_c97b9_6 : decode cJ5_append_c97b9 6 = .ok (.iload_n 1, 1) := by decide +kernel
theorem dJ5_append_c97b9_7 : decode cJ5_append_c97b9 7 = .ok (.invokestatic 245, 3) := by decide +kernel
theorem dJ5_append_c97b9_10 : decode cJ5_append_c97b9 10 = .ok (.iadd, 1) := by decide +kernel
theorem dJ5_append_c97b9_11 : decode cJ5_append_c97b9 11 = .ok (.istore_n 3, 1) := by decide +kernel
theorem dJ5_append_c97b9_12 : decode cJ5_append_c97b9 12 = .ok (.aload_n 0, 1) := by decide +kernel
theorem dJ5_append_c97b9_13 : decode cJ5_append_c97b9 13 = .ok (.iload_n 3, 1) := by decide +kernel
theorem dJ5_append_c97b9_14 : decode cJ5_append_c97b9 14 = .ok (.invokevirtual 100, 3) := by decide +kernel
theorem dJ5_append_c97b9_17 : decode cJ5_append_c97b9 17 = .ok (.aload_n 0, 1) := by decide +kernel
theorem dJ5_append_c97b9_18 : decode cJ5_append_c97b9 18 = .ok (.invokevirtual 83, 3) := by decide +kernel
theorem dJ5_append_c97b9_21 : decode cJ5_append_c97b9 21 = .ok (.ifCond .eq 16, 3) := by decide +kernel
theorem dJ5_append_c97b9_24 : decode cJ5_append_c97b9 24 = .ok (.iload_n 1, 1) := by decide +kernel
theorem dJ5_append_c97b9_25 : decode cJ5_append_c97b9 25 = .ok (.iload_n 3, 1) := by decide +kernel
theorem dJ5_append_c97b9_26 : decode cJ5_append_c97b9 26 = .ok (.aload_n 0, 1) := by decide +kernel
theorem dJ5_append_c97b9_27 : decode cJ5_append_c97b9 27 = .ok (.getfield 15, 3) := by decide +kernel
theorem dJ5_append_c97b9_30 : decode cJ5_append_c97b9 30 = .ok (.invokestatic 248, 3) := by decide +kernel
theorem dJ5_append_c97b9_33 : decode cJ5_append_c97b9 33 = .ok (.pop, 1) := by decide +kernel
theorem dJ5_append_c97b9_34 : decode cJ5_append_c97b9 34 = .ok (.goto 14, 3) := by decide +kernel
theorem dJ5_append_c97b9_37 : decode cJ5_append_c97b9 37 = .ok (.iload_n 1, 1) := by decide +kernel
theorem dJ5_append_c97b9_38 : decode cJ5_append_c97b9 38 = .ok (.iload_n 2, 1) := by decide +kernel
theorem dJ5_append_c97b9_39 : decode cJ5_append_c97b9 39 = .ok (.iload_n 3, 1) := by decide +kernel
theorem dJ5_append_c97b9_40 : decode cJ5_append_c97b9 40 = .ok (.aload_n 0, 1) := by decide +kernel
theorem dJ5_append_c97b9_41 : decode cJ5_append_c97b9 41 = .ok (.getfield 15, 3) := by decide +kernel
theorem dJ5_append_c97b9_44 : decode cJ5_append_c97b9 44 = .ok (.invokestatic 251, 3) := by decide +kernel
theorem dJ5_append_c97b9_47 : decode cJ5_append_c97b9 47 = .ok (.pop, 1) := by decide +kernel
theorem dJ5_append_c97b9_48 : decode cJ5_append_c97b9 48 = .ok (.aload_n 0, 1) := by decide +kernel
theorem dJ5_append_c97b9_49 : decode cJ5_append_c97b9 49 = .ok (.iload_n 3, 1) := by decide +kernel
theorem dJ5_append_c97b9_50 : decode cJ5_append_c97b9 50 = .ok (.putfield 79, 3) := by decide +kernel
theorem dJ5_append_c97b9_53 : decode cJ5_append_c97b9 53 = .ok (.aload_n 0, 1) := by decide +kernel
theorem dJ5_append_c97b9_54 : decode cJ5_append_c97b9 54 = .ok (.areturn, 1) := by decide +kernel
theorem dJ5_getValue_6d5f1_0 : decode cJ5_getValue_6d5f1 0 = .ok (.aload_n 0, 1) := by decide +kernel
theorem dJ5_getValue_6d5f1_1 : decode cJ5_getValue_6d5f1 1 = .ok (.getfield 15, 3) := by decide +kernel
theorem dJ5_getValue_6d5f1_4 : decode cJ5_getValue_6d5f1 4 = .ok (.areturn, 1) := by decide +kernel
theorem dJ5_isLatin1_aae02_0 : decode cJ5_isLatin1_aae02 0 = .ok (.getstatic 18, 3) := by decide +kernel
theorem dJ5_isLatin1_aae02_3 : decode cJ5_isLatin1_aae02 3 = .ok (.ifCond .eq 14, 3) := by decide +kernel
theorem dJ5_isLatin1_aae02_6 : decode cJ5_isLatin1_aae02 6 = .ok (.aload_n 0, 1) := by decide +kernel
theorem dJ5_isLatin1_aae02_7 : decode cJ5_isLatin1_aae02 7 = .ok (.getfield 22, 3) := by decide +kernel
theorem dJ5_isLatin1_aae02_10 : decode cJ5_isLatin1_aae02 10 = .ok (.ifCond .ne 7, 3) := by decide +kernel
theorem dJ5_isLatin1_aae02_13 : decode cJ5_isLatin1_aae02 13 = .ok (.iconst 1, 1) := by decide +kernel
theorem dJ5_isLatin1_aae02_14 : decode cJ5_isLatin1_aae02 14 = .ok (.goto 4, 3) := by decide +kernel
theorem dJ5_isLatin1_aae02_17 : decode cJ5_isLatin1_aae02 17 = .ok (.iconst 0, 1) := by decide +kernel
theorem dJ5_isLatin1_aae02_18 : decode cJ5_isLatin1_aae02 18 = .ok (.ireturn, 1) := by decide +kernel
theorem dJ5_inflateIfNeededFor_a7421_0 : decode cJ5_inflateIfNeededFor_a7421 0 = .ok (.getstatic 18, 3) := by decide +kernel
theorem dJ5_inflateIfNeededFor_a7421_3 : decode cJ5_inflateIfNeededFor_a7421 3 = .ok (.ifCond .eq 18, 3) := by decide +kernel
theorem dJ5_inflateIfNeededFor_a7421_6 : decode cJ5_inflateIfNeededFor_a7421 6 = .ok (.aload_n 0, 1) := by decide +kernel
theorem dJ5_inflateIfNeededFor_a7421_7 : decode cJ5_inflateIfNeededFor_a7421 7 = .ok (.getfield 22, 3) := by decide +kernel
theorem dJ5_inflateIfNeededFor_a7421_10 : decode cJ5_inflateIfNeededFor_a7421 10 = .ok (.aload_n 1, 1) := by decide +kernel
theorem dJ5_inflateIfNeededFor_a7421_11 : decode cJ5_inflateIfNeededFor_a7421 11 = .ok (.invokevirtual 40, 3) := by decide +kernel
theorem dJ5_inflateIfNeededFor_a7421_14 : decode cJ5_inflateIfNeededFor_a7421 14 = .ok (.if_icmp .eq 7, 3) := by decide +kernel
theorem dJ5_inflateIfNeededFor_a7421_17 : decode cJ5_inflateIfNeededFor_a7421 17 = .ok (.aload_n 0, 1) := by decide +kernel
theorem dJ5_inflateIfNeededFor_a7421_18 : decode cJ5_inflateIfNeededFor_a7421 18 = .ok (.invokevirtual 195, 3) := by decide +kernel
theorem dJ5_inflateIfNeededFor_a7421_21 : decode cJ5_inflateIfNeededFor_a7421 21 = .ok (.return_, 1) := by decide +kernel
theorem dJ5_putStringAt_47b60_0 : decode cJ5_putStringAt_47b60 0 = .ok (.aload_n 0, 1) := by decide +kernel
theorem dJ5_putStringAt_47b60_1 : decode cJ5_putStringAt_47b60 1 = .ok (.aload_n 2, 1) := by decide +kernel
theorem dJ5_putStringAt_47b60_2 : decode cJ5_putStringAt_47b60 2 = .ok (.invokevirtual 397, 3) := by decide +kernel
theorem dJ5_putStringAt_47b60_5 : decode cJ5_putStringAt_47b60 5 = .ok (.aload_n 2, 1) := by decide +kernel
theorem dJ5_putStringAt_47b60_6 : decode cJ5_putStringAt_47b60 6 = .ok (.aload_n 0, 1) := by decide +kernel
theorem dJ5_putStringAt_47b60_7 : decode cJ5_putStringAt_47b60 7 = .ok (.getfield 15, 3) := by decide +kernel
theorem dJ5_putStringAt_47b60_10 : decode cJ5_putStringAt_47b60 10 = .ok (.iload_n 1, 1) := by decide +kernel
theorem dJ5_putStringAt_47b60_11 : decode cJ5_putStringAt_47b60 11 = .ok (.aload_n 0, 1) := by decide +kernel
theorem dJ5_putStringAt_47b60_12 : decode cJ5_putStringAt_47b60 12 = .ok (.getfield 22, 3) := by decide +kernel
theorem dJ5_putStringAt_47b60_15 : decode cJ5_putStringAt_47b60 15 = .ok (.invokevirtual 399, 3) := by decide +kernel
theorem dJ5_putStringAt_47b60_18 : decode cJ5_putStringAt_47b60 18 = .ok (.return_, 1) := by decide +kernel
theorem dJ6_getChars_ba4f3_0 : decode cJ6_getChars_ba4f3 0 = .ok (.iload_n 1, 1) := by decide +kernel
theorem dJ6_getChars_ba4f3_1 : decode cJ6_getChars_ba4f3 1 = .ok (.istore 5, 2) := by decide +kernel
theorem dJ6_getChars_ba4f3_3 : decode cJ6_getChars_ba4f3 3 = .ok (.iload_n 0, 1) := by decide +kernel
theorem dJ6_getChars_ba4f3_4 : decode cJ6_getChars_ba4f3 4 = .ok (.ifCond .ge 7, 3) := by decide +kernel
theorem dJ6_getChars_ba4f3_7 : decode cJ6_getChars_ba4f3 7 = .ok (.iconst 1, 1) := by decide +kernel
theorem dJ6_getChars_ba4f3_8 : decode cJ6_getChars_ba4f3 8 = .ok (.goto 4, 3) := by decide +kernel
theorem dJ6_getChars_ba4f3_11 : decode cJ6_getChars_ba4f3 11 = .ok (.iconst 0, 1) := by decide +kernel
theorem dJ6_getChars_ba4f3_12 : decode cJ6_getChars_ba4f3 12 = .ok (.istore 6, 2) := by decide +kernel
theorem dJ6_getChars_ba4f3_14 : decode cJ6_getChars_ba4f3 14 = .ok (.iload 6, 2) := by decide +kernel
theorem dJ6_getChars_ba4f3_16 : decode cJ6_getChars_ba4f3 16 = .ok (.ifCond .ne 6, 3) := by decide +kernel
theorem dJ6_getChars_ba4f3_19 : decode cJ6_getChars_ba4f3 19 = .ok (.iload_n 0, 1) := by decide +kernel
theorem dJ6_getChars_ba4f3_20 : decode cJ6_getChars_ba4f3 20 = .ok (.ineg, 1) := by decide +kernel
theorem dJ6_getChars_ba4f3_21 : decode cJ6_getChars_ba4f3 21 = .ok (.istore_n 0, 1) := by decide +kernel
theorem dJ6_getChars_ba4f3_22 : decode cJ6_getChars_ba4f3 22 = .ok (.iload_n 0, 1) := by decide +kernel
theorem dJ6_getChars_ba4f3_23 : decode cJ6_getChars_ba4f3 23 = .ok (.bipush (-100), 2) := by decide +kernel
theorem dJ6_getChars_ba4f3_25 : decode cJ6_getChars_ba4f3 25 = .ok (.if_icmp .gt 47, 3) := by decide +kernel
theorem dJ6_getChars_ba4f3_28 : decode cJ6_getChars_ba4f3 28 = .ok (.iload_n 0, 1) := by decide +kernel
theorem dJ6_getChars_ba4f3_29 : decode cJ6_getChars_ba4f3 29 = .ok (.bipush 100, 2) := by decide +kernel
theorem dJ6_getChars_ba4f3_31 : decode cJ6_getChars_ba4f3 31 = .ok (.idiv, 1) := by decide +kernel
theorem dJ6_getChars_ba4f3_32 : decode cJ6_getChars_ba4f3 32 = .ok (.istore_n 3, 1) := by decide +kernel
theorem dJ6_getChars_ba4f3_33 : decode cJ6_getChars_ba4f3 33 = .ok (.iload_n 3, 1) := by decide +kernel
theorem dJ6_getChars_ba4f3_34 : decode cJ6_getChars_ba4f3 34 = .ok (.bipush 100, 2) := by decide +kernel
theorem dJ6_getChars_ba4f3_36 : decode cJ6_getChars_ba4f3 36 = .ok (.imul, 1) := by decide +kernel
theorem dJ6_getChars_ba4f3_37 : decode cJ6_getChars_ba4f3 37 = .ok (.iload_n 0, 1) := by decide +kernel
theorem dJ6_getChars_ba4f3_38 : decode cJ6_getChars_ba4f3 38 = .ok (.isub, 1) := by decide +kernel
theorem dJ6_getChars_ba4f3_39 : decode cJ6_getChars_ba4f3 39 = .ok (.istore 4, 2) := by decide +kernel
theorem dJ6_getChars_ba4f3_41 : decode cJ6_getChars_ba4f3 41 = .ok (.iload_n 3, 1) := by decide +kernel
theorem dJ6_getChars_ba4f3_42 : decode cJ6_getChars_ba4f3 42 = .ok (.istore_n 0, 1) := by decide +kernel
theorem dJ6_getChars_ba4f3_43 : decode cJ6_getChars_ba4f3 43 = .ok (.aload_n 2, 1) := by decide +kernel
theorem dJ6_getChars_ba4f3_44 : decode cJ6_getChars_ba4f3 44 = .ok (.iinc 5 (-1), 3) := by decide +kernel
theorem dJ6_getChars_ba4f3_47 : decode cJ6_getChars_ba4f3 47 = .ok (.iload 5, 2) := by decide +kernel
theorem dJ6_getChars_ba4f3_49 : decode cJ6_getChars_ba4f3 49 = .ok (.getstatic 83, 3) := by decide +kernel
theorem dJ6_getChars_ba4f3_52 : decode cJ6_getChars_ba4f3 52 = .ok (.iload 4, 2) := by decide +kernel
theorem dJ6_getChars_ba4f3_54 : decode cJ6_getChars_ba4f3 54 = .ok (.baload, 1) := by decide +kernel
theorem dJ6_getChars_ba4f3_55 : decode cJ6_getChars_ba4f3 55 = .ok (.bastore, 1) := by decide +kernel
theorem dJ6_getChars_ba4f3_56 : decode cJ6_getChars_ba4f3 56 = .ok (.aload_n 2, 1) := by decide +kernel
theorem dJ6_getChars_ba4f3_57 : decode cJ6_getChars_ba4f3 57 = .ok (.iinc 5 (-1), 3) := by decide +kernel
theorem dJ6_getChars_ba4f3_60 : decode cJ6_getChars_ba4f3 60 = .ok (.iload 5, 2) := by decide +kernel
theorem dJ6_getChars_ba4f3_62 : decode cJ6_getChars_ba4f3 62 = .ok (.getstatic 87, 3) := by decide +kernel
theorem dJ6_getChars_ba4f3_65 : decode cJ6_getChars_ba4f3 65 = .ok (.iload 4, 2) := by decide +kernel
theorem dJ6_getChars_ba4f3_67 : decode cJ6_getChars_ba4f3 67 = .ok (.baload, 1) := by decide +kernel
theorem dJ6_getChars_ba4f3_68 : decode cJ6_getChars_ba4f3 68 = .ok (.bastore, 1) := by decide +kernel
theorem dJ6_getChars_ba4f3_69 : decode cJ6_getChars_ba4f3 69 = .ok (.goto (-47), 3) := by decide +kernel
theorem dJ6_getChars_ba4f3_72 : decode cJ6_getChars_ba4f3 72 = .ok (.aload_n 2, 1) := by decide +kernel
theorem dJ6_getChars_ba4f3_73 : decode cJ6_getChars_ba4f3 73 = .ok (.iinc 5 (-1), 3) := by decide +kernel
theorem dJ6_getChars_ba4f3_76 : decode cJ6_getChars_ba4f3 76 = .ok (.iload 5, 2) := by decide +kernel
theorem dJ6_getChars_ba4f3_78 : decode cJ6_getChars_ba4f3 78 = .ok (.getstatic 83, 3) := by decide +kernel
theorem dJ6_getChars_ba4f3_81 : decode cJ6_getChars_ba4f3 81 = .ok (.iload_n 0, 1) := by decide +kernel
theorem dJ6_getChars_ba4f3_82 : decode cJ6_getChars_ba4f3 82 = .ok (.ineg, 1) := by decide +kernel
theorem dJ6_getChars_ba4f3_83 : decode cJ6_getChars_ba4f3 83 = .ok (.baload, 1) := by decide +kernel
theorem dJ6_getChars_ba4f3_84 : decode cJ6_getChars_ba4f3 84 = .ok (.bastore, 1) := by decide +kernel
theorem dJ6_getChars_ba4f3_85 : decode cJ6_getChars_ba4f3 85 = .ok (.iload_n 0, 1) := by decide +kernel
theorem dJ6_getChars_ba4f3_86 : decode cJ6_getChars_ba4f3 86 = .ok (.bipush (-9), 2) := by decide +kernel
theorem dJ6_getChars_ba4f3_88 : decode cJ6_getChars_ba4f3 88 = .ok (.if_icmp .ge 16, 3) := by decide +kernel
theorem dJ6_getChars_ba4f3_91 : decode cJ6_getChars_ba4f3 91 = .ok (.aload_n 2, 1) := by decide +kernel
theorem dJ6_getChars_ba4f3_92 : decode cJ6_getChars_ba4f3 92 = .ok (.iinc 5 (-1), 3) := by decide +kernel
theorem dJ6_getChars_ba4f3_95 : decode cJ6_getChars_ba4f3 95 = .ok (.iload 5, 2) := by decide +kernel
theorem dJ6_getChars_ba4f3_97 : decode cJ6_getChars_ba4f3 97 = .ok (.getstatic 87, 3) := by decide +kernel
theorem dJ6_getChars_ba4f3_100 : decode cJ6_getChars_ba4f3 100 = .ok (.iload_n 0, 1) := by decide +kernel
theorem dJ6_getChars_ba4f3_101 : decode cJ6_getChars_ba4f3 101 = .ok (.ineg, 1) := by decide +kernel
theorem dJ6_getChars_ba4f3_102 : decode cJ6_getChars_ba4f3 102 = .ok (.baload, 1) := by decide +kernel
theorem dJ6_getChars_ba4f3_103 : decode cJ6_getChars_ba4f3 103 = .ok (.bastore, 1) := by decide +kernel
theorem dJ6_getChars_ba4f3_104 : decode cJ6_getChars_ba4f3 104 = .ok (.iload 6, 2) := by decide +kernel
theorem dJ6_getChars_ba4f3_106 : decode cJ6_getChars_ba4f3 106 = .ok (.ifCond .eq 12, 3) := by decide +kernel
theorem dJ6_getChars_ba4f3_109 : decode cJ6_getChars_ba4f3 109 = .ok (.aload_n 2, 1) := by decide +kernel
theorem dJ6_getChars_ba4f3_110 : decode cJ6_getChars_ba4f3 110 = .ok (.iinc 5 (-1), 3) := by decide +kernel
theorem dJ6_getChars_ba4f3_113 : decode cJ6_getChars_ba4f3 113 = .ok (.iload 5, 2) := by decide +kernel
theorem dJ6_getChars_ba4f3_115 : decode cJ6_getChars_ba4f3 115 = .ok (.bipush 45, 2) := by decide +kernel
theorem dJ6_getChars_ba4f3_117 : decode cJ6_getChars_ba4f3 117 = .ok (.bastore, 1) := by decide +kernel
theorem dJ6_getChars_ba4f3_118 : decode cJ6_getChars_ba4f3 118 = .ok (.iload 5, 2) := by decide +kernel
theorem dJ6_getChars_ba4f3_120 : decode cJ6_getChars_ba4f3 120 = .ok (.ireturn, 1) := by decide +kernel
theorem dJ6_stringSize_0f7a4_0 : decode cJ6_stringSize_0f7a4 0 = .ok (.iconst 1, 1) := by decide +kernel
theorem dJ6_stringSize_0f7a4_1 : decode cJ6_stringSize_0f7a4 1 = .ok (.istore_n 1, 1) := by decide +kernel
theorem dJ6_stringSize_0f7a4_2 : decode cJ6_stringSize_0f7a4 2 = .ok (.iload_n 0, 1) := by decide +kernel
theorem dJ6_stringSize_0f7a4_3 : decode cJ6_stringSize_0f7a4 3 = .ok (.ifCond .lt 8, 3) := by decide +kernel
theorem dJ6_stringSize_0f7a4_6 : decode cJ6_stringSize_0f7a4 6 = .ok (.iconst 0, 1) := by decide +kernel
theorem dJ6_stringSize_0f7a4_7 : decode cJ6_stringSize_0f7a4 7 = .ok (.istore_n 1, 1) := by decide +kernel
theorem dJ6_stringSize_0f7a4_8 : decode cJ6_stringSize_0f7a4 8 = .ok (.iload_n 0, 1) := by decide +kernel
theorem dJ6_stringSize_0f7a4_9 : decode cJ6_stringSize_0f7a4 9 = .ok (.ineg, 1) := by decide +kernel
theorem dJ6_stringSize_0f7a4_10 : decode cJ6_stringSize_0f7a4 10 = .ok (.istore_n 0, 1) := by decide +kernel
theorem dJ6_stringSize_0f7a4_11 : decode cJ6_stringSize_0f7a4 11 = .ok (.bipush (-10), 2) := by decide +kernel
theorem dJ6_stringSize_0f7a4_13 : decode cJ6_stringSize_0f7a4 13 = .ok (.istore_n 2, 1) := by decide +kernel
theorem dJ6_stringSize_0f7a4_14 : decode cJ6_stringSize_0f7a4 14 = .ok (.iconst 1, 1) := by decide +kernel
theorem dJ6_stringSize_0f7a4_15 : decode cJ6_stringSize_0f7a4 15 = .ok (.istore_n 3, 1) := by decide +kernel
theorem dJ6_stringSize_0f7a4_16 : decode cJ6_stringSize_0f7a4 16 = .ok (.iload_n 3, 1) := by decide +kernel
theorem dJ6_stringSize_0f7a4_17 : decode cJ6_stringSize_0f7a4 17 = .ok (.bipush 10, 2) := by decide +kernel
theorem dJ6_stringSize_0f7a4_19 : decode cJ6_stringSize_0f7a4 19 = .ok (.if_icmp .ge 23, 3) := by decide +kernel
theorem dJ6_stringSize_0f7a4_22 : decode cJ6_stringSize_0f7a4 22 = .ok (.iload_n 0, 1) := by decide +kernel
theorem dJ6_stringSize_0f7a4_23 : decode cJ6_stringSize_0f7a4 23 = .ok (.iload_n 2, 1) := by decide +kernel
theorem dJ6_stringSize_0f7a4_24 : decode cJ6_stringSize_0f7a4 24 = .ok (.if_icmp .le 7, 3) := by decide +kernel
theorem dJ6_stringSize_0f7a4_27 : decode cJ6_stringSize_0f7a4 27 = .ok (.iload_n 3, 1) := by decide +kernel
theorem dJ6_stringSize_0f7a4_28 : decode cJ6_stringSize_0f7a4 28 = .ok (.iload_n 1, 1) := by decide +kernel
theorem dJ6_stringSize_0f7a4_29 : decode cJ6_stringSize_0f7a4 29 = .ok (.iadd, 1) := by decide +kernel
theorem dJ6_stringSize_0f7a4_30 : decode cJ6_stringSize_0f7a4 30 = .ok (.ireturn, 1) := by decide +kernel
theorem dJ6_stringSize_0f7a4_31 : decode cJ6_stringSize_0f7a4 31 = .ok (.bipush 10, 2) := by decide +kernel
theorem dJ6_stringSize_0f7a4_33 : decode cJ6_stringSize_0f7a4 33 = .ok (.iload_n 2, 1) := by decide +kernel
theorem dJ6_stringSize_0f7a4_34 : decode cJ6_stringSize_0f7a4 34 = .ok (.imul, 1) := by decide +kernel
theorem dJ6_stringSize_0f7a4_35 : decode cJ6_stringSize_0f7a4 35 = .ok (.istore_n 2, 1) := by decide +kernel
theorem dJ6_stringSize_0f7a4_36 : decode cJ6_stringSize_0f7a4 36 = .ok (.iinc 3 1, 3) := by decide +kernel
theorem dJ6_stringSize_0f7a4_39 : decode cJ6_stringSize_0f7a4 39 = .ok (.goto (-23), 3) := by decide +kernel
theorem dJ6_stringSize_0f7a4_42 : decode cJ6_stringSize_0f7a4 42 = .ok (.bipush 10, 2) := by decide +kernel
theorem dJ6_stringSize_0f7a4_44 : decode cJ6_stringSize_0f7a4 44 = .ok (.iload_n 1, 1) := by decide +kernel
theorem dJ6_stringSize_0f7a4_45 : decode cJ6_stringSize_0f7a4 45 = .ok (.iadd, 1) := by decide +kernel
theorem dJ6_stringSize_0f7a4_46 : decode cJ6_stringSize_0f7a4 46 = .ok (.ireturn, 1) := by decide +kernel
theorem dJ9_floorMod_7cf53_0 : decode cJ9_floorMod_7cf53 0 = .ok (.iload_n 0, 1) := by decide +kernel
theorem dJ9_floorMod_7cf53_1 : decode cJ9_floorMod_7cf53 1 = .ok (.iload_n 1, 1) := by decide +kernel
theorem dJ9_floorMod_7cf53_2 : decode cJ9_floorMod_7cf53 2 = .ok (.irem, 1) := by decide +kernel
theorem dJ9_floorMod_7cf53_3 : decode cJ9_floorMod_7cf53 3 = .ok (.istore_n 2, 1) := by decide +kernel
theorem dJ9_floorMod_7cf53_4 : decode cJ9_floorMod_7cf53 4 = .ok (.iload_n 0, 1) := by decide +kernel
theorem dJ9_floorMod_7cf53_5 : decode cJ9_floorMod_7cf53 5 = .ok (.iload_n 1, 1) := by decide +kernel
theorem dJ9_floorMod_7cf53_6 : decode cJ9_floorMod_7cf53 6 = .ok (.ixor, 1) := by decide +kernel
theorem dJ9_floorMod_7cf53_7 : decode cJ9_floorMod_7cf53 7 = .ok (.ifCond .ge 11, 3) := by decide +kernel
theorem dJ9_floorMod_7cf53_10 : decode cJ9_floorMod_7cf53 10 = .ok (.iload_n 2, 1) := by decide +kernel
theorem dJ9_floorMod_7cf53_11 : decode cJ9_floorMod_7cf53 11 = .ok (.ifCond .eq 7, 3) := by decide +kernel
theorem dJ9_floorMod_7cf53_14 : decode cJ9_floorMod_7cf53 14 = .ok (.iload_n 2, 1) := by decide +kernel
theorem dJ9_floorMod_7cf53_15 : decode cJ9_floorMod_7cf53 15 = .ok (.iload_n 1, 1) := by decide +kernel
theorem dJ9_floorMod_7cf53_16 : decode cJ9_floorMod_7cf53 16 = .ok (.iadd, 1) := by decide +kernel
theorem dJ9_floorMod_7cf53_17 : decode cJ9_floorMod_7cf53 17 = .ok (.ireturn, 1) := by decide +kernel
theorem dJ9_floorMod_7cf53_18 : decode cJ9_floorMod_7cf53 18 = .ok (.iload_n 2, 1) := by decide +kernel
theorem dJ9_floorMod_7cf53_19 : decode cJ9_floorMod_7cf53 19 = .ok (.ireturn, 1) := by decide +kernel
theorem dJ0_init_81219_0 : decode cJ0_init_81219 0 = .ok (.aload_n 0, 1) := by decide +kernel
theorem dJ0_init_81219_1 : decode cJ0_init_81219 1 = .ok (.aload_n 1, 1) := by decide +kernel
theorem dJ0_init_81219_2 : decode cJ0_init_81219 2 = .ok (.aconst_null, 1) := by decide +kernel
theorem dJ0_init_81219_3 : decode cJ0_init_81219 3 = .ok (.invokespecial 489, 3) := by decide +kernel
theorem dJ0_init_81219_6 : decode cJ0_init_81219 6 = .ok (.return_, 1) := by decide +kernel
theorem dJ0_length_8abf5_0 : decode cJ0_length_8abf5 0 = .ok (.aload_n 0, 1) := by decide +kernel
theorem dJ0_length_8abf5_1 : decode cJ0_length_8abf5 1 = .ok (.getfield 9, 3) := by decide +kernel
theorem dJ0_length_8abf5_4 : decode cJ0_length_8abf5 4 = .ok (.arraylength, 1) := by decide +kernel
theorem dJ0_length_8abf5_5 : decode cJ0_length_8abf5 5 = .ok (.aload_n 0, 1) := by decide +kernel
theorem dJ0_length_8abf5_6 : decode cJ0_length_8abf5 6 = .ok (.invokevirtual 335, 3) := by decide +kernel
theorem dJ0_length_8abf5_9 : decode cJ0_length_8abf5 9 = .ok (.ishr, 1) := by decide +kernel
theorem dJ0_length_8abf5_10 : decode cJ0_length_8abf5 10 = .ok (.ireturn, 1) := by decide +kernel
theorem dJ0_charAt_5068e_0 : decode cJ0_charAt_5068e 0 = .ok (.aload_n 0, 1) := by decide +kernel
theorem dJ0_charAt_5068e_1 : decode cJ0_charAt_5068e 1 = .ok (.invokevirtual 492, 3) := by decide +kernel
theorem dJ0_charAt_5068e_4 : decode cJ0_charAt_5068e 4 = .ok (.ifCond .eq 12, 3) := by decide +kernel
theorem dJ0_charAt_5068e_7 : decode cJ0_charAt_5068e 7 = .ok (.aload_n 0, 1) := by decide +kernel
theorem dJ0_charAt_5068e_8 : decode cJ0_charAt_5068e 8 = .ok (.getfield 9, 3) := by decide +kernel
theorem dJ0_charAt_5068e_11 : decode cJ0_charAt_5068e 11 = .ok (.iload_n 1, 1) := by decide +kernel
theorem dJ0_charAt_5068e_12 : decode cJ0_charAt_5068e 12 = .ok (.invokestatic 495, 3) := by decide +kernel
theorem dJ0_charAt_5068e_15 : decode cJ0_charAt_5068e 15 = .ok (.ireturn, 1) := by decide +kernel
theorem dJ0_charAt_5068e_16 : decode cJ0_charAt_5068e 16 = .ok (.aload_n 0, 1) := by decide +kernel
theorem dJ0_charAt_5068e_17 : decode cJ0_charAt_5068e 17 = .ok (.getfield 9, 3) := by decide +kernel
theorem dJ0_charAt_5068e_20 : decode cJ0_charAt_5068e 20 = .ok (.iload_n 1, 1) := by decide +kernel
theorem dJ0_charAt_5068e_21 : decode cJ0_charAt_5068e 21 = .ok (.invokestatic 498, 3) := by decide +kernel
theorem dJ0_charAt_5068e_24 : decode cJ0_charAt_5068e 24 = .ok (.ireturn, 1) := by decide +kernel
theorem dJ0_getBytes_840e7_0 : decode cJ0_getBytes_840e7 0 = .ok (.aload_n 0, 1) := by decide +kernel
theorem dJ0_getBytes_840e7_1 : decode cJ0_getBytes_840e7 1 = .ok (.invokevirtual 335, 3) := by decide +kernel
theorem dJ0_getBytes_840e7_4 : decode cJ0_getBytes_840e7 4 = .ok (.iload_n 3, 1) := by decide +kernel
theorem dJ0_getBytes_840e7_5 : decode cJ0_getBytes_840e7 5 = .ok (.if_icmp .ne 23, 3) := by decide +kernel
theorem dJ0_getBytes_840e7_8 : decode cJ0_getBytes_840e7 8 = .ok (.aload_n 0, 1) := by decide +kernel
theorem dJ0_getBytes_840e7_9 : decode cJ0_getBytes_840e7 9 = .ok (.getfield 9, 3) := by decide +kernel
theorem dJ0_getBytes_840e7_12 : decode cJ0_getBytes_840e7 12 = .ok (.iconst 0, 1) := by decide +kernel
theorem dJ0_getBytes_840e7_13 : decode cJ0_getBytes_840e7 13 = .ok (.aload_n 1, 1) := by decide +kernel
theorem dJ0_getBytes_840e7_14 : decode cJ0_getBytes_840e7 14 = .ok (.iload_n 2, 1) := by decide +kernel
theorem dJ0_getBytes_840e7_15 : decode cJ0_getBytes_840e7 15 = .ok (.iload_n 3, 1) := by decide +kernel
theorem dJ0_getBytes_840e7_16 : decode cJ0_getBytes_840e7 16 = .ok (.ishl, 1) := by decide +kernel
theorem dJ0_getBytes_840e7_17 : decode cJ0_getBytes_840e7 17 = .ok (.aload_n 0, 1) := by decide +kernel
theorem dJ0_getBytes_840e7_18 : decode cJ0_getBytes_840e7 18 = .ok (.getfield 9, 3) := by decide +kernel
theorem dJ0_getBytes_840e7_21 : decode cJ0_getBytes_840e7 21 = .ok (.arraylength, 1) := by decide +kernel
theorem dJ0_getBytes_840e7_22 : decode cJ0_getBytes_840e7 22 = .ok (.invokestatic 212, 3) := by decide +kernel
theorem dJ0_getBytes_840e7_25 : decode cJ0_getBytes_840e7 25 = .ok (.goto 18, 3) := by decide +kernel
theorem dJ0_getBytes_840e7_28 : decode cJ0_getBytes_840e7 28 = .ok (.aload_n 0, 1) := by decide +kernel
theorem dJ0_getBytes_840e7_29 : decode cJ0_getBytes_840e7 29 = .ok (.getfield 9, 3) := by decide +kernel
theorem dJ0_getBytes_840e7_32 : decode cJ0_getBytes_840e7 32 = .ok (.iconst 0, 1) := by decide +kernel
theorem dJ0_getBytes_840e7_33 : decode cJ0_getBytes_840e7 33 = .ok (.aload_n 1, 1) := by decide +kernel
theorem dJ0_getBytes_840e7_34 : decode cJ0_getBytes_840e7 34 = .ok (.iload_n 2, 1) := by decide +kernel
theorem dJ0_getBytes_840e7_35 : decode cJ0_getBytes_840e7 35 = .ok (.aload_n 0, 1) := by decide +kernel
theorem dJ0_getBytes_840e7_36 : decode cJ0_getBytes_840e7 36 = .ok (.getfield 9, 3) := by decide +kernel
theorem dJ0_getBytes_840e7_39 : decode cJ0_getBytes_840e7 39 = .ok (.arraylength, 1) := by decide +kernel
theorem dJ0_getBytes_840e7_40 : decode cJ0_getBytes_840e7 40 = .ok (.invokestatic 106, 3) := by decide +kernel
theorem dJ0_getBytes_840e7_43 : decode cJ0_getBytes_840e7 43 = .ok (.return_, 1) := by decide +kernel
theorem dJ0_init_db425_0 : decode cJ0_init_db425 0 = .ok (.aload_n 0, 1) := by decide +kernel
theorem dJ0_init_db425_1 : decode cJ0_init_db425 1 = .ok (.invokespecial 1, 3) := by decide +kernel
theorem dJ0_init_db425_4 : decode cJ0_init_db425 4 = .ok (.aload_n 1, 1) := by decide +kernel
theorem dJ0_init_db425_5 : decode cJ0_init_db425 5 = .ok (.invokevirtual 552, 3) := by decide +kernel
theorem dJ0_init_db425_8 : decode cJ0_init_db425 8 = .ok (.astore_n 3, 1) := by decide +kernel
theorem dJ0_init_db425_9 : decode cJ0_init_db425 9 = .ok (.aload_n 1, 1) := by decide +kernel
theorem dJ0_init_db425_10 : decode cJ0_init_db425 10 = .ok (.invokevirtual 549, 3) := by decide +kernel
theorem dJ0_init_db425_13 : decode cJ0_init_db425 13 = .ok (.istore 4, 2) := by decide +kernel
theorem dJ0_init_db425_15 : decode cJ0_init_db425 15 = .ok (.aload_n 1, 1) := by decide +kernel
theorem dJ0_init_db425_16 : decode cJ0_init_db425 16 = .ok (.invokevirtual 1047, 3) := by decide +kernel
theorem dJ0_init_db425_19 : decode cJ0_init_db425 19 = .ok (.ifCond .eq 22, 3) := by decide +kernel
theorem dJ0_init_db425_22 : decode cJ0_init_db425 22 = .ok (.aload_n 0, 1) := by decide +kernel
theorem dJ0_init_db425_23 : decode cJ0_init_db425 23 = .ok (.iconst 0, 1) := by decide +kernel
theorem dJ0_init_db425_24 : decode cJ0_init_db425 24 = .ok (.putfield 15, 3) := by decide +kernel
theorem dJ0_init_db425_27 : decode cJ0_init_db425 27 = .ok (.aload_n 0, 1) := by decide +kernel
theorem dJ0_init_db425_28 : decode cJ0_init_db425 28 = .ok (.aload_n 3, 1) := by decide +kernel
theorem dJ0_init_db425_29 : decode cJ0_init_db425 29 = .ok (.iconst 0, 1) := by decide +kernel
theorem dJ0_init_db425_30 : decode cJ0_init_db425 30 = .ok (.iload 4, 2) := by decide +kernel
theorem dJ0_init_db425_32 : decode cJ0_init_db425 32 = .ok (.invokestatic 54, 3) := by decide +kernel
theorem dJ0_init_db425_35 : decode cJ0_init_db425 35 = .ok (.putfield 9, 3) := by decide +kernel
theorem dJ0_init_db425_38 : decode cJ0_init_db425 38 = .ok (.goto 59, 3) := by decide +kernel
theorem dJ0_init_db425_41 : decode cJ0_init_db425 41 = .ok (.getstatic 38, 3) := by decide +kernel
theorem dJ0_init_db425_44 : decode cJ0_init_db425 44 = .ok (.ifCond .eq 35, 3) := by decide +kernel
theorem dJ0_init_db425_47 : decode cJ0_init_db425 47 = .ok (.aload_n 1, 1) := by decide +kernel
theorem dJ0_init_db425_48 : decode cJ0_init_db425 48 = .ok (.getfield 1048, 3) := by decide +kernel
theorem dJ0_init_db425_51 : decode cJ0_init_db425 51 = .ok (.ifCond .eq 28, 3) := by decide +kernel
theorem dJ0_init_db425_54 : decode cJ0_init_db425 54 = .ok (.aload_n 0, 1) := by decide +kernel
theorem dJ0_init_db425_55 : decode cJ0_init_db425 55 = .ok (.aload_n 3, 1) := by decide +kernel
theorem dJ0_init_db425_56 : decode cJ0_init_db425 56 = .ok (.iconst 0, 1) := by decide +kernel
theorem dJ0_init_db425_57 : decode cJ0_init_db425 57 = .ok (.iload 4, 2) := by decide +kernel
theorem dJ0_init_db425_59 : decode cJ0_init_db425 59 = .ok (.invokestatic 1051, 3) := by decide +kernel
theorem dJ0_init_db425_62 : decode cJ0_init_db425 62 = .ok (.putfield 9, 3) := by decide +kernel
theorem dJ0_init_db425_65 : decode cJ0_init_db425 65 = .ok (.aload_n 0, 1) := by decide +kernel
theorem dJ0_init_db425_66 : decode cJ0_init_db425 66 = .ok (.aload_n 0, 1) := by decide +kernel
theorem dJ0_init_db425_67 : decode cJ0_init_db425 67 = .ok (.getfield 9, 3) := by decide +kernel
theorem dJ0_init_db425_70 : decode cJ0_init_db425 70 = .ok (.iload 4, 2) := by decide +kernel
theorem dJ0_init_db425_72 : decode cJ0_init_db425 72 = .ok (.invokestatic 47, 3) := by decide +kernel
theorem dJ0_init_db425_75 : decode cJ0_init_db425 75 = .ok (.putfield 15, 3) := by decide +kernel
theorem dJ0_init_db425_78 : decode cJ0_init_db425 78 = .ok (.return_, 1) := by decide +kernel
theorem dJ0_init_db425_79 : decode cJ0_init_db425 79 = .ok (.aload_n 0, 1) := by decide +kernel
theorem dJ0_init_db425_80 : decode cJ0_init_db425 80 = .ok (.iconst 1, 1) := by decide +kernel
theorem dJ0_init_db425_81 : decode cJ0_init_db425 81 = .ok (.putfield 15, 3) := by decide +kernel
theorem dJ0_init_db425_84 : decode cJ0_init_db425 84 = .ok (.aload_n 0, 1) := by decide +kernel
theorem dJ0_init_db425_85 : decode cJ0_init_db425 85 = .ok (.aload_n 3, 1) := by decide +kernel
theorem dJ0_init_db425_86 : decode cJ0_init_db425 86 = .ok (.iconst 0, 1) := by decide +kernel
theorem dJ0_init_db425_87 : decode cJ0_init_db425 87 = .ok (.iload 4, 2) := by decide +kernel
theorem dJ0_init_db425_89 : decode cJ0_init_db425 89 = .ok (.iconst 1, 1) := by decide +kernel
theorem dJ0_init_db425_90 : decode cJ0_init_db425 90 = .ok (.ishl, 1) := by decide +kernel
theorem dJ0_init_db425_91 : decode cJ0_init_db425 91 = .ok (.invokestatic 54, 3) := by decide +kernel
theorem dJ0_init_db425_94 : decode cJ0_init_db425 94 = .ok (.putfield 9, 3) := by decide +kernel
theorem dJ0_init_db425_97 : decode cJ0_init_db425 97 = .ok (.return_, 1) := by decide +kernel
theorem dJ0_coder_7d493_0 : decode cJ0_coder_7d493 0 = .ok (.getstatic 38, 3) := by decide +kernel
theorem dJ0_coder_7d493_3 : decode cJ0_coder_7d493 3 = .ok (.ifCond .eq 10, 3) := by decide +kernel
theorem dJ0_coder_7d493_6 : decode cJ0_coder_7d493 6 = .ok (.aload_n 0, 1) := by decide +kernel
theorem dJ0_coder_7d493_7 : decode cJ0_coder_7d493 7 = .ok (.getfield 15, 3) := by decide +kernel
theorem dJ0_coder_7d493_10 : decode cJ0_coder_7d493 10 = .ok (.goto 4, 3) := by decide +kernel
theorem dJ0_coder_7d493_13 : decode cJ0_coder_7d493 13 = .ok (.iconst 1, 1) := by decide +kernel
theorem dJ0_coder_7d493_14 : decode cJ0_coder_7d493 14 = .ok (.ireturn, 1) := by decide +kernel
theorem dJ0_isLatin1_aae02_0 : decode cJ0_isLatin1_aae02 0 = .ok (.getstatic 38, 3) := by decide +kernel
theorem dJ0_isLatin1_aae02_3 : decode cJ0_isLatin1_aae02 3 = .ok (.ifCond .eq 14, 3) := by decide +kernel
theorem dJ0_isLatin1_aae02_6 : decode cJ0_isLatin1_aae02 6 = .ok (.aload_n 0, 1) := by decide +kernel
theorem dJ0_isLatin1_aae02_7 : decode cJ0_isLatin1_aae02 7 = .ok (.getfield 15, 3) := by decide +kernel
theorem dJ0_isLatin1_aae02_10 : decode cJ0_isLatin1_aae02 10 = .ok (.ifCond .ne 7, 3) := by decide +kernel
theorem dJ0_isLatin1_aae02_13 : decode cJ0_isLatin1_aae02 13 = .ok (.iconst 1, 1) := by decide +kernel
theorem dJ0_isLatin1_aae02_14 : decode cJ0_isLatin1_aae02 14 = .ok (.goto 4, 3) := by decide +kernel
theorem dJ0_isLatin1_aae02_17 : decode cJ0_isLatin1_aae02 17 = .ok (.iconst 0, 1) := by decide +kernel
theorem dJ0_isLatin1_aae02_18 : decode cJ0_isLatin1_aae02 18 = .ok (.ireturn, 1) := by decide +kernel
theorem dJ0_checkIndex_df160_0 : decode cJ0_checkIndex_df160 0 = .ok (.iload_n 0, 1) := by decide +kernel
theorem dJ0_checkIndex_df160_1 : decode cJ0_checkIndex_df160 1 = .ok (.iload_n 1, 1) := by decide +kernel
theorem dJ0_checkIndex_df160_2 : decode cJ0_checkIndex_df160 2 = .ok (.getstatic 1053, 3) := by decide +kernel
theorem dJ0_checkIndex_df160_5 : decode cJ0_checkIndex_df160 5 = .ok (.invokestatic 1059, 3) := by decide +kernel
theorem dJ0_checkIndex_df160_8 : decode cJ0_checkIndex_df160 8 = .ok (.pop, 1) := by decide +kernel
theorem dJ0_checkIndex_df160_9 : decode cJ0_checkIndex_df160 9 = .ok (.return_, 1) := by decide +kernel
theorem dJ4_init_da8c8_0 : decode cJ4_init_da8c8 0 = .ok (.aload_n 0, 1) := by decide +kernel
theorem dJ4_init_da8c8_1 : decode cJ4_init_da8c8 1 = .ok (.bipush 16, 2) := by decide +kernel
theorem dJ4_init_da8c8_3 : decode cJ4_init_da8c8 3 = .ok (.invokespecial 1, 3) := by decide +kernel
theorem dJ4_init_da8c8_6 : decode cJ4_init_da8c8 6 = .ok (.return_, 1) := by decide +kernel
theorem dJ4_append_15ec4_0 : decode cJ4_append_15ec4 0 = .ok (.aload_n 0, 1) := by decide +kernel
theorem dJ4_append_15ec4_1 : decode cJ4_append_15ec4 1 = .ok (.aload_n 1, 1) := by decide +kernel
theorem dJ4_append_15ec4_2 : decode cJ4_append_15ec4 2 = .ok (.invokespecial 29, 3) := by decide +kernel
theorem dJ4_append_15ec4_5 : decode cJ4_append_15ec4 5 = .ok (.pop, 1) := by decide +kernel
theorem dJ4_append_15ec4_6 : decode cJ4_append_15ec4 6 = .ok (.aload_n 0, 1) := by decide +kernel
theorem dJ4_append_15ec4_7 : decode cJ4_append_15ec4 7 = .ok (.areturn, 1) := by decide +kernel
theorem dJ4_append_bf812_0 : decode cJ4_append_bf812 0 = .ok (.aload_n 0, 1) := by decide +kernel
theorem dJ4_append_bf812_1 : decode cJ4_append_bf812 1 = .ok (.iload_n 1, 1) := by decide +kernel
theorem dJ4_append_bf812_2 : decode cJ4_append_bf812 2 = .ok (.invokespecial 53, 3) := by decide +kernel
theorem dJ4_append_bf812_5 : decode cJ4_append_bf812 5 = .ok (.pop, 1) := by decide +kernel
theorem dJ4_append_bf812_6 : decode cJ4_append_bf812 6 = .ok (.aload_n 0, 1) := by decide +kernel
theorem dJ4_append_bf812_7 : decode cJ4_append_bf812 7 = .ok (.areturn, 1) := by decide +kernel
theorem dJ4_toString_0e30d_0 : decode cJ4_toString_0e30d 0 = .ok (.new 18, 3) := by decide +kernel
theorem dJ4_toString_0e30d_3 : decode cJ4_toString_0e30d 3 = .ok (.dup, 1) := by decide +kernel
theorem dJ4_toString_0e30d_4 : decode cJ4_toString_0e30d 4 = .ok (.aload_n 0, 1) := by decide +kernel
theorem dJ4_toString_0e30d_5 : decode cJ4_toString_0e30d 5 = .ok (.invokespecial 137, 3) := by decide +kernel
theorem dJ4_toString_0e30d_8 : decode cJ4_toString_0e30d 8 = .ok (.areturn, 1) := by decide +kernel
theorem dJ1_charAt_3b067_0 : decode cJ1_charAt_3b067 0 = .ok (.iload_n 1, 1) := by decide +kernel
theorem dJ1_charAt_3b067_1 : decode cJ1_charAt_3b067 1 = .ok (.aload_n 0, 1) := by decide +kernel
theorem dJ1_charAt_3b067_2 : decode cJ1_charAt_3b067 2 = .ok (.arraylength, 1) := by decide +kernel
theorem dJ1_charAt_3b067_3 : decode cJ1_charAt_3b067 3 = .ok (.invokestatic 9, 3) := by decide +kernel
theorem dJ1_charAt_3b067_6 : decode cJ1_charAt_3b067 6 = .ok (.aload_n 0, 1) := by decide +kernel
theorem dJ1_charAt_3b067_7 : decode cJ1_charAt_3b067 7 = .ok (.iload_n 1, 1) := by decide +kernel
theorem dJ1_charAt_3b067_8 : decode cJ1_charAt_3b067 8 = .ok (.baload, 1) := by decide +kernel
theorem dJ1_charAt_3b067_9 : decode cJ1_charAt_3b067 9 = .ok (.sipush 255, 3) := by decide +kernel
theorem dJ1_charAt_3b067_12 : decode cJ1_charAt_3b067 12 = .ok (.iand, 1) := by decide +kernel
theorem dJ1_charAt_3b067_13 : decode cJ1_charAt_3b067 13 = .ok (.i2c, 1) := by decide +kernel
theorem dJ1_charAt_3b067_14 : decode cJ1_charAt_3b067 14 = .ok (.ireturn, 1) := by decide +kernel
theorem dJ7_fill_53178_0 : decode cJ7_fill_53178 0 = .ok (.iconst 0, 1) := by decide +kernel
theorem dJ7_fill_53178_1 : decode cJ7_fill_53178 1 = .ok (.istore_n 2, 1) := by decide +kernel
theorem dJ7_fill_53178_2 : decode cJ7_fill_53178 2 = .ok (.aload_n 0, 1) := by decide +kernel
theorem dJ7_fill_53178_3 : decode cJ7_fill_53178 3 = .ok (.arraylength, 1) := by decide +kernel
theorem dJ7_fill_53178_4 : decode cJ7_fill_53178 4 = .ok (.istore_n 3, 1) := by decide +kernel
theorem dJ7_fill_53178_5 : decode cJ7_fill_53178 5 = .ok (.iload_n 2, 1) := by decide +kernel
theorem dJ7_fill_53178_6 : decode cJ7_fill_53178 6 = .ok (.iload_n 3, 1) := by decide +kernel
theorem dJ7_fill_53178_7 : decode cJ7_fill_53178 7 = .ok (.if_icmp .ge 13, 3) := by decide +kernel
theorem dJ7_fill_53178_10 : decode cJ7_fill_53178 10 = .ok (.aload_n 0, 1) := by decide +kernel
theorem dJ7_fill_53178_11 : decode cJ7_fill_53178 11 = .ok (.iload_n 2, 1) := by decide +kernel
theorem dJ7_fill_53178_12 : decode cJ7_fill_53178 12 = .ok (.iload_n 1, 1) := by decide +kernel
theorem dJ7_fill_53178_13 : decode cJ7_fill_53178 13 = .ok (.iastore, 1) := by decide +kernel
theorem dJ7_fill_53178_14 : decode cJ7_fill_53178 14 = .ok (.iinc 2 1, 3) := by decide +kernel
theorem dJ7_fill_53178_17 : decode cJ7_fill_53178 17 = .ok (.goto (-12), 3) := by decide +kernel
theorem dJ7_fill_53178_20 : decode cJ7_fill_53178 20 = .ok (.return_, 1) := by decide +kernel
theorem dJ7_copyOf_9075b_0 : decode cJ7_copyOf_9075b 0 = .ok (.iload_n 1, 1) := by decide +kernel
theorem dJ7_copyOf_9075b_1 : decode cJ7_copyOf_9075b 1 = .ok (.aload_n 0, 1) := by decide +kernel
theorem dJ7_copyOf_9075b_2 : decode cJ7_copyOf_9075b 2 = .ok (.arraylength, 1) := by decide +kernel
theorem dJ7_copyOf_9075b_3 : decode cJ7_copyOf_9075b 3 = .ok (.if_icmp .ne 11, 3) := by decide +kernel
theorem dJ7_copyOf_9075b_6 : decode cJ7_copyOf_9075b 6 = .ok (.aload_n 0, 1) := by decide +kernel
theorem dJ7_copyOf_9075b_7 : decode cJ7_copyOf_9075b 7 = .ok (.invokevirtual 310, 3) := by decide +kernel
theorem dJ7_copyOf_9075b_10 : decode cJ7_copyOf_9075b 10 = .ok (.checkcast 311, 3) := by decide +kernel
theorem dJ7_copyOf_9075b_13 : decode cJ7_copyOf_9075b 13 = .ok (.areturn, 1) := by decide +kernel
theorem dJ7_copyOf_9075b_14 : decode cJ7_copyOf_9075b 14 = .ok (.iload_n 1, 1) := by decide +kernel
theorem dJ7_copyOf_9075b_15 : decode cJ7_copyOf_9075b 15 = .ok (.newarray .byte, 2) := by decide +kernel
theorem dJ7_copyOf_9075b_17 : decode cJ7_copyOf_9075b 17 = .ok (.astore_n 2, 1) := by decide +kernel
theorem dJ7_copyOf_9075b_18 : decode cJ7_copyOf_9075b 18 = .ok (.aload_n 0, 1) := by decide +kernel
theorem dJ7_copyOf_9075b_19 : decode cJ7_copyOf_9075b 19 = .ok (.iconst 0, 1) := by decide +kernel
theorem dJ7_copyOf_9075b_20 : decode cJ7_copyOf_9075b 20 = .ok (.aload_n 2, 1) := by decide +kernel
theorem dJ7_copyOf_9075b_21 : decode cJ7_copyOf_9075b 21 = .ok (.iconst 0, 1) := by decide +kernel
theorem dJ7_copyOf_9075b_22 : decode cJ7_copyOf_9075b 22 = .ok (.aload_n 0, 1) := by decide +kernel
theorem dJ7_copyOf_9075b_23 : decode cJ7_copyOf_9075b 23 = .ok (.arraylength, 1) := by decide +kernel
theorem dJ7_copyOf_9075b_24 : decode cJ7_copyOf_9075b 24 = .ok (.iload_n 1, 1) := by decide +kernel
theorem dJ7_copyOf_9075b_25 : decode cJ7_copyOf_9075b 25 = .ok (.invokestatic 304, 3) := by decide +kernel
theorem dJ7_copyOf_9075b_28 : decode cJ7_copyOf_9075b 28 = .ok (.invokestatic 150, 3) := by decide +kernel
theorem dJ7_copyOf_9075b_31 : decode cJ7_copyOf_9075b 31 = .ok (.aload_n 2, 1) := by decide +kernel
theorem dJ7_copyOf_9075b_32 : decode cJ7_copyOf_9075b 32 = .ok (.areturn, 1) := by decide +kernel
theorem dJ7_copyOf_59c91_0 : decode cJ7_copyOf_59c91 0 = .ok (.iload_n 1, 1) := by decide +kernel
theorem dJ7_copyOf_59c91_1 : decode cJ7_copyOf_59c91 1 = .ok (.aload_n 0, 1) := by decide +kernel
theorem dJ7_copyOf_59c91_2 : decode cJ7_copyOf_59c91 2 = .ok (.arraylength, 1) := by decide +kernel
theorem dJ7_copyOf_59c91_3 : decode cJ7_copyOf_59c91 3 = .ok (.if_icmp .ne 11, 3) := by decide +kernel
theorem dJ7_copyOf_59c91_6 : decode cJ7_copyOf_59c91 6 = .ok (.aload_n 0, 1) := by decide +kernel
theorem dJ7_copyOf_59c91_7 : decode cJ7_copyOf_59c91 7 = .ok (.invokevirtual 316, 3) := by decide +kernel
theorem dJ7_copyOf_59c91_10 : decode cJ7_copyOf_59c91 10 = .ok (.checkcast 317, 3) := by decide +kernel
theorem dJ7_copyOf_59c91_13 : decode cJ7_copyOf_59c91 13 = .ok (.areturn, 1) := by decide +kernel
theorem dJ7_copyOf_59c91_14 : decode cJ7_copyOf_59c91 14 = .ok (.iload_n 1, 1) := by decide +kernel
theorem dJ7_copyOf_59c91_15 : decode cJ7_copyOf_59c91 15 = .ok (.newarray .int, 2) := by decide +kernel
theorem dJ7_copyOf_59c91_17 : decode cJ7_copyOf_59c91 17 = .ok (.astore_n 2, 1) := by decide +kernel
theorem dJ7_copyOf_59c91_18 : decode cJ7_copyOf_59c91 18 = .ok (.aload_n 0, 1) := by decide +kernel
theorem dJ7_copyOf_59c91_19 : decode cJ7_copyOf_59c91 19 = .ok (.iconst 0, 1) := by decide +kernel
theorem dJ7_copyOf_59c91_20 : decode cJ7_copyOf_59c91 20 = .ok (.aload_n 2, 1) := by decide +kernel
theorem dJ7_copyOf_59c91_21 : decode cJ7_copyOf_59c91 21 = .ok (.iconst 0, 1) := by decide +kernel
theorem dJ7_copyOf_59c91_22 : decode cJ7_copyOf_59c91 22 = .ok (.aload_n 0, 1) := by decide +kernel
theorem dJ7_copyOf_59c91_23 : decode cJ7_copyOf_59c91 23 = .ok (.arraylength, 1) := by decide +kernel
theorem dJ7_copyOf_59c91_24 : decode cJ7_copyOf_59c91 24 = .ok (.iload_n 1, 1) := by decide +kernel
theorem dJ7_copyOf_59c91_25 : decode cJ7_copyOf_59c91 25 = .ok (.invokestatic 304, 3) := by decide +kernel
theorem dJ7_copyOf_59c91_28 : decode cJ7_copyOf_59c91 28 = .ok (.invokestatic 150, 3) := by decide +kernel
theorem dJ7_copyOf_59c91_31 : decode cJ7_copyOf_59c91 31 = .ok (.aload_n 2, 1) := by decide +kernel
theorem dJ7_copyOf_59c91_32 : decode cJ7_copyOf_59c91 32 = .ok (.areturn, 1) := by decide +kernel
theorem dJ7_checkLength_df160_0 : decode cJ7_checkLength_df160 0 = .ok (.iload_n 1, 1) := by decide +kernel
theorem dJ7_checkLength_df160_1 : decode cJ7_checkLength_df160 1 = .ok (.iload_n 0, 1) := by decide +kernel
theorem dJ7_checkLength_df160_2 : decode cJ7_checkLength_df160 2 = .ok (.if_icmp .ge 35, 3) := by decide +kernel
theorem dJ7_checkLength_df160_5 : decode cJ7_checkLength_df160 5 = .ok (.new 43, 3) := by decide +kernel
theorem dJ7_checkLength_df160_8 : decode cJ7_checkLength_df160 8 = .ok (.dup, 1) := by decide +kernel
theorem dJ7_checkLength_df160_9 : decode cJ7_checkLength_df160 9 = .ok (.new 45, 3) := by decide +kernel
theorem dJ7_checkLength_df160_12 : decode cJ7_checkLength_df160 12 = .ok (.dup, 1) := by decide +kernel
theorem dJ7_checkLength_df160_13 : decode cJ7_checkLength_df160 13 = .ok (.invokespecial 47, 3) := by decide +kernel
theorem dJ7_checkLength_df160_16 : decode cJ7_checkLength_df160 16 = .ok (.iload_n 0, 1) := by decide +kernel
theorem dJ7_checkLength_df160_17 : decode cJ7_checkLength_df160 17 = .ok (.invokevirtual 54, 3) := by decide +kernel
theorem dJ7_checkLength_df160_20 : decode cJ7_checkLength_df160 20 = .ok (.ldc_w 337, 3) := by decide +kernel
theorem dJ7_checkLength_df160_23 : decode cJ7_checkLength_df160 23 = .ok (.invokevirtual 50, 3) := by decide +kernel
theorem dJ7_checkLength_df160_26 : decode cJ7_checkLength_df160 26 = .ok (.iload_n 1, 1) := by decide +kernel
theorem dJ7_checkLength_df160_27 : decode cJ7_checkLength_df160 27 = .ok (.invokevirtual 54, 3) := by decide +kernel
theorem dJ7_checkLength_df160_30 : decode cJ7_checkLength_df160 30 = .ok (.invokevirtual 61, 3) := by decide +kernel
theorem dJ7_checkLength_df160_33 : decode cJ7_checkLength_df160 33 = .ok (.invokespecial 65, 3) := by decide +kernel
theorem dJ7_checkLength_df160_36 : decode cJ7_checkLength_df160 36 = .ok (.athrow, 1) := by decide +kernel
theorem dJ7_checkLength_df160_37 : decode cJ7_checkLength_df160 37 = .ok (.return_, 1) := by decide +kernel
theorem dJ7_copyOfRange_39247_0 : decode cJ7_copyOfRange_39247 0 = .ok (.iload_n 1, 1) := by decide +kernel
theorem dJ7_copyOfRange_39247_1 : decode cJ7_copyOfRange_39247 1 = .ok (.ifCond .ne 9, 3) := by decide +kernel
theorem dJ7_copyOfRange_39247_4 : decode cJ7_copyOfRange_39247 4 = .ok (.iload_n 2, 1) := by decide +kernel
theorem dJ7_copyOfRange_39247_5 : decode cJ7_copyOfRange_39247 5 = .ok (.aload_n 0, 1) := by decide +kernel
theorem dJ7_copyOfRange_39247_6 : decode cJ7_copyOfRange_39247 6 = .ok (.arraylength, 1) := by decide +kernel
theorem dJ7_copyOfRange_39247_7 : decode cJ7_copyOfRange_39247 7 = .ok (.if_icmp .eq 10, 3) := by decide +kernel
theorem dJ7_copyOfRange_39247_10 : decode cJ7_copyOfRange_39247 10 = .ok (.aload_n 0, 1) := by decide +kernel
theorem dJ7_copyOfRange_39247_11 : decode cJ7_copyOfRange_39247 11 = .ok (.iload_n 1, 1) := by decide +kernel
theorem dJ7_copyOfRange_39247_12 : decode cJ7_copyOfRange_39247 12 = .ok (.iload_n 2, 1) := by decide +kernel
theorem dJ7_copyOfRange_39247_13 : decode cJ7_copyOfRange_39247 13 = .ok (.invokestatic 339, 3) := by decide +kernel
theorem dJ7_copyOfRange_39247_16 : decode cJ7_copyOfRange_39247 16 = .ok (.areturn, 1) := by decide +kernel
theorem dJ7_copyOfRange_39247_17 : decode cJ7_copyOfRange_39247 17 = .ok (.aload_n 0, 1) := by decide +kernel
theorem dJ7_copyOfRange_39247_18 : decode cJ7_copyOfRange_39247 18 = .ok (.invokevirtual 310, 3) := by decide +kernel
theorem dJ7_copyOfRange_39247_21 : decode cJ7_copyOfRange_39247 21 = .ok (.checkcast 311, 3) := by decide +kernel
theorem dJ7_copyOfRange_39247_24 : decode cJ7_copyOfRange_39247 24 = .ok (.areturn, 1) := by decide +kernel
theorem dJ7_copyOfRangeByte_39247_0 : decode cJ7_copyOfRangeByte_39247 0 = .ok (.iload_n 1, 1) := by decide +kernel
theorem dJ7_copyOfRangeByte_39247_1 : decode cJ7_copyOfRangeByte_39247 1 = .ok (.iload_n 2, 1) := by decide +kernel
theorem dJ7_copyOfRangeByte_39247_2 : decode cJ7_copyOfRangeByte_39247 2 = .ok (.invokestatic 343, 3) := by decide +kernel
theorem dJ7_copyOfRangeByte_39247_5 : decode cJ7_copyOfRangeByte_39247 5 = .ok (.iload_n 2, 1) := by decide +kernel
theorem dJ7_copyOfRangeByte_39247_6 : decode cJ7_copyOfRangeByte_39247 6 = .ok (.iload_n 1, 1) := by decide +kernel
theorem dJ7_copyOfRangeByte_39247_7 : decode cJ7_copyOfRangeByte_39247 7 = .ok (.isub, 1) := by decide +kernel
theorem dJ7_copyOfRangeByte_39247_8 : decode cJ7_copyOfRangeByte_39247 8 = .ok (.istore_n 3, 1) := by decide +kernel
theorem dJ7_copyOfRangeByte_39247_9 : decode cJ7_copyOfRangeByte_39247 9 = .ok (.iload_n 3, 1) := by decide +kernel
theorem dJ7_copyOfRangeByte_39247_10 : decode cJ7_copyOfRangeByte_39247 10 = .ok (.newarray .byte, 2) := by decide +kernel
theorem dJ7_copyOfRangeByte_39247_12 : decode cJ7_copyOfRangeByte_39247 12 = .ok (.astore 4, 2) := by decide +kernel
theorem dJ7_copyOfRangeByte_39247_14 : decode cJ7_copyOfRangeByte_39247 14 = .ok (.aload_n 0, 1) := by decide +kernel
theorem dJ7_copyOfRangeByte_39247_15 : decode cJ7_copyOfRangeByte_39247 15 = .ok (.iload_n 1, 1) := by decide +kernel
theorem dJ7_copyOfRangeByte_39247_16 : decode cJ7_copyOfRangeByte_39247 16 = .ok (.aload 4, 2) := by decide +kernel
theorem dJ7_copyOfRangeByte_39247_18 : decode cJ7_copyOfRangeByte_39247 18 = .ok (.iconst 0, 1) := by decide +kernel
theorem dJ7_copyOfRangeByte_39247_19 : decode cJ7_copyOfRangeByte_39247 19 = .ok (.aload_n 0, 1) := by decide +kernel
theorem dJ7_copyOfRangeByte_39247_20 : decode cJ7_copyOfRangeByte_39247 20 = .ok (.arraylength, 1) := by decide +kernel
theorem dJ7_copyOfRangeByte_39247_21 : decode cJ7_copyOfRangeByte_39247 21 = .ok (.iload_n 1, 1) := by decide +kernel
theorem dJ7_copyOfRangeByte_39247_22 : decode cJ7_copyOfRangeByte_39247 22 = .ok (.isub, 1) := by decide +kernel
theorem dJ7_copyOfRangeByte_39247_23 : decode cJ7_copyOfRangeByte_39247 23 = .ok (.iload_n 3, 1) := by decide +kernel
theorem dJ7_copyOfRangeByte_39247_24 : decode cJ7_copyOfRangeByte_39247 24 = .ok (.invokestatic 304, 3) := by decide +kernel
theorem dJ7_copyOfRangeByte_39247_27 : decode cJ7_copyOfRangeByte_39247 27 = .ok (.invokestatic 150, 3) := by decide +kernel
theorem dJ7_copyOfRangeByte_39247_30 : decode cJ7_copyOfRangeByte_39247 30 = .ok (.aload 4, 2) := by decide +kernel
theorem dJ7_copyOfRangeByte_39247_32 : decode cJ7_copyOfRangeByte_39247 32 = .ok (.areturn, 1) := by decide +kernel
theorem dJ8_newLength_cabcc_0 : decode cJ8_newLength_cabcc 0 = .ok (.iload_n 0, 1) := by decide +kernel
theorem dJ8_newLength_cabcc_1 : decode cJ8_newLength_cabcc 1 = .ok (.iload_n 1, 1) := by decide +kernel
theorem dJ8_newLength_cabcc_2 : decode cJ8_newLength_cabcc 2 = .ok (.iload_n 2, 1) := by decide +kernel
theorem dJ8_newLength_cabcc_3 : decode cJ8_newLength_cabcc 3 = .ok (.invokestatic 194, 3) := by decide +kernel
theorem dJ8_newLength_cabcc_6 : decode cJ8_newLength_cabcc 6 = .ok (.iadd, 1) := by decide +kernel
theorem dJ8_newLength_cabcc_7 : decode cJ8_newLength_cabcc 7 = .ok (.istore_n 3, 1) := by decide +kernel
theorem dJ8_newLength_cabcc_8 : decode cJ8_newLength_cabcc 8 = .ok (.iconst 0, 1) := by decide +kernel
theorem dJ8_newLength_cabcc_9 : decode cJ8_newLength_cabcc 9 = .ok (.iload_n 3, 1) := by decide +kernel
theorem dJ8_newLength_cabcc_10 : decode cJ8_newLength_cabcc 10 = .ok (.if_icmp .ge 11, 3) := by decide +kernel
theorem dJ8_newLength_cabcc_13 : decode cJ8_newLength_cabcc 13 = .ok (.iload_n 3, 1) := by decide +kernel
theorem dJ8_newLength_cabcc_14 : decode cJ8_newLength_cabcc 14 = .ok (.ldc 200, 2) := by decide +kernel
theorem dJ8_newLength_cabcc_16 : decode cJ8_newLength_cabcc 16 = .ok (.if_icmp .gt 5, 3) := by decide +kernel
theorem dJ8_newLength_cabcc_19 : decode cJ8_newLength_cabcc 19 = .ok (.iload_n 3, 1) := by decide +kernel
theorem dJ8_newLength_cabcc_20 : decode cJ8_newLength_cabcc 20 = .ok (.ireturn, 1) := by decide +kernel
theorem dJ8_newLength_cabcc_21 : decode cJ8_newLength_cabcc 21 = .ok (.iload_n 0, 1) := by decide +kernel
theorem dJ8_newLength_cabcc_22 : decode cJ8_newLength_cabcc 22 = .ok (.iload_n 1, 1) := by decide +kernel
theorem dJ8_newLength_cabcc_23 : decode cJ8_newLength_cabcc 23 = .ok (.invokestatic 201, 3) := by decide +kernel
theorem dJ8_newLength_cabcc_26 : decode cJ8_newLength_cabcc 26 = .ok (.ireturn, 1) := by decide +kernel
theorem dJ3_checkIndex_8e157_0 : decode cJ3_checkIndex_8e157 0 = .ok (.iload_n 0, 1) := by decide +kernel
theorem dJ3_checkIndex_8e157_1 : decode cJ3_checkIndex_8e157 1 = .ok (.ifCond .lt 8, 3) := by decide +kernel
theorem dJ3_checkIndex_8e157_4 : decode cJ3_checkIndex_8e157 4 = .ok (.iload_n 0, 1) := by decide +kernel
theorem dJ3_checkIndex_8e157_5 : decode cJ3_checkIndex_8e157 5 = .ok (.iload_n 1, 1) := by decide +kernel
theorem dJ3_checkIndex_8e157_6 : decode cJ3_checkIndex_8e157 6 = .ok (.if_icmp .lt 10, 3) := by decide +kernel
theorem dJ3_checkIndex_8e157_9 : decode cJ3_checkIndex_8e157 9 = .ok (.aload_n 2, 1) := by decide +kernel
theorem dJ3_checkIndex_8e157_10 : decode cJ3_checkIndex_8e157 10 = .ok (.iload_n 0, 1) := by decide +kernel
theorem dJ3_checkIndex_8e157_11 : decode cJ3_checkIndex_8e157 11 = .ok (.iload_n 1, 1) := by decide +kernel
theorem dJ3_checkIndex_8e157_12 : decode cJ3_checkIndex_8e157 12 = .ok (.invokestatic 95, 3) := by decide +kernel
theorem dJ3_checkIndex_8e157_15 : decode cJ3_checkIndex_8e157 15 = .ok (.athrow, 1) := by decide +kernel
theorem dJ3_checkIndex_8e157_16 : decode cJ3_checkIndex_8e157 16 = .ok (.iload_n 0, 1) := by decide +kernel
theorem dJ3_checkIndex_8e157_17 : decode cJ3_checkIndex_8e157 17 = .ok (.ireturn, 1) := by decide +kernel
theorem dL_at_0 : decode cL_at 0 = .ok (.iload_n 1, 1) := by decide +kernel
theorem dL_at_1 : decode cL_at 1 = .ok (.aload_n 0, 1) := by decide +kernel
theorem dL_at_2 : decode cL_at 2 = .ok (.arraylength, 1) := by decide +kernel
theorem dL_at_3 : decode cL_at 3 = .ok (.if_icmp .ge 9, 3) := by decide +kernel
theorem dL_at_6 : decode cL_at 6 = .ok (.aload_n 0, 1) := by decide +kernel
theorem dL_at_7 : decode cL_at 7 = .ok (.iload_n 1, 1) := by decide +kernel
theorem dL_at_8 : decode cL_at 8 = .ok (.iaload, 1) := by decide +kernel
theorem dL_at_9 : decode cL_at 9 = .ok (.goto 4, 3) := by decide +kernel
theorem dL_at_12 : decode cL_at 12 = .ok (.iconst 0, 1) := by decide +kernel
theorem dL_at_13 : decode cL_at 13 = .ok (.ireturn, 1) := by decide +kernel
theorem dL_text_0 : decode cL_text 0 = .ok (.iconst 0, 1) := by decide +kernel
theorem dL_text_1 : decode cL_text 1 = .ok (.istore_n 2, 1) := by decide +kernel
theorem dL_text_2 : decode cL_text 2 = .ok (.iload_n 2, 1) := by decide +kernel
theorem dL_text_3 : decode cL_text 3 = .ok (.aload_n 1, 1) := by decide +kernel
theorem dL_text_4 : decode cL_text 4 = .ok (.invokevirtual 7, 3) := by decide +kernel
theorem dL_text_7 : decode cL_text 7 = .ok (.if_icmp .ge 24, 3) := by decide +kernel
theorem dL_text_10 : decode cL_text 10 = .ok (.aload_n 0, 1) := by decide +kernel
theorem dL_text_11 : decode cL_text 11 = .ok (.iconst 1, 1) := by decide +kernel
theorem dL_text_12 : decode cL_text 12 = .ok (.aload_n 1, 1) := by decide +kernel
theorem dL_text_13 : decode cL_text 13 = .ok (.iload_n 2, 1) := by decide +kernel
theorem dL_text_14 : decode cL_text 14 = .ok (.invokevirtual 13, 3) := by decide +kernel
theorem dL_text_17 : decode cL_text 17 = .ok (.iconst 0, 1) := by decide +kernel
theorem dL_text_18 : decode cL_text 18 = .ok (.iconst 0, 1) := by decide +kernel
theorem dL_text_19 : decode cL_text 19 = .ok (.iconst 0, 1) := by decide +kernel
theorem dL_text_20 : decode cL_text 20 = .ok (.iconst 0, 1) := by decide +kernel
theorem dL_text_21 : decode cL_text 21 = .ok (.invokevirtual 17, 3) := by decide +kernel
theorem dL_text_24 : decode cL_text 24 = .ok (.pop, 1) := by decide +kernel
theorem dL_text_25 : decode cL_text 25 = .ok (.iinc 2 1, 3) := by decide +kernel
theorem dL_text_28 : decode cL_text 28 = .ok (.goto (-26), 3) := by decide +kernel
theorem dL_text_31 : decode cL_text 31 = .ok (.return_, 1) := by decide +kernel
theorem dL_build_0 : decode cL_build 0 = .ok (.new 18, 3) := by decide +kernel
theorem dL_build_3 : decode cL_build 3 = .ok (.dup, 1) := by decide +kernel
theorem dL_build_4 : decode cL_build 4 = .ok (.invokespecial 23, 3) := by decide +kernel
theorem dL_build_7 : decode cL_build 7 = .ok (.astore_n 1, 1) := by decide +kernel
theorem dL_build_8 : decode cL_build 8 = .ok (.iconst 0, 1) := by decide +kernel
theorem dL_build_9 : decode cL_build 9 = .ok (.istore_n 2, 1) := by decide +kernel
theorem dL_build_10 : decode cL_build 10 = .ok (.iload_n 2, 1) := by decide +kernel
theorem dL_build_11 : decode cL_build 11 = .ok (.bipush 9, 2) := by decide +kernel
theorem dL_build_13 : decode cL_build 13 = .ok (.if_icmp .ge 33, 3) := by decide +kernel
theorem dL_build_16 : decode cL_build 16 = .ok (.aload_n 1, 1) := by decide +kernel
theorem dL_build_17 : decode cL_build 17 = .ok (.iconst 0, 1) := by decide +kernel
theorem dL_build_18 : decode cL_build 18 = .ok (.iload_n 2, 1) := by decide +kernel
theorem dL_build_19 : decode cL_build 19 = .ok (.aload_n 0, 1) := by decide +kernel
theorem dL_build_20 : decode cL_build 20 = .ok (.iload_n 2, 1) := by decide +kernel
theorem dL_build_21 : decode cL_build 21 = .ok (.invokestatic 24, 3) := by decide +kernel
theorem dL_build_24 : decode cL_build 24 = .ok (.invokevirtual 30, 3) := by decide +kernel
theorem dL_build_27 : decode cL_build 27 = .ok (.pop, 1) := by decide +kernel
theorem dL_build_28 : decode cL_build 28 = .ok (.aload_n 1, 1) := by decide +kernel
theorem dL_build_29 : decode cL_build 29 = .ok (.iconst 1, 1) := by decide +kernel
theorem dL_build_30 : decode cL_build 30 = .ok (.iload_n 2, 1) := by decide +kernel
theorem dL_build_31 : decode cL_build 31 = .ok (.aload_n 0, 1) := by decide +kernel
theorem dL_build_32 : decode cL_build 32 = .ok (.iload_n 2, 1) := by decide +kernel
theorem dL_build_33 : decode cL_build 33 = .ok (.invokestatic 34, 3) := by decide +kernel
theorem dL_build_36 : decode cL_build 36 = .ok (.invokevirtual 30, 3) := by decide +kernel
theorem dL_build_39 : decode cL_build 39 = .ok (.pop, 1) := by decide +kernel
theorem dL_build_40 : decode cL_build 40 = .ok (.iinc 2 1, 3) := by decide +kernel
theorem dL_build_43 : decode cL_build 43 = .ok (.goto (-33), 3) := by decide +kernel
theorem dL_build_46 : decode cL_build 46 = .ok (.aload_n 1, 1) := by decide +kernel
theorem dL_build_47 : decode cL_build 47 = .ok (.iconst 2, 1) := by decide +kernel
theorem dL_build_48 : decode cL_build 48 = .ok (.iconst 0, 1) := by decide +kernel
theorem dL_build_49 : decode cL_build 49 = .ok (.aload_n 0, 1) := by decide +kernel
theorem dL_build_50 : decode cL_build 50 = .ok (.invokestatic 37, 3) := by decide +kernel
theorem dL_build_53 : decode cL_build 53 = .ok (.invokevirtual 30, 3) := by decide +kernel
theorem dL_build_56 : decode cL_build 56 = .ok (.pop, 1) := by decide +kernel
theorem dL_build_57 : decode cL_build 57 = .ok (.iconst 0, 1) := by decide +kernel
theorem dL_build_58 : decode cL_build 58 = .ok (.istore_n 2, 1) := by decide +kernel
theorem dL_build_59 : decode cL_build 59 = .ok (.iload_n 2, 1) := by decide +kernel
theorem dL_build_60 : decode cL_build 60 = .ok (.aload_n 0, 1) := by decide +kernel
theorem dL_build_61 : decode cL_build 61 = .ok (.invokestatic 41, 3) := by decide +kernel
theorem dL_build_64 : decode cL_build 64 = .ok (.if_icmp .ge 29, 3) := by decide +kernel
theorem dL_build_67 : decode cL_build 67 = .ok (.aload_n 1, 1) := by decide +kernel
theorem dL_build_68 : decode cL_build 68 = .ok (.aload_n 0, 1) := by decide +kernel
theorem dL_build_69 : decode cL_build 69 = .ok (.iload_n 2, 1) := by decide +kernel
theorem dL_build_70 : decode cL_build 70 = .ok (.invokestatic 44, 3) := by decide +kernel
theorem dL_build_73 : decode cL_build 73 = .ok (.aload_n 0, 1) := by decide +kernel
theorem dL_build_74 : decode cL_build 74 = .ok (.iload_n 2, 1) := by decide +kernel
theorem dL_build_75 : decode cL_build 75 = .ok (.invokestatic 47, 3) := by decide +kernel
theorem dL_build_78 : decode cL_build 78 = .ok (.aload_n 0, 1) := by decide +kernel
theorem dL_build_79 : decode cL_build 79 = .ok (.iload_n 2, 1) := by decide +kernel
theorem dL_build_80 : decode cL_build 80 = .ok (.invokestatic 50, 3) := by decide +kernel
theorem dL_build_83 : decode cL_build 83 = .ok (.invokevirtual 53, 3) := by decide +kernel
theorem dL_build_86 : decode cL_build 86 = .ok (.pop, 1) := by decide +kernel
theorem dL_build_87 : decode cL_build 87 = .ok (.iinc 2 1, 3) := by decide +kernel
theorem dL_build_90 : decode cL_build 90 = .ok (.goto (-31), 3) := by decide +kernel
theorem dL_build_93 : decode cL_build 93 = .ok (.aload_n 0, 1) := by decide +kernel
theorem dL_build_94 : decode cL_build 94 = .ok (.invokestatic 56, 3) := by decide +kernel
theorem dL_build_97 : decode cL_build 97 = .ok (.ifCond .ne 85, 3) := by decide +kernel
theorem dL_build_100 : decode cL_build 100 = .ok (.aload_n 1, 1) := by decide +kernel
theorem dL_build_101 : decode cL_build 101 = .ok (.new 60, 3) := by decide +kernel
theorem dL_build_104 : decode cL_build 104 = .ok (.dup, 1) := by decide +kernel
theorem dL_build_105 : decode cL_build 105 = .ok (.invokespecial 62, 3) := by decide +kernel
theorem dL_build_108 : decode cL_build 108 = .ok (.ldc 63, 2) := by decide +kernel
theorem dL_build_110 : decode cL_build 110 = .ok (.invokevirtual 65, 3) := by decide +kernel
theorem dL_build_113 : decode cL_build 113 = .ok (.aload_n 0, 1) := by decide +kernel
theorem dL_build_114 : decode cL_build 114 = .ok (.iconst 0, 1) := by decide +kernel
theorem dL_build_115 : decode cL_build 115 = .ok (.invokestatic 69, 3) := by decide +kernel
theorem dL_build_118 : decode cL_build 118 = .ok (.bipush 6, 2) := by decide +kernel
theorem dL_build_120 : decode cL_build 120 = .ok (.ishr, 1) := by decide +kernel
theorem dL_build_121 : decode cL_build 121 = .ok (.iconst 1, 1) := by decide +kernel
theorem dL_build_122 : decode cL_build 122 = .ok (.iand, 1) := by decide +kernel
theorem dL_build_123 : decode cL_build 123 = .ok (.invokevirtual 72, 3) := by decide +kernel
theorem dL_build_126 : decode cL_build 126 = .ok (.ldc 75, 2) := by decide +kernel
theorem dL_build_128 : decode cL_build 128 = .ok (.invokevirtual 65, 3) := by decide +kernel
theorem dL_build_131 : decode cL_build 131 = .ok (.aload_n 0, 1) := by decide +kernel
theorem dL_build_132 : decode cL_build 132 = .ok (.iconst 0, 1) := by decide +kernel
theorem dL_build_133 : decode cL_build 133 = .ok (.invokestatic 69, 3) := by decide +kernel
theorem dL_build_136 : decode cL_build 136 = .ok (.bipush 7, 2) := by decide +kernel
theorem dL_build_138 : decode cL_build 138 = .ok (.ishr, 1) := by decide +kernel
theorem dL_build_139 : decode cL_build 139 = .ok (.iconst 3, 1) := by decide +kernel
theorem dL_build_140 : decode cL_build 140 = .ok (.iand, 1) := by decide +kernel
theorem dL_build_141 : decode cL_build 141 = .ok (.invokevirtual 72, 3) := by decide +kernel
theorem dL_build_144 : decode cL_build 144 = .ok (.ldc 77, 2) := by decide +kernel
theorem dL_build_146 : decode cL_build 146 = .ok (.invokevirtual 65, 3) := by decide +kernel
theorem dL_build_149 : decode cL_build 149 = .ok (.aload_n 0, 1) := by decide +kernel
theorem dL_build_150 : decode cL_build 150 = .ok (.iconst 0, 1) := by decide +kernel
theorem dL_build_151 : decode cL_build 151 = .ok (.invokestatic 69, 3) := by decide +kernel
theorem dL_build_154 : decode cL_build 154 = .ok (.bipush 9, 2) := by decide +kernel
theorem dL_build_156 : decode cL_build 156 = .ok (.ishr, 1) := by decide +kernel
theorem dL_build_157 : decode cL_build 157 = .ok (.iconst 3, 1) := by decide +kernel
theorem dL_build_158 : decode cL_build 158 = .ok (.iand, 1) := by decide +kernel
theorem dL_build_159 : decode cL_build 159 = .ok (.invokevirtual 72, 3) := by decide +kernel
theorem dL_build_162 : decode cL_build 162 = .ok (.ldc 79, 2) := by decide +kernel
theorem dL_build_164 : decode cL_build 164 = .ok (.invokevirtual 65, 3) := by decide +kernel
theorem dL_build_167 : decode cL_build 167 = .ok (.invokevirtual 81, 3) := by decide +kernel
theorem dL_build_170 : decode cL_build 170 = .ok (.invokestatic 85, 3) := by decide +kernel
theorem dL_build_173 : decode cL_build 173 = .ok (.aload_n 1, 1) := by decide +kernel
theorem dL_build_174 : decode cL_build 174 = .ok (.aload_n 1, 1) := by decide +kernel
theorem dL_build_175 : decode cL_build 175 = .ok (.invokevirtual 89, 3) := by decide +kernel
theorem dL_build_178 : decode cL_build 178 = .ok (.invokevirtual 91, 3) := by decide +kernel
theorem dL_build_181 : decode cL_build 181 = .ok (.pop, 1) := by decide +kernel
theorem dL_build_182 : decode cL_build 182 = .ok (.aload_n 1, 1) := by decide +kernel
theorem dL_build_183 : decode cL_build 183 = .ok (.areturn, 1) := by decide +kernel
theorem dL_plain_0 : decode cL_plain 0 = .ok (.aload_n 0, 1) := by decide +kernel
theorem dL_plain_1 : decode cL_plain 1 = .ok (.iconst 0, 1) := by decide +kernel
theorem dL_plain_2 : decode cL_plain 2 = .ok (.invokestatic 69, 3) := by decide +kernel
theorem dL_plain_5 : decode cL_plain 5 = .ok (.bipush 11, 2) := by decide +kernel
theorem dL_plain_7 : decode cL_plain 7 = .ok (.ishr, 1) := by decide +kernel
theorem dL_plain_8 : decode cL_plain 8 = .ok (.iconst 1, 1) := by decide +kernel
theorem dL_plain_9 : decode cL_plain 9 = .ok (.iand, 1) := by decide +kernel
theorem dL_plain_10 : decode cL_plain 10 = .ok (.ifCond .ne 7, 3) := by decide +kernel
theorem dL_plain_13 : decode cL_plain 13 = .ok (.iconst 1, 1) := by decide +kernel
theorem dL_plain_14 : decode cL_plain 14 = .ok (.goto 4, 3) := by decide +kernel
theorem dL_plain_17 : decode cL_plain 17 = .ok (.iconst 0, 1) := by decide +kernel
theorem dL_plain_18 : decode cL_plain 18 = .ok (.ireturn, 1) := by decide +kernel
theorem dL_many_0 : decode cL_many 0 = .ok (.iconst 1, 1) := by decide +kernel
theorem dL_many_1 : decode cL_many 1 = .ok (.aload_n 0, 1) := by decide +kernel
theorem dL_many_2 : decode cL_many 2 = .ok (.iconst 0, 1) := by decide +kernel
theorem dL_many_3 : decode cL_many 3 = .ok (.invokestatic 69, 3) := by decide +kernel
theorem dL_many_6 : decode cL_many 6 = .ok (.iconst 3, 1) := by decide +kernel
theorem dL_many_7 : decode cL_many 7 = .ok (.iand, 1) := by decide +kernel
theorem dL_many_8 : decode cL_many 8 = .ok (.iconst 3, 1) := by decide +kernel
theorem dL_many_9 : decode cL_many 9 = .ok (.irem, 1) := by decide +kernel
theorem dL_many_10 : decode cL_many 10 = .ok (.iadd, 1) := by decide +kernel
theorem dL_many_11 : decode cL_many 11 = .ok (.ireturn, 1) := by decide +kernel
theorem dL_want_0 : decode cL_want 0 = .ok (.iconst 1, 1) := by decide +kernel
theorem dL_want_1 : decode cL_want 1 = .ok (.aload_n 0, 1) := by decide +kernel
theorem dL_want_2 : decode cL_want 2 = .ok (.iconst 0, 1) := by decide +kernel
theorem dL_want_3 : decode cL_want 3 = .ok (.invokestatic 69, 3) := by decide +kernel
theorem dL_want_6 : decode cL_want 6 = .ok (.iconst 2, 1) := by decide +kernel
theorem dL_want_7 : decode cL_want 7 = .ok (.ishr, 1) := by decide +kernel
theorem dL_want_8 : decode cL_want 8 = .ok (.bipush 15, 2) := by decide +kernel
theorem dL_want_10 : decode cL_want 10 = .ok (.iand, 1) := by decide +kernel
theorem dL_want_11 : decode cL_want 11 = .ok (.iadd, 1) := by decide +kernel
theorem dL_want_12 : decode cL_want 12 = .ok (.ireturn, 1) := by decide +kernel
theorem dL_high_0 : decode cL_high 0 = .ok (.aload_n 0, 1) := by decide +kernel
theorem dL_high_1 : decode cL_high 1 = .ok (.iconst 1, 1) := by decide +kernel
theorem dL_high_2 : decode cL_high 2 = .ok (.iload_n 1, 1) := by decide +kernel
theorem dL_high_3 : decode cL_high 3 = .ok (.iconst 3, 1) := by decide +kernel
theorem dL_high_4 : decode cL_high 4 = .ok (.idiv, 1) := by decide +kernel
theorem dL_high_5 : decode cL_high 5 = .ok (.iadd, 1) := by decide +kernel
theorem dL_high_6 : decode cL_high 6 = .ok (.invokestatic 69, 3) := by decide +kernel
theorem dL_high_9 : decode cL_high 9 = .ok (.bipush 7, 2) := by decide +kernel
theorem dL_high_11 : decode cL_high 11 = .ok (.iload_n 1, 1) := by decide +kernel
theorem dL_high_12 : decode cL_high 12 = .ok (.iconst 3, 1) := by decide +kernel
theorem dL_high_13 : decode cL_high 13 = .ok (.irem, 1) := by decide +kernel
theorem dL_high_14 : decode cL_high 14 = .ok (.imul, 1) := by decide +kernel
theorem dL_high_15 : decode cL_high 15 = .ok (.ishr, 1) := by decide +kernel
theorem dL_high_16 : decode cL_high 16 = .ok (.bipush 127, 2) := by decide +kernel
theorem dL_high_18 : decode cL_high 18 = .ok (.iand, 1) := by decide +kernel
theorem dL_high_19 : decode cL_high 19 = .ok (.aload_n 0, 1) := by decide +kernel
theorem dL_high_20 : decode cL_high 20 = .ok (.iconst 0, 1) := by decide +kernel
theorem dL_high_21 : decode cL_high 21 = .ok (.invokestatic 69, 3) := by decide +kernel
theorem dL_high_24 : decode cL_high 24 = .ok (.bipush 12, 2) := by decide +kernel
theorem dL_high_26 : decode cL_high 26 = .ok (.ishr, 1) := by decide +kernel
theorem dL_high_27 : decode cL_high 27 = .ok (.iconst 1, 1) := by decide +kernel
theorem dL_high_28 : decode cL_high 28 = .ok (.iand, 1) := by decide +kernel
theorem dL_high_29 : decode cL_high 29 = .ok (.ifCond .ne 8, 3) := by decide +kernel
theorem dL_high_32 : decode cL_high 32 = .ok (.bipush 25, 2) := by decide +kernel
theorem dL_high_34 : decode cL_high 34 = .ok (.goto 5, 3) := by decide +kernel
theorem dL_high_37 : decode cL_high 37 = .ok (.bipush 101, 2) := by decide +kernel
theorem dL_high_39 : decode cL_high 39 = .ok (.irem, 1) := by decide +kernel
theorem dL_high_40 : decode cL_high 40 = .ok (.ireturn, 1) := by decide +kernel
theorem dL_stick_0 : decode cL_stick 0 = .ok (.aload_n 0, 1) := by decide +kernel
theorem dL_stick_1 : decode cL_stick 1 = .ok (.iconst 4, 1) := by decide +kernel
theorem dL_stick_2 : decode cL_stick 2 = .ok (.iload_n 1, 1) := by decide +kernel
theorem dL_stick_3 : decode cL_stick 3 = .ok (.iconst 5, 1) := by decide +kernel
theorem dL_stick_4 : decode cL_stick 4 = .ok (.idiv, 1) := by decide +kernel
theorem dL_stick_5 : decode cL_stick 5 = .ok (.iadd, 1) := by decide +kernel
theorem dL_stick_6 : decode cL_stick 6 = .ok (.invokestatic 69, 3) := by decide +kernel
theorem dL_stick_9 : decode cL_stick 9 = .ok (.iconst 4, 1) := by decide +kernel
theorem dL_stick_10 : decode cL_stick 10 = .ok (.iload_n 1, 1) := by decide +kernel
theorem dL_stick_11 : decode cL_stick 11 = .ok (.iconst 5, 1) := by decide +kernel
theorem dL_stick_12 : decode cL_stick 12 = .ok (.irem, 1) := by decide +kernel
theorem dL_stick_13 : decode cL_stick 13 = .ok (.imul, 1) := by decide +kernel
theorem dL_stick_14 : decode cL_stick 14 = .ok (.ishr, 1) := by decide +kernel
theorem dL_stick_15 : decode cL_stick 15 = .ok (.bipush 15, 2) := by decide +kernel
theorem dL_stick_17 : decode cL_stick 17 = .ok (.iand, 1) := by decide +kernel
theorem dL_stick_18 : decode cL_stick 18 = .ok (.bipush 10, 2) := by decide +kernel
theorem dL_stick_20 : decode cL_stick 20 = .ok (.irem, 1) := by decide +kernel
theorem dL_stick_21 : decode cL_stick 21 = .ok (.ireturn, 1) := by decide +kernel
theorem dL_kind_0 : decode cL_kind 0 = .ok (.aload_n 0, 1) := by decide +kernel
theorem dL_kind_1 : decode cL_kind 1 = .ok (.bipush 6, 2) := by decide +kernel
theorem dL_kind_3 : decode cL_kind 3 = .ok (.invokestatic 69, 3) := by decide +kernel
theorem dL_kind_6 : decode cL_kind 6 = .ok (.bipush 10, 2) := by decide +kernel
theorem dL_kind_8 : decode cL_kind 8 = .ok (.iload_n 1, 1) := by decide +kernel
theorem dL_kind_9 : decode cL_kind 9 = .ok (.imul, 1) := by decide +kernel
theorem dL_kind_10 : decode cL_kind 10 = .ok (.ishr, 1) := by decide +kernel
theorem dL_kind_11 : decode cL_kind 11 = .ok (.bipush 7, 2) := by decide +kernel
theorem dL_kind_13 : decode cL_kind 13 = .ok (.iand, 1) := by decide +kernel
theorem dL_kind_14 : decode cL_kind 14 = .ok (.bipush 6, 2) := by decide +kernel
theorem dL_kind_16 : decode cL_kind 16 = .ok (.irem, 1) := by decide +kernel
theorem dL_kind_17 : decode cL_kind 17 = .ok (.ireturn, 1) := by decide +kernel
theorem dL_more_0 : decode cL_more 0 = .ok (.aload_n 0, 1) := by decide +kernel
theorem dL_more_1 : decode cL_more 1 = .ok (.bipush 6, 2) := by decide +kernel
theorem dL_more_3 : decode cL_more 3 = .ok (.invokestatic 69, 3) := by decide +kernel
theorem dL_more_6 : decode cL_more 6 = .ok (.bipush 10, 2) := by decide +kernel
theorem dL_more_8 : decode cL_more 8 = .ok (.iload_n 1, 1) := by decide +kernel
theorem dL_more_9 : decode cL_more 9 = .ok (.imul, 1) := by decide +kernel
theorem dL_more_10 : decode cL_more 10 = .ok (.iconst 3, 1) := by decide +kernel
theorem dL_more_11 : decode cL_more 11 = .ok (.iadd, 1) := by decide +kernel
theorem dL_more_12 : decode cL_more 12 = .ok (.ishr, 1) := by decide +kernel
theorem dL_more_13 : decode cL_more 13 = .ok (.bipush 15, 2) := by decide +kernel
theorem dL_more_15 : decode cL_more 15 = .ok (.iand, 1) := by decide +kernel
theorem dL_more_16 : decode cL_more 16 = .ok (.bipush 10, 2) := by decide +kernel
theorem dL_more_18 : decode cL_more 18 = .ok (.irem, 1) := by decide +kernel
theorem dL_more_19 : decode cL_more 19 = .ok (.ireturn, 1) := by decide +kernel
theorem dL_from_0 : decode cL_from 0 = .ok (.aload_n 0, 1) := by decide +kernel
theorem dL_from_1 : decode cL_from 1 = .ok (.bipush 7, 2) := by decide +kernel
theorem dL_from_3 : decode cL_from 3 = .ok (.invokestatic 69, 3) := by decide +kernel
theorem dL_from_6 : decode cL_from 6 = .ok (.iconst 4, 1) := by decide +kernel
theorem dL_from_7 : decode cL_from 7 = .ok (.iload_n 1, 1) := by decide +kernel
theorem dL_from_8 : decode cL_from 8 = .ok (.imul, 1) := by decide +kernel
theorem dL_from_9 : decode cL_from 9 = .ok (.ishr, 1) := by decide +kernel
theorem dL_from_10 : decode cL_from 10 = .ok (.bipush 15, 2) := by decide +kernel
theorem dL_from_12 : decode cL_from 12 = .ok (.iand, 1) := by decide +kernel
theorem dL_from_13 : decode cL_from 13 = .ok (.bipush 9, 2) := by decide +kernel
theorem dL_from_15 : decode cL_from 15 = .ok (.irem, 1) := by decide +kernel
theorem dL_from_16 : decode cL_from 16 = .ok (.ireturn, 1) := by decide +kernel
theorem dL_held_0 : decode cL_held 0 = .ok (.iload_n 2, 1) := by decide +kernel
theorem dL_held_1 : decode cL_held 1 = .ok (.i2l, 1) := by decide +kernel
theorem dL_held_2 : decode cL_held 2 = .ok (.iload_n 3, 1) := by decide +kernel
theorem dL_held_3 : decode cL_held 3 = .ok (.i2l, 1) := by decide +kernel
theorem dL_held_4 : decode cL_held 4 = .ok (.lload_n 0, 1) := by decide +kernel
theorem dL_held_5 : decode cL_held 5 = .ok (.invokestatic 95, 3) := by decide +kernel
theorem dL_held_8 : decode cL_held 8 = .ok (.invokestatic 101, 3) := by decide +kernel
theorem dL_held_11 : decode cL_held 11 = .ok (.l2i, 1) := by decide +kernel
theorem dL_held_12 : decode cL_held 12 = .ok (.ireturn, 1) := by decide +kernel
theorem dL_start_0 : decode cL_start 0 = .ok (.iconst 0, 1) := by decide +kernel
theorem dL_start_1 : decode cL_start 1 = .ok (.istore_n 2, 1) := by decide +kernel
theorem dL_start_2 : decode cL_start 2 = .ok (.iload_n 2, 1) := by decide +kernel
theorem dL_start_3 : decode cL_start 3 = .ok (.bipush 9, 2) := by decide +kernel
theorem dL_start_5 : decode cL_start 5 = .ok (.if_icmp .ge 30, 3) := by decide +kernel
theorem dL_start_8 : decode cL_start 8 = .ok (.aload_n 1, 1) := by decide +kernel
theorem dL_start_9 : decode cL_start 9 = .ok (.iload_n 2, 1) := by decide +kernel
theorem dL_start_10 : decode cL_start 10 = .ok (.aload_n 0, 1) := by decide +kernel
theorem dL_start_11 : decode cL_start 11 = .ok (.iload_n 2, 1) := by decide +kernel
theorem dL_start_12 : decode cL_start 12 = .ok (.invokestatic 24, 3) := by decide +kernel
theorem dL_start_15 : decode cL_start 15 = .ok (.i2l, 1) := by decide +kernel
theorem dL_start_16 : decode cL_start 16 = .ok (.lastore, 1) := by decide +kernel
theorem dL_start_17 : decode cL_start 17 = .ok (.aload_n 1, 1) := by decide +kernel
theorem dL_start_18 : decode cL_start 18 = .ok (.bipush 9, 2) := by decide +kernel
theorem dL_start_20 : decode cL_start 20 = .ok (.iload_n 2, 1) := by decide +kernel
theorem dL_start_21 : decode cL_start 21 = .ok (.iadd, 1) := by decide +kernel
theorem dL_start_22 : decode cL_start 22 = .ok (.aload_n 0, 1) := by decide +kernel
theorem dL_start_23 : decode cL_start 23 = .ok (.iload_n 2, 1) := by decide +kernel
theorem dL_start_24 : decode cL_start 24 = .ok (.invokestatic 34, 3) := by decide +kernel
theorem dL_start_27 : decode cL_start 27 = .ok (.i2l, 1) := by decide +kernel
theorem dL_start_28 : decode cL_start 28 = .ok (.lastore, 1) := by decide +kernel
theorem dL_start_29 : decode cL_start 29 = .ok (.iinc 2 1, 3) := by decide +kernel
theorem dL_start_32 : decode cL_start 32 = .ok (.goto (-30), 3) := by decide +kernel
theorem dL_start_35 : decode cL_start 35 = .ok (.iconst 0, 1) := by decide +kernel
theorem dL_start_36 : decode cL_start 36 = .ok (.istore_n 2, 1) := by decide +kernel
theorem dL_start_37 : decode cL_start 37 = .ok (.iload_n 2, 1) := by decide +kernel
theorem dL_start_38 : decode cL_start 38 = .ok (.aload_n 0, 1) := by decide +kernel
theorem dL_start_39 : decode cL_start 39 = .ok (.invokestatic 41, 3) := by decide +kernel
theorem dL_start_42 : decode cL_start 42 = .ok (.if_icmp .ge 33, 3) := by decide +kernel
theorem dL_start_45 : decode cL_start 45 = .ok (.aload_n 1, 1) := by decide +kernel
theorem dL_start_46 : decode cL_start 46 = .ok (.bipush 20, 2) := by decide +kernel
theorem dL_start_48 : decode cL_start 48 = .ok (.iload_n 2, 1) := by decide +kernel
theorem dL_start_49 : decode cL_start 49 = .ok (.iadd, 1) := by decide +kernel
theorem dL_start_50 : decode cL_start 50 = .ok (.aload_n 0, 1) := by decide +kernel
theorem dL_start_51 : decode cL_start 51 = .ok (.iload_n 2, 1) := by decide +kernel
theorem dL_start_52 : decode cL_start 52 = .ok (.invokestatic 44, 3) := by decide +kernel
theorem dL_start_55 : decode cL_start 55 = .ok (.i2l, 1) := by decide +kernel
theorem dL_start_56 : decode cL_start 56 = .ok (.lastore, 1) := by decide +kernel
theorem dL_start_57 : decode cL_start 57 = .ok (.aload_n 1, 1) := by decide +kernel
theorem dL_start_58 : decode cL_start 58 = .ok (.bipush 25, 2) := by decide +kernel
theorem dL_start_60 : decode cL_start 60 = .ok (.iload_n 2, 1) := by decide +kernel
theorem dL_start_61 : decode cL_start 61 = .ok (.iadd, 1) := by decide +kernel
theorem dL_start_62 : decode cL_start 62 = .ok (.aload_n 0, 1) := by decide +kernel
theorem dL_start_63 : decode cL_start 63 = .ok (.iload_n 2, 1) := by decide +kernel
theorem dL_start_64 : decode cL_start 64 = .ok (.invokestatic 50, 3) := by decide +kernel
theorem dL_start_67 : decode cL_start 67 = .ok (.i2l, 1) := by decide +kernel
theorem dL_start_68 : decode cL_start 68 = .ok (.lastore, 1) := by decide +kernel
theorem dL_start_69 : decode cL_start 69 = .ok (.iinc 2 1, 3) := by decide +kernel
theorem dL_start_72 : decode cL_start 72 = .ok (.goto (-35), 3) := by decide +kernel
theorem dL_start_75 : decode cL_start 75 = .ok (.return_, 1) := by decide +kernel
theorem dL_begin_0 : decode cL_begin 0 = .ok (.bipush 30, 2) := by decide +kernel
theorem dL_begin_2 : decode cL_begin 2 = .ok (.istore_n 1, 1) := by decide +kernel
theorem dL_begin_3 : decode cL_begin 3 = .ok (.iload_n 1, 1) := by decide +kernel
theorem dL_begin_4 : decode cL_begin 4 = .ok (.bipush 120, 2) := by decide +kernel
theorem dL_begin_6 : decode cL_begin 6 = .ok (.if_icmp .ge 13, 3) := by decide +kernel
theorem dL_begin_9 : decode cL_begin 9 = .ok (.aload_n 0, 1) := by decide +kernel
theorem dL_begin_10 : decode cL_begin 10 = .ok (.iload_n 1, 1) := by decide +kernel
theorem dL_begin_11 : decode cL_begin 11 = .ok (.lconst 0, 1) := by decide +kernel
theorem dL_begin_12 : decode cL_begin 12 = .ok (.lastore, 1) := by decide +kernel
theorem dL_begin_13 : decode cL_begin 13 = .ok (.iinc 1 1, 3) := by decide +kernel
theorem dL_begin_16 : decode cL_begin 16 = .ok (.goto (-13), 3) := by decide +kernel
theorem dL_begin_19 : decode cL_begin 19 = .ok (.iconst 0, 1) := by decide +kernel
theorem dL_begin_20 : decode cL_begin 20 = .ok (.istore_n 1, 1) := by decide +kernel
theorem dL_begin_21 : decode cL_begin 21 = .ok (.iload_n 1, 1) := by decide +kernel
theorem dL_begin_22 : decode cL_begin 22 = .ok (.iconst 5, 1) := by decide +kernel
theorem dL_begin_23 : decode cL_begin 23 = .ok (.if_icmp .ge 28, 3) := by decide +kernel
theorem dL_begin_26 : decode cL_begin 26 = .ok (.aload_n 0, 1) := by decide +kernel
theorem dL_begin_27 : decode cL_begin 27 = .ok (.bipush 30, 2) := by decide +kernel
theorem dL_begin_29 : decode cL_begin 29 = .ok (.iload_n 1, 1) := by decide +kernel
theorem dL_begin_30 : decode cL_begin 30 = .ok (.iadd, 1) := by decide +kernel
theorem dL_begin_31 : decode cL_begin 31 = .ok (.aload_n 0, 1) := by decide +kernel
theorem dL_begin_32 : decode cL_begin 32 = .ok (.bipush 25, 2) := by decide +kernel
theorem dL_begin_34 : decode cL_begin 34 = .ok (.iload_n 1, 1) := by decide +kernel
theorem dL_begin_35 : decode cL_begin 35 = .ok (.iadd, 1) := by decide +kernel
theorem dL_begin_36 : decode cL_begin 36 = .ok (.laload, 1) := by decide +kernel
theorem dL_begin_37 : decode cL_begin 37 = .ok (.lastore, 1) := by decide +kernel
theorem dL_begin_38 : decode cL_begin 38 = .ok (.aload_n 0, 1) := by decide +kernel
theorem dL_begin_39 : decode cL_begin 39 = .ok (.bipush 35, 2) := by decide +kernel
theorem dL_begin_41 : decode cL_begin 41 = .ok (.iload_n 1, 1) := by decide +kernel
theorem dL_begin_42 : decode cL_begin 42 = .ok (.iadd, 1) := by decide +kernel
theorem dL_begin_43 : decode cL_begin 43 = .ok (.lconst 1, 1) := by decide +kernel
theorem dL_begin_44 : decode cL_begin 44 = .ok (.lastore, 1) := by decide +kernel
theorem dL_begin_45 : decode cL_begin 45 = .ok (.iinc 1 1, 3) := by decide +kernel
theorem dL_begin_48 : decode cL_begin 48 = .ok (.goto (-27), 3) := by decide +kernel
theorem dL_begin_51 : decode cL_begin 51 = .ok (.iconst 0, 1) := by decide +kernel
theorem dL_begin_52 : decode cL_begin 52 = .ok (.istore_n 1, 1) := by decide +kernel
theorem dL_begin_53 : decode cL_begin 53 = .ok (.iload_n 1, 1) := by decide +kernel
theorem dL_begin_54 : decode cL_begin 54 = .ok (.bipush 9, 2) := by decide +kernel
theorem dL_begin_56 : decode cL_begin 56 = .ok (.if_icmp .ge 27, 3) := by decide +kernel
theorem dL_begin_59 : decode cL_begin 59 = .ok (.aload_n 0, 1) := by decide +kernel
theorem dL_begin_60 : decode cL_begin 60 = .ok (.bipush 70, 2) := by decide +kernel
theorem dL_begin_62 : decode cL_begin 62 = .ok (.iload_n 1, 1) := by decide +kernel
theorem dL_begin_63 : decode cL_begin 63 = .ok (.iadd, 1) := by decide +kernel
theorem dL_begin_64 : decode cL_begin 64 = .ok (.aload_n 0, 1) := by decide +kernel
theorem dL_begin_65 : decode cL_begin 65 = .ok (.iload_n 1, 1) := by decide +kernel
theorem dL_begin_66 : decode cL_begin 66 = .ok (.laload, 1) := by decide +kernel
theorem dL_begin_67 : decode cL_begin 67 = .ok (.lastore, 1) := by decide +kernel
theorem dL_begin_68 : decode cL_begin 68 = .ok (.aload_n 0, 1) := by decide +kernel
theorem dL_begin_69 : decode cL_begin 69 = .ok (.bipush 90, 2) := by decide +kernel
theorem dL_begin_71 : decode cL_begin 71 = .ok (.iload_n 1, 1) := by decide +kernel
theorem dL_begin_72 : decode cL_begin 72 = .ok (.iadd, 1) := by decide +kernel
theorem dL_begin_73 : decode cL_begin 73 = .ok (.ldc2_w 104, 3) := by decide +kernel
theorem dL_begin_76 : decode cL_begin 76 = .ok (.lastore, 1) := by decide +kernel
theorem dL_begin_77 : decode cL_begin 77 = .ok (.iinc 1 1, 3) := by decide +kernel
theorem dL_begin_80 : decode cL_begin 80 = .ok (.goto (-27), 3) := by decide +kernel
theorem dL_begin_83 : decode cL_begin 83 = .ok (.aload_n 0, 1) := by decide +kernel
theorem dL_begin_84 : decode cL_begin 84 = .ok (.bipush 104, 2) := by decide +kernel
theorem dL_begin_86 : decode cL_begin 86 = .ok (.ldc2_w 104, 3) := by decide +kernel
theorem dL_begin_89 : decode cL_begin 89 = .ok (.lastore, 1) := by decide +kernel
theorem dL_begin_90 : decode cL_begin 90 = .ok (.return_, 1) := by decide +kernel
theorem dL_takes_0 : decode cL_takes 0 = .ok (.aload_n 0, 1) := by decide +kernel
theorem dL_takes_1 : decode cL_takes 1 = .ok (.invokestatic 56, 3) := by decide +kernel
theorem dL_takes_4 : decode cL_takes 4 = .ok (.ifCond .eq 7, 3) := by decide +kernel
theorem dL_takes_7 : decode cL_takes 7 = .ok (.iconst 2, 1) := by decide +kernel
theorem dL_takes_8 : decode cL_takes 8 = .ok (.goto 27, 3) := by decide +kernel
theorem dL_takes_11 : decode cL_takes 11 = .ok (.lconst 1, 1) := by decide +kernel
theorem dL_takes_12 : decode cL_takes 12 = .ok (.lload_n 3, 1) := by decide +kernel
theorem dL_takes_13 : decode cL_takes 13 = .ok (.aload_n 0, 1) := by decide +kernel
theorem dL_takes_14 : decode cL_takes 14 = .ok (.iconst 0, 1) := by decide +kernel
theorem dL_takes_15 : decode cL_takes 15 = .ok (.invokestatic 69, 3) := by decide +kernel
theorem dL_takes_18 : decode cL_takes 18 = .ok (.bipush 6, 2) := by decide +kernel
theorem dL_takes_20 : decode cL_takes 20 = .ok (.ishr, 1) := by decide +kernel
theorem dL_takes_21 : decode cL_takes 21 = .ok (.iconst 1, 1) := by decide +kernel
theorem dL_takes_22 : decode cL_takes 22 = .ok (.iand, 1) := by decide +kernel
theorem dL_takes_23 : decode cL_takes 23 = .ok (.i2l, 1) := by decide +kernel
theorem dL_takes_24 : decode cL_takes 24 = .ok (.lmul, 1) := by decide +kernel
theorem dL_takes_25 : decode cL_takes 25 = .ok (.ladd, 1) := by decide +kernel
theorem dL_takes_26 : decode cL_takes 26 = .ok (.lload 5, 2) := by decide +kernel
theorem dL_takes_28 : decode cL_takes 28 = .ok (.ladd, 1) := by decide +kernel
theorem dL_takes_29 : decode cL_takes 29 = .ok (.iconst 1, 1) := by decide +kernel
theorem dL_takes_30 : decode cL_takes 30 = .ok (.bipush 20, 2) := by decide +kernel
theorem dL_takes_32 : decode cL_takes 32 = .ok (.invokestatic 106, 3) := by decide +kernel
theorem dL_takes_35 : decode cL_takes 35 = .ok (.istore 7, 2) := by decide +kernel
theorem dL_takes_37 : decode cL_takes 37 = .ok (.aload_n 1, 1) := by decide +kernel
theorem dL_takes_38 : decode cL_takes 38 = .ok (.bipush 20, 2) := by decide +kernel
theorem dL_takes_40 : decode cL_takes 40 = .ok (.iload_n 2, 1) := by decide +kernel
theorem dL_takes_41 : decode cL_takes 41 = .ok (.iadd, 1) := by decide +kernel
theorem dL_takes_42 : decode cL_takes 42 = .ok (.laload, 1) := by decide +kernel
theorem dL_takes_43 : decode cL_takes 43 = .ok (.l2i, 1) := by decide +kernel
theorem dL_takes_44 : decode cL_takes 44 = .ok (.istore 8, 2) := by decide +kernel
theorem dL_takes_46 : decode cL_takes 46 = .ok (.aload_n 0, 1) := by decide +kernel
theorem dL_takes_47 : decode cL_takes 47 = .ok (.iload_n 2, 1) := by decide +kernel
theorem dL_takes_48 : decode cL_takes 48 = .ok (.invokestatic 47, 3) := by decide +kernel
theorem dL_takes_51 : decode cL_takes 51 = .ok (.istore 9, 2) := by decide +kernel
theorem dL_takes_53 : decode cL_takes 53 = .ok (.iload 8, 2) := by decide +kernel
theorem dL_takes_55 : decode cL_takes 55 = .ok (.iconst 2, 1) := by decide +kernel
theorem dL_takes_56 : decode cL_takes 56 = .ok (.if_icmp .eq 9, 3) := by decide +kernel
theorem dL_takes_59 : decode cL_takes 59 = .ok (.iload 8, 2) := by decide +kernel
theorem dL_takes_61 : decode cL_takes 61 = .ok (.iconst 4, 1) := by decide +kernel
theorem dL_takes_62 : decode cL_takes 62 = .ok (.if_icmp .ne 12, 3) := by decide +kernel
theorem dL_takes_65 : decode cL_takes 65 = .ok (.iload 7, 2) := by decide +kernel
theorem dL_takes_67 : decode cL_takes 67 = .ok (.iload 9, 2) := by decide +kernel
theorem dL_takes_69 : decode cL_takes 69 = .ok (.iconst 2, 1) := by decide +kernel
theorem dL_takes_70 : decode cL_takes 70 = .ok (.idiv, 1) := by decide +kernel
theorem dL_takes_71 : decode cL_takes 71 = .ok (.iadd, 1) := by decide +kernel
theorem dL_takes_72 : decode cL_takes 72 = .ok (.istore 7, 2) := by decide +kernel
theorem dL_takes_74 : decode cL_takes 74 = .ok (.iload 8, 2) := by decide +kernel
theorem dL_takes_76 : decode cL_takes 76 = .ok (.iconst 3, 1) := by decide +kernel
theorem dL_takes_77 : decode cL_takes 77 = .ok (.if_icmp .ne 6, 3) := by decide +kernel
theorem dL_takes_80 : decode cL_takes 80 = .ok (.iinc 7 1, 3) := by decide +kernel
theorem dL_takes_83 : decode cL_takes 83 = .ok (.iload 8, 2) := by decide +kernel
theorem dL_takes_85 : decode cL_takes 85 = .ok (.iconst 4, 1) := by decide +kernel
theorem dL_takes_86 : decode cL_takes 86 = .ok (.if_icmp .ne 22, 3) := by decide +kernel
theorem dL_takes_89 : decode cL_takes 89 = .ok (.iload 7, 2) := by decide +kernel
theorem dL_takes_91 : decode cL_takes 91 = .ok (.lload 5, 2) := by decide +kernel
theorem dL_takes_93 : decode cL_takes 93 = .ok (.iload 9, 2) := by decide +kernel
theorem dL_takes_95 : decode cL_takes 95 = .ok (.i2l, 1) := by decide +kernel
theorem dL_takes_96 : decode cL_takes 96 = .ok (.lcmp, 1) := by decide +kernel
theorem dL_takes_97 : decode cL_takes 97 = .ok (.ifCond .le 7, 3) := by decide +kernel
theorem dL_takes_100 : decode cL_takes 100 = .ok (.iconst 2, 1) := by decide +kernel
theorem dL_takes_101 : decode cL_takes 101 = .ok (.goto 4, 3) := by decide +kernel
theorem dL_takes_104 : decode cL_takes 104 = .ok (.iconst 1, 1) := by decide +kernel
theorem dL_takes_105 : decode cL_takes 105 = .ok (.iadd, 1) := by decide +kernel
theorem dL_takes_106 : decode cL_takes 106 = .ok (.istore 7, 2) := by decide +kernel
theorem dL_takes_108 : decode cL_takes 108 = .ok (.iload 8, 2) := by decide +kernel
theorem dL_takes_110 : decode cL_takes 110 = .ok (.iconst 5, 1) := by decide +kernel
theorem dL_takes_111 : decode cL_takes 111 = .ok (.if_icmp .ne 18, 3) := by decide +kernel
theorem dL_takes_114 : decode cL_takes 114 = .ok (.lload 5, 2) := by decide +kernel
theorem dL_takes_116 : decode cL_takes 116 = .ok (.iload 9, 2) := by decide +kernel
theorem dL_takes_118 : decode cL_takes 118 = .ok (.i2l, 1) := by decide +kernel
theorem dL_takes_119 : decode cL_takes 119 = .ok (.lcmp, 1) := by decide +kernel
theorem dL_takes_120 : decode cL_takes 120 = .ok (.ifCond .lt 9, 3) := by decide +kernel
theorem dL_takes_123 : decode cL_takes 123 = .ok (.iload 7, 2) := by decide +kernel
theorem dL_takes_125 : decode cL_takes 125 = .ok (.iconst 2, 1) := by decide +kernel
theorem dL_takes_126 : decode cL_takes 126 = .ok (.idiv, 1) := by decide +kernel
theorem dL_takes_127 : decode cL_takes 127 = .ok (.istore 7, 2) := by decide +kernel
theorem dL_takes_129 : decode cL_takes 129 = .ok (.iconst 1, 1) := by decide +kernel
theorem dL_takes_130 : decode cL_takes 130 = .ok (.iload 7, 2) := by decide +kernel
theorem dL_takes_132 : decode cL_takes 132 = .ok (.invokestatic 110, 3) := by decide +kernel
theorem dL_takes_135 : decode cL_takes 135 = .ok (.ireturn, 1) := by decide +kernel
theorem dL_steps_0 : decode cL_steps 0 = .ok (.aload_n 0, 1) := by decide +kernel
theorem dL_steps_1 : decode cL_steps 1 = .ok (.invokestatic 56, 3) := by decide +kernel
theorem dL_steps_4 : decode cL_steps 4 = .ok (.ifCond .eq 7, 3) := by decide +kernel
theorem dL_steps_7 : decode cL_steps 7 = .ok (.iconst 1, 1) := by decide +kernel
theorem dL_steps_8 : decode cL_steps 8 = .ok (.goto 29, 3) := by decide +kernel
theorem dL_steps_11 : decode cL_steps 11 = .ok (.aload_n 0, 1) := by decide +kernel
theorem dL_steps_12 : decode cL_steps 12 = .ok (.invokestatic 41, 3) := by decide +kernel
theorem dL_steps_15 : decode cL_steps 15 = .ok (.iload_n 2, 1) := by decide +kernel
theorem dL_steps_16 : decode cL_steps 16 = .ok (.aload_n 0, 1) := by decide +kernel
theorem dL_steps_17 : decode cL_steps 17 = .ok (.iconst 0, 1) := by decide +kernel
theorem dL_steps_18 : decode cL_steps 18 = .ok (.invokestatic 69, 3) := by decide +kernel
theorem dL_steps_21 : decode cL_steps 21 = .ok (.bipush 7, 2) := by decide +kernel
theorem dL_steps_23 : decode cL_steps 23 = .ok (.ishr, 1) := by decide +kernel
theorem dL_steps_24 : decode cL_steps 24 = .ok (.iconst 3, 1) := by decide +kernel
theorem dL_steps_25 : decode cL_steps 25 = .ok (.iand, 1) := by decide +kernel
theorem dL_steps_26 : decode cL_steps 26 = .ok (.imul, 1) := by decide +kernel
theorem dL_steps_27 : decode cL_steps 27 = .ok (.iadd, 1) := by decide +kernel
theorem dL_steps_28 : decode cL_steps 28 = .ok (.i2l, 1) := by decide +kernel
theorem dL_steps_29 : decode cL_steps 29 = .ok (.lload_n 3, 1) := by decide +kernel
theorem dL_steps_30 : decode cL_steps 30 = .ok (.lsub, 1) := by decide +kernel
theorem dL_steps_31 : decode cL_steps 31 = .ok (.iconst 1, 1) := by decide +kernel
theorem dL_steps_32 : decode cL_steps 32 = .ok (.bipush 20, 2) := by decide +kernel
theorem dL_steps_34 : decode cL_steps 34 = .ok (.invokestatic 106, 3) := by decide +kernel
theorem dL_steps_37 : decode cL_steps 37 = .ok (.istore 5, 2) := by decide +kernel
theorem dL_steps_39 : decode cL_steps 39 = .ok (.aload_n 1, 1) := by decide +kernel
theorem dL_steps_40 : decode cL_steps 40 = .ok (.bipush 20, 2) := by decide +kernel
theorem dL_steps_42 : decode cL_steps 42 = .ok (.iload_n 2, 1) := by decide +kernel
theorem dL_steps_43 : decode cL_steps 43 = .ok (.iadd, 1) := by decide +kernel
theorem dL_steps_44 : decode cL_steps 44 = .ok (.laload, 1) := by decide +kernel
theorem dL_steps_45 : decode cL_steps 45 = .ok (.l2i, 1) := by decide +kernel
theorem dL_steps_46 : decode cL_steps 46 = .ok (.istore 6, 2) := by decide +kernel
theorem dL_steps_48 : decode cL_steps 48 = .ok (.iconst 1, 1) := by decide +kernel
theorem dL_steps_49 : decode cL_steps 49 = .ok (.iload 6, 2) := by decide +kernel
theorem dL_steps_51 : decode cL_steps 51 = .ok (.iconst 1, 1) := by decide +kernel
theorem dL_steps_52 : decode cL_steps 52 = .ok (.if_icmp .eq 9, 3) := by decide +kernel
theorem dL_steps_55 : decode cL_steps 55 = .ok (.iload 6, 2) := by decide +kernel
theorem dL_steps_57 : decode cL_steps 57 = .ok (.iconst 3, 1) := by decide +kernel
theorem dL_steps_58 : decode cL_steps 58 = .ok (.if_icmp .ne 16, 3) := by decide +kernel
theorem dL_steps_61 : decode cL_steps 61 = .ok (.iload 5, 2) := by decide +kernel
theorem dL_steps_63 : decode cL_steps 63 = .ok (.aload_n 0, 1) := by decide +kernel
theorem dL_steps_64 : decode cL_steps 64 = .ok (.iload_n 2, 1) := by decide +kernel
theorem dL_steps_65 : decode cL_steps 65 = .ok (.invokestatic 47, 3) := by decide +kernel
theorem dL_steps_68 : decode cL_steps 68 = .ok (.iconst 3, 1) := by decide +kernel
theorem dL_steps_69 : decode cL_steps 69 = .ok (.idiv, 1) := by decide +kernel
theorem dL_steps_70 : decode cL_steps 70 = .ok (.isub, 1) := by decide +kernel
theorem dL_steps_71 : decode cL_steps 71 = .ok (.goto 18, 3) := by decide +kernel
theorem dL_steps_74 : decode cL_steps 74 = .ok (.iload 6, 2) := by decide +kernel
theorem dL_steps_76 : decode cL_steps 76 = .ok (.iconst 4, 1) := by decide +kernel
theorem dL_steps_77 : decode cL_steps 77 = .ok (.if_icmp .ne 10, 3) := by decide +kernel
theorem dL_steps_80 : decode cL_steps 80 = .ok (.iconst 2, 1) := by decide +kernel
theorem dL_steps_81 : decode cL_steps 81 = .ok (.iload 5, 2) := by decide +kernel
theorem dL_steps_83 : decode cL_steps 83 = .ok (.imul, 1) := by decide +kernel
theorem dL_steps_84 : decode cL_steps 84 = .ok (.goto 5, 3) := by decide +kernel
theorem dL_steps_87 : decode cL_steps 87 = .ok (.iload 5, 2) := by decide +kernel
theorem dL_steps_89 : decode cL_steps 89 = .ok (.invokestatic 110, 3) := by decide +kernel
theorem dL_steps_92 : decode cL_steps 92 = .ok (.ireturn, 1) := by decide +kernel
theorem dL_lift_0 : decode cL_lift 0 = .ok (.aload_n 1, 1) := by decide +kernel
theorem dL_lift_1 : decode cL_lift 1 = .ok (.bipush 30, 2) := by decide +kernel
theorem dL_lift_3 : decode cL_lift 3 = .ok (.iload_n 2, 1) := by decide +kernel
theorem dL_lift_4 : decode cL_lift 4 = .ok (.iadd, 1) := by decide +kernel
theorem dL_lift_5 : decode cL_lift 5 = .ok (.laload, 1) := by decide +kernel
theorem dL_lift_6 : decode cL_lift 6 = .ok (.l2i, 1) := by decide +kernel
theorem dL_lift_7 : decode cL_lift 7 = .ok (.istore 4, 2) := by decide +kernel
theorem dL_lift_9 : decode cL_lift 9 = .ok (.aload_n 1, 1) := by decide +kernel
theorem dL_lift_10 : decode cL_lift 10 = .ok (.bipush 45, 2) := by decide +kernel
theorem dL_lift_12 : decode cL_lift 12 = .ok (.iload_n 2, 1) := by decide +kernel
theorem dL_lift_13 : decode cL_lift 13 = .ok (.iadd, 1) := by decide +kernel
theorem dL_lift_14 : decode cL_lift 14 = .ok (.dup2, 1) := by decide +kernel
theorem dL_lift_15 : decode cL_lift 15 = .ok (.laload, 1) := by decide +kernel
theorem dL_lift_16 : decode cL_lift 16 = .ok (.lconst 1, 1) := by decide +kernel
theorem dL_lift_17 : decode cL_lift 17 = .ok (.ladd, 1) := by decide +kernel
theorem dL_lift_18 : decode cL_lift 18 = .ok (.lastore, 1) := by decide +kernel
theorem dL_lift_19 : decode cL_lift 19 = .ok (.aload_n 1, 1) := by decide +kernel
theorem dL_lift_20 : decode cL_lift 20 = .ok (.bipush 70, 2) := by decide +kernel
theorem dL_lift_22 : decode cL_lift 22 = .ok (.iload 4, 2) := by decide +kernel
theorem dL_lift_24 : decode cL_lift 24 = .ok (.iadd, 1) := by decide +kernel
theorem dL_lift_25 : decode cL_lift 25 = .ok (.laload, 1) := by decide +kernel
theorem dL_lift_26 : decode cL_lift 26 = .ok (.lconst 0, 1) := by decide +kernel
theorem dL_lift_27 : decode cL_lift 27 = .ok (.lcmp, 1) := by decide +kernel
theorem dL_lift_28 : decode cL_lift 28 = .ok (.ifCond .ne 26, 3) := by decide +kernel
theorem dL_lift_31 : decode cL_lift 31 = .ok (.aload_n 1, 1) := by decide +kernel
theorem dL_lift_32 : decode cL_lift 32 = .ok (.bipush 100, 2) := by decide +kernel
theorem dL_lift_34 : decode cL_lift 34 = .ok (.dup2, 1) := by decide +kernel
theorem dL_lift_35 : decode cL_lift 35 = .ok (.laload, 1) := by decide +kernel
theorem dL_lift_36 : decode cL_lift 36 = .ok (.lconst 1, 1) := by decide +kernel
theorem dL_lift_37 : decode cL_lift 37 = .ok (.iload 4, 2) := by decide +kernel
theorem dL_lift_39 : decode cL_lift 39 = .ok (.lshl, 1) := by decide +kernel
theorem dL_lift_40 : decode cL_lift 40 = .ok (.lor, 1) := by decide +kernel
theorem dL_lift_41 : decode cL_lift 41 = .ok (.lastore, 1) := by decide +kernel
theorem dL_lift_42 : decode cL_lift 42 = .ok (.aload_n 1, 1) := by decide +kernel
theorem dL_lift_43 : decode cL_lift 43 = .ok (.bipush 60, 2) := by decide +kernel
theorem dL_lift_45 : decode cL_lift 45 = .ok (.iload_n 2, 1) := by decide +kernel
theorem dL_lift_46 : decode cL_lift 46 = .ok (.iadd, 1) := by decide +kernel
theorem dL_lift_47 : decode cL_lift 47 = .ok (.ldc2_w 113, 3) := by decide +kernel
theorem dL_lift_50 : decode cL_lift 50 = .ok (.lastore, 1) := by decide +kernel
theorem dL_lift_51 : decode cL_lift 51 = .ok (.goto 129, 3) := by decide +kernel
theorem dL_lift_54 : decode cL_lift 54 = .ok (.aload_n 1, 1) := by decide +kernel
theorem dL_lift_55 : decode cL_lift 55 = .ok (.bipush 80, 2) := by decide +kernel
theorem dL_lift_57 : decode cL_lift 57 = .ok (.iload 4, 2) := by decide +kernel
theorem dL_lift_59 : decode cL_lift 59 = .ok (.iadd, 1) := by decide +kernel
theorem dL_lift_60 : decode cL_lift 60 = .ok (.dup2, 1) := by decide +kernel
theorem dL_lift_61 : decode cL_lift 61 = .ok (.laload, 1) := by decide +kernel
theorem dL_lift_62 : decode cL_lift 62 = .ok (.lconst 1, 1) := by decide +kernel
theorem dL_lift_63 : decode cL_lift 63 = .ok (.ladd, 1) := by decide +kernel
theorem dL_lift_64 : decode cL_lift 64 = .ok (.lastore, 1) := by decide +kernel
theorem dL_lift_65 : decode cL_lift 65 = .ok (.aload_n 1, 1) := by decide +kernel
theorem dL_lift_66 : decode cL_lift 66 = .ok (.bipush 9, 2) := by decide +kernel
theorem dL_lift_68 : decode cL_lift 68 = .ok (.iload 4, 2) := by decide +kernel
theorem dL_lift_70 : decode cL_lift 70 = .ok (.iadd, 1) := by decide +kernel
theorem dL_lift_71 : decode cL_lift 71 = .ok (.laload, 1) := by decide +kernel
theorem dL_lift_72 : decode cL_lift 72 = .ok (.lconst 0, 1) := by decide +kernel
theorem dL_lift_73 : decode cL_lift 73 = .ok (.lcmp, 1) := by decide +kernel
theorem dL_lift_74 : decode cL_lift 74 = .ok (.ifCond .le 39, 3) := by decide +kernel
theorem dL_lift_77 : decode cL_lift 77 = .ok (.aload_n 1, 1) := by decide +kernel
theorem dL_lift_78 : decode cL_lift 78 = .ok (.bipush 80, 2) := by decide +kernel
theorem dL_lift_80 : decode cL_lift 80 = .ok (.iload 4, 2) := by decide +kernel
theorem dL_lift_82 : decode cL_lift 82 = .ok (.iadd, 1) := by decide +kernel
theorem dL_lift_83 : decode cL_lift 83 = .ok (.laload, 1) := by decide +kernel
theorem dL_lift_84 : decode cL_lift 84 = .ok (.aload_n 1, 1) := by decide +kernel
theorem dL_lift_85 : decode cL_lift 85 = .ok (.bipush 9, 2) := by decide +kernel
theorem dL_lift_87 : decode cL_lift 87 = .ok (.iload 4, 2) := by decide +kernel
theorem dL_lift_89 : decode cL_lift 89 = .ok (.iadd, 1) := by decide +kernel
theorem dL_lift_90 : decode cL_lift 90 = .ok (.laload, 1) := by decide +kernel
theorem dL_lift_91 : decode cL_lift 91 = .ok (.lrem, 1) := by decide +kernel
theorem dL_lift_92 : decode cL_lift 92 = .ok (.lconst 0, 1) := by decide +kernel
theorem dL_lift_93 : decode cL_lift 93 = .ok (.lcmp, 1) := by decide +kernel
theorem dL_lift_94 : decode cL_lift 94 = .ok (.ifCond .ne 19, 3) := by decide +kernel
theorem dL_lift_97 : decode cL_lift 97 = .ok (.aload_n 1, 1) := by decide +kernel
theorem dL_lift_98 : decode cL_lift 98 = .ok (.bipush 70, 2) := by decide +kernel
theorem dL_lift_100 : decode cL_lift 100 = .ok (.iload 4, 2) := by decide +kernel
theorem dL_lift_102 : decode cL_lift 102 = .ok (.iadd, 1) := by decide +kernel
theorem dL_lift_103 : decode cL_lift 103 = .ok (.laload, 1) := by decide +kernel
theorem dL_lift_104 : decode cL_lift 104 = .ok (.lconst 1, 1) := by decide +kernel
theorem dL_lift_105 : decode cL_lift 105 = .ok (.lcmp, 1) := by decide +kernel
theorem dL_lift_106 : decode cL_lift 106 = .ok (.ifCond .le 7, 3) := by decide +kernel
theorem dL_lift_109 : decode cL_lift 109 = .ok (.iconst 1, 1) := by decide +kernel
theorem dL_lift_110 : decode cL_lift 110 = .ok (.goto 4, 3) := by decide +kernel
theorem dL_lift_113 : decode cL_lift 113 = .ok (.iconst 0, 1) := by decide +kernel
theorem dL_lift_114 : decode cL_lift 114 = .ok (.istore 5, 2) := by decide +kernel
theorem dL_lift_116 : decode cL_lift 116 = .ok (.aload_n 1, 1) := by decide +kernel
theorem dL_lift_117 : decode cL_lift 117 = .ok (.bipush 70, 2) := by decide +kernel
theorem dL_lift_119 : decode cL_lift 119 = .ok (.iload 4, 2) := by decide +kernel
theorem dL_lift_121 : decode cL_lift 121 = .ok (.iadd, 1) := by decide +kernel
theorem dL_lift_122 : decode cL_lift 122 = .ok (.dup2, 1) := by decide +kernel
theorem dL_lift_123 : decode cL_lift 123 = .ok (.laload, 1) := by decide +kernel
theorem dL_lift_124 : decode cL_lift 124 = .ok (.iload 5, 2) := by decide +kernel
theorem dL_lift_126 : decode cL_lift 126 = .ok (.ifCond .eq 9, 3) := by decide +kernel
theorem dL_lift_129 : decode cL_lift 129 = .ok (.ldc2_w 113, 3) := by decide +kernel
theorem dL_lift_132 : decode cL_lift 132 = .ok (.goto 4, 3) := by decide +kernel
theorem dL_lift_135 : decode cL_lift 135 = .ok (.lconst 1, 1) := by decide +kernel
theorem dL_lift_136 : decode cL_lift 136 = .ok (.lsub, 1) := by decide +kernel
theorem dL_lift_137 : decode cL_lift 137 = .ok (.lastore, 1) := by decide +kernel
theorem dL_lift_138 : decode cL_lift 138 = .ok (.iload 5, 2) := by decide +kernel
theorem dL_lift_140 : decode cL_lift 140 = .ok (.ifCond .eq 19, 3) := by decide +kernel
theorem dL_lift_143 : decode cL_lift 143 = .ok (.aload_n 1, 1) := by decide +kernel
theorem dL_lift_144 : decode cL_lift 144 = .ok (.bipush 60, 2) := by decide +kernel
theorem dL_lift_146 : decode cL_lift 146 = .ok (.iload_n 2, 1) := by decide +kernel
theorem dL_lift_147 : decode cL_lift 147 = .ok (.iadd, 1) := by decide +kernel
theorem dL_lift_148 : decode cL_lift 148 = .ok (.aload_n 1, 1) := by decide +kernel
theorem dL_lift_149 : decode cL_lift 149 = .ok (.bipush 60, 2) := by decide +kernel
theorem dL_lift_151 : decode cL_lift 151 = .ok (.iload_n 2, 1) := by decide +kernel
theorem dL_lift_152 : decode cL_lift 152 = .ok (.iadd, 1) := by decide +kernel
theorem dL_lift_153 : decode cL_lift 153 = .ok (.laload, 1) := by decide +kernel
theorem dL_lift_154 : decode cL_lift 154 = .ok (.lconst 1, 1) := by decide +kernel
theorem dL_lift_155 : decode cL_lift 155 = .ok (.invokestatic 101, 3) := by decide +kernel
theorem dL_lift_158 : decode cL_lift 158 = .ok (.lastore, 1) := by decide +kernel
theorem dL_lift_159 : decode cL_lift 159 = .ok (.aload_n 1, 1) := by decide +kernel
theorem dL_lift_160 : decode cL_lift 160 = .ok (.bipush 70, 2) := by decide +kernel
theorem dL_lift_162 : decode cL_lift 162 = .ok (.iload 4, 2) := by decide +kernel
theorem dL_lift_164 : decode cL_lift 164 = .ok (.iadd, 1) := by decide +kernel
theorem dL_lift_165 : decode cL_lift 165 = .ok (.laload, 1) := by decide +kernel
theorem dL_lift_166 : decode cL_lift 166 = .ok (.lconst 0, 1) := by decide +kernel
theorem dL_lift_167 : decode cL_lift 167 = .ok (.lcmp, 1) := by decide +kernel
theorem dL_lift_168 : decode cL_lift 168 = .ok (.ifCond .ne 12, 3) := by decide +kernel
theorem dL_lift_171 : decode cL_lift 171 = .ok (.aload_n 1, 1) := by decide +kernel
theorem dL_lift_172 : decode cL_lift 172 = .ok (.bipush 90, 2) := by decide +kernel
theorem dL_lift_174 : decode cL_lift 174 = .ok (.iload 4, 2) := by decide +kernel
theorem dL_lift_176 : decode cL_lift 176 = .ok (.iadd, 1) := by decide +kernel
theorem dL_lift_177 : decode cL_lift 177 = .ok (.iload_n 3, 1) := by decide +kernel
theorem dL_lift_178 : decode cL_lift 178 = .ok (.i2l, 1) := by decide +kernel
theorem dL_lift_179 : decode cL_lift 179 = .ok (.lastore, 1) := by decide +kernel
theorem dL_lift_180 : decode cL_lift 180 = .ok (.aload_n 1, 1) := by decide +kernel
theorem dL_lift_181 : decode cL_lift 181 = .ok (.bipush 45, 2) := by decide +kernel
theorem dL_lift_183 : decode cL_lift 183 = .ok (.iload_n 2, 1) := by decide +kernel
theorem dL_lift_184 : decode cL_lift 184 = .ok (.iadd, 1) := by decide +kernel
theorem dL_lift_185 : decode cL_lift 185 = .ok (.laload, 1) := by decide +kernel
theorem dL_lift_186 : decode cL_lift 186 = .ok (.ldc2_w 115, 3) := by decide +kernel
theorem dL_lift_189 : decode cL_lift 189 = .ok (.lcmp, 1) := by decide +kernel
theorem dL_lift_190 : decode cL_lift 190 = .ok (.ifCond .ge 4, 3) := by decide +kernel
theorem dL_lift_193 : decode cL_lift 193 = .ok (.return_, 1) := by decide +kernel
theorem dL_lift_194 : decode cL_lift 194 = .ok (.aload_n 1, 1) := by decide +kernel
theorem dL_lift_195 : decode cL_lift 195 = .ok (.bipush 60, 2) := by decide +kernel
theorem dL_lift_197 : decode cL_lift 197 = .ok (.iload_n 2, 1) := by decide +kernel
theorem dL_lift_198 : decode cL_lift 198 = .ok (.iadd, 1) := by decide +kernel
theorem dL_lift_199 : decode cL_lift 199 = .ok (.laload, 1) := by decide +kernel
theorem dL_lift_200 : decode cL_lift 200 = .ok (.lconst 0, 1) := by decide +kernel
theorem dL_lift_201 : decode cL_lift 201 = .ok (.lcmp, 1) := by decide +kernel
theorem dL_lift_202 : decode cL_lift 202 = .ok (.ifCond .le 45, 3) := by decide +kernel
theorem dL_lift_205 : decode cL_lift 205 = .ok (.aload_n 1, 1) := by decide +kernel
theorem dL_lift_206 : decode cL_lift 206 = .ok (.bipush 110, 2) := by decide +kernel
theorem dL_lift_208 : decode cL_lift 208 = .ok (.aload_n 1, 1) := by decide +kernel
theorem dL_lift_209 : decode cL_lift 209 = .ok (.bipush 101, 2) := by decide +kernel
theorem dL_lift_211 : decode cL_lift 211 = .ok (.laload, 1) := by decide +kernel
theorem dL_lift_212 : decode cL_lift 212 = .ok (.l2i, 1) := by decide +kernel
theorem dL_lift_213 : decode cL_lift 213 = .ok (.bipush 60, 2) := by decide +kernel
theorem dL_lift_215 : decode cL_lift 215 = .ok (.idiv, 1) := by decide +kernel
theorem dL_lift_216 : decode cL_lift 216 = .ok (.iadd, 1) := by decide +kernel
theorem dL_lift_217 : decode cL_lift 217 = .ok (.dup2, 1) := by decide +kernel
theorem dL_lift_218 : decode cL_lift 218 = .ok (.laload, 1) := by decide +kernel
theorem dL_lift_219 : decode cL_lift 219 = .ok (.lconst 1, 1) := by decide +kernel
theorem dL_lift_220 : decode cL_lift 220 = .ok (.aload_n 1, 1) := by decide +kernel
theorem dL_lift_221 : decode cL_lift 221 = .ok (.bipush 101, 2) := by decide +kernel
theorem dL_lift_223 : decode cL_lift 223 = .ok (.laload, 1) := by decide +kernel
theorem dL_lift_224 : decode cL_lift 224 = .ok (.l2i, 1) := by decide +kernel
theorem dL_lift_225 : decode cL_lift 225 = .ok (.bipush 60, 2) := by decide +kernel
theorem dL_lift_227 : decode cL_lift 227 = .ok (.irem, 1) := by decide +kernel
theorem dL_lift_228 : decode cL_lift 228 = .ok (.lshl, 1) := by decide +kernel
theorem dL_lift_229 : decode cL_lift 229 = .ok (.lor, 1) := by decide +kernel
theorem dL_lift_230 : decode cL_lift 230 = .ok (.lastore, 1) := by decide +kernel
theorem dL_lift_231 : decode cL_lift 231 = .ok (.aload_n 1, 1) := by decide +kernel
theorem dL_lift_232 : decode cL_lift 232 = .ok (.bipush 101, 2) := by decide +kernel
theorem dL_lift_234 : decode cL_lift 234 = .ok (.aload_n 1, 1) := by decide +kernel
theorem dL_lift_235 : decode cL_lift 235 = .ok (.bipush 60, 2) := by decide +kernel
theorem dL_lift_237 : decode cL_lift 237 = .ok (.iload_n 2, 1) := by decide +kernel
theorem dL_lift_238 : decode cL_lift 238 = .ok (.iadd, 1) := by decide +kernel
theorem dL_lift_239 : decode cL_lift 239 = .ok (.laload, 1) := by decide +kernel
theorem dL_lift_240 : decode cL_lift 240 = .ok (.l2i, 1) := by decide +kernel
theorem dL_lift_241 : decode cL_lift 241 = .ok (.iadd, 1) := by decide +kernel
theorem dL_lift_242 : decode cL_lift 242 = .ok (.dup2, 1) := by decide +kernel
theorem dL_lift_243 : decode cL_lift 243 = .ok (.laload, 1) := by decide +kernel
theorem dL_lift_244 : decode cL_lift 244 = .ok (.lconst 1, 1) := by decide +kernel
theorem dL_lift_245 : decode cL_lift 245 = .ok (.ladd, 1) := by decide +kernel
theorem dL_lift_246 : decode cL_lift 246 = .ok (.lastore, 1) := by decide +kernel
theorem dL_lift_247 : decode cL_lift 247 = .ok (.aload_n 1, 1) := by decide +kernel
theorem dL_lift_248 : decode cL_lift 248 = .ok (.bipush 101, 2) := by decide +kernel
theorem dL_lift_250 : decode cL_lift 250 = .ok (.dup2, 1) := by decide +kernel
theorem dL_lift_251 : decode cL_lift 251 = .ok (.laload, 1) := by decide +kernel
theorem dL_lift_252 : decode cL_lift 252 = .ok (.lconst 1, 1) := by decide +kernel
theorem dL_lift_253 : decode cL_lift 253 = .ok (.ladd, 1) := by decide +kernel
theorem dL_lift_254 : decode cL_lift 254 = .ok (.lastore, 1) := by decide +kernel
theorem dL_lift_255 : decode cL_lift 255 = .ok (.aload_n 1, 1) := by decide +kernel
theorem dL_lift_256 : decode cL_lift 256 = .ok (.bipush 101, 2) := by decide +kernel
theorem dL_lift_258 : decode cL_lift 258 = .ok (.laload, 1) := by decide +kernel
theorem dL_lift_259 : decode cL_lift 259 = .ok (.aload_n 0, 1) := by decide +kernel
theorem dL_lift_260 : decode cL_lift 260 = .ok (.invokestatic 37, 3) := by decide +kernel
theorem dL_lift_263 : decode cL_lift 263 = .ok (.i2l, 1) := by decide +kernel
theorem dL_lift_264 : decode cL_lift 264 = .ok (.lcmp, 1) := by decide +kernel
theorem dL_lift_265 : decode cL_lift 265 = .ok (.ifCond .ne 9, 3) := by decide +kernel
theorem dL_lift_268 : decode cL_lift 268 = .ok (.aload_n 1, 1) := by decide +kernel
theorem dL_lift_269 : decode cL_lift 269 = .ok (.bipush 104, 2) := by decide +kernel
theorem dL_lift_271 : decode cL_lift 271 = .ok (.iload_n 3, 1) := by decide +kernel
theorem dL_lift_272 : decode cL_lift 272 = .ok (.i2l, 1) := by decide +kernel
theorem dL_lift_273 : decode cL_lift 273 = .ok (.lastore, 1) := by decide +kernel
theorem dL_lift_274 : decode cL_lift 274 = .ok (.aload_n 1, 1) := by decide +kernel
theorem dL_lift_275 : decode cL_lift 275 = .ok (.bipush 50, 2) := by decide +kernel
theorem dL_lift_277 : decode cL_lift 277 = .ok (.iload_n 2, 1) := by decide +kernel
theorem dL_lift_278 : decode cL_lift 278 = .ok (.iadd, 1) := by decide +kernel
theorem dL_lift_279 : decode cL_lift 279 = .ok (.dup2, 1) := by decide +kernel
theorem dL_lift_280 : decode cL_lift 280 = .ok (.laload, 1) := by decide +kernel
theorem dL_lift_281 : decode cL_lift 281 = .ok (.lconst 1, 1) := by decide +kernel
theorem dL_lift_282 : decode cL_lift 282 = .ok (.ladd, 1) := by decide +kernel
theorem dL_lift_283 : decode cL_lift 283 = .ok (.lastore, 1) := by decide +kernel
theorem dL_lift_284 : decode cL_lift 284 = .ok (.aload_n 1, 1) := by decide +kernel
theorem dL_lift_285 : decode cL_lift 285 = .ok (.bipush 45, 2) := by decide +kernel
theorem dL_lift_287 : decode cL_lift 287 = .ok (.iload_n 2, 1) := by decide +kernel
theorem dL_lift_288 : decode cL_lift 288 = .ok (.iadd, 1) := by decide +kernel
theorem dL_lift_289 : decode cL_lift 289 = .ok (.lconst 0, 1) := by decide +kernel
theorem dL_lift_290 : decode cL_lift 290 = .ok (.lastore, 1) := by decide +kernel
theorem dL_lift_291 : decode cL_lift 291 = .ok (.aload_n 1, 1) := by decide +kernel
theorem dL_lift_292 : decode cL_lift 292 = .ok (.bipush 60, 2) := by decide +kernel
theorem dL_lift_294 : decode cL_lift 294 = .ok (.iload_n 2, 1) := by decide +kernel
theorem dL_lift_295 : decode cL_lift 295 = .ok (.iadd, 1) := by decide +kernel
theorem dL_lift_296 : decode cL_lift 296 = .ok (.lconst 0, 1) := by decide +kernel
theorem dL_lift_297 : decode cL_lift 297 = .ok (.lastore, 1) := by decide +kernel
theorem dL_lift_298 : decode cL_lift 298 = .ok (.return_, 1) := by decide +kernel
theorem dL_second_0 : decode cL_second 0 = .ok (.iconst 0, 1) := by decide +kernel
theorem dL_second_1 : decode cL_second 1 = .ok (.istore 5, 2) := by decide +kernel
theorem dL_second_3 : decode cL_second 3 = .ok (.iload 5, 2) := by decide +kernel
theorem dL_second_5 : decode cL_second 5 = .ok (.iload_n 3, 1) := by decide +kernel
theorem dL_second_6 : decode cL_second 6 = .ok (.if_icmp .ge 324, 3) := by decide +kernel
theorem dL_second_9 : decode cL_second 9 = .ok (.iload_n 2, 1) := by decide +kernel
theorem dL_second_10 : decode cL_second 10 = .ok (.iconst 3, 1) := by decide +kernel
theorem dL_second_11 : decode cL_second 11 = .ok (.iload 5, 2) := by decide +kernel
theorem dL_second_13 : decode cL_second 13 = .ok (.imul, 1) := by decide +kernel
theorem dL_second_14 : decode cL_second 14 = .ok (.ishr, 1) := by decide +kernel
theorem dL_second_15 : decode cL_second 15 = .ok (.bipush 7, 2) := by decide +kernel
theorem dL_second_17 : decode cL_second 17 = .ok (.iand, 1) := by decide +kernel
theorem dL_second_18 : decode cL_second 18 = .ok (.istore 6, 2) := by decide +kernel
theorem dL_second_20 : decode cL_second 20 = .ok (.aload_n 1, 1) := by decide +kernel
theorem dL_second_21 : decode cL_second 21 = .ok (.bipush 35, 2) := by decide +kernel
theorem dL_second_23 : decode cL_second 23 = .ok (.iload 6, 2) := by decide +kernel
theorem dL_second_25 : decode cL_second 25 = .ok (.iadd, 1) := by decide +kernel
theorem dL_second_26 : decode cL_second 26 = .ok (.laload, 1) := by decide +kernel
theorem dL_second_27 : decode cL_second 27 = .ok (.ldc2_w 113, 3) := by decide +kernel
theorem dL_second_30 : decode cL_second 30 = .ok (.lcmp, 1) := by decide +kernel
theorem dL_second_31 : decode cL_second 31 = .ok (.ifCond .ne 97, 3) := by decide +kernel
theorem dL_second_34 : decode cL_second 34 = .ok (.aload_n 1, 1) := by decide +kernel
theorem dL_second_35 : decode cL_second 35 = .ok (.bipush 40, 2) := by decide +kernel
theorem dL_second_37 : decode cL_second 37 = .ok (.iload 6, 2) := by decide +kernel
theorem dL_second_39 : decode cL_second 39 = .ok (.iadd, 1) := by decide +kernel
theorem dL_second_40 : decode cL_second 40 = .ok (.dup2, 1) := by decide +kernel
theorem dL_second_41 : decode cL_second 41 = .ok (.laload, 1) := by decide +kernel
theorem dL_second_42 : decode cL_second 42 = .ok (.lconst 1, 1) := by decide +kernel
theorem dL_second_43 : decode cL_second 43 = .ok (.lsub, 1) := by decide +kernel
theorem dL_second_44 : decode cL_second 44 = .ok (.lastore, 1) := by decide +kernel
theorem dL_second_45 : decode cL_second 45 = .ok (.aload_n 1, 1) := by decide +kernel
theorem dL_second_46 : decode cL_second 46 = .ok (.bipush 40, 2) := by decide +kernel
theorem dL_second_48 : decode cL_second 48 = .ok (.iload 6, 2) := by decide +kernel
theorem dL_second_50 : decode cL_second 50 = .ok (.iadd, 1) := by decide +kernel
theorem dL_second_51 : decode cL_second 51 = .ok (.laload, 1) := by decide +kernel
theorem dL_second_52 : decode cL_second 52 = .ok (.lconst 0, 1) := by decide +kernel
theorem dL_second_53 : decode cL_second 53 = .ok (.lcmp, 1) := by decide +kernel
theorem dL_second_54 : decode cL_second 54 = .ok (.ifCond .le 6, 3) := by decide +kernel
theorem dL_second_57 : decode cL_second 57 = .ok (.goto 267, 3) := by decide +kernel
theorem dL_second_60 : decode cL_second 60 = .ok (.aload_n 0, 1) := by decide +kernel
theorem dL_second_61 : decode cL_second 61 = .ok (.aload_n 1, 1) := by decide +kernel
theorem dL_second_62 : decode cL_second 62 = .ok (.iload 6, 2) := by decide +kernel
theorem dL_second_64 : decode cL_second 64 = .ok (.iload 4, 2) := by decide +kernel
theorem dL_second_66 : decode cL_second 66 = .ok (.invokestatic 117, 3) := by decide +kernel
theorem dL_second_69 : decode cL_second 69 = .ok (.aload_n 1, 1) := by decide +kernel
theorem dL_second_70 : decode cL_second 70 = .ok (.bipush 40, 2) := by decide +kernel
theorem dL_second_72 : decode cL_second 72 = .ok (.iload 6, 2) := by decide +kernel
theorem dL_second_74 : decode cL_second 74 = .ok (.iadd, 1) := by decide +kernel
theorem dL_second_75 : decode cL_second 75 = .ok (.aload_n 0, 1) := by decide +kernel
theorem dL_second_76 : decode cL_second 76 = .ok (.aload_n 1, 1) := by decide +kernel
theorem dL_second_77 : decode cL_second 77 = .ok (.iload 6, 2) := by decide +kernel
theorem dL_second_79 : decode cL_second 79 = .ok (.aload_n 1, 1) := by decide +kernel
theorem dL_second_80 : decode cL_second 80 = .ok (.bipush 70, 2) := by decide +kernel
theorem dL_second_82 : decode cL_second 82 = .ok (.aload_n 1, 1) := by decide +kernel
theorem dL_second_83 : decode cL_second 83 = .ok (.bipush 30, 2) := by decide +kernel
theorem dL_second_85 : decode cL_second 85 = .ok (.iload 6, 2) := by decide +kernel
theorem dL_second_87 : decode cL_second 87 = .ok (.iadd, 1) := by decide +kernel
theorem dL_second_88 : decode cL_second 88 = .ok (.laload, 1) := by decide +kernel
theorem dL_second_89 : decode cL_second 89 = .ok (.l2i, 1) := by decide +kernel
theorem dL_second_90 : decode cL_second 90 = .ok (.iadd, 1) := by decide +kernel
theorem dL_second_91 : decode cL_second 91 = .ok (.laload, 1) := by decide +kernel
theorem dL_second_92 : decode cL_second 92 = .ok (.invokestatic 121, 3) := by decide +kernel
theorem dL_second_95 : decode cL_second 95 = .ok (.i2l, 1) := by decide +kernel
theorem dL_second_96 : decode cL_second 96 = .ok (.lastore, 1) := by decide +kernel
theorem dL_second_97 : decode cL_second 97 = .ok (.aload_n 1, 1) := by decide +kernel
theorem dL_second_98 : decode cL_second 98 = .ok (.bipush 30, 2) := by decide +kernel
theorem dL_second_100 : decode cL_second 100 = .ok (.iload 6, 2) := by decide +kernel
theorem dL_second_102 : decode cL_second 102 = .ok (.iadd, 1) := by decide +kernel
theorem dL_second_103 : decode cL_second 103 = .ok (.aload_n 1, 1) := by decide +kernel
theorem dL_second_104 : decode cL_second 104 = .ok (.bipush 30, 2) := by decide +kernel
theorem dL_second_106 : decode cL_second 106 = .ok (.iload 6, 2) := by decide +kernel
theorem dL_second_108 : decode cL_second 108 = .ok (.iadd, 1) := by decide +kernel
theorem dL_second_109 : decode cL_second 109 = .ok (.laload, 1) := by decide +kernel
theorem dL_second_110 : decode cL_second 110 = .ok (.lconst 1, 1) := by decide +kernel
theorem dL_second_111 : decode cL_second 111 = .ok (.ladd, 1) := by decide +kernel
theorem dL_second_112 : decode cL_second 112 = .ok (.ldc2_w 115, 3) := by decide +kernel
theorem dL_second_115 : decode cL_second 115 = .ok (.lrem, 1) := by decide +kernel
theorem dL_second_116 : decode cL_second 116 = .ok (.lastore, 1) := by decide +kernel
theorem dL_second_117 : decode cL_second 117 = .ok (.aload_n 1, 1) := by decide +kernel
theorem dL_second_118 : decode cL_second 118 = .ok (.bipush 35, 2) := by decide +kernel
theorem dL_second_120 : decode cL_second 120 = .ok (.iload 6, 2) := by decide +kernel
theorem dL_second_122 : decode cL_second 122 = .ok (.iadd, 1) := by decide +kernel
theorem dL_second_123 : decode cL_second 123 = .ok (.lconst 0, 1) := by decide +kernel
theorem dL_second_124 : decode cL_second 124 = .ok (.lastore, 1) := by decide +kernel
theorem dL_second_125 : decode cL_second 125 = .ok (.goto 199, 3) := by decide +kernel
theorem dL_second_128 : decode cL_second 128 = .ok (.aload_n 1, 1) := by decide +kernel
theorem dL_second_129 : decode cL_second 129 = .ok (.bipush 35, 2) := by decide +kernel
theorem dL_second_131 : decode cL_second 131 = .ok (.iload 6, 2) := by decide +kernel
theorem dL_second_133 : decode cL_second 133 = .ok (.iadd, 1) := by decide +kernel
theorem dL_second_134 : decode cL_second 134 = .ok (.laload, 1) := by decide +kernel
theorem dL_second_135 : decode cL_second 135 = .ok (.lconst 0, 1) := by decide +kernel
theorem dL_second_136 : decode cL_second 136 = .ok (.lcmp, 1) := by decide +kernel
theorem dL_second_137 : decode cL_second 137 = .ok (.ifCond .ne 37, 3) := by decide +kernel
theorem dL_second_140 : decode cL_second 140 = .ok (.aload_n 1, 1) := by decide +kernel
theorem dL_second_141 : decode cL_second 141 = .ok (.bipush 40, 2) := by decide +kernel
theorem dL_second_143 : decode cL_second 143 = .ok (.iload 6, 2) := by decide +kernel
theorem dL_second_145 : decode cL_second 145 = .ok (.iadd, 1) := by decide +kernel
theorem dL_second_146 : decode cL_second 146 = .ok (.dup2, 1) := by decide +kernel
theorem dL_second_147 : decode cL_second 147 = .ok (.laload, 1) := by decide +kernel
theorem dL_second_148 : decode cL_second 148 = .ok (.lconst 1, 1) := by decide +kernel
theorem dL_second_149 : decode cL_second 149 = .ok (.lsub, 1) := by decide +kernel
theorem dL_second_150 : decode cL_second 150 = .ok (.lastore, 1) := by decide +kernel
theorem dL_second_151 : decode cL_second 151 = .ok (.aload_n 1, 1) := by decide +kernel
theorem dL_second_152 : decode cL_second 152 = .ok (.bipush 40, 2) := by decide +kernel
theorem dL_second_154 : decode cL_second 154 = .ok (.iload 6, 2) := by decide +kernel
theorem dL_second_156 : decode cL_second 156 = .ok (.iadd, 1) := by decide +kernel
theorem dL_second_157 : decode cL_second 157 = .ok (.laload, 1) := by decide +kernel
theorem dL_second_158 : decode cL_second 158 = .ok (.lconst 0, 1) := by decide +kernel
theorem dL_second_159 : decode cL_second 159 = .ok (.lcmp, 1) := by decide +kernel
theorem dL_second_160 : decode cL_second 160 = .ok (.ifCond .le 6, 3) := by decide +kernel
theorem dL_second_163 : decode cL_second 163 = .ok (.goto 161, 3) := by decide +kernel
theorem dL_second_166 : decode cL_second 166 = .ok (.aload_n 1, 1) := by decide +kernel
theorem dL_second_167 : decode cL_second 167 = .ok (.bipush 35, 2) := by decide +kernel
theorem dL_second_169 : decode cL_second 169 = .ok (.iload 6, 2) := by decide +kernel
theorem dL_second_171 : decode cL_second 171 = .ok (.iadd, 1) := by decide +kernel
theorem dL_second_172 : decode cL_second 172 = .ok (.lconst 1, 1) := by decide +kernel
theorem dL_second_173 : decode cL_second 173 = .ok (.lastore, 1) := by decide +kernel
theorem dL_second_174 : decode cL_second 174 = .ok (.iconst 0, 1) := by decide +kernel
theorem dL_second_175 : decode cL_second 175 = .ok (.istore 7, 2) := by decide +kernel
theorem dL_second_177 : decode cL_second 177 = .ok (.iconst 0, 1) := by decide +kernel
theorem dL_second_178 : decode cL_second 178 = .ok (.istore 8, 2) := by decide +kernel
theorem dL_second_180 : decode cL_second 180 = .ok (.iload 8, 2) := by decide +kernel
theorem dL_second_182 : decode cL_second 182 = .ok (.iload_n 3, 1) := by decide +kernel
theorem dL_second_183 : decode cL_second 183 = .ok (.if_icmp .ge 69, 3) := by decide +kernel
theorem dL_second_186 : decode cL_second 186 = .ok (.iload_n 2, 1) := by decide +kernel
theorem dL_second_187 : decode cL_second 187 = .ok (.iconst 3, 1) := by decide +kernel
theorem dL_second_188 : decode cL_second 188 = .ok (.iload 8, 2) := by decide +kernel
theorem dL_second_190 : decode cL_second 190 = .ok (.imul, 1) := by decide +kernel
theorem dL_second_191 : decode cL_second 191 = .ok (.ishr, 1) := by decide +kernel
theorem dL_second_192 : decode cL_second 192 = .ok (.bipush 7, 2) := by decide +kernel
theorem dL_second_194 : decode cL_second 194 = .ok (.iand, 1) := by decide +kernel
theorem dL_second_195 : decode cL_second 195 = .ok (.istore 9, 2) := by decide +kernel
theorem dL_second_197 : decode cL_second 197 = .ok (.iload 7, 2) := by decide +kernel
theorem dL_second_199 : decode cL_second 199 = .ok (.iload 9, 2) := by decide +kernel
theorem dL_second_201 : decode cL_second 201 = .ok (.iload 6, 2) := by decide +kernel
theorem dL_second_203 : decode cL_second 203 = .ok (.if_icmp .eq 39, 3) := by decide +kernel
theorem dL_second_206 : decode cL_second 206 = .ok (.aload_n 1, 1) := by decide +kernel
theorem dL_second_207 : decode cL_second 207 = .ok (.bipush 35, 2) := by decide +kernel
theorem dL_second_209 : decode cL_second 209 = .ok (.iload 9, 2) := by decide +kernel
theorem dL_second_211 : decode cL_second 211 = .ok (.iadd, 1) := by decide +kernel
theorem dL_second_212 : decode cL_second 212 = .ok (.laload, 1) := by decide +kernel
theorem dL_second_213 : decode cL_second 213 = .ok (.ldc2_w 113, 3) := by decide +kernel
theorem dL_second_216 : decode cL_second 216 = .ok (.lcmp, 1) := by decide +kernel
theorem dL_second_217 : decode cL_second 217 = .ok (.ifCond .ne 25, 3) := by decide +kernel
theorem dL_second_220 : decode cL_second 220 = .ok (.aload_n 1, 1) := by decide +kernel
theorem dL_second_221 : decode cL_second 221 = .ok (.bipush 30, 2) := by decide +kernel
theorem dL_second_223 : decode cL_second 223 = .ok (.iload 9, 2) := by decide +kernel
theorem dL_second_225 : decode cL_second 225 = .ok (.iadd, 1) := by decide +kernel
theorem dL_second_226 : decode cL_second 226 = .ok (.laload, 1) := by decide +kernel
theorem dL_second_227 : decode cL_second 227 = .ok (.aload_n 1, 1) := by decide +kernel
theorem dL_second_228 : decode cL_second 228 = .ok (.bipush 30, 2) := by decide +kernel
theorem dL_second_230 : decode cL_second 230 = .ok (.iload 6, 2) := by decide +kernel
theorem dL_second_232 : decode cL_second 232 = .ok (.iadd, 1) := by decide +kernel
theorem dL_second_233 : decode cL_second 233 = .ok (.laload, 1) := by decide +kernel
theorem dL_second_234 : decode cL_second 234 = .ok (.lcmp, 1) := by decide +kernel
theorem dL_second_235 : decode cL_second 235 = .ok (.ifCond .ne 7, 3) := by decide +kernel
theorem dL_second_238 : decode cL_second 238 = .ok (.iconst 1, 1) := by decide +kernel
theorem dL_second_239 : decode cL_second 239 = .ok (.goto 4, 3) := by decide +kernel
theorem dL_second_242 : decode cL_second 242 = .ok (.iconst 0, 1) := by decide +kernel
theorem dL_second_243 : decode cL_second 243 = .ok (.ior, 1) := by decide +kernel
theorem dL_second_244 : decode cL_second 244 = .ok (.istore 7, 2) := by decide +kernel
theorem dL_second_246 : decode cL_second 246 = .ok (.iinc 8 1, 3) := by decide +kernel
theorem dL_second_249 : decode cL_second 249 = .ok (.goto (-69), 3) := by decide +kernel
theorem dL_second_252 : decode cL_second 252 = .ok (.iload 7, 2) := by decide +kernel
theorem dL_second_254 : decode cL_second 254 = .ok (.ifCond .eq 31, 3) := by decide +kernel
theorem dL_second_257 : decode cL_second 257 = .ok (.aload_n 1, 1) := by decide +kernel
theorem dL_second_258 : decode cL_second 258 = .ok (.bipush 20, 2) := by decide +kernel
theorem dL_second_260 : decode cL_second 260 = .ok (.iload 6, 2) := by decide +kernel
theorem dL_second_262 : decode cL_second 262 = .ok (.iadd, 1) := by decide +kernel
theorem dL_second_263 : decode cL_second 263 = .ok (.laload, 1) := by decide +kernel
theorem dL_second_264 : decode cL_second 264 = .ok (.ldc2_w 125, 3) := by decide +kernel
theorem dL_second_267 : decode cL_second 267 = .ok (.lcmp, 1) := by decide +kernel
theorem dL_second_268 : decode cL_second 268 = .ok (.ifCond .eq 17, 3) := by decide +kernel
theorem dL_second_271 : decode cL_second 271 = .ok (.aload_n 1, 1) := by decide +kernel
theorem dL_second_272 : decode cL_second 272 = .ok (.bipush 55, 2) := by decide +kernel
theorem dL_second_274 : decode cL_second 274 = .ok (.iload 6, 2) := by decide +kernel
theorem dL_second_276 : decode cL_second 276 = .ok (.iadd, 1) := by decide +kernel
theorem dL_second_277 : decode cL_second 277 = .ok (.dup2, 1) := by decide +kernel
theorem dL_second_278 : decode cL_second 278 = .ok (.laload, 1) := by decide +kernel
theorem dL_second_279 : decode cL_second 279 = .ok (.lconst 1, 1) := by decide +kernel
theorem dL_second_280 : decode cL_second 280 = .ok (.ladd, 1) := by decide +kernel
theorem dL_second_281 : decode cL_second 281 = .ok (.lastore, 1) := by decide +kernel
theorem dL_second_282 : decode cL_second 282 = .ok (.goto 42, 3) := by decide +kernel
theorem dL_second_285 : decode cL_second 285 = .ok (.aload_n 1, 1) := by decide +kernel
theorem dL_second_286 : decode cL_second 286 = .ok (.bipush 35, 2) := by decide +kernel
theorem dL_second_288 : decode cL_second 288 = .ok (.iload 6, 2) := by decide +kernel
theorem dL_second_290 : decode cL_second 290 = .ok (.iadd, 1) := by decide +kernel
theorem dL_second_291 : decode cL_second 291 = .ok (.ldc2_w 113, 3) := by decide +kernel
theorem dL_second_294 : decode cL_second 294 = .ok (.lastore, 1) := by decide +kernel
theorem dL_second_295 : decode cL_second 295 = .ok (.aload_n 1, 1) := by decide +kernel
theorem dL_second_296 : decode cL_second 296 = .ok (.bipush 40, 2) := by decide +kernel
theorem dL_second_298 : decode cL_second 298 = .ok (.iload 6, 2) := by decide +kernel
theorem dL_second_300 : decode cL_second 300 = .ok (.iadd, 1) := by decide +kernel
theorem dL_second_301 : decode cL_second 301 = .ok (.aload_n 0, 1) := by decide +kernel
theorem dL_second_302 : decode cL_second 302 = .ok (.aload_n 1, 1) := by decide +kernel
theorem dL_second_303 : decode cL_second 303 = .ok (.iload 6, 2) := by decide +kernel
theorem dL_second_305 : decode cL_second 305 = .ok (.aload_n 1, 1) := by decide +kernel
theorem dL_second_306 : decode cL_second 306 = .ok (.bipush 30, 2) := by decide +kernel
theorem dL_second_308 : decode cL_second 308 = .ok (.iload 6, 2) := by decide +kernel
theorem dL_second_310 : decode cL_second 310 = .ok (.iadd, 1) := by decide +kernel
theorem dL_second_311 : decode cL_second 311 = .ok (.laload, 1) := by decide +kernel
theorem dL_second_312 : decode cL_second 312 = .ok (.aload_n 1, 1) := by decide +kernel
theorem dL_second_313 : decode cL_second 313 = .ok (.bipush 50, 2) := by decide +kernel
theorem dL_second_315 : decode cL_second 315 = .ok (.iload 6, 2) := by decide +kernel
theorem dL_second_317 : decode cL_second 317 = .ok (.iadd, 1) := by decide +kernel
theorem dL_second_318 : decode cL_second 318 = .ok (.laload, 1) := by decide +kernel
theorem dL_second_319 : decode cL_second 319 = .ok (.invokestatic 127, 3) := by decide +kernel
theorem dL_second_322 : decode cL_second 322 = .ok (.i2l, 1) := by decide +kernel
theorem dL_second_323 : decode cL_second 323 = .ok (.lastore, 1) := by decide +kernel
theorem dL_second_324 : decode cL_second 324 = .ok (.iinc 5 1, 3) := by decide +kernel
theorem dL_second_327 : decode cL_second 327 = .ok (.goto (-324), 3) := by decide +kernel
theorem dL_second_330 : decode cL_second 330 = .ok (.return_, 1) := by decide +kernel
theorem dL_go_0 : decode cL_go 0 = .ok (.aload_n 1, 1) := by decide +kernel
theorem dL_go_1 : decode cL_go 1 = .ok (.invokestatic 131, 3) := by decide +kernel
theorem dL_go_4 : decode cL_go 4 = .ok (.iconst 0, 1) := by decide +kernel
theorem dL_go_5 : decode cL_go 5 = .ok (.istore 5, 2) := by decide +kernel
theorem dL_go_7 : decode cL_go 7 = .ok (.iload 5, 2) := by decide +kernel
theorem dL_go_9 : decode cL_go 9 = .ok (.iload 4, 2) := by decide +kernel
theorem dL_go_11 : decode cL_go 11 = .ok (.if_icmp .ge 18, 3) := by decide +kernel
theorem dL_go_14 : decode cL_go 14 = .ok (.aload_n 0, 1) := by decide +kernel
theorem dL_go_15 : decode cL_go 15 = .ok (.aload_n 1, 1) := by decide +kernel
theorem dL_go_16 : decode cL_go 16 = .ok (.iload_n 2, 1) := by decide +kernel
theorem dL_go_17 : decode cL_go 17 = .ok (.iload_n 3, 1) := by decide +kernel
theorem dL_go_18 : decode cL_go 18 = .ok (.iload 5, 2) := by decide +kernel
theorem dL_go_20 : decode cL_go 20 = .ok (.invokestatic 135, 3) := by decide +kernel
theorem dL_go_23 : decode cL_go 23 = .ok (.iinc 5 1, 3) := by decide +kernel
theorem dL_go_26 : decode cL_go 26 = .ok (.goto (-19), 3) := by decide +kernel
theorem dL_go_29 : decode cL_go 29 = .ok (.aload_n 1, 1) := by decide +kernel
theorem dL_go_30 : decode cL_go 30 = .ok (.bipush 101, 2) := by decide +kernel
theorem dL_go_32 : decode cL_go 32 = .ok (.laload, 1) := by decide +kernel
theorem dL_go_33 : decode cL_go 33 = .ok (.l2i, 1) := by decide +kernel
theorem dL_go_34 : decode cL_go 34 = .ok (.ireturn, 1) := by decide +kernel
theorem dL_plainly_0 : decode cL_plainly 0 = .ok (.iconst 0, 1) := by decide +kernel
theorem dL_plainly_1 : decode cL_plainly 1 = .ok (.istore 4, 2) := by decide +kernel
theorem dL_plainly_3 : decode cL_plainly 3 = .ok (.iconst 0, 1) := by decide +kernel
theorem dL_plainly_4 : decode cL_plainly 4 = .ok (.istore 5, 2) := by decide +kernel
theorem dL_plainly_6 : decode cL_plainly 6 = .ok (.iconst 0, 1) := by decide +kernel
theorem dL_plainly_7 : decode cL_plainly 7 = .ok (.istore 6, 2) := by decide +kernel
theorem dL_plainly_9 : decode cL_plainly 9 = .ok (.iload 6, 2) := by decide +kernel
theorem dL_plainly_11 : decode cL_plainly 11 = .ok (.aload_n 0, 1) := by decide +kernel
theorem dL_plainly_12 : decode cL_plainly 12 = .ok (.invokestatic 41, 3) := by decide +kernel
theorem dL_plainly_15 : decode cL_plainly 15 = .ok (.if_icmp .ge 33, 3) := by decide +kernel
theorem dL_plainly_18 : decode cL_plainly 18 = .ok (.iload 6, 2) := by decide +kernel
theorem dL_plainly_20 : decode cL_plainly 20 = .ok (.iload_n 2, 1) := by decide +kernel
theorem dL_plainly_21 : decode cL_plainly 21 = .ok (.if_icmp .ne 6, 3) := by decide +kernel
theorem dL_plainly_24 : decode cL_plainly 24 = .ok (.goto 18, 3) := by decide +kernel
theorem dL_plainly_27 : decode cL_plainly 27 = .ok (.iload 4, 2) := by decide +kernel
theorem dL_plainly_29 : decode cL_plainly 29 = .ok (.iload 6, 2) := by decide +kernel
theorem dL_plainly_31 : decode cL_plainly 31 = .ok (.iconst 3, 1) := by decide +kernel
theorem dL_plainly_32 : decode cL_plainly 32 = .ok (.iload 5, 2) := by decide +kernel
theorem dL_plainly_34 : decode cL_plainly 34 = .ok (.imul, 1) := by decide +kernel
theorem dL_plainly_35 : decode cL_plainly 35 = .ok (.ishl, 1) := by decide +kernel
theorem dL_plainly_36 : decode cL_plainly 36 = .ok (.ior, 1) := by decide +kernel
theorem dL_plainly_37 : decode cL_plainly 37 = .ok (.istore 4, 2) := by decide +kernel
theorem dL_plainly_39 : decode cL_plainly 39 = .ok (.iinc 5 1, 3) := by decide +kernel
theorem dL_plainly_42 : decode cL_plainly 42 = .ok (.iinc 6 1, 3) := by decide +kernel
theorem dL_plainly_45 : decode cL_plainly 45 = .ok (.goto (-36), 3) := by decide +kernel
theorem dL_plainly_48 : decode cL_plainly 48 = .ok (.aload_n 0, 1) := by decide +kernel
theorem dL_plainly_49 : decode cL_plainly 49 = .ok (.aload_n 1, 1) := by decide +kernel
theorem dL_plainly_50 : decode cL_plainly 50 = .ok (.iload 4, 2) := by decide +kernel
theorem dL_plainly_52 : decode cL_plainly 52 = .ok (.iload 5, 2) := by decide +kernel
theorem dL_plainly_54 : decode cL_plainly 54 = .ok (.iload_n 3, 1) := by decide +kernel
theorem dL_plainly_55 : decode cL_plainly 55 = .ok (.invokestatic 139, 3) := by decide +kernel
theorem dL_plainly_58 : decode cL_plainly 58 = .ok (.ireturn, 1) := by decide +kernel
theorem dL_law_0 : decode cL_law 0 = .ok (.aload_n 0, 1) := by decide +kernel
theorem dL_law_1 : decode cL_law 1 = .ok (.invokestatic 143, 3) := by decide +kernel
theorem dL_law_4 : decode cL_law 4 = .ok (.astore_n 1, 1) := by decide +kernel
theorem dL_law_5 : decode cL_law 5 = .ok (.sipush 130, 3) := by decide +kernel
theorem dL_law_8 : decode cL_law 8 = .ok (.newarray .long, 2) := by decide +kernel
theorem dL_law_10 : decode cL_law 10 = .ok (.astore_n 2, 1) := by decide +kernel
theorem dL_law_11 : decode cL_law 11 = .ok (.aload_n 0, 1) := by decide +kernel
theorem dL_law_12 : decode cL_law 12 = .ok (.aload_n 2, 1) := by decide +kernel
theorem dL_law_13 : decode cL_law 13 = .ok (.invokestatic 147, 3) := by decide +kernel
theorem dL_law_16 : decode cL_law 16 = .ok (.aload_n 0, 1) := by decide +kernel
theorem dL_law_17 : decode cL_law 17 = .ok (.invokestatic 41, 3) := by decide +kernel
theorem dL_law_20 : decode cL_law 20 = .ok (.istore_n 3, 1) := by decide +kernel
theorem dL_law_21 : decode cL_law 21 = .ok (.aload_n 0, 1) := by decide +kernel
theorem dL_law_22 : decode cL_law 22 = .ok (.bipush 8, 2) := by decide +kernel
theorem dL_law_24 : decode cL_law 24 = .ok (.invokestatic 69, 3) := by decide +kernel
theorem dL_law_27 : decode cL_law 27 = .ok (.sipush 1023, 3) := by decide +kernel
theorem dL_law_30 : decode cL_law 30 = .ok (.iand, 1) := by decide +kernel
theorem dL_law_31 : decode cL_law 31 = .ok (.sipush 601, 3) := by decide +kernel
theorem dL_law_34 : decode cL_law 34 = .ok (.irem, 1) := by decide +kernel
theorem dL_law_35 : decode cL_law 35 = .ok (.istore 4, 2) := by decide +kernel
theorem dL_law_37 : decode cL_law 37 = .ok (.aload_n 0, 1) := by decide +kernel
theorem dL_law_38 : decode cL_law 38 = .ok (.aload_n 2, 1) := by decide +kernel
theorem dL_law_39 : decode cL_law 39 = .ok (.bipush 9, 2) := by decide +kernel
theorem dL_law_41 : decode cL_law 41 = .ok (.iload 4, 2) := by decide +kernel
theorem dL_law_43 : decode cL_law 43 = .ok (.invokestatic 151, 3) := by decide +kernel
theorem dL_law_46 : decode cL_law 46 = .ok (.pop, 1) := by decide +kernel
theorem dL_law_47 : decode cL_law 47 = .ok (.iconst 0, 1) := by decide +kernel
theorem dL_law_48 : decode cL_law 48 = .ok (.istore 5, 2) := by decide +kernel
theorem dL_law_50 : decode cL_law 50 = .ok (.lconst 0, 1) := by decide +kernel
theorem dL_law_51 : decode cL_law 51 = .ok (.lstore 6, 2) := by decide +kernel
theorem dL_law_53 : decode cL_law 53 = .ok (.iconst 0, 1) := by decide +kernel
theorem dL_law_54 : decode cL_law 54 = .ok (.istore 8, 2) := by decide +kernel
theorem dL_law_56 : decode cL_law 56 = .ok (.iload 8, 2) := by decide +kernel
theorem dL_law_58 : decode cL_law 58 = .ok (.iload_n 3, 1) := by decide +kernel
theorem dL_law_59 : decode cL_law 59 = .ok (.if_icmp .ge 272, 3) := by decide +kernel
theorem dL_law_62 : decode cL_law 62 = .ok (.aload_n 1, 1) := by decide +kernel
theorem dL_law_63 : decode cL_law 63 = .ok (.iload 8, 2) := by decide +kernel
theorem dL_law_65 : decode cL_law 65 = .ok (.iload 4, 2) := by decide +kernel
theorem dL_law_67 : decode cL_law 67 = .ok (.iconst 0, 1) := by decide +kernel
theorem dL_law_68 : decode cL_law 68 = .ok (.invokevirtual 155, 3) := by decide +kernel
theorem dL_law_71 : decode cL_law 71 = .ok (.i2l, 1) := by decide +kernel
theorem dL_law_72 : decode cL_law 72 = .ok (.aload_n 2, 1) := by decide +kernel
theorem dL_law_73 : decode cL_law 73 = .ok (.bipush 30, 2) := by decide +kernel
theorem dL_law_75 : decode cL_law 75 = .ok (.iload 8, 2) := by decide +kernel
theorem dL_law_77 : decode cL_law 77 = .ok (.iadd, 1) := by decide +kernel
theorem dL_law_78 : decode cL_law 78 = .ok (.laload, 1) := by decide +kernel
theorem dL_law_79 : decode cL_law 79 = .ok (.lcmp, 1) := by decide +kernel
theorem dL_law_80 : decode cL_law 80 = .ok (.ifCond .ne 87, 3) := by decide +kernel
theorem dL_law_83 : decode cL_law 83 = .ok (.aload_n 1, 1) := by decide +kernel
theorem dL_law_84 : decode cL_law 84 = .ok (.iload 8, 2) := by decide +kernel
theorem dL_law_86 : decode cL_law 86 = .ok (.iload 4, 2) := by decide +kernel
theorem dL_law_88 : decode cL_law 88 = .ok (.iconst 1, 1) := by decide +kernel
theorem dL_law_89 : decode cL_law 89 = .ok (.invokevirtual 155, 3) := by decide +kernel
theorem dL_law_92 : decode cL_law 92 = .ok (.i2l, 1) := by decide +kernel
theorem dL_law_93 : decode cL_law 93 = .ok (.aload_n 2, 1) := by decide +kernel
theorem dL_law_94 : decode cL_law 94 = .ok (.bipush 35, 2) := by decide +kernel
theorem dL_law_96 : decode cL_law 96 = .ok (.iload 8, 2) := by decide +kernel
theorem dL_law_98 : decode cL_law 98 = .ok (.iadd, 1) := by decide +kernel
theorem dL_law_99 : decode cL_law 99 = .ok (.laload, 1) := by decide +kernel
theorem dL_law_100 : decode cL_law 100 = .ok (.lcmp, 1) := by decide +kernel
theorem dL_law_101 : decode cL_law 101 = .ok (.ifCond .ne 66, 3) := by decide +kernel
theorem dL_law_104 : decode cL_law 104 = .ok (.aload_n 1, 1) := by decide +kernel
theorem dL_law_105 : decode cL_law 105 = .ok (.iload 8, 2) := by decide +kernel
theorem dL_law_107 : decode cL_law 107 = .ok (.iload 4, 2) := by decide +kernel
theorem dL_law_109 : decode cL_law 109 = .ok (.iconst 2, 1) := by decide +kernel
theorem dL_law_110 : decode cL_law 110 = .ok (.invokevirtual 155, 3) := by decide +kernel
theorem dL_law_113 : decode cL_law 113 = .ok (.i2l, 1) := by decide +kernel
theorem dL_law_114 : decode cL_law 114 = .ok (.aload_n 2, 1) := by decide +kernel
theorem dL_law_115 : decode cL_law 115 = .ok (.bipush 50, 2) := by decide +kernel
theorem dL_law_117 : decode cL_law 117 = .ok (.iload 8, 2) := by decide +kernel
theorem dL_law_119 : decode cL_law 119 = .ok (.iadd, 1) := by decide +kernel
theorem dL_law_120 : decode cL_law 120 = .ok (.laload, 1) := by decide +kernel
theorem dL_law_121 : decode cL_law 121 = .ok (.lcmp, 1) := by decide +kernel
theorem dL_law_122 : decode cL_law 122 = .ok (.ifCond .ne 45, 3) := by decide +kernel
theorem dL_law_125 : decode cL_law 125 = .ok (.aload_n 1, 1) := by decide +kernel
theorem dL_law_126 : decode cL_law 126 = .ok (.iload 8, 2) := by decide +kernel
theorem dL_law_128 : decode cL_law 128 = .ok (.iload 4, 2) := by decide +kernel
theorem dL_law_130 : decode cL_law 130 = .ok (.iconst 3, 1) := by decide +kernel
theorem dL_law_131 : decode cL_law 131 = .ok (.invokevirtual 155, 3) := by decide +kernel
theorem dL_law_134 : decode cL_law 134 = .ok (.i2l, 1) := by decide +kernel
theorem dL_law_135 : decode cL_law 135 = .ok (.aload_n 2, 1) := by decide +kernel
theorem dL_law_136 : decode cL_law 136 = .ok (.bipush 55, 2) := by decide +kernel
theorem dL_law_138 : decode cL_law 138 = .ok (.iload 8, 2) := by decide +kernel
theorem dL_law_140 : decode cL_law 140 = .ok (.iadd, 1) := by decide +kernel
theorem dL_law_141 : decode cL_law 141 = .ok (.laload, 1) := by decide +kernel
theorem dL_law_142 : decode cL_law 142 = .ok (.lcmp, 1) := by decide +kernel
theorem dL_law_143 : decode cL_law 143 = .ok (.ifCond .ne 24, 3) := by decide +kernel
theorem dL_law_146 : decode cL_law 146 = .ok (.aload_n 1, 1) := by decide +kernel
theorem dL_law_147 : decode cL_law 147 = .ok (.iload 8, 2) := by decide +kernel
theorem dL_law_149 : decode cL_law 149 = .ok (.iload 4, 2) := by decide +kernel
theorem dL_law_151 : decode cL_law 151 = .ok (.iconst 4, 1) := by decide +kernel
theorem dL_law_152 : decode cL_law 152 = .ok (.invokevirtual 155, 3) := by decide +kernel
theorem dL_law_155 : decode cL_law 155 = .ok (.i2l, 1) := by decide +kernel
theorem dL_law_156 : decode cL_law 156 = .ok (.aload_n 2, 1) := by decide +kernel
theorem dL_law_157 : decode cL_law 157 = .ok (.bipush 45, 2) := by decide +kernel
theorem dL_law_159 : decode cL_law 159 = .ok (.iload 8, 2) := by decide +kernel
theorem dL_law_161 : decode cL_law 161 = .ok (.iadd, 1) := by decide +kernel
theorem dL_law_162 : decode cL_law 162 = .ok (.laload, 1) := by decide +kernel
theorem dL_law_163 : decode cL_law 163 = .ok (.lcmp, 1) := by decide +kernel
theorem dL_law_164 : decode cL_law 164 = .ok (.ifCond .eq 5, 3) := by decide +kernel
theorem dL_law_167 : decode cL_law 167 = .ok (.iconst 0, 1) := by decide +kernel
theorem dL_law_168 : decode cL_law 168 = .ok (.ireturn, 1) := by decide +kernel
theorem dL_law_169 : decode cL_law 169 = .ok (.iload 5, 2) := by decide +kernel
theorem dL_law_171 : decode cL_law 171 = .ok (.aload_n 2, 1) := by decide +kernel
theorem dL_law_172 : decode cL_law 172 = .ok (.bipush 55, 2) := by decide +kernel
theorem dL_law_174 : decode cL_law 174 = .ok (.iload 8, 2) := by decide +kernel
theorem dL_law_176 : decode cL_law 176 = .ok (.iadd, 1) := by decide +kernel
theorem dL_law_177 : decode cL_law 177 = .ok (.laload, 1) := by decide +kernel
theorem dL_law_178 : decode cL_law 178 = .ok (.l2i, 1) := by decide +kernel
theorem dL_law_179 : decode cL_law 179 = .ok (.aload_n 0, 1) := by decide +kernel
theorem dL_law_180 : decode cL_law 180 = .ok (.invokestatic 56, 3) := by decide +kernel
theorem dL_law_183 : decode cL_law 183 = .ok (.ifCond .eq 7, 3) := by decide +kernel
theorem dL_law_186 : decode cL_law 186 = .ok (.iconst 1, 1) := by decide +kernel
theorem dL_law_187 : decode cL_law 187 = .ok (.goto 35, 3) := by decide +kernel
theorem dL_law_190 : decode cL_law 190 = .ok (.aload_n 2, 1) := by decide +kernel
theorem dL_law_191 : decode cL_law 191 = .ok (.bipush 50, 2) := by decide +kernel
theorem dL_law_193 : decode cL_law 193 = .ok (.iload 8, 2) := by decide +kernel
theorem dL_law_195 : decode cL_law 195 = .ok (.iadd, 1) := by decide +kernel
theorem dL_law_196 : decode cL_law 196 = .ok (.laload, 1) := by decide +kernel
theorem dL_law_197 : decode cL_law 197 = .ok (.aload_n 0, 1) := by decide +kernel
theorem dL_law_198 : decode cL_law 198 = .ok (.iload 8, 2) := by decide +kernel
theorem dL_law_200 : decode cL_law 200 = .ok (.invokestatic 47, 3) := by decide +kernel
theorem dL_law_203 : decode cL_law 203 = .ok (.aload_n 0, 1) := by decide +kernel
theorem dL_law_204 : decode cL_law 204 = .ok (.iconst 0, 1) := by decide +kernel
theorem dL_law_205 : decode cL_law 205 = .ok (.invokestatic 69, 3) := by decide +kernel
theorem dL_law_208 : decode cL_law 208 = .ok (.bipush 9, 2) := by decide +kernel
theorem dL_law_210 : decode cL_law 210 = .ok (.ishr, 1) := by decide +kernel
theorem dL_law_211 : decode cL_law 211 = .ok (.iconst 3, 1) := by decide +kernel
theorem dL_law_212 : decode cL_law 212 = .ok (.iand, 1) := by decide +kernel
theorem dL_law_213 : decode cL_law 213 = .ok (.imul, 1) := by decide +kernel
theorem dL_law_214 : decode cL_law 214 = .ok (.i2l, 1) := by decide +kernel
theorem dL_law_215 : decode cL_law 215 = .ok (.ladd, 1) := by decide +kernel
theorem dL_law_216 : decode cL_law 216 = .ok (.iconst 0, 1) := by decide +kernel
theorem dL_law_217 : decode cL_law 217 = .ok (.bipush 99, 2) := by decide +kernel
theorem dL_law_219 : decode cL_law 219 = .ok (.invokestatic 106, 3) := by decide +kernel
theorem dL_law_222 : decode cL_law 222 = .ok (.imul, 1) := by decide +kernel
theorem dL_law_223 : decode cL_law 223 = .ok (.iadd, 1) := by decide +kernel
theorem dL_law_224 : decode cL_law 224 = .ok (.istore 5, 2) := by decide +kernel
theorem dL_law_226 : decode cL_law 226 = .ok (.lload 6, 2) := by decide +kernel
theorem dL_law_228 : decode cL_law 228 = .ok (.ldc2_w 115, 3) := by decide +kernel
theorem dL_law_231 : decode cL_law 231 = .ok (.aload_n 2, 1) := by decide +kernel
theorem dL_law_232 : decode cL_law 232 = .ok (.bipush 50, 2) := by decide +kernel
theorem dL_law_234 : decode cL_law 234 = .ok (.iload 8, 2) := by decide +kernel
theorem dL_law_236 : decode cL_law 236 = .ok (.iadd, 1) := by decide +kernel
theorem dL_law_237 : decode cL_law 237 = .ok (.laload, 1) := by decide +kernel
theorem dL_law_238 : decode cL_law 238 = .ok (.lmul, 1) := by decide +kernel
theorem dL_law_239 : decode cL_law 239 = .ok (.aload_n 2, 1) := by decide +kernel
theorem dL_law_240 : decode cL_law 240 = .ok (.bipush 45, 2) := by decide +kernel
theorem dL_law_242 : decode cL_law 242 = .ok (.iload 8, 2) := by decide +kernel
theorem dL_law_244 : decode cL_law 244 = .ok (.iadd, 1) := by decide +kernel
theorem dL_law_245 : decode cL_law 245 = .ok (.laload, 1) := by decide +kernel
theorem dL_law_246 : decode cL_law 246 = .ok (.ladd, 1) := by decide +kernel
theorem dL_law_247 : decode cL_law 247 = .ok (.ladd, 1) := by decide +kernel
theorem dL_law_248 : decode cL_law 248 = .ok (.lstore 6, 2) := by decide +kernel
theorem dL_law_250 : decode cL_law 250 = .ok (.aload_n 1, 1) := by decide +kernel
theorem dL_law_251 : decode cL_law 251 = .ok (.iload 8, 2) := by decide +kernel
theorem dL_law_253 : decode cL_law 253 = .ok (.iconst 0, 1) := by decide +kernel
theorem dL_law_254 : decode cL_law 254 = .ok (.invokevirtual 158, 3) := by decide +kernel
theorem dL_law_257 : decode cL_law 257 = .ok (.aload_n 0, 1) := by decide +kernel
theorem dL_law_258 : decode cL_law 258 = .ok (.iload 8, 2) := by decide +kernel
theorem dL_law_260 : decode cL_law 260 = .ok (.invokestatic 44, 3) := by decide +kernel
theorem dL_law_263 : decode cL_law 263 = .ok (.if_icmp .ne 60, 3) := by decide +kernel
theorem dL_law_266 : decode cL_law 266 = .ok (.aload_n 1, 1) := by decide +kernel
theorem dL_law_267 : decode cL_law 267 = .ok (.iload 8, 2) := by decide +kernel
theorem dL_law_269 : decode cL_law 269 = .ok (.iconst 1, 1) := by decide +kernel
theorem dL_law_270 : decode cL_law 270 = .ok (.invokevirtual 158, 3) := by decide +kernel
theorem dL_law_273 : decode cL_law 273 = .ok (.aload_n 0, 1) := by decide +kernel
theorem dL_law_274 : decode cL_law 274 = .ok (.iload 8, 2) := by decide +kernel
theorem dL_law_276 : decode cL_law 276 = .ok (.invokestatic 47, 3) := by decide +kernel
theorem dL_law_279 : decode cL_law 279 = .ok (.if_icmp .ne 44, 3) := by decide +kernel
theorem dL_law_282 : decode cL_law 282 = .ok (.aload_n 1, 1) := by decide +kernel
theorem dL_law_283 : decode cL_law 283 = .ok (.iload 8, 2) := by decide +kernel
theorem dL_law_285 : decode cL_law 285 = .ok (.iconst 2, 1) := by decide +kernel
theorem dL_law_286 : decode cL_law 286 = .ok (.invokevirtual 158, 3) := by decide +kernel
theorem dL_law_289 : decode cL_law 289 = .ok (.aload_n 0, 1) := by decide +kernel
theorem dL_law_290 : decode cL_law 290 = .ok (.iload 8, 2) := by decide +kernel
theorem dL_law_292 : decode cL_law 292 = .ok (.invokestatic 50, 3) := by decide +kernel
theorem dL_law_295 : decode cL_law 295 = .ok (.if_icmp .ne 28, 3) := by decide +kernel
theorem dL_law_298 : decode cL_law 298 = .ok (.aload_n 1, 1) := by decide +kernel
theorem dL_law_299 : decode cL_law 299 = .ok (.iload 8, 2) := by decide +kernel
theorem dL_law_301 : decode cL_law 301 = .ok (.iconst 3, 1) := by decide +kernel
theorem dL_law_302 : decode cL_law 302 = .ok (.invokevirtual 158, 3) := by decide +kernel
theorem dL_law_305 : decode cL_law 305 = .ok (.aload_n 0, 1) := by decide +kernel
theorem dL_law_306 : decode cL_law 306 = .ok (.iload 8, 2) := by decide +kernel
theorem dL_law_308 : decode cL_law 308 = .ok (.invokestatic 44, 3) := by decide +kernel
theorem dL_law_311 : decode cL_law 311 = .ok (.iconst 3, 1) := by decide +kernel
theorem dL_law_312 : decode cL_law 312 = .ok (.if_icmp .ne 7, 3) := by decide +kernel
theorem dL_law_315 : decode cL_law 315 = .ok (.iconst 0, 1) := by decide +kernel
theorem dL_law_316 : decode cL_law 316 = .ok (.goto 4, 3) := by decide +kernel
theorem dL_law_319 : decode cL_law 319 = .ok (.iconst 1, 1) := by decide +kernel
theorem dL_law_320 : decode cL_law 320 = .ok (.if_icmp .eq 5, 3) := by decide +kernel
theorem dL_law_323 : decode cL_law 323 = .ok (.iconst 0, 1) := by decide +kernel
theorem dL_law_324 : decode cL_law 324 = .ok (.ireturn, 1) := by decide +kernel
theorem dL_law_325 : decode cL_law 325 = .ok (.iinc 8 1, 3) := by decide +kernel
theorem dL_law_328 : decode cL_law 328 = .ok (.goto (-272), 3) := by decide +kernel
theorem dL_law_331 : decode cL_law 331 = .ok (.aload_n 1, 1) := by decide +kernel
theorem dL_law_332 : decode cL_law 332 = .ok (.iload 4, 2) := by decide +kernel
theorem dL_law_334 : decode cL_law 334 = .ok (.iconst 0, 1) := by decide +kernel
theorem dL_law_335 : decode cL_law 335 = .ok (.invokevirtual 161, 3) := by decide +kernel
theorem dL_law_338 : decode cL_law 338 = .ok (.i2l, 1) := by decide +kernel
theorem dL_law_339 : decode cL_law 339 = .ok (.aload_n 2, 1) := by decide +kernel
theorem dL_law_340 : decode cL_law 340 = .ok (.bipush 101, 2) := by decide +kernel
theorem dL_law_342 : decode cL_law 342 = .ok (.laload, 1) := by decide +kernel
theorem dL_law_343 : decode cL_law 343 = .ok (.lcmp, 1) := by decide +kernel
theorem dL_law_344 : decode cL_law 344 = .ok (.ifCond .ne 63, 3) := by decide +kernel
theorem dL_law_347 : decode cL_law 347 = .ok (.aload_n 1, 1) := by decide +kernel
theorem dL_law_348 : decode cL_law 348 = .ok (.iload 4, 2) := by decide +kernel
theorem dL_law_350 : decode cL_law 350 = .ok (.iconst 1, 1) := by decide +kernel
theorem dL_law_351 : decode cL_law 351 = .ok (.invokevirtual 161, 3) := by decide +kernel
theorem dL_law_354 : decode cL_law 354 = .ok (.i2l, 1) := by decide +kernel
theorem dL_law_355 : decode cL_law 355 = .ok (.aload_n 2, 1) := by decide +kernel
theorem dL_law_356 : decode cL_law 356 = .ok (.bipush 102, 2) := by decide +kernel
theorem dL_law_358 : decode cL_law 358 = .ok (.laload, 1) := by decide +kernel
theorem dL_law_359 : decode cL_law 359 = .ok (.lcmp, 1) := by decide +kernel
theorem dL_law_360 : decode cL_law 360 = .ok (.ifCond .ne 47, 3) := by decide +kernel
theorem dL_law_363 : decode cL_law 363 = .ok (.aload_n 1, 1) := by decide +kernel
theorem dL_law_364 : decode cL_law 364 = .ok (.iload 4, 2) := by decide +kernel
theorem dL_law_366 : decode cL_law 366 = .ok (.iconst 2, 1) := by decide +kernel
theorem dL_law_367 : decode cL_law 367 = .ok (.invokevirtual 161, 3) := by decide +kernel
theorem dL_law_370 : decode cL_law 370 = .ok (.i2l, 1) := by decide +kernel
theorem dL_law_371 : decode cL_law 371 = .ok (.aload_n 2, 1) := by decide +kernel
theorem dL_law_372 : decode cL_law 372 = .ok (.bipush 103, 2) := by decide +kernel
theorem dL_law_374 : decode cL_law 374 = .ok (.laload, 1) := by decide +kernel
theorem dL_law_375 : decode cL_law 375 = .ok (.lcmp, 1) := by decide +kernel
theorem dL_law_376 : decode cL_law 376 = .ok (.ifCond .ne 31, 3) := by decide +kernel
theorem dL_law_379 : decode cL_law 379 = .ok (.aload_n 1, 1) := by decide +kernel
theorem dL_law_380 : decode cL_law 380 = .ok (.iload 4, 2) := by decide +kernel
theorem dL_law_382 : decode cL_law 382 = .ok (.iconst 3, 1) := by decide +kernel
theorem dL_law_383 : decode cL_law 383 = .ok (.invokevirtual 161, 3) := by decide +kernel
theorem dL_law_386 : decode cL_law 386 = .ok (.iload 5, 2) := by decide +kernel
theorem dL_law_388 : decode cL_law 388 = .ok (.if_icmp .ne 19, 3) := by decide +kernel
theorem dL_law_391 : decode cL_law 391 = .ok (.aload_n 1, 1) := by decide +kernel
theorem dL_law_392 : decode cL_law 392 = .ok (.iload 4, 2) := by decide +kernel
theorem dL_law_394 : decode cL_law 394 = .ok (.iconst 4, 1) := by decide +kernel
theorem dL_law_395 : decode cL_law 395 = .ok (.invokevirtual 161, 3) := by decide +kernel
theorem dL_law_398 : decode cL_law 398 = .ok (.i2l, 1) := by decide +kernel
theorem dL_law_399 : decode cL_law 399 = .ok (.aload_n 2, 1) := by decide +kernel
theorem dL_law_400 : decode cL_law 400 = .ok (.bipush 104, 2) := by decide +kernel
theorem dL_law_402 : decode cL_law 402 = .ok (.laload, 1) := by decide +kernel
theorem dL_law_403 : decode cL_law 403 = .ok (.lcmp, 1) := by decide +kernel
theorem dL_law_404 : decode cL_law 404 = .ok (.ifCond .eq 5, 3) := by decide +kernel
theorem dL_law_407 : decode cL_law 407 = .ok (.iconst 0, 1) := by decide +kernel
theorem dL_law_408 : decode cL_law 408 = .ok (.ireturn, 1) := by decide +kernel
theorem dL_law_409 : decode cL_law 409 = .ok (.lconst 0, 1) := by decide +kernel
theorem dL_law_410 : decode cL_law 410 = .ok (.lstore 8, 2) := by decide +kernel
theorem dL_law_412 : decode cL_law 412 = .ok (.iconst 0, 1) := by decide +kernel
theorem dL_law_413 : decode cL_law 413 = .ok (.istore 10, 2) := by decide +kernel
theorem dL_law_415 : decode cL_law 415 = .ok (.iload 10, 2) := by decide +kernel
theorem dL_law_417 : decode cL_law 417 = .ok (.bipush 9, 2) := by decide +kernel
theorem dL_law_419 : decode cL_law 419 = .ok (.if_icmp .ge 105, 3) := by decide +kernel
theorem dL_law_422 : decode cL_law 422 = .ok (.aload_n 1, 1) := by decide +kernel
theorem dL_law_423 : decode cL_law 423 = .ok (.iload 10, 2) := by decide +kernel
theorem dL_law_425 : decode cL_law 425 = .ok (.iload 4, 2) := by decide +kernel
theorem dL_law_427 : decode cL_law 427 = .ok (.iconst 0, 1) := by decide +kernel
theorem dL_law_428 : decode cL_law 428 = .ok (.invokevirtual 164, 3) := by decide +kernel
theorem dL_law_431 : decode cL_law 431 = .ok (.i2l, 1) := by decide +kernel
theorem dL_law_432 : decode cL_law 432 = .ok (.aload_n 2, 1) := by decide +kernel
theorem dL_law_433 : decode cL_law 433 = .ok (.bipush 70, 2) := by decide +kernel
theorem dL_law_435 : decode cL_law 435 = .ok (.iload 10, 2) := by decide +kernel
theorem dL_law_437 : decode cL_law 437 = .ok (.iadd, 1) := by decide +kernel
theorem dL_law_438 : decode cL_law 438 = .ok (.laload, 1) := by decide +kernel
theorem dL_law_439 : decode cL_law 439 = .ok (.lcmp, 1) := by decide +kernel
theorem dL_law_440 : decode cL_law 440 = .ok (.ifCond .ne 56, 3) := by decide +kernel
theorem dL_law_443 : decode cL_law 443 = .ok (.aload_n 1, 1) := by decide +kernel
theorem dL_law_444 : decode cL_law 444 = .ok (.iload 10, 2) := by decide +kernel
theorem dL_law_446 : decode cL_law 446 = .ok (.iload 4, 2) := by decide +kernel
theorem dL_law_448 : decode cL_law 448 = .ok (.iconst 1, 1) := by decide +kernel
theorem dL_law_449 : decode cL_law 449 = .ok (.invokevirtual 164, 3) := by decide +kernel
theorem dL_law_452 : decode cL_law 452 = .ok (.i2l, 1) := by decide +kernel
theorem dL_law_453 : decode cL_law 453 = .ok (.aload_n 2, 1) := by decide +kernel
theorem dL_law_454 : decode cL_law 454 = .ok (.bipush 90, 2) := by decide +kernel
theorem dL_law_456 : decode cL_law 456 = .ok (.iload 10, 2) := by decide +kernel
theorem dL_law_458 : decode cL_law 458 = .ok (.iadd, 1) := by decide +kernel
theorem dL_law_459 : decode cL_law 459 = .ok (.laload, 1) := by decide +kernel
theorem dL_law_460 : decode cL_law 460 = .ok (.lcmp, 1) := by decide +kernel
theorem dL_law_461 : decode cL_law 461 = .ok (.ifCond .ne 35, 3) := by decide +kernel
theorem dL_law_464 : decode cL_law 464 = .ok (.aload_n 1, 1) := by decide +kernel
theorem dL_law_465 : decode cL_law 465 = .ok (.iload 10, 2) := by decide +kernel
theorem dL_law_467 : decode cL_law 467 = .ok (.iconst 0, 1) := by decide +kernel
theorem dL_law_468 : decode cL_law 468 = .ok (.invokevirtual 167, 3) := by decide +kernel
theorem dL_law_471 : decode cL_law 471 = .ok (.aload_n 0, 1) := by decide +kernel
theorem dL_law_472 : decode cL_law 472 = .ok (.iload 10, 2) := by decide +kernel
theorem dL_law_474 : decode cL_law 474 = .ok (.invokestatic 24, 3) := by decide +kernel
theorem dL_law_477 : decode cL_law 477 = .ok (.if_icmp .ne 19, 3) := by decide +kernel
theorem dL_law_480 : decode cL_law 480 = .ok (.aload_n 1, 1) := by decide +kernel
theorem dL_law_481 : decode cL_law 481 = .ok (.iload 10, 2) := by decide +kernel
theorem dL_law_483 : decode cL_law 483 = .ok (.iconst 1, 1) := by decide +kernel
theorem dL_law_484 : decode cL_law 484 = .ok (.invokevirtual 167, 3) := by decide +kernel
theorem dL_law_487 : decode cL_law 487 = .ok (.aload_n 0, 1) := by decide +kernel
theorem dL_law_488 : decode cL_law 488 = .ok (.iload 10, 2) := by decide +kernel
theorem dL_law_490 : decode cL_law 490 = .ok (.invokestatic 34, 3) := by decide +kernel
theorem dL_law_493 : decode cL_law 493 = .ok (.if_icmp .eq 5, 3) := by decide +kernel
theorem dL_law_496 : decode cL_law 496 = .ok (.iconst 0, 1) := by decide +kernel
theorem dL_law_497 : decode cL_law 497 = .ok (.ireturn, 1) := by decide +kernel
theorem dL_law_498 : decode cL_law 498 = .ok (.lload 8, 2) := by decide +kernel
theorem dL_law_500 : decode cL_law 500 = .ok (.aload_n 0, 1) := by decide +kernel
theorem dL_law_501 : decode cL_law 501 = .ok (.iload 10, 2) := by decide +kernel
theorem dL_law_503 : decode cL_law 503 = .ok (.invokestatic 24, 3) := by decide +kernel
theorem dL_law_506 : decode cL_law 506 = .ok (.i2l, 1) := by decide +kernel
theorem dL_law_507 : decode cL_law 507 = .ok (.aload_n 2, 1) := by decide +kernel
theorem dL_law_508 : decode cL_law 508 = .ok (.bipush 70, 2) := by decide +kernel
theorem dL_law_510 : decode cL_law 510 = .ok (.iload 10, 2) := by decide +kernel
theorem dL_law_512 : decode cL_law 512 = .ok (.iadd, 1) := by decide +kernel
theorem dL_law_513 : decode cL_law 513 = .ok (.laload, 1) := by decide +kernel
theorem dL_law_514 : decode cL_law 514 = .ok (.lsub, 1) := by decide +kernel
theorem dL_law_515 : decode cL_law 515 = .ok (.ladd, 1) := by decide +kernel
theorem dL_law_516 : decode cL_law 516 = .ok (.lstore 8, 2) := by decide +kernel
theorem dL_law_518 : decode cL_law 518 = .ok (.iinc 10 1, 3) := by decide +kernel
theorem dL_law_521 : decode cL_law 521 = .ok (.goto (-106), 3) := by decide +kernel
theorem dL_law_524 : decode cL_law 524 = .ok (.aload_n 2, 1) := by decide +kernel
theorem dL_law_525 : decode cL_law 525 = .ok (.bipush 100, 2) := by decide +kernel
theorem dL_law_527 : decode cL_law 527 = .ok (.laload, 1) := by decide +kernel
theorem dL_law_528 : decode cL_law 528 = .ok (.lconst 0, 1) := by decide +kernel
theorem dL_law_529 : decode cL_law 529 = .ok (.lcmp, 1) := by decide +kernel
theorem dL_law_530 : decode cL_law 530 = .ok (.ifCond .ne 13, 3) := by decide +kernel
theorem dL_law_533 : decode cL_law 533 = .ok (.lload 8, 2) := by decide +kernel
theorem dL_law_535 : decode cL_law 535 = .ok (.lload 6, 2) := by decide +kernel
theorem dL_law_537 : decode cL_law 537 = .ok (.lcmp, 1) := by decide +kernel
theorem dL_law_538 : decode cL_law 538 = .ok (.ifCond .ge 5, 3) := by decide +kernel
theorem dL_law_541 : decode cL_law 541 = .ok (.iconst 0, 1) := by decide +kernel
theorem dL_law_542 : decode cL_law 542 = .ok (.ireturn, 1) := by decide +kernel
theorem dL_law_543 : decode cL_law 543 = .ok (.aload_n 1, 1) := by decide +kernel
theorem dL_law_544 : decode cL_law 544 = .ok (.iconst 1, 1) := by decide +kernel
theorem dL_law_545 : decode cL_law 545 = .ok (.invokevirtual 170, 3) := by decide +kernel
theorem dL_law_548 : decode cL_law 548 = .ok (.ifCond .lt 57, 3) := by decide +kernel
theorem dL_law_551 : decode cL_law 551 = .ok (.aload_n 1, 1) := by decide +kernel
theorem dL_law_552 : decode cL_law 552 = .ok (.iconst 0, 1) := by decide +kernel
theorem dL_law_553 : decode cL_law 553 = .ok (.invokevirtual 170, 3) := by decide +kernel
theorem dL_law_556 : decode cL_law 556 = .ok (.ifCond .lt 30, 3) := by decide +kernel
theorem dL_law_559 : decode cL_law 559 = .ok (.aload_n 1, 1) := by decide +kernel
theorem dL_law_560 : decode cL_law 560 = .ok (.sipush 600, 3) := by decide +kernel
theorem dL_law_563 : decode cL_law 563 = .ok (.iconst 4, 1) := by decide +kernel
theorem dL_law_564 : decode cL_law 564 = .ok (.invokevirtual 161, 3) := by decide +kernel
theorem dL_law_567 : decode cL_law 567 = .ok (.ifCond .lt 19, 3) := by decide +kernel
theorem dL_law_570 : decode cL_law 570 = .ok (.aload_n 1, 1) := by decide +kernel
theorem dL_law_571 : decode cL_law 571 = .ok (.iconst 0, 1) := by decide +kernel
theorem dL_law_572 : decode cL_law 572 = .ok (.invokevirtual 170, 3) := by decide +kernel
theorem dL_law_575 : decode cL_law 575 = .ok (.aload_n 1, 1) := by decide +kernel
theorem dL_law_576 : decode cL_law 576 = .ok (.sipush 600, 3) := by decide +kernel
theorem dL_law_579 : decode cL_law 579 = .ok (.iconst 4, 1) := by decide +kernel
theorem dL_law_580 : decode cL_law 580 = .ok (.invokevirtual 161, 3) := by decide +kernel
theorem dL_law_583 : decode cL_law 583 = .ok (.if_icmp .gt 22, 3) := by decide +kernel
theorem dL_law_586 : decode cL_law 586 = .ok (.aload_n 1, 1) := by decide +kernel
theorem dL_law_587 : decode cL_law 587 = .ok (.iconst 0, 1) := by decide +kernel
theorem dL_law_588 : decode cL_law 588 = .ok (.invokevirtual 170, 3) := by decide +kernel
theorem dL_law_591 : decode cL_law 591 = .ok (.ifCond .ge 16, 3) := by decide +kernel
theorem dL_law_594 : decode cL_law 594 = .ok (.aload_n 1, 1) := by decide +kernel
theorem dL_law_595 : decode cL_law 595 = .ok (.sipush 600, 3) := by decide +kernel
theorem dL_law_598 : decode cL_law 598 = .ok (.iconst 4, 1) := by decide +kernel
theorem dL_law_599 : decode cL_law 599 = .ok (.invokevirtual 161, 3) := by decide +kernel
theorem dL_law_602 : decode cL_law 602 = .ok (.ifCond .lt 5, 3) := by decide +kernel
theorem dL_law_605 : decode cL_law 605 = .ok (.iconst 0, 1) := by decide +kernel
theorem dL_law_606 : decode cL_law 606 = .ok (.ireturn, 1) := by decide +kernel
theorem dL_law_607 : decode cL_law 607 = .ok (.iconst 0, 1) := by decide +kernel
theorem dL_law_608 : decode cL_law 608 = .ok (.istore 10, 2) := by decide +kernel
theorem dL_law_610 : decode cL_law 610 = .ok (.iload 10, 2) := by decide +kernel
theorem dL_law_612 : decode cL_law 612 = .ok (.iload_n 3, 1) := by decide +kernel
theorem dL_law_613 : decode cL_law 613 = .ok (.if_icmp .ge 29, 3) := by decide +kernel
theorem dL_law_616 : decode cL_law 616 = .ok (.aload_n 1, 1) := by decide +kernel
theorem dL_law_617 : decode cL_law 617 = .ok (.iload 10, 2) := by decide +kernel
theorem dL_law_619 : decode cL_law 619 = .ok (.iconst 1, 1) := by decide +kernel
theorem dL_law_620 : decode cL_law 620 = .ok (.invokevirtual 173, 3) := by decide +kernel
theorem dL_law_623 : decode cL_law 623 = .ok (.aload_n 1, 1) := by decide +kernel
theorem dL_law_624 : decode cL_law 624 = .ok (.sipush 600, 3) := by decide +kernel
theorem dL_law_627 : decode cL_law 627 = .ok (.iconst 0, 1) := by decide +kernel
theorem dL_law_628 : decode cL_law 628 = .ok (.invokevirtual 161, 3) := by decide +kernel
theorem dL_law_631 : decode cL_law 631 = .ok (.if_icmp .ge 5, 3) := by decide +kernel
theorem dL_law_634 : decode cL_law 634 = .ok (.iconst 0, 1) := by decide +kernel
theorem dL_law_635 : decode cL_law 635 = .ok (.ireturn, 1) := by decide +kernel
theorem dL_law_636 : decode cL_law 636 = .ok (.iinc 10 1, 3) := by decide +kernel
theorem dL_law_639 : decode cL_law 639 = .ok (.goto (-29), 3) := by decide +kernel
theorem dL_law_642 : decode cL_law 642 = .ok (.aload_n 1, 1) := by decide +kernel
theorem dL_law_643 : decode cL_law 643 = .ok (.iconst 1, 1) := by decide +kernel
theorem dL_law_644 : decode cL_law 644 = .ok (.iload 4, 2) := by decide +kernel
theorem dL_law_646 : decode cL_law 646 = .ok (.invokevirtual 175, 3) := by decide +kernel
theorem dL_law_649 : decode cL_law 649 = .ok (.bipush 9, 2) := by decide +kernel
theorem dL_law_651 : decode cL_law 651 = .ok (.if_icmp .ne 14, 3) := by decide +kernel
theorem dL_law_654 : decode cL_law 654 = .ok (.aload_n 1, 1) := by decide +kernel
theorem dL_law_655 : decode cL_law 655 = .ok (.iconst 1, 1) := by decide +kernel
theorem dL_law_656 : decode cL_law 656 = .ok (.iload 4, 2) := by decide +kernel
theorem dL_law_658 : decode cL_law 658 = .ok (.invokevirtual 178, 3) := by decide +kernel
theorem dL_law_661 : decode cL_law 661 = .ok (.iconst (-1), 1) := by decide +kernel
theorem dL_law_662 : decode cL_law 662 = .ok (.if_icmp .eq 5, 3) := by decide +kernel
theorem dL_law_665 : decode cL_law 665 = .ok (.iconst 0, 1) := by decide +kernel
theorem dL_law_666 : decode cL_law 666 = .ok (.ireturn, 1) := by decide +kernel
theorem dL_law_667 : decode cL_law 667 = .ok (.aload_n 1, 1) := by decide +kernel
theorem dL_law_668 : decode cL_law 668 = .ok (.iload 4, 2) := by decide +kernel
theorem dL_law_670 : decode cL_law 670 = .ok (.invokevirtual 181, 3) := by decide +kernel
theorem dL_law_673 : decode cL_law 673 = .ok (.i2l, 1) := by decide +kernel
theorem dL_law_674 : decode cL_law 674 = .ok (.aload_n 2, 1) := by decide +kernel
theorem dL_law_675 : decode cL_law 675 = .ok (.bipush 101, 2) := by decide +kernel
theorem dL_law_677 : decode cL_law 677 = .ok (.laload, 1) := by decide +kernel
theorem dL_law_678 : decode cL_law 678 = .ok (.lcmp, 1) := by decide +kernel
theorem dL_law_679 : decode cL_law 679 = .ok (.ifCond .eq 5, 3) := by decide +kernel
theorem dL_law_682 : decode cL_law 682 = .ok (.iconst 0, 1) := by decide +kernel
theorem dL_law_683 : decode cL_law 683 = .ok (.ireturn, 1) := by decide +kernel
theorem dL_law_684 : decode cL_law 684 = .ok (.iconst 0, 1) := by decide +kernel
theorem dL_law_685 : decode cL_law 685 = .ok (.istore 10, 2) := by decide +kernel
theorem dL_law_687 : decode cL_law 687 = .ok (.iload 10, 2) := by decide +kernel
theorem dL_law_689 : decode cL_law 689 = .ok (.bipush 9, 2) := by decide +kernel
theorem dL_law_691 : decode cL_law 691 = .ok (.if_icmp .ge 30, 3) := by decide +kernel
theorem dL_law_694 : decode cL_law 694 = .ok (.aload_n 1, 1) := by decide +kernel
theorem dL_law_695 : decode cL_law 695 = .ok (.iload 10, 2) := by decide +kernel
theorem dL_law_697 : decode cL_law 697 = .ok (.iconst 0, 1) := by decide +kernel
theorem dL_law_698 : decode cL_law 698 = .ok (.invokevirtual 167, 3) := by decide +kernel
theorem dL_law_701 : decode cL_law 701 = .ok (.i2l, 1) := by decide +kernel
theorem dL_law_702 : decode cL_law 702 = .ok (.aload_n 2, 1) := by decide +kernel
theorem dL_law_703 : decode cL_law 703 = .ok (.bipush 70, 2) := by decide +kernel
theorem dL_law_705 : decode cL_law 705 = .ok (.iload 10, 2) := by decide +kernel
theorem dL_law_707 : decode cL_law 707 = .ok (.iadd, 1) := by decide +kernel
theorem dL_law_708 : decode cL_law 708 = .ok (.laload, 1) := by decide +kernel
theorem dL_law_709 : decode cL_law 709 = .ok (.lcmp, 1) := by decide +kernel
theorem dL_law_710 : decode cL_law 710 = .ok (.ifCond .eq 5, 3) := by decide +kernel
theorem dL_law_713 : decode cL_law 713 = .ok (.iconst 0, 1) := by decide +kernel
theorem dL_law_714 : decode cL_law 714 = .ok (.ireturn, 1) := by decide +kernel
theorem dL_law_715 : decode cL_law 715 = .ok (.iinc 10 1, 3) := by decide +kernel
theorem dL_law_718 : decode cL_law 718 = .ok (.goto (-31), 3) := by decide +kernel
theorem dL_law_721 : decode cL_law 721 = .ok (.aload_n 1, 1) := by decide +kernel
theorem dL_law_722 : decode cL_law 722 = .ok (.sipush 601, 3) := by decide +kernel
theorem dL_law_725 : decode cL_law 725 = .ok (.iconst 0, 1) := by decide +kernel
theorem dL_law_726 : decode cL_law 726 = .ok (.invokevirtual 161, 3) := by decide +kernel
theorem dL_law_729 : decode cL_law 729 = .ok (.bipush (-2), 2) := by decide +kernel
theorem dL_law_731 : decode cL_law 731 = .ok (.if_icmp .ne 188, 3) := by decide +kernel
theorem dL_law_734 : decode cL_law 734 = .ok (.aload_n 1, 1) := by decide +kernel
theorem dL_law_735 : decode cL_law 735 = .ok (.iconst 0, 1) := by decide +kernel
theorem dL_law_736 : decode cL_law 736 = .ok (.iconst 5, 1) := by decide +kernel
theorem dL_law_737 : decode cL_law 737 = .ok (.invokevirtual 161, 3) := by decide +kernel
theorem dL_law_740 : decode cL_law 740 = .ok (.bipush (-2), 2) := by decide +kernel
theorem dL_law_742 : decode cL_law 742 = .ok (.if_icmp .ne 177, 3) := by decide +kernel
theorem dL_law_745 : decode cL_law 745 = .ok (.aload_n 1, 1) := by decide +kernel
theorem dL_law_746 : decode cL_law 746 = .ok (.iconst 0, 1) := by decide +kernel
theorem dL_law_747 : decode cL_law 747 = .ok (.iconst 0, 1) := by decide +kernel
theorem dL_law_748 : decode cL_law 748 = .ok (.invokevirtual 161, 3) := by decide +kernel
theorem dL_law_751 : decode cL_law 751 = .ok (.ifCond .ne 168, 3) := by decide +kernel
theorem dL_law_754 : decode cL_law 754 = .ok (.aload_n 1, 1) := by decide +kernel
theorem dL_law_755 : decode cL_law 755 = .ok (.iconst 5, 1) := by decide +kernel
theorem dL_law_756 : decode cL_law 756 = .ok (.iconst 0, 1) := by decide +kernel
theorem dL_law_757 : decode cL_law 757 = .ok (.iconst 0, 1) := by decide +kernel
theorem dL_law_758 : decode cL_law 758 = .ok (.invokevirtual 155, 3) := by decide +kernel
theorem dL_law_761 : decode cL_law 761 = .ok (.bipush (-5), 2) := by decide +kernel
theorem dL_law_763 : decode cL_law 763 = .ok (.if_icmp .ne 156, 3) := by decide +kernel
theorem dL_law_766 : decode cL_law 766 = .ok (.aload_n 1, 1) := by decide +kernel
theorem dL_law_767 : decode cL_law 767 = .ok (.iconst 0, 1) := by decide +kernel
theorem dL_law_768 : decode cL_law 768 = .ok (.sipush 601, 3) := by decide +kernel
theorem dL_law_771 : decode cL_law 771 = .ok (.iconst 0, 1) := by decide +kernel
theorem dL_law_772 : decode cL_law 772 = .ok (.invokevirtual 155, 3) := by decide +kernel
theorem dL_law_775 : decode cL_law 775 = .ok (.bipush (-7), 2) := by decide +kernel
theorem dL_law_777 : decode cL_law 777 = .ok (.if_icmp .ne 142, 3) := by decide +kernel
theorem dL_law_780 : decode cL_law 780 = .ok (.aload_n 1, 1) := by decide +kernel
theorem dL_law_781 : decode cL_law 781 = .ok (.iconst 0, 1) := by decide +kernel
theorem dL_law_782 : decode cL_law 782 = .ok (.iconst 0, 1) := by decide +kernel
theorem dL_law_783 : decode cL_law 783 = .ok (.iconst 5, 1) := by decide +kernel
theorem dL_law_784 : decode cL_law 784 = .ok (.invokevirtual 155, 3) := by decide +kernel
theorem dL_law_787 : decode cL_law 787 = .ok (.bipush (-7), 2) := by decide +kernel
theorem dL_law_789 : decode cL_law 789 = .ok (.if_icmp .ne 130, 3) := by decide +kernel
theorem dL_law_792 : decode cL_law 792 = .ok (.aload_n 1, 1) := by decide +kernel
theorem dL_law_793 : decode cL_law 793 = .ok (.bipush 9, 2) := by decide +kernel
theorem dL_law_795 : decode cL_law 795 = .ok (.iconst 0, 1) := by decide +kernel
theorem dL_law_796 : decode cL_law 796 = .ok (.iconst 0, 1) := by decide +kernel
theorem dL_law_797 : decode cL_law 797 = .ok (.invokevirtual 164, 3) := by decide +kernel
theorem dL_law_800 : decode cL_law 800 = .ok (.bipush (-6), 2) := by decide +kernel
theorem dL_law_802 : decode cL_law 802 = .ok (.if_icmp .ne 117, 3) := by decide +kernel
theorem dL_law_805 : decode cL_law 805 = .ok (.aload_n 1, 1) := by decide +kernel
theorem dL_law_806 : decode cL_law 806 = .ok (.iconst 0, 1) := by decide +kernel
theorem dL_law_807 : decode cL_law 807 = .ok (.sipush 601, 3) := by decide +kernel
theorem dL_law_810 : decode cL_law 810 = .ok (.iconst 0, 1) := by decide +kernel
theorem dL_law_811 : decode cL_law 811 = .ok (.invokevirtual 164, 3) := by decide +kernel
theorem dL_law_814 : decode cL_law 814 = .ok (.bipush (-7), 2) := by decide +kernel
theorem dL_law_816 : decode cL_law 816 = .ok (.if_icmp .ne 103, 3) := by decide +kernel
theorem dL_law_819 : decode cL_law 819 = .ok (.aload_n 1, 1) := by decide +kernel
theorem dL_law_820 : decode cL_law 820 = .ok (.iconst 0, 1) := by decide +kernel
theorem dL_law_821 : decode cL_law 821 = .ok (.iconst 0, 1) := by decide +kernel
theorem dL_law_822 : decode cL_law 822 = .ok (.iconst 2, 1) := by decide +kernel
theorem dL_law_823 : decode cL_law 823 = .ok (.invokevirtual 164, 3) := by decide +kernel
theorem dL_law_826 : decode cL_law 826 = .ok (.bipush (-7), 2) := by decide +kernel
theorem dL_law_828 : decode cL_law 828 = .ok (.if_icmp .ne 91, 3) := by decide +kernel
theorem dL_law_831 : decode cL_law 831 = .ok (.aload_n 1, 1) := by decide +kernel
theorem dL_law_832 : decode cL_law 832 = .ok (.sipush 601, 3) := by decide +kernel
theorem dL_law_835 : decode cL_law 835 = .ok (.invokevirtual 181, 3) := by decide +kernel
theorem dL_law_838 : decode cL_law 838 = .ok (.bipush (-2), 2) := by decide +kernel
theorem dL_law_840 : decode cL_law 840 = .ok (.if_icmp .ne 79, 3) := by decide +kernel
theorem dL_law_843 : decode cL_law 843 = .ok (.aload_n 1, 1) := by decide +kernel
theorem dL_law_844 : decode cL_law 844 = .ok (.iconst (-1), 1) := by decide +kernel
theorem dL_law_845 : decode cL_law 845 = .ok (.invokevirtual 181, 3) := by decide +kernel
theorem dL_law_848 : decode cL_law 848 = .ok (.bipush (-2), 2) := by decide +kernel
theorem dL_law_850 : decode cL_law 850 = .ok (.if_icmp .ne 69, 3) := by decide +kernel
theorem dL_law_853 : decode cL_law 853 = .ok (.aload_n 1, 1) := by decide +kernel
theorem dL_law_854 : decode cL_law 854 = .ok (.iconst 5, 1) := by decide +kernel
theorem dL_law_855 : decode cL_law 855 = .ok (.iconst 0, 1) := by decide +kernel
theorem dL_law_856 : decode cL_law 856 = .ok (.invokevirtual 158, 3) := by decide +kernel
theorem dL_law_859 : decode cL_law 859 = .ok (.bipush (-5), 2) := by decide +kernel
theorem dL_law_861 : decode cL_law 861 = .ok (.if_icmp .ne 58, 3) := by decide +kernel
theorem dL_law_864 : decode cL_law 864 = .ok (.aload_n 1, 1) := by decide +kernel
theorem dL_law_865 : decode cL_law 865 = .ok (.iconst 0, 1) := by decide +kernel
theorem dL_law_866 : decode cL_law 866 = .ok (.iconst 4, 1) := by decide +kernel
theorem dL_law_867 : decode cL_law 867 = .ok (.invokevirtual 158, 3) := by decide +kernel
theorem dL_law_870 : decode cL_law 870 = .ok (.bipush (-7), 2) := by decide +kernel
theorem dL_law_872 : decode cL_law 872 = .ok (.if_icmp .ne 47, 3) := by decide +kernel
theorem dL_law_875 : decode cL_law 875 = .ok (.aload_n 1, 1) := by decide +kernel
theorem dL_law_876 : decode cL_law 876 = .ok (.bipush 9, 2) := by decide +kernel
theorem dL_law_878 : decode cL_law 878 = .ok (.iconst 0, 1) := by decide +kernel
theorem dL_law_879 : decode cL_law 879 = .ok (.invokevirtual 167, 3) := by decide +kernel
theorem dL_law_882 : decode cL_law 882 = .ok (.bipush (-6), 2) := by decide +kernel
theorem dL_law_884 : decode cL_law 884 = .ok (.if_icmp .ne 35, 3) := by decide +kernel
theorem dL_law_887 : decode cL_law 887 = .ok (.aload_n 1, 1) := by decide +kernel
theorem dL_law_888 : decode cL_law 888 = .ok (.iconst 0, 1) := by decide +kernel
theorem dL_law_889 : decode cL_law 889 = .ok (.iconst 2, 1) := by decide +kernel
theorem dL_law_890 : decode cL_law 890 = .ok (.invokevirtual 167, 3) := by decide +kernel
theorem dL_law_893 : decode cL_law 893 = .ok (.bipush (-7), 2) := by decide +kernel
theorem dL_law_895 : decode cL_law 895 = .ok (.if_icmp .ne 24, 3) := by decide +kernel
theorem dL_law_898 : decode cL_law 898 = .ok (.new 18, 3) := by decide +kernel
theorem dL_law_901 : decode cL_law 901 = .ok (.dup, 1) := by decide +kernel
theorem dL_law_902 : decode cL_law 902 = .ok (.invokespecial 23, 3) := by decide +kernel
theorem dL_law_905 : decode cL_law 905 = .ok (.sipush 600, 3) := by decide +kernel
theorem dL_law_908 : decode cL_law 908 = .ok (.iconst 0, 1) := by decide +kernel
theorem dL_law_909 : decode cL_law 909 = .ok (.invokevirtual 161, 3) := by decide +kernel
theorem dL_law_912 : decode cL_law 912 = .ok (.ifCond .ne 7, 3) := by decide +kernel
theorem dL_law_915 : decode cL_law 915 = .ok (.iconst 1, 1) := by decide +kernel
theorem dL_law_916 : decode cL_law 916 = .ok (.goto 4, 3) := by decide +kernel
theorem dL_law_919 : decode cL_law 919 = .ok (.iconst 0, 1) := by decide +kernel
theorem dL_law_920 : decode cL_law 920 = .ok (.ireturn, 1) := by decide +kernel
end
section
/-! where everything lies: the class and what it holds at 32 .. 80, the reference at 81 .. 113 -/
def zKL : List (Nat × Nat) := [(27, 0), (0, 9), (0, 9), (2, 5), (3, 6), (23, 0), (0, 160), (0, 160), (0, 4), (4, 4), (16, 0), (5, 9), (2, 5), (0, 40), (18, 0), (18, 0), (18, 0), (18, 0), (18, 0), (18, 0), (18, 0), (18, 0), (18, 0), (0, 5), (1, 6), (0, 10), (0, 10), (0, 10), (0, 10), (0, 10), (0, 10), (0, 5), (0, 9), (0, 9), (0, 5), (19, 0), (0, 40), (0, 6), (0, 3), (0, 3), (0, 4), (22, 0), (0, 40), (22, 0), (0, 40), (22, 0), (0, 40), (22, 0), (0, 40), (15, 0), (15, 9), (15, 9), (15, 5), (15, 5), (15, 5), (15, 160), (15, 1200), (15, 24), (15, 23), (15, 4), (15, 4), (15, 160), (15, 29), (15, 96), (15, 200), (15, 200), (15, 6), (15, 5), (15, 5), (15, 5), (15, 5), (15, 5), (15, 5), (15, 5), (15, 5), (15, 9), (15, 9), (15, 9), (15, 400), (15, 5), (15, 5), (15, 9)]
def zK0 (a : Nat) : Nat × Nat := zKL.getD (a - 32) (0, 0)
/-- references that never change -/
def zSt0 (a k : Nat) : Option (Option Nat) := match a with
  | 32 => match k with | 0 => some (some 33) | 1 => some (some 34) | 3 => some (some 35) | 5 => some (some 36) | 8 => some (some 37) | 9 => some (some 41) | 10 => some (some 42) | 11 => some (some 55) | 12 => some (some 56) | 13 => some (some 63) | 14 => some (some 64) | 15 => some (some 65) | 16 => some (some 66) | _ => none
  | 37 => match k with | 0 => some (some 38) | 7 => some (some 39) | 9 => some (some 40) | _ => none
  | 42 => match k with | 0 => some (some 43) | 1 => some (some 44) | 6 => some (some 45) | _ => none
  | 73 => match k with | 2 => some (some 74) | _ => none
  | 75 => match k with | 2 => some (some 76) | _ => none
  | 77 => match k with | 2 => some (some 78) | _ => none
  | 79 => match k with | 2 => some (some 80) | _ => none
  | 81 => match k with | 0 => some (some 82) | 1 => some (some 83) | 4 => some (some 84) | 5 => some (some 85) | 6 => some (some 86) | 7 => some (some 87) | 9 => some (some 88) | 10 => some (some 89) | 17 => some (some 90) | 18 => some (some 91) | 19 => some (some 92) | 20 => some (some 93) | 21 => some (some 94) | 26 => some (some 95) | 27 => some (some 96) | 31 => some (some 97) | 32 => some (some 98) | 33 => some (some 99) | 35 => some (some 100) | 36 => some (some 101) | 37 => some (some 102) | 38 => some (some 103) | 39 => some (some 104) | 40 => some (some 105) | 41 => some (some 106) | 42 => some (some 107) | 43 => some (some 108) | 44 => some (some 109) | 46 => some (some 110) | 49 => some (some 111) | 50 => some (some 112) | 52 => some (some 113) | _ => none
  | 43 => if k < 9 then some (some (46 + k)) else none
  | 56 => if k < 6 then some (some (57 + k)) else none
  | 41 => if k < 4 then some (some (73 + 2 * k)) else none
  | _ => none
def zStA (a : Nat) : Bool := a == 32 || a == 37 || a == 41 || a == 42 || a == 43 || a == 56 || a == 73 || a == 75 || a == 77 || a == 79 || a == 81
theorem zSt0_none {a : Nat} (h : zStA a = false) (k : Nat) : zSt0 a k = none := by
  unfold zSt0
  split <;> first | rfl | (exfalso; revert h; decide)
def zSh (n : Nat) (kd : Nat → Nat × Nat) : Prop := 114 ≤ n ∧ ∀ a, 32 ≤ a → a < 114 → kd a = zK0 a
theorem zSh.has {n : Nat} {kd : Nat → Nat × Nat} (h : zSh n kd) (a : Nat) {K : Nat} (h1 : 32 ≤ a) (h2 : a < 81) (hk : (zK0 a).1 = K) : zHas n kd a K := ⟨⟨h1, Or.inl h2⟩, Nat.lt_of_lt_of_le (Nat.lt_trans h2 (by decide)) h.1, by rw [h.2 a h1 (Nat.lt_trans h2 (by decide))]; exact hk⟩
theorem zgh : ∀ a, a < 114 → 81 ≤ a → (zK0 a).1 = 15 := by decide +kernel
/-- a cell that isn't a ghost -/
theorem zSh.rl {n : Nat} {kd : Nat → Nat × Nat} (h : zSh n kd) {a : Nat} (h1 : 32 ≤ a) (hk : (kd a).1 ≠ 15) : zrl a := by
  refine ⟨h1, ?_⟩
  by_cases c : a < 81
  · exact Or.inl c
  · by_cases c2 : a < 114
    · exact absurd (by rw [h.2 a h1 c2]; exact zgh a c2 (by omega)) hk
    · exact Or.inr (by omega)
theorem zSh.top {n : Nat} {kd : Nat → Nat × Nat} (h : zSh n kd) : zrl n := ⟨by have := h.1; omega, Or.inr h.1⟩
theorem zSh.len {n : Nat} {kd : Nat → Nat × Nat} (h : zSh n kd) (a : Nat) {N : Nat} (h1 : 32 ≤ a) (h2 : a < 114) (hk : (zK0 a).2 = N) : (kd a).2 = N := by rw [h.2 a h1 h2]; exact hk
theorem zSh.st {n : Nat} {kd : Nat → Nat × Nat} (h : zSh n kd) {a K : Nat} (ha : zHas n kd a K) (hK : (List.range 82).all (fun j => (zKL.getD j (0, 0)).1 != K || !zStA (j + 32)) = true) (k : Nat) : zSt0 a k = none := by
  refine zSt0_none ?_ k
  by_cases h2 : a < 114
  · have e := h.2 a ha.1.1 h2
    have h3 := List.all_eq_true.mp hK (a - 32) (List.mem_range.mpr (by omega))
    have h4 : (zKL.getD (a - 32) (0, 0)).1 = K := by
      have h5 : (zK0 a).1 = K := by rw [← e]; exact ha.2.2
      exact h5
    rw [h4, show a - 32 + 32 = a by have := ha.1.1; omega] at h3
    simpa using h3
  · unfold zStA
    simp only [Bool.or_eq_false_iff, beq_eq_false_iff_ne]
    omega
/-- Bools for what is asked on the way -/
def zib (i : Int32) (n : Nat) : Bool := decide (0 ≤ i) && decide (i.toNatClampNeg < n)
theorem zib_in {i : Int32} {n : Nat} (h : zib i n = true) : vp_in i n := by
  unfold zib at h
  simp only [Bool.and_eq_true, decide_eq_true_eq] at h
  rintro (q | q)
  · exact absurd h.1 (Int32.not_le.mpr q)
  · omega
def zHpB (a : Nat) : Bool := decide (46 ≤ a) && decide (a < 55)
def zSeB (a : Nat) : Bool := a == 73 || a == 75 || a == 77 || a == 79
def zwB (K : Nat) : Bool := K == 17 || K == 20 || K == 21 || K == 24 || K == 25 || K == 26
def zWkB (n : Nat) (kd : Nat → Nat × Nat) (a : Nat) : Bool := decide (32 ≤ a) && decide (a < n) && zwB (kd a).1
def zKdB (n : Nat) (kd : Nat → Nat × Nat) (a K : Nat) : Bool := decide (32 ≤ a) && decide (a < n) && (kd a).1 == K
theorem zKdB_has {n : Nat} {kd : Nat → Nat × Nat} {a K : Nat} (h : zKdB n kd a K = true) : 32 ≤ a ∧ a < n ∧ (kd a).1 = K := by
  unfold zKdB at h
  simp only [Bool.and_eq_true, decide_eq_true_eq, beq_iff_eq] at h
  exact ⟨h.1.1, h.1.2, h.2⟩
theorem zKdB_hasR {n : Nat} {kd : Nat → Nat × Nat} {a K : Nat} (hS : zSh n kd) (hK : K ≠ 15) (h : zKdB n kd a K = true) : zHas n kd a K := by
  obtain ⟨h1, h2, h3⟩ := zKdB_has h
  exact ⟨hS.rl h1 (by rw [h3]; exact hK), h2, h3⟩
/-- while objects are built: below the ghosts -/
def zKdC (n : Nat) (kd : Nat → Nat × Nat) (a K : Nat) : Bool := decide (32 ≤ a) && decide (a < n) && decide (a < 81) && (kd a).1 == K
theorem zKdC_has {n : Nat} {kd : Nat → Nat × Nat} {a K : Nat} (h : zKdC n kd a K = true) : zHas n kd a K := by
  unfold zKdC at h
  simp only [Bool.and_eq_true, decide_eq_true_eq, beq_iff_eq] at h
  exact ⟨⟨h.1.1.1, Or.inl h.1.2⟩, h.1.1.2, h.2⟩
theorem zWkB_has {n : Nat} {kd : Nat → Nat × Nat} {a : Nat} (h : zWkB n kd a = true) : ∃ c, zWc c ∧ 32 ≤ a ∧ a < n ∧ (kd a).1 = 16 + c := by
  unfold zWkB zwB at h
  simp only [Bool.and_eq_true, Bool.or_eq_true, decide_eq_true_eq, beq_iff_eq] at h
  obtain ⟨⟨h1, h2⟩, ((((h3 | h3) | h3) | h3) | h3) | h3⟩ := h
  · exact ⟨1, Or.inl rfl, h1, h2, h3⟩
  · exact ⟨4, Or.inr (Or.inl rfl), h1, h2, h3⟩
  · exact ⟨5, Or.inr (Or.inr (Or.inl rfl)), h1, h2, h3⟩
  · exact ⟨8, Or.inr (Or.inr (Or.inr (Or.inl rfl))), h1, h2, h3⟩
  · exact ⟨9, Or.inr (Or.inr (Or.inr (Or.inr (Or.inl rfl)))), h1, h2, h3⟩
  · exact ⟨10, Or.inr (Or.inr (Or.inr (Or.inr (Or.inr rfl)))), h1, h2, h3⟩
theorem zWkB_hasR {n : Nat} {kd : Nat → Nat × Nat} {a : Nat} (hS : zSh n kd) (h : zWkB n kd a = true) : ∃ c, zWc c ∧ zHas n kd a (16 + c) := by
  obtain ⟨c, h1, h2, h3, h4⟩ := zWkB_has h
  exact ⟨c, h1, hS.rl h2 (by rw [h4]; omega), h3, h4⟩
theorem zHpB_has {n : Nat} {kd : Nat → Nat × Nat} {a : Nat} (hS : zSh n kd) (h : zHpB a = true) : zHas n kd a (16 + 2) := by
  unfold zHpB at h
  simp only [Bool.and_eq_true, decide_eq_true_eq] at h
  refine hS.has a (by omega) (by omega) ?_
  have h2 : ∀ j, j < 55 → 46 ≤ j → (zK0 j).1 = 16 + 2 := by decide +kernel
  exact h2 a h.2 h.1
theorem zSeB_has {n : Nat} {kd : Nat → Nat × Nat} {a : Nat} (hS : zSh n kd) (h : zSeB a = true) : zHas n kd a (16 + 6) ∧ zHas n kd (a + 1) 0 ∧ (kd (a + 1)).2 = 40 ∧ zSt0 a 2 = some (some (a + 1)) := by
  unfold zSeB at h
  simp only [Bool.or_eq_true, beq_iff_eq] at h
  rcases h with ((h | h) | h) | h <;> subst h
  · exact ⟨hS.has _ (by decide) (by decide) rfl, hS.has _ (by decide) (by decide) rfl, hS.len _ (by decide) (by decide) rfl, rfl⟩
  · exact ⟨hS.has _ (by decide) (by decide) rfl, hS.has _ (by decide) (by decide) rfl, hS.len _ (by decide) (by decide) rfl, rfl⟩
  · exact ⟨hS.has _ (by decide) (by decide) rfl, hS.has _ (by decide) (by decide) rfl, hS.len _ (by decide) (by decide) rfl, rfl⟩
  · exact ⟨hS.has _ (by decide) (by decide) rfl, hS.has _ (by decide) (by decide) rfl, hS.len _ (by decide) (by decide) rfl, rfl⟩
theorem zWc_lt {c : Nat} (h : zWc c) : c < 14 := by rcases h with rfl | rfl | rfl | rfl | rfl | rfl <;> decide
/-! the memory as a tuple -/
abbrev zMI : Type := Nat → Nat → Int32
abbrev zMR : Type := Nat → Nat → Option Nat
abbrev zMK : Type := Nat → Nat × Nat
def uI (I : zMI) (a k : Nat) (x : Int32) : zMI := fun b => if b = a then upd (I a) k x else I b
def uA (I : zMI) (a : Nat) (f : Nat → Int32) : zMI := fun b => if b = a then f else I b
def uR (R : zMR) (a k : Nat) (r : Option Nat) : zMR := fun b => if b = a then va_up (R a) k r else R b
/-! how a decompiled method is built, and read again -/
def zb {α β : Type} (x : Option α) (f : α → Option β) : Option β := match x with
  | none => none
  | some a => f a
def zl {α β : Type} (x : α) (f : α → Option β) : Option β := f x
def zm {β : Type} (o : Option Nat) (x : Option β) (f : Nat → Option β) : Option β := match o with
  | none => x
  | some a => f a
theorem zgd {c : Prop} [Decidable c] {α : Type} {x : Option α} {r : α} (h : (if c then x else none) = some r) : c ∧ x = some r := by
  by_cases g : c
  · rw [if_pos g] at h
    exact ⟨g, h⟩
  · rw [if_neg g] at h
    cases h
theorem zit {c : Prop} [Decidable c] {α : Type} {x y r : α} (g : c) (h : (if c then x else y) = r) : x = r := by
  rw [if_pos g] at h
  exact h
theorem zif {c : Prop} [Decidable c] {α : Type} {x y r : α} (g : ¬ c) (h : (if c then x else y) = r) : y = r := by
  rw [if_neg g] at h
  exact h
theorem zbd {α β : Type} {x : Option α} {f : α → Option β} {r : β} (h : zb x f = some r) : ∃ a, x = some a ∧ f a = some r := by
  cases x with
  | none => cases h
  | some a => exact ⟨a, rfl, h⟩
theorem zld {α β : Type} {x : α} {f : α → Option β} {r : β} (h : zl x f = some r) : ∃ a, x = a ∧ f a = some r := ⟨x, rfl, h⟩
theorem zmn {β : Type} {o : Option Nat} {x : Option β} {f : Nat → Option β} {r : Option β} (g : o = none) (h : zm o x f = r) : x = r := by
  rw [g] at h
  exact h
theorem zms {β : Type} {o : Option Nat} {x : Option β} {f : Nat → Option β} {r : Option β} {a : Nat} (g : o = some a) (h : zm o x f = r) : f a = r := by
  rw [g] at h
  exact h
def zF : Nat := 1000000
def zmask : List Bool → List (Option Value) → List (Option Value)
  | true :: m, v :: L => v :: zmask m L
  | false :: m, _ :: L => none :: zmask m L
  | _, _ => []
theorem zmask_at : ∀ (m : List Bool) (L : List (Option Value)) (j : Nat) (v : Value), (zmask m L)[j]? = some (some v) → L[j]? = some (some v)
  | [], L, j, v, h => by simp [zmask] at h
  | true :: m, [], j, v, h => by simp [zmask] at h
  | false :: m, [], j, v, h => by simp [zmask] at h
  | true :: m, u :: L, 0, v, h => by simpa [zmask] using h
  | false :: m, u :: L, 0, v, h => by simp [zmask] at h
  | true :: m, u :: L, j + 1, v, h => by
    have := zmask_at m L j v (by simpa [zmask] using h)
    simpa using this
  | false :: m, u :: L, j + 1, v, h => by
    have := zmask_at m L j v (by simpa [zmask] using h)
    simpa using this
section EVT
variable {w : zW} {d kc ks : Nat} {y : zY} {pc : Nat} {L : List (Option Value)} {st : List Value} {n : Nat} {kd : zMK} {I J : zMI} {R R' : zMR} {μ : zM} {Q Q' : Option Value → zM → Prop}
theorem EV.mask (m : List Bool) {L' : List (Option Value)} (hL : zmask m L = L') (h : EV w d kc ks y pc L' st μ Q) : EV w d kc ks y pc L st μ Q := by
  subst hL
  exact h.less (fun j v hj => zmask_at m L j v hj)
theorem ev_nm {x v : Int32} (e : x = v) (k : EV w d kc ks y pc L (.int v :: st) μ Q) : EV w d kc ks y pc L (.int x :: st) μ Q := by rw [e]; exact k
theorem zrr_st {a k : Nat} {r : Option Nat} (hw : zst w = zSt0) (h : zSt0 a k = some r) : zrr w μ a k = r := by
  unfold zrr
  rw [hw, h]
theorem zrr_dy {a k : Nat} {r : Option Nat} (hw : zst w = zSt0) (h : zSt0 a k = none) (hr : zr μ a k = r) : zrr w μ a k = r := by
  unfold zrr
  rw [hw, h]
  exact hr
theorem em_getI {idx c k a : Nat} {x : Int32} (hd : decode y.2.1 pc = .ok (.getfield idx, 3)) (hf : zFL y.1.cls idx c k) (hfl : zfl c k = false) (ha : zHas n kd a (16 + c)) (hv : I a k = x)
    (kk : EV w d kc ks y (pc + 3) L (.int x :: st) (n, kd, I, R) Q) : EV w d kc ks y pc L (.ref a :: st) (n, kd, I, R) Q := ev_getI hd hf hfl ha hv kk
theorem em_getA {idx c k a b : Nat} (hd : decode y.2.1 pc = .ok (.getfield idx, 3)) (hf : zFL y.1.cls idx c k) (hfl : zfl c k = true) (ha : zHas n kd a (16 + c)) (hw : zst w = zSt0) (hs : zSt0 a k = some (some b))
    (kk : EV w d kc ks y (pc + 3) L (.ref b :: st) (n, kd, I, R) Q) : EV w d kc ks y pc L (.ref a :: st) (n, kd, I, R) Q := ev_getR hd hf hfl ha (zrr_st hw hs) kk
theorem zva_rf (w : zW) (o : Option Nat) : zva w (va_rf o) = va_rf (o.map (zad w)) := by cases o <;> rfl
theorem em_getO {idx c k a : Nat} {o : Option Nat} (hd : decode y.2.1 pc = .ok (.getfield idx, 3)) (hf : zFL y.1.cls idx c k) (hfl : zfl c k = true) (ha : zHas n kd a (16 + c)) (hw : zst w = zSt0) (hs : zSt0 a k = none) (ho : R a k = o)
    (kk : EV w d kc ks y (pc + 3) L (va_rf o :: st) (n, kd, I, R) Q) : EV w d kc ks y pc L (.ref a :: st) (n, kd, I, R) Q := by
  refine ev_get hd hf ha ?_ kk
  unfold zv
  rw [if_pos hfl, zrr_dy hw hs (show zr (n, kd, I, R) a k = o from ho), zva_rf]
theorem em_putI {idx c k a : Nat} {x : Int32} (hd : decode y.2.1 pc = .ok (.putfield idx, 3)) (hf : zFL y.1.cls idx c k) (hm : zMay y c k) (hfl : zfl c k = false) (hn : narrow (zty c k) (.int x) = .int x) (hfit : fits (zty c k) (.int x) = true) (ha : zHas n kd a (16 + c)) (hJ : uI I a k x = J)
    (kk : EV w d kc ks y (pc + 3) L st (n, kd, J, R) Q) : EV w d kc ks y pc L (.int x :: .ref a :: st) (n, kd, I, R) Q := by
  subst hJ
  exact ev_putI hd hf hm hfl hn hfit ha kk
theorem em_putO {idx c k a : Nat} {o : Option Nat} (hd : decode y.2.1 pc = .ok (.putfield idx, 3)) (hf : zFL y.1.cls idx c k) (hm : zMay y c k) (hfl : zfl c k = true) (hw : zst w = zSt0) (hs : zSt0 a k = none) (hn : ∀ q, narrow (zty c k) (.ref q) = .ref q) (hfit : ∀ q, fits (zty c k) (.ref q) = true) (hn0 : narrow (zty c k) .null = .null) (hfit0 : fits (zty c k) .null = true) (ha : zHas n kd a (16 + c)) (hJ : uR R a k o = R')
    (kk : EV w d kc ks y (pc + 3) L st (n, kd, I, R') Q) : EV w d kc ks y pc L (va_rf o :: .ref a :: st) (n, kd, I, R) Q := by
  subst hJ
  cases o with
  | none => exact ev_putN hd hf hm hfl (by rw [hw]; exact hs) hn0 hfit0 ha kk
  | some b => exact ev_putR hd hf hm hfl (by rw [hw]; exact hs) hn hfit ha kk
theorem em_putR {idx c k a b : Nat} (hd : decode y.2.1 pc = .ok (.putfield idx, 3)) (hf : zFL y.1.cls idx c k) (hm : zMay y c k) (hfl : zfl c k = true) (hw : zst w = zSt0) (hs : zSt0 a k = none) (hn : ∀ q, narrow (zty c k) (.ref q) = .ref q) (hfit : ∀ q, fits (zty c k) (.ref q) = true) (ha : zHas n kd a (16 + c)) (hJ : uR R a k (some b) = R')
    (kk : EV w d kc ks y (pc + 3) L st (n, kd, I, R') Q) : EV w d kc ks y pc L (.ref b :: .ref a :: st) (n, kd, I, R) Q := by
  subst hJ
  exact ev_putR hd hf hm hfl (by rw [hw]; exact hs) hn hfit ha kk
/-- rows of ints at an address that is known, or at any -/
theorem em_iald {a N : Nat} {i x : Int32} (hd : decode y.2.1 pc = .ok (.iaload, 1)) (hS : zSh n kd) (h1 : 32 ≤ a) (h2 : a < 81) (hk : zK0 a = (0, N)) (hin : zib i N = true) (hv : I a i.toNatClampNeg = x)
    (kk : EV w d kc ks y (pc + 1) L (.int x :: st) (n, kd, I, R) Q) : EV w d kc ks y pc L (.int i :: .ref a :: st) (n, kd, I, R) Q :=
  ev_iald hd (hS.has a h1 h2 (by rw [hk])) (by show vp_in i (kd a).2; rw [hS.len a h1 (Nat.lt_trans h2 (by decide)) (by rw [hk])]; exact zib_in hin) hv kk
theorem em_iast {a N : Nat} {i x : Int32} (hd : decode y.2.1 pc = .ok (.iastore, 1)) (hS : zSh n kd) (h1 : 32 ≤ a) (h2 : a < 81) (hk : zK0 a = (0, N)) (hin : zib i N = true) (hJ : uI I a i.toNatClampNeg x = J)
    (kk : EV w d kc ks y (pc + 1) L st (n, kd, J, R) Q) : EV w d kc ks y pc L (.int x :: .int i :: .ref a :: st) (n, kd, I, R) Q := by
  subst hJ
  exact ev_iast hd (hS.has a h1 h2 (by rw [hk])) (by show vp_in i (kd a).2; rw [hS.len a h1 (Nat.lt_trans h2 (by decide)) (by rw [hk])]; exact zib_in hin) kk
theorem em_ialdG {a N : Nat} {i x : Int32} (hd : decode y.2.1 pc = .ok (.iaload, 1)) (ha : zHas n kd a 0) (hN : (kd a).2 = N) (hin : zib i N = true) (hv : I a i.toNatClampNeg = x)
    (kk : EV w d kc ks y (pc + 1) L (.int x :: st) (n, kd, I, R) Q) : EV w d kc ks y pc L (.int i :: .ref a :: st) (n, kd, I, R) Q := ev_iald hd ha (by show vp_in i (kd a).2; rw [hN]; exact zib_in hin) hv kk
theorem em_iastG {a N : Nat} {i x : Int32} (hd : decode y.2.1 pc = .ok (.iastore, 1)) (ha : zHas n kd a 0) (hN : (kd a).2 = N) (hin : zib i N = true) (hJ : uI I a i.toNatClampNeg x = J)
    (kk : EV w d kc ks y (pc + 1) L st (n, kd, J, R) Q) : EV w d kc ks y pc L (.int x :: .int i :: .ref a :: st) (n, kd, I, R) Q := by
  subst hJ
  exact ev_iast hd ha (by show vp_in i (kd a).2; rw [hN]; exact zib_in hin) kk
theorem em_alen {a N : Nat} {x : Int32} {j : Nat} (hd : decode y.2.1 pc = .ok (.arraylength, 1)) (ha : zHas n kd a j) (h6 : j < 6) (hN : (kd a).2 = N) (hv : Int32.ofNat N = x)
    (kk : EV w d kc ks y (pc + 1) L (.int x :: st) (n, kd, I, R) Q) : EV w d kc ks y pc L (.ref a :: st) (n, kd, I, R) Q := ev_alen hd ha h6 (by show Int32.ofNat (kd a).2 = x; rw [hN]; exact hv) kk
/-- rows of references -/
theorem em_aaldO {a N j : Nat} {i : Int32} {o : Option Nat} (hd : decode y.2.1 pc = .ok (.aaload, 1)) (hS : zSh n kd) (h1 : 32 ≤ a) (h2 : a < 81) (hk : zK0 a = (j, N)) (h0 : 0 < j) (h6 : j < 6) (hw : zst w = zSt0) (hs : ∀ q, zSt0 a q = none) (hin : zib i N = true) (ho : R a i.toNatClampNeg = o)
    (kk : EV w d kc ks y (pc + 1) L (va_rf o :: st) (n, kd, I, R) Q) : EV w d kc ks y pc L (.int i :: .ref a :: st) (n, kd, I, R) Q :=
  ev_aald hd (hS.has a h1 h2 (by rw [hk])) h0 h6 (by show vp_in i (kd a).2; rw [hS.len a h1 (Nat.lt_trans h2 (by decide)) (by rw [hk])]; exact zib_in hin) (by rw [zrr_dy hw (hs _) (show zr (n, kd, I, R) a i.toNatClampNeg = o from ho), zva_rf]) kk
theorem em_aaldA {a N j b : Nat} {i : Int32} (hd : decode y.2.1 pc = .ok (.aaload, 1)) (hS : zSh n kd) (h1 : 32 ≤ a) (h2 : a < 81) (hk : zK0 a = (j, N)) (h0 : 0 < j) (h6 : j < 6) (hw : zst w = zSt0) (hin : zib i N = true) (hs : zSt0 a i.toNatClampNeg = some (some b))
    (kk : EV w d kc ks y (pc + 1) L (.ref b :: st) (n, kd, I, R) Q) : EV w d kc ks y pc L (.int i :: .ref a :: st) (n, kd, I, R) Q :=
  ev_aaldR hd (hS.has a h1 h2 (by rw [hk])) h0 h6 (by show vp_in i (kd a).2; rw [hS.len a h1 (Nat.lt_trans h2 (by decide)) (by rw [hk])]; exact zib_in hin) (zrr_st hw hs) kk
theorem em_aastN {a N j : Nat} {i : Int32} (hd : decode y.2.1 pc = .ok (.aastore, 1)) (hS : zSh n kd) (h1 : 32 ≤ a) (h2 : a < 81) (hk : zK0 a = (j, N)) (h0 : 1 < j) (h6 : j < 6) (hw : zst w = zSt0) (hs : ∀ q, zSt0 a q = none) (hin : zib i N = true) (hJ : uR R a i.toNatClampNeg none = R')
    (kk : EV w d kc ks y (pc + 1) L st (n, kd, I, R') Q) : EV w d kc ks y pc L (.null :: .int i :: .ref a :: st) (n, kd, I, R) Q := by
  subst hJ
  exact ev_aastN hd (hS.has a h1 h2 (by rw [hk])) h0 h6 (fun k => by rw [hw]; exact hs k) (by show vp_in i (kd a).2; rw [hS.len a h1 (Nat.lt_trans h2 (by decide)) (by rw [hk])]; exact zib_in hin) kk
theorem em_aastR {a N j b c c2 : Nat} {i : Int32} (hd : decode y.2.1 pc = .ok (.aastore, 1)) (hS : zSh n kd) (h1 : 32 ≤ a) (h2 : a < 81) (hk : zK0 a = (j, N)) (h0 : 0 < j) (h6 : j < 6) (hb : zHas n kd b (16 + c)) (hc : c < 14) (hc2 : c2 < 14) (hjC : ∀ w : zW, (zT w)[j]? = some (zcA w j, .object (zRf c2))) (hcc : c = c2 ∨ Cond.castable (zRf c) (zRf c2) ∈ zNw) (hw : zst w = zSt0) (hs : ∀ q, zSt0 a q = none) (hin : zib i N = true) (hJ : uR R a i.toNatClampNeg (some b) = R')
    (kk : EV w d kc ks y (pc + 1) L st (n, kd, I, R') Q) : EV w d kc ks y pc L (.ref b :: .int i :: .ref a :: st) (n, kd, I, R) Q := by
  subst hJ
  exact ev_aast hd (hS.has a h1 h2 (by rw [hk])) h0 h6 hb hc hc2 hjC hcc (by rw [hw]; exact hs _) (by show vp_in i (kd a).2; rw [hS.len a h1 (Nat.lt_trans h2 (by decide)) (by rw [hk])]; exact zib_in hin) kk
theorem zWc_cast {c : Nat} (h : zWc c) : c = 10 ∨ Cond.castable (zRf c) (zRf 10) ∈ zNw := by
  rcases h with rfl | rfl | rfl | rfl | rfl | rfl
  · exact Or.inr (by simp [zNw, zRf])
  · exact Or.inr (by simp [zNw, zRf])
  · exact Or.inr (by simp [zNw, zRf])
  · exact Or.inr (by simp [zNw, zRf])
  · exact Or.inr (by simp [zNw, zRf])
  · exact Or.inl rfl
/-- what may be null -/
theorem ev_aload_o {j : Nat} {o : Option Nat} (hd : decode y.2.1 pc = .ok (.aload j, 2)) (hl : L[j]? = some (some (va_rf o))) (k : EV w d kc ks y (pc + 2) L (va_rf o :: st) μ Q) : EV w d kc ks y pc L st μ Q := by
  cases o with
  | none => exact ev_aloadN hd hl k
  | some a => exact ev_aload hd hl k
theorem ev_aload_no {i : Fin 4} {j : Nat} {o : Option Nat} (hd : decode y.2.1 pc = .ok (.aload_n i, 1)) (hi : (i : Nat) = j) (hl : L[j]? = some (some (va_rf o))) (k : EV w d kc ks y (pc + 1) L (va_rf o :: st) μ Q) : EV w d kc ks y pc L st μ Q := by
  cases o with
  | none => exact ev_aload_nN hd hi hl k
  | some a => exact ev_aload_n hd hi hl k
theorem ev_aload_k {j a : Nat} {o : Option Nat} (hd : decode y.2.1 pc = .ok (.aload j, 2)) (ho : o = some a) (hl : L[j]? = some (some (va_rf o))) (k : EV w d kc ks y (pc + 2) L (.ref a :: st) μ Q) : EV w d kc ks y pc L st μ Q := by
  subst ho
  exact ev_aload hd hl k
theorem ev_aload_nk {i : Fin 4} {j a : Nat} {o : Option Nat} (hd : decode y.2.1 pc = .ok (.aload_n i, 1)) (hi : (i : Nat) = j) (ho : o = some a) (hl : L[j]? = some (some (va_rf o))) (k : EV w d kc ks y (pc + 1) L (.ref a :: st) μ Q) : EV w d kc ks y pc L st μ Q := by
  subst ho
  exact ev_aload_n hd hi hl k
theorem ev_astore_o {j : Nat} {o : Option Nat} (hd : decode y.2.1 pc = .ok (.astore j, 2)) (hn : j < y.2.2.1) (hno : zno2 L j = true) (k : EV w d kc ks y (pc + 2) (L.set j (some (va_rf o))) st μ Q) : EV w d kc ks y pc L (va_rf o :: st) μ Q := by
  cases o with
  | none => exact ev_astoreN hd hn hno k
  | some a => exact ev_astore hd hn hno k
theorem ev_astore_no {i : Fin 4} {j : Nat} {o : Option Nat} (hd : decode y.2.1 pc = .ok (.astore_n i, 1)) (hi : (i : Nat) = j) (hn : j < y.2.2.1) (hno : zno2 L j = true) (k : EV w d kc ks y (pc + 1) (L.set j (some (va_rf o))) st μ Q) : EV w d kc ks y pc L (va_rf o :: st) μ Q := by
  cases o with
  | none => exact ev_astore_nN hd hi hn hno k
  | some a => exact ev_astore_n hd hi hn hno k
theorem ev_ifnull_o {off : Int} {tgt : Nat} {o : Option Nat} (hd : decode y.2.1 pc = .ok (.ifnull off, 3)) (ht : (pc : Int) + off = (tgt : Int)) (kt : o = none → EV w d kc ks y tgt L st μ Q) (kf : ∀ a, o = some a → EV w d kc ks y (pc + 3) L st μ Q) : EV w d kc ks y pc L (va_rf o :: st) μ Q := by
  cases o with
  | none => exact ev_ifnull_n hd ht (kt rfl)
  | some a => exact ev_ifnull_r hd (kf a rfl)
theorem ev_ifnonnull_o {off : Int} {tgt : Nat} {o : Option Nat} (hd : decode y.2.1 pc = .ok (.ifnonnull off, 3)) (ht : (pc : Int) + off = (tgt : Int)) (kt : ∀ a, o = some a → EV w d kc ks y tgt L st μ Q) (kf : o = none → EV w d kc ks y (pc + 3) L st μ Q) : EV w d kc ks y pc L (va_rf o :: st) μ Q := by
  cases o with
  | none => exact ev_ifnonnull_n hd (kf rfl)
  | some a => exact ev_ifnonnull_r hd ht (kt a rfl)
theorem ev_end_o {o : Option Nat} {rt : FieldType} (hd : decode y.2.1 pc = .ok (.areturn, 1)) (ht : y.2.2.2 = some rt) (hn : (∃ n, rt = .object n) ∨ ∃ t, rt = .array t) (hQ : Q (some (va_rf o)) μ) : EV w d kc ks y pc L [va_rf o] μ Q := by
  cases o with
  | none => exact ev_end_n hd ht hn hQ
  | some a => exact ev_end_r hd ht hn hQ
/-- the machine's switch, its default -/
theorem ev_tableD {dflt lo hi : Int} {offs : Array Int} {len : Nat} {x : Int32} {tgt : Nat} (hd : decode y.2.1 pc = .ok (.tableswitch dflt lo hi offs, len)) (h : x.toInt < lo ∨ hi < x.toInt ∨ offs[(x.toInt - lo).toNat]? = some dflt) (ht : (pc : Int) + dflt = (tgt : Int)) (k : EV w d kc ks y tgt L st μ Q) : EV w d kc ks y pc L (.int x :: st) μ Q := by
  by_cases h1 : x.toInt < lo
  · exact ev_tableOut hd (Or.inl h1) ht k
  · by_cases h2 : hi < x.toInt
    · exact ev_tableOut hd (Or.inr h2) ht k
    · exact ev_tableIn hd h1 h2 (h.resolve_left h1 |>.resolve_left h2) ht k
/-- calls of methods that make no cell -/
theorem ev_callS0 {d' idx m : Nat} {y' : zY} {As rest : List Value} {L0 : List (Option Value)} {Q1 : Option Value → zM → Prop} (hd : decode y.2.1 pc = .ok (.invokestatic idx, 3)) (hm : zMeth y' m) (hl : Cond.methodLink y.1.cls idx y'.1 ∈ zGT) (hs : Cond.static y'.1 ∈ zGT)
    (hst : st = As.reverse ++ rest) (hn : As.length = m) (hr : (rest.map fun v => v.category).sum ≤ 8) (hl0 : zL0 As y'.2.2.1 = L0) (hlen : (zfa As).length ≤ y'.2.2.1) (hdd : d' + 1 ≤ d)
    (h : EV w d' 0 0 y' 0 L0 [] μ Q1) (cont : ∀ v μ', Q1 v μ' → EV w d kc ks y (pc + 3) L (v.toList ++ rest) μ' Q) : EV w d kc ks y pc L st μ Q := by
  rw [← Nat.zero_add kc, ← Nat.zero_add ks]
  exact ev_callS hd hm hl hs hst hn hr hl0 hlen hdd h cont
theorem ev_callV0 {d' idx m b : Nat} {y' : zY} {As rest : List Value} {L0 : List (Option Value)} {Q1 : Option Value → zM → Prop} (hd : decode y.2.1 pc = .ok (.invokevirtual idx, 3)) (hm : zMeth y' m) (hl : Cond.methodLink y.1.cls idx y'.1 ∈ zGT) (hi : Cond.instanceMethod y'.1 ∈ zGT) (hse : Cond.selects y'.1.cls y'.1 y'.1 ∈ zGT)
    (hb : zRcv w μ b y'.1.cls) (hst : st = As.reverse ++ .ref b :: rest) (hn : As.length = m) (hr : (rest.map fun v => v.category).sum ≤ 8) (hl0 : zL0 (.ref b :: As) y'.2.2.1 = L0) (hlen : (zfa (.ref b :: As)).length ≤ y'.2.2.1) (hdd : d' + 1 ≤ d)
    (h : EV w d' 0 0 y' 0 L0 [] μ Q1) (cont : ∀ v μ', Q1 v μ' → EV w d kc ks y (pc + 3) L (v.toList ++ rest) μ' Q) : EV w d kc ks y pc L st μ Q := by
  rw [← Nat.zero_add kc, ← Nat.zero_add ks]
  exact ev_callV hd hm hl hi hse hb hst hn hr hl0 hlen hdd h cont
end EVT
end
section
/-! small facts that the laid proofs name -/
theorem zacp_s : Cond.static arraycopyName ∈ zGT := zi4 101 rfl rfl
theorem ev_i2c {w : zW} {d kc ks : Nat} {y : zY} {pc : Nat} {L : List (Option Value)} {st : List Value} {μ : zM} {Q : Option Value → zM → Prop} {a v : Int32} (hd : decode y.2.1 pc = .ok (.i2c, 1)) (hv : (a.toUInt32 % 65536).toInt32 = v) (k : EV w d kc ks y (pc + 1) L (.int v :: st) μ Q) : EV w d kc ks y pc L (.int a :: st) μ Q := by
  intro p l e R s m args below meth c H locs cells slots Qf ls hG hC hL hP h1 h2 h3 h4 hQ
  exact lv_i2c hC.1 hC.2.1 hd hv (k p l e R s m args below meth c H locs cells slots Qf ls hG hC hL hP h1 h2 h3 h4 hQ)
/-- what arraycopy asks -/
def zcpB (sp dp n : Int32) (N0 N1 : Nat) : Bool := decide (0 ≤ sp) && decide (0 ≤ dp) && decide (0 ≤ n) && decide (sp.toNatClampNeg + n.toNatClampNeg ≤ N0) && decide (dp.toNatClampNeg + n.toNatClampNeg ≤ N1)
theorem em_copy {w : zW} {d kc ks : Nat} {y : zY} {pc : Nat} {L : List (Option Value)} {st : List Value} {n0 : Nat} {kd : zMK} {I J : zMI} {R : zMR} {Q : Option Value → zM → Prop} {a0 a idx N0 N1 : Nat} {sp dp n : Int32} (hd : decode y.2.1 pc = .ok (.invokestatic idx, 3)) (hl : Cond.methodLink y.1.cls idx arraycopyName ∈ zGT) (ha0 : zHas n0 kd a0 0) (ha : zHas n0 kd a 0) (hN0 : (kd a0).2 = N0) (hN1 : (kd a).2 = N1) (g : zcpB sp dp n N0 N1 = true) (hd1 : 1 ≤ d) (hr : (st.map fun v => v.category).sum ≤ 8) (hJ : uA I a (va_cpy (I a0) (I a) sp.toNatClampNeg dp.toNatClampNeg n.toNatClampNeg) = J)
    (kk : EV w d kc ks y (pc + 3) L st (n0, kd, J, R) Q) : EV w d kc ks y pc L (.int n :: .int dp :: .ref a :: .int sp :: .ref a0 :: st) (n0, kd, I, R) Q := by
  subst hJ
  unfold zcpB at g
  simp only [Bool.and_eq_true, decide_eq_true_eq] at g
  obtain ⟨⟨⟨⟨g1, g2⟩, g3⟩, g4⟩, g5⟩ := g
  exact ev_copy hd hl zna_arraycopy zacp_s zn_java_lang_System ha0 ha (Int32.not_lt.mpr g1) (Int32.not_lt.mpr g2) (Int32.not_lt.mpr g3) (by show _ ≤ (kd a0).2; omega) (by show _ ≤ (kd a).2; omega) hd1 hr (by decide) kk
theorem ev_ldcw {w : zW} {d kc ks : Nat} {y : zY} {pc : Nat} {L : List (Option Value)} {st : List Value} {μ : zM} {Q : Option Value → zM → Prop} {i : Nat} {v : Int32} (hd : decode y.2.1 pc = .ok (.ldc_w i, 3)) (hc : Cond.constant y.1.cls i v ∈ zGT) (k : EV w d kc ks y (pc + 3) L (.int v :: st) μ Q) : EV w d kc ks y pc L st μ Q := by
  intro p l e R s m args below meth c H locs cells slots Qf ls hG hC hL hP h1 h2 h3 h4 hQ
  exact lv_ldcw hC.1 hC.2.1 hC.2.2.2.1 (hC.2.2.2.2.1 _ hc) hd (k p l e R s m args below meth c H locs cells slots Qf ls hG hC hL hP h1 h2 h3 h4 hQ)
theorem zopt (o : Option Nat) : o = none ∨ ∃ a, o = some a := by
  cases o with
  | none => exact Or.inl rfl
  | some a => exact Or.inr ⟨a, rfl⟩
theorem zrf_cat (o : Option Nat) : (va_rf o).category = 1 := by cases o <;> rfl
def zbB (x : Int32) : Bool := x == 0 || x == 1
theorem zbB_n {x : Int32} (h : zbB x = true) : narrow .boolean (.int x) = .int x := by
  unfold zbB at h
  simp only [Bool.or_eq_true, beq_iff_eq] at h
  rcases h with rfl | rfl <;> rfl
def zchB (x : Int32) : Bool := x == (x.toUInt32 % 65536).toInt32
theorem zchr_n {x : Int32} (h : zchB x = true) : narrow .char (.int x) = .int x := by
  unfold zchB at h
  rw [beq_iff_eq] at h
  rw [h]
  exact pk_nc _
def zbyB (x : Int32) : Bool := x == x.toInt8.toInt32
theorem zbyt_n {x : Int32} (h : zbyB x = true) : narrow .byte (.int x) = .int x := by
  unfold zbyB at h
  rw [beq_iff_eq] at h
  rw [h]
  exact pk_nb _
/-- where a text's reader calls itself -/
theorem zrcX {w : zW} {n : Nat} {kd : zMK} {I : zMI} {R : zMR} (hS : zSh n kd) : zRcv w (n, kd, I, R) 32 "NineHeaps" := zRc.rcv ⟨11, by decide, rfl, hS.has 32 (by decide) (by decide) rfl⟩
theorem zrcT {w : zW} {n : Nat} {kd : zMK} {I : zMI} {R : zMR} (hS : zSh n kd) : zRcv w (n, kd, I, R) 37 "NineHeaps$Tape" := zRc.rcv ⟨7, by decide, rfl, hS.has 37 (by decide) (by decide) rfl⟩
theorem zrcG {w : zW} {n : Nat} {kd : zMK} {I : zMI} {R : zMR} (hS : zSh n kd) : zRcv w (n, kd, I, R) 42 "NineHeaps$Going" := zRc.rcv ⟨0, by decide, rfl, hS.has 42 (by decide) (by decide) rfl⟩
theorem zrcHp {w : zW} {n : Nat} {kd : zMK} {I : zMI} {R : zMR} {a : Nat} (hS : zSh n kd) (h : zHpB a = true) : zRcv w (n, kd, I, R) a "NineHeaps$Heap" := zRc.rcv ⟨2, by decide, rfl, zHpB_has hS h⟩
theorem zrcSe {w : zW} {n : Nat} {kd : zMK} {I : zMI} {R : zMR} {a : Nat} (hS : zSh n kd) (h : zSeB a = true) : zRcv w (n, kd, I, R) a "NineHeaps$Sheet" := zRc.rcv ⟨6, by decide, rfl, (zSeB_has hS h).1⟩
theorem zrcLw {w : zW} {n : Nat} {kd : zMK} {I : zMI} {R : zMR} {a : Nat} (hS : zSh n kd) (h : zKdB n kd a 19 = true) : zRcv w (n, kd, I, R) a "NineHeaps$Law" := zRc.rcv ⟨3, by decide, rfl, zKdB_hasR hS (by decide) h⟩
theorem zib_lt {i : Int32} {N : Nat} (h : zib i N = true) : i.toNatClampNeg < N := by
  unfold zib at h
  simp only [Bool.and_eq_true, decide_eq_true_eq] at h
  exact h.2
theorem zheap {i : Int32} (h : zib i 9 = true) : zSt0 43 i.toNatClampNeg = some (some (46 + i.toNatClampNeg)) := if_pos (zib_lt h)
theorem zfew {i : Int32} (h : zib i 6 = true) : zSt0 56 i.toNatClampNeg = some (some (57 + i.toNatClampNeg)) := if_pos (zib_lt h)
theorem zsheet {i : Int32} (h : zib i 4 = true) : zSt0 41 i.toNatClampNeg = some (some (73 + 2 * i.toNatClampNeg)) := if_pos (zib_lt h)
theorem zheap_b {i : Int32} (h : zib i 9 = true) : zHpB (46 + i.toNatClampNeg) = true := by
  have := zib_lt h
  unfold zHpB
  simp only [Bool.and_eq_true, decide_eq_true_eq]
  omega
theorem zsheet_b {i : Int32} (h : zib i 4 = true) : zSeB (73 + 2 * i.toNatClampNeg) = true := by
  have := zib_lt h
  unfold zSeB
  simp only [Bool.or_eq_true, beq_iff_eq]
  omega
theorem zfew_has {n : Nat} {kd : zMK} {i : Int32} (hS : zSh n kd) (h : zib i 6 = true) : zHas n kd (57 + i.toNatClampNeg) 0 := by
  have := zib_lt h
  refine hS.has _ (by omega) (by omega) ?_
  have h2 : ∀ j, j < 6 → (zK0 (57 + j)).1 = 0 := by decide +kernel
  exact h2 _ this
theorem zfew_len {n : Nat} {kd : zMK} {i : Int32} (hS : zSh n kd) (h : zib i 6 = true) : (kd (57 + i.toNatClampNeg)).2 = 10 := by
  have := zib_lt h
  refine hS.len _ (by omega) (by omega) ?_
  have h2 : ∀ j, j < 6 → (zK0 (57 + j)).2 = 10 := by decide +kernel
  exact h2 _ this
theorem zmm_max_s : Cond.static Lib.Math.max.name ∈ zGT := zi1 188 rfl rfl
theorem zmm_max_c : Cond.code Lib.Math.max.name Lib.Math.max.code 2 (some .int) ∈ zGT := zi1 189 rfl rfl
theorem zmm_min_s : Cond.static Lib.Math.min.name ∈ zGT := zi1 191 rfl rfl
theorem zmm_min_c : Cond.code Lib.Math.min.name Lib.Math.min.code 2 (some .int) ∈ zGT := zi1 192 rfl rfl
theorem zcb_m100 : (Int8.ofInt (-100)).toInt32 = (-100 : Int32) := by decide
theorem zcb_m22 : (Int8.ofInt (-22)).toInt32 = (-22 : Int32) := by decide
theorem zcb_m21 : (Int8.ofInt (-21)).toInt32 = (-21 : Int32) := by decide
theorem zcb_m19 : (Int8.ofInt (-19)).toInt32 = (-19 : Int32) := by decide
theorem zcb_m17 : (Int8.ofInt (-17)).toInt32 = (-17 : Int32) := by decide
theorem zcb_m16 : (Int8.ofInt (-16)).toInt32 = (-16 : Int32) := by decide
theorem zcb_m15 : (Int8.ofInt (-15)).toInt32 = (-15 : Int32) := by decide
theorem zcb_m14 : (Int8.ofInt (-14)).toInt32 = (-14 : Int32) := by decide
theorem zcb_m13 : (Int8.ofInt (-13)).toInt32 = (-13 : Int32) := by decide
theorem zcb_m12 : (Int8.ofInt (-12)).toInt32 = (-12 : Int32) := by decide
theorem zcb_m11 : (Int8.ofInt (-11)).toInt32 = (-11 : Int32) := by decide
theorem zcb_m7 : (Int8.ofInt (-7)).toInt32 = (-7 : Int32) := by decide
theorem zcb_m6 : (Int8.ofInt (-6)).toInt32 = (-6 : Int32) := by decide
theorem zcb_m5 : (Int8.ofInt (-5)).toInt32 = (-5 : Int32) := by decide
theorem zcb_m4 : (Int8.ofInt (-4)).toInt32 = (-4 : Int32) := by decide
theorem zcb_m3 : (Int8.ofInt (-3)).toInt32 = (-3 : Int32) := by decide
theorem zcb_m2 : (Int8.ofInt (-2)).toInt32 = (-2 : Int32) := by decide
theorem zcb_6 : (Int8.ofInt 6).toInt32 = (6 : Int32) := by decide
theorem zcb_7 : (Int8.ofInt 7).toInt32 = (7 : Int32) := by decide
theorem zcb_8 : (Int8.ofInt 8).toInt32 = (8 : Int32) := by decide
theorem zcb_9 : (Int8.ofInt 9).toInt32 = (9 : Int32) := by decide
theorem zcb_10 : (Int8.ofInt 10).toInt32 = (10 : Int32) := by decide
theorem zcb_11 : (Int8.ofInt 11).toInt32 = (11 : Int32) := by decide
theorem zcb_12 : (Int8.ofInt 12).toInt32 = (12 : Int32) := by decide
theorem zcb_13 : (Int8.ofInt 13).toInt32 = (13 : Int32) := by decide
theorem zcb_14 : (Int8.ofInt 14).toInt32 = (14 : Int32) := by decide
theorem zcb_15 : (Int8.ofInt 15).toInt32 = (15 : Int32) := by decide
theorem zcb_16 : (Int8.ofInt 16).toInt32 = (16 : Int32) := by decide
theorem zcb_17 : (Int8.ofInt 17).toInt32 = (17 : Int32) := by decide
theorem zcb_18 : (Int8.ofInt 18).toInt32 = (18 : Int32) := by decide
theorem zcb_19 : (Int8.ofInt 19).toInt32 = (19 : Int32) := by decide
theorem zcb_20 : (Int8.ofInt 20).toInt32 = (20 : Int32) := by decide
theorem zcb_21 : (Int8.ofInt 21).toInt32 = (21 : Int32) := by decide
theorem zcb_22 : (Int8.ofInt 22).toInt32 = (22 : Int32) := by decide
theorem zcb_23 : (Int8.ofInt 23).toInt32 = (23 : Int32) := by decide
theorem zcb_24 : (Int8.ofInt 24).toInt32 = (24 : Int32) := by decide
theorem zcb_25 : (Int8.ofInt 25).toInt32 = (25 : Int32) := by decide
theorem zcb_26 : (Int8.ofInt 26).toInt32 = (26 : Int32) := by decide
theorem zcb_27 : (Int8.ofInt 27).toInt32 = (27 : Int32) := by decide
theorem zcb_28 : (Int8.ofInt 28).toInt32 = (28 : Int32) := by decide
theorem zcb_29 : (Int8.ofInt 29).toInt32 = (29 : Int32) := by decide
theorem zcb_30 : (Int8.ofInt 30).toInt32 = (30 : Int32) := by decide
theorem zcb_31 : (Int8.ofInt 31).toInt32 = (31 : Int32) := by decide
theorem zcb_32 : (Int8.ofInt 32).toInt32 = (32 : Int32) := by decide
theorem zcb_33 : (Int8.ofInt 33).toInt32 = (33 : Int32) := by decide
theorem zcb_34 : (Int8.ofInt 34).toInt32 = (34 : Int32) := by decide
theorem zcb_35 : (Int8.ofInt 35).toInt32 = (35 : Int32) := by decide
theorem zcb_36 : (Int8.ofInt 36).toInt32 = (36 : Int32) := by decide
theorem zcb_37 : (Int8.ofInt 37).toInt32 = (37 : Int32) := by decide
theorem zcb_38 : (Int8.ofInt 38).toInt32 = (38 : Int32) := by decide
theorem zcb_39 : (Int8.ofInt 39).toInt32 = (39 : Int32) := by decide
theorem zcb_40 : (Int8.ofInt 40).toInt32 = (40 : Int32) := by decide
theorem zcb_41 : (Int8.ofInt 41).toInt32 = (41 : Int32) := by decide
theorem zcb_42 : (Int8.ofInt 42).toInt32 = (42 : Int32) := by decide
theorem zcb_43 : (Int8.ofInt 43).toInt32 = (43 : Int32) := by decide
theorem zcb_44 : (Int8.ofInt 44).toInt32 = (44 : Int32) := by decide
theorem zcb_45 : (Int8.ofInt 45).toInt32 = (45 : Int32) := by decide
theorem zcb_46 : (Int8.ofInt 46).toInt32 = (46 : Int32) := by decide
theorem zcb_47 : (Int8.ofInt 47).toInt32 = (47 : Int32) := by decide
theorem zcb_48 : (Int8.ofInt 48).toInt32 = (48 : Int32) := by decide
theorem zcb_49 : (Int8.ofInt 49).toInt32 = (49 : Int32) := by decide
theorem zcb_50 : (Int8.ofInt 50).toInt32 = (50 : Int32) := by decide
theorem zcb_51 : (Int8.ofInt 51).toInt32 = (51 : Int32) := by decide
theorem zcb_52 : (Int8.ofInt 52).toInt32 = (52 : Int32) := by decide
theorem zcb_53 : (Int8.ofInt 53).toInt32 = (53 : Int32) := by decide
theorem zcb_54 : (Int8.ofInt 54).toInt32 = (54 : Int32) := by decide
theorem zcb_55 : (Int8.ofInt 55).toInt32 = (55 : Int32) := by decide
theorem zcb_56 : (Int8.ofInt 56).toInt32 = (56 : Int32) := by decide
theorem zcb_57 : (Int8.ofInt 57).toInt32 = (57 : Int32) := by decide
theorem zcb_58 : (Int8.ofInt 58).toInt32 = (58 : Int32) := by decide
theorem zcb_59 : (Int8.ofInt 59).toInt32 = (59 : Int32) := by decide
theorem zcb_60 : (Int8.ofInt 60).toInt32 = (60 : Int32) := by decide
theorem zcb_61 : (Int8.ofInt 61).toInt32 = (61 : Int32) := by decide
theorem zcb_62 : (Int8.ofInt 62).toInt32 = (62 : Int32) := by decide
theorem zcb_63 : (Int8.ofInt 63).toInt32 = (63 : Int32) := by decide
theorem zcb_64 : (Int8.ofInt 64).toInt32 = (64 : Int32) := by decide
theorem zcb_65 : (Int8.ofInt 65).toInt32 = (65 : Int32) := by decide
theorem zcb_66 : (Int8.ofInt 66).toInt32 = (66 : Int32) := by decide
theorem zcb_67 : (Int8.ofInt 67).toInt32 = (67 : Int32) := by decide
theorem zcb_68 : (Int8.ofInt 68).toInt32 = (68 : Int32) := by decide
theorem zcb_69 : (Int8.ofInt 69).toInt32 = (69 : Int32) := by decide
theorem zcb_70 : (Int8.ofInt 70).toInt32 = (70 : Int32) := by decide
theorem zcb_71 : (Int8.ofInt 71).toInt32 = (71 : Int32) := by decide
theorem zcb_72 : (Int8.ofInt 72).toInt32 = (72 : Int32) := by decide
theorem zcb_73 : (Int8.ofInt 73).toInt32 = (73 : Int32) := by decide
theorem zcb_74 : (Int8.ofInt 74).toInt32 = (74 : Int32) := by decide
theorem zcb_75 : (Int8.ofInt 75).toInt32 = (75 : Int32) := by decide
theorem zcb_76 : (Int8.ofInt 76).toInt32 = (76 : Int32) := by decide
theorem zcb_77 : (Int8.ofInt 77).toInt32 = (77 : Int32) := by decide
theorem zcb_78 : (Int8.ofInt 78).toInt32 = (78 : Int32) := by decide
theorem zcb_79 : (Int8.ofInt 79).toInt32 = (79 : Int32) := by decide
theorem zcb_80 : (Int8.ofInt 80).toInt32 = (80 : Int32) := by decide
theorem zcb_81 : (Int8.ofInt 81).toInt32 = (81 : Int32) := by decide
theorem zcb_82 : (Int8.ofInt 82).toInt32 = (82 : Int32) := by decide
theorem zcb_83 : (Int8.ofInt 83).toInt32 = (83 : Int32) := by decide
theorem zcb_84 : (Int8.ofInt 84).toInt32 = (84 : Int32) := by decide
theorem zcb_85 : (Int8.ofInt 85).toInt32 = (85 : Int32) := by decide
theorem zcb_86 : (Int8.ofInt 86).toInt32 = (86 : Int32) := by decide
theorem zcb_87 : (Int8.ofInt 87).toInt32 = (87 : Int32) := by decide
theorem zcb_88 : (Int8.ofInt 88).toInt32 = (88 : Int32) := by decide
theorem zcb_89 : (Int8.ofInt 89).toInt32 = (89 : Int32) := by decide
theorem zcb_90 : (Int8.ofInt 90).toInt32 = (90 : Int32) := by decide
theorem zcb_91 : (Int8.ofInt 91).toInt32 = (91 : Int32) := by decide
theorem zcb_92 : (Int8.ofInt 92).toInt32 = (92 : Int32) := by decide
theorem zcb_93 : (Int8.ofInt 93).toInt32 = (93 : Int32) := by decide
theorem zcb_94 : (Int8.ofInt 94).toInt32 = (94 : Int32) := by decide
theorem zcb_95 : (Int8.ofInt 95).toInt32 = (95 : Int32) := by decide
theorem zcb_96 : (Int8.ofInt 96).toInt32 = (96 : Int32) := by decide
theorem zcb_97 : (Int8.ofInt 97).toInt32 = (97 : Int32) := by decide
theorem zcb_99 : (Int8.ofInt 99).toInt32 = (99 : Int32) := by decide
theorem zcb_100 : (Int8.ofInt 100).toInt32 = (100 : Int32) := by decide
theorem zcb_101 : (Int8.ofInt 101).toInt32 = (101 : Int32) := by decide
theorem zcb_102 : (Int8.ofInt 102).toInt32 = (102 : Int32) := by decide
theorem zcb_104 : (Int8.ofInt 104).toInt32 = (104 : Int32) := by decide
theorem zcb_105 : (Int8.ofInt 105).toInt32 = (105 : Int32) := by decide
theorem zcb_107 : (Int8.ofInt 107).toInt32 = (107 : Int32) := by decide
theorem zcb_108 : (Int8.ofInt 108).toInt32 = (108 : Int32) := by decide
theorem zcb_109 : (Int8.ofInt 109).toInt32 = (109 : Int32) := by decide
theorem zcb_110 : (Int8.ofInt 110).toInt32 = (110 : Int32) := by decide
theorem zcb_111 : (Int8.ofInt 111).toInt32 = (111 : Int32) := by decide
theorem zcb_112 : (Int8.ofInt 112).toInt32 = (112 : Int32) := by decide
theorem zcb_114 : (Int8.ofInt 114).toInt32 = (114 : Int32) := by decide
theorem zcb_115 : (Int8.ofInt 115).toInt32 = (115 : Int32) := by decide
theorem zcb_116 : (Int8.ofInt 116).toInt32 = (116 : Int32) := by decide
theorem zcb_119 : (Int8.ofInt 119).toInt32 = (119 : Int32) := by decide
theorem zcb_120 : (Int8.ofInt 120).toInt32 = (120 : Int32) := by decide
theorem zcb_121 : (Int8.ofInt 121).toInt32 = (121 : Int32) := by decide
theorem zcb_122 : (Int8.ofInt 122).toInt32 = (122 : Int32) := by decide
theorem zci_m1 : Int32.ofInt (-1) = (-1 : Int32) := by decide
theorem zci_0 : Int32.ofInt 0 = (0 : Int32) := by decide
theorem zci_1 : Int32.ofInt 1 = (1 : Int32) := by decide
theorem zci_2 : Int32.ofInt 2 = (2 : Int32) := by decide
theorem zci_3 : Int32.ofInt 3 = (3 : Int32) := by decide
theorem zci_4 : Int32.ofInt 4 = (4 : Int32) := by decide
theorem zci_5 : Int32.ofInt 5 = (5 : Int32) := by decide
theorem zcs_m1000 : (Int16.ofInt (-1000)).toInt32 = (-1000 : Int32) := by decide
theorem zcs_160 : (Int16.ofInt 160).toInt32 = (160 : Int32) := by decide
theorem zcs_200 : (Int16.ofInt 200).toInt32 = (200 : Int32) := by decide
theorem zcs_255 : (Int16.ofInt 255).toInt32 = (255 : Int32) := by decide
theorem zcs_400 : (Int16.ofInt 400).toInt32 = (400 : Int32) := by decide
theorem zcs_600 : (Int16.ofInt 600).toInt32 = (600 : Int32) := by decide
theorem zcs_1000 : (Int16.ofInt 1000).toInt32 = (1000 : Int32) := by decide
theorem zcs_1200 : (Int16.ofInt 1200).toInt32 = (1200 : Int32) := by decide
theorem zcs_8200 : (Int16.ofInt 8200).toInt32 = (8200 : Int32) := by decide
theorem zmm_maxL_s : Cond.static Lib.MathLoose.max_long.x ∈ zGT := zi5 183 rfl rfl
theorem zmm_maxL_c : Cond.code Lib.MathLoose.max_long.x Lib.MathLoose.max_long.code 4 (some .long) ∈ zGT := zi5 184 rfl rfl
theorem zmm_minL_s : Cond.static Lib.MathLoose.min_long.x ∈ zGT := zi5 180 rfl rfl
theorem zmm_minL_c : Cond.code Lib.MathLoose.min_long.x Lib.MathLoose.min_long.code 4 (some .long) ∈ zGT := zi5 181 rfl rfl
end
