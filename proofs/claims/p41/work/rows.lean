section
-- ===== PART A: goes FIRST, ahead of the names: the tables' words, and 'selects' of the private methods out of them =====
/-- a private method of a class that the tables say can be made, by its rows of tables_1 -/
def lw_okq (q : MethodName × Nat) : Prop := (q.1.cls ≠ "java/lang/invoke/MethodHandle" ∧ q.1.cls ≠ "java/lang/invoke/VarHandle") ∧ Cond.instantiable q.1.cls q.2 ∈ tables_1 ∧ Cond.privateMethod q.1 ∈ tables_1 ∧ Cond.instanceMethod q.1 ∈ tables_1
theorem lw_p0 : lw_okq (⟨"NineHeaps", "walkerOf", "(I)LNineHeaps$Walker;"⟩, 20) := ⟨⟨by decide +kernel, by decide +kernel⟩, List.mem_of_getElem? (i := 26) (by decide +kernel), List.mem_of_getElem? (i := 297) (by decide +kernel), List.mem_of_getElem? (i := 298) (by decide +kernel)⟩
theorem lw_p1 : lw_okq (⟨"NineHeaps", "layPlain", "()V"⟩, 20) := ⟨⟨by decide +kernel, by decide +kernel⟩, List.mem_of_getElem? (i := 26) (by decide +kernel), List.mem_of_getElem? (i := 340) (by decide +kernel), List.mem_of_getElem? (i := 341) (by decide +kernel)⟩
theorem lw_p2 : lw_okq (⟨"NineHeaps", "layWithout", "(I)V"⟩, 20) := ⟨⟨by decide +kernel, by decide +kernel⟩, List.mem_of_getElem? (i := 26) (by decide +kernel), List.mem_of_getElem? (i := 344) (by decide +kernel), List.mem_of_getElem? (i := 345) (by decide +kernel)⟩
theorem lw_p3 : lw_okq (⟨"NineHeaps", "layHeaps", "()V"⟩, 20) := ⟨⟨by decide +kernel, by decide +kernel⟩, List.mem_of_getElem? (i := 26) (by decide +kernel), List.mem_of_getElem? (i := 348) (by decide +kernel), List.mem_of_getElem? (i := 349) (by decide +kernel)⟩
theorem lw_p4 : lw_okq (⟨"NineHeaps", "textOf", "(I)LNineHeaps$Law;"⟩, 20) := ⟨⟨by decide +kernel, by decide +kernel⟩, List.mem_of_getElem? (i := 26) (by decide +kernel), List.mem_of_getElem? (i := 352) (by decide +kernel), List.mem_of_getElem? (i := 353) (by decide +kernel)⟩
theorem lw_p5 : lw_okq (⟨"NineHeaps$Going", "moveOn", "(LNineHeaps$Walker;)V"⟩, 13) := ⟨⟨by decide +kernel, by decide +kernel⟩, List.mem_of_getElem? (i := 79) (by decide +kernel), List.mem_of_getElem? (i := 382) (by decide +kernel), List.mem_of_getElem? (i := 383) (by decide +kernel)⟩
theorem lw_p6 : lw_okq (⟨"NineHeaps$Going", "endTaking", "(LNineHeaps$Walker;LNineHeaps$Heap;)V"⟩, 13) := ⟨⟨by decide +kernel, by decide +kernel⟩, List.mem_of_getElem? (i := 79) (by decide +kernel), List.mem_of_getElem? (i := 393) (by decide +kernel), List.mem_of_getElem? (i := 394) (by decide +kernel)⟩
theorem lw_p7 : lw_okq (⟨"NineHeaps$Going", "endProgramme", "(LNineHeaps$Walker;)V"⟩, 13) := ⟨⟨by decide +kernel, by decide +kernel⟩, List.mem_of_getElem? (i := 79) (by decide +kernel), List.mem_of_getElem? (i := 401) (by decide +kernel), List.mem_of_getElem? (i := 402) (by decide +kernel)⟩
theorem lw_p8 : lw_okq (⟨"NineHeaps$Law", "read", "(I)I"⟩, 5) := ⟨⟨by decide +kernel, by decide +kernel⟩, List.mem_of_getElem? (i := 168) (by decide +kernel), List.mem_of_getElem? (i := 413) (by decide +kernel), List.mem_of_getElem? (i := 414) (by decide +kernel)⟩
theorem lw_p9 : lw_okq (⟨"NineHeaps", "orderByNumbers", "()V"⟩, 20) := ⟨⟨by decide +kernel, by decide +kernel⟩, List.mem_of_getElem? (i := 26) (by decide +kernel), List.mem_of_getElem? (i := 487) (by decide +kernel), List.mem_of_getElem? (i := 488) (by decide +kernel)⟩
theorem lw_p10 : lw_okq (⟨"NineHeaps", "layByOrder", "()V"⟩, 20) := ⟨⟨by decide +kernel, by decide +kernel⟩, List.mem_of_getElem? (i := 26) (by decide +kernel), List.mem_of_getElem? (i := 491) (by decide +kernel), List.mem_of_getElem? (i := 492) (by decide +kernel)⟩
theorem lw_p11 : lw_okq (⟨"NineHeaps", "orderAsDigits", "()I"⟩, 20) := ⟨⟨by decide +kernel, by decide +kernel⟩, List.mem_of_getElem? (i := 26) (by decide +kernel), List.mem_of_getElem? (i := 496) (by decide +kernel), List.mem_of_getElem? (i := 497) (by decide +kernel)⟩
theorem lw_p12 : lw_okq (⟨"NineHeaps", "nextOrder", "()Z"⟩, 20) := ⟨⟨by decide +kernel, by decide +kernel⟩, List.mem_of_getElem? (i := 26) (by decide +kernel), List.mem_of_getElem? (i := 500) (by decide +kernel), List.mem_of_getElem? (i := 501) (by decide +kernel)⟩
theorem lw_p13 : lw_okq (⟨"NineHeaps", "swapInOrder", "(II)V"⟩, 20) := ⟨⟨by decide +kernel, by decide +kernel⟩, List.mem_of_getElem? (i := 26) (by decide +kernel), List.mem_of_getElem? (i := 504) (by decide +kernel), List.mem_of_getElem? (i := 505) (by decide +kernel)⟩
theorem lw_p14 : lw_okq (⟨"NineHeaps", "refusedJudging", "(II)I"⟩, 20) := ⟨⟨by decide +kernel, by decide +kernel⟩, List.mem_of_getElem? (i := 26) (by decide +kernel), List.mem_of_getElem? (i := 516) (by decide +kernel), List.mem_of_getElem? (i := 517) (by decide +kernel)⟩
theorem lw_p15 : lw_okq (⟨"NineHeaps", "refusedTelling", "(I)I"⟩, 20) := ⟨⟨by decide +kernel, by decide +kernel⟩, List.mem_of_getElem? (i := 26) (by decide +kernel), List.mem_of_getElem? (i := 520) (by decide +kernel), List.mem_of_getElem? (i := 521) (by decide +kernel)⟩
def lw_privs_1 : List (MethodName × Nat) := [(⟨"NineHeaps", "walkerOf", "(I)LNineHeaps$Walker;"⟩, 20), (⟨"NineHeaps", "layPlain", "()V"⟩, 20), (⟨"NineHeaps", "layWithout", "(I)V"⟩, 20), (⟨"NineHeaps", "layHeaps", "()V"⟩, 20), (⟨"NineHeaps", "textOf", "(I)LNineHeaps$Law;"⟩, 20), (⟨"NineHeaps$Going", "moveOn", "(LNineHeaps$Walker;)V"⟩, 13), (⟨"NineHeaps$Going", "endTaking", "(LNineHeaps$Walker;LNineHeaps$Heap;)V"⟩, 13), (⟨"NineHeaps$Going", "endProgramme", "(LNineHeaps$Walker;)V"⟩, 13), (⟨"NineHeaps$Law", "read", "(I)I"⟩, 5), (⟨"NineHeaps", "orderByNumbers", "()V"⟩, 20), (⟨"NineHeaps", "layByOrder", "()V"⟩, 20), (⟨"NineHeaps", "orderAsDigits", "()I"⟩, 20), (⟨"NineHeaps", "nextOrder", "()Z"⟩, 20), (⟨"NineHeaps", "swapInOrder", "(II)V"⟩, 20), (⟨"NineHeaps", "refusedJudging", "(II)I"⟩, 20), (⟨"NineHeaps", "refusedTelling", "(I)I"⟩, 20)]
theorem lw_r1 : ∀ q ∈ lw_privs_1, lw_okq q := List.forall_mem_cons.mpr ⟨lw_p0, List.forall_mem_cons.mpr ⟨lw_p1, List.forall_mem_cons.mpr ⟨lw_p2, List.forall_mem_cons.mpr ⟨lw_p3, List.forall_mem_cons.mpr ⟨lw_p4, List.forall_mem_cons.mpr ⟨lw_p5, List.forall_mem_cons.mpr ⟨lw_p6, List.forall_mem_cons.mpr ⟨lw_p7, List.forall_mem_cons.mpr ⟨lw_p8, List.forall_mem_cons.mpr ⟨lw_p9, List.forall_mem_cons.mpr ⟨lw_p10, List.forall_mem_cons.mpr ⟨lw_p11, List.forall_mem_cons.mpr ⟨lw_p12, List.forall_mem_cons.mpr ⟨lw_p13, List.forall_mem_cons.mpr ⟨lw_p14, List.forall_mem_cons.mpr ⟨lw_p15, fun _ h => absurd h List.not_mem_nil⟩⟩⟩⟩⟩⟩⟩⟩⟩⟩⟩⟩⟩⟩⟩⟩
theorem lw_p16 : lw_okq (⟨"NineHeaps", "sheetOf", "(I)LNineHeaps$Sheet;"⟩, 20) := ⟨⟨by decide +kernel, by decide +kernel⟩, List.mem_of_getElem? (i := 26) (by decide +kernel), List.mem_of_getElem? (i := 524) (by decide +kernel), List.mem_of_getElem? (i := 525) (by decide +kernel)⟩
theorem lw_p17 : lw_okq (⟨"NineHeaps", "firstOtherwise", "(I)I"⟩, 20) := ⟨⟨by decide +kernel, by decide +kernel⟩, List.mem_of_getElem? (i := 26) (by decide +kernel), List.mem_of_getElem? (i := 532) (by decide +kernel), List.mem_of_getElem? (i := 533) (by decide +kernel)⟩
theorem lw_p18 : lw_okq (⟨"NineHeaps", "changeWant", "(I)I"⟩, 20) := ⟨⟨by decide +kernel, by decide +kernel⟩, List.mem_of_getElem? (i := 26) (by decide +kernel), List.mem_of_getElem? (i := 568) (by decide +kernel), List.mem_of_getElem? (i := 569) (by decide +kernel)⟩
theorem lw_p19 : lw_okq (⟨"NineHeaps$Tape", "nextToken", "()V"⟩, 10) := ⟨⟨by decide +kernel, by decide +kernel⟩, List.mem_of_getElem? (i := 38) (by decide +kernel), List.mem_of_getElem? (i := 1033) (by decide +kernel), List.mem_of_getElem? (i := 1034) (by decide +kernel)⟩
theorem lw_p20 : lw_okq (⟨"NineHeaps$Tape", "byteAt", "(I)I"⟩, 10) := ⟨⟨by decide +kernel, by decide +kernel⟩, List.mem_of_getElem? (i := 38) (by decide +kernel), List.mem_of_getElem? (i := 1037) (by decide +kernel), List.mem_of_getElem? (i := 1038) (by decide +kernel)⟩
theorem lw_p21 : lw_okq (⟨"NineHeaps$Tape", "takeWord", "()V"⟩, 10) := ⟨⟨by decide +kernel, by decide +kernel⟩, List.mem_of_getElem? (i := 38) (by decide +kernel), List.mem_of_getElem? (i := 1044) (by decide +kernel), List.mem_of_getElem? (i := 1045) (by decide +kernel)⟩
theorem lw_p22 : lw_okq (⟨"NineHeaps$Tape", "spells", "(Ljava/lang/String;)Z"⟩, 10) := ⟨⟨by decide +kernel, by decide +kernel⟩, List.mem_of_getElem? (i := 38) (by decide +kernel), List.mem_of_getElem? (i := 1049) (by decide +kernel), List.mem_of_getElem? (i := 1050) (by decide +kernel)⟩
theorem lw_p23 : lw_okq (⟨"NineHeaps$Tape", "takeNumber", "()V"⟩, 10) := ⟨⟨by decide +kernel, by decide +kernel⟩, List.mem_of_getElem? (i := 38) (by decide +kernel), List.mem_of_getElem? (i := 1069) (by decide +kernel), List.mem_of_getElem? (i := 1070) (by decide +kernel)⟩
theorem lw_p24 : lw_okq (⟨"NineHeaps$Tape", "readPart", "(II)V"⟩, 10) := ⟨⟨by decide +kernel, by decide +kernel⟩, List.mem_of_getElem? (i := 38) (by decide +kernel), List.mem_of_getElem? (i := 1076) (by decide +kernel), List.mem_of_getElem? (i := 1077) (by decide +kernel)⟩
theorem lw_p25 : lw_okq (⟨"NineHeaps$Tape", "expect", "(I)V"⟩, 10) := ⟨⟨by decide +kernel, by decide +kernel⟩, List.mem_of_getElem? (i := 38) (by decide +kernel), List.mem_of_getElem? (i := 1080) (by decide +kernel), List.mem_of_getElem? (i := 1081) (by decide +kernel)⟩
theorem lw_p26 : lw_okq (⟨"NineHeaps$Tape", "fail", "()V"⟩, 10) := ⟨⟨by decide +kernel, by decide +kernel⟩, List.mem_of_getElem? (i := 38) (by decide +kernel), List.mem_of_getElem? (i := 1084) (by decide +kernel), List.mem_of_getElem? (i := 1085) (by decide +kernel)⟩
theorem lw_p27 : lw_okq (⟨"NineHeaps$Tape", "readOr", "(I)V"⟩, 10) := ⟨⟨by decide +kernel, by decide +kernel⟩, List.mem_of_getElem? (i := 38) (by decide +kernel), List.mem_of_getElem? (i := 1088) (by decide +kernel), List.mem_of_getElem? (i := 1089) (by decide +kernel)⟩
theorem lw_p28 : lw_okq (⟨"NineHeaps$Tape", "readAnd", "(I)V"⟩, 10) := ⟨⟨by decide +kernel, by decide +kernel⟩, List.mem_of_getElem? (i := 38) (by decide +kernel), List.mem_of_getElem? (i := 1092) (by decide +kernel), List.mem_of_getElem? (i := 1093) (by decide +kernel)⟩
theorem lw_p29 : lw_okq (⟨"NineHeaps$Tape", "readNot", "(I)V"⟩, 10) := ⟨⟨by decide +kernel, by decide +kernel⟩, List.mem_of_getElem? (i := 38) (by decide +kernel), List.mem_of_getElem? (i := 1096) (by decide +kernel), List.mem_of_getElem? (i := 1097) (by decide +kernel)⟩
theorem lw_p30 : lw_okq (⟨"NineHeaps$Tape", "mayOpen", "(I)Z"⟩, 10) := ⟨⟨by decide +kernel, by decide +kernel⟩, List.mem_of_getElem? (i := 38) (by decide +kernel), List.mem_of_getElem? (i := 1100) (by decide +kernel), List.mem_of_getElem? (i := 1101) (by decide +kernel)⟩
theorem lw_p31 : lw_okq (⟨"NineHeaps$Tape", "put", "(I)V"⟩, 10) := ⟨⟨by decide +kernel, by decide +kernel⟩, List.mem_of_getElem? (i := 38) (by decide +kernel), List.mem_of_getElem? (i := 1104) (by decide +kernel), List.mem_of_getElem? (i := 1105) (by decide +kernel)⟩
def lw_privs_2 : List (MethodName × Nat) := [(⟨"NineHeaps", "sheetOf", "(I)LNineHeaps$Sheet;"⟩, 20), (⟨"NineHeaps", "firstOtherwise", "(I)I"⟩, 20), (⟨"NineHeaps", "changeWant", "(I)I"⟩, 20), (⟨"NineHeaps$Tape", "nextToken", "()V"⟩, 10), (⟨"NineHeaps$Tape", "byteAt", "(I)I"⟩, 10), (⟨"NineHeaps$Tape", "takeWord", "()V"⟩, 10), (⟨"NineHeaps$Tape", "spells", "(Ljava/lang/String;)Z"⟩, 10), (⟨"NineHeaps$Tape", "takeNumber", "()V"⟩, 10), (⟨"NineHeaps$Tape", "readPart", "(II)V"⟩, 10), (⟨"NineHeaps$Tape", "expect", "(I)V"⟩, 10), (⟨"NineHeaps$Tape", "fail", "()V"⟩, 10), (⟨"NineHeaps$Tape", "readOr", "(I)V"⟩, 10), (⟨"NineHeaps$Tape", "readAnd", "(I)V"⟩, 10), (⟨"NineHeaps$Tape", "readNot", "(I)V"⟩, 10), (⟨"NineHeaps$Tape", "mayOpen", "(I)Z"⟩, 10), (⟨"NineHeaps$Tape", "put", "(I)V"⟩, 10)]
theorem lw_r2 : ∀ q ∈ lw_privs_2, lw_okq q := List.forall_mem_cons.mpr ⟨lw_p16, List.forall_mem_cons.mpr ⟨lw_p17, List.forall_mem_cons.mpr ⟨lw_p18, List.forall_mem_cons.mpr ⟨lw_p19, List.forall_mem_cons.mpr ⟨lw_p20, List.forall_mem_cons.mpr ⟨lw_p21, List.forall_mem_cons.mpr ⟨lw_p22, List.forall_mem_cons.mpr ⟨lw_p23, List.forall_mem_cons.mpr ⟨lw_p24, List.forall_mem_cons.mpr ⟨lw_p25, List.forall_mem_cons.mpr ⟨lw_p26, List.forall_mem_cons.mpr ⟨lw_p27, List.forall_mem_cons.mpr ⟨lw_p28, List.forall_mem_cons.mpr ⟨lw_p29, List.forall_mem_cons.mpr ⟨lw_p30, List.forall_mem_cons.mpr ⟨lw_p31, fun _ h => absurd h List.not_mem_nil⟩⟩⟩⟩⟩⟩⟩⟩⟩⟩⟩⟩⟩⟩⟩⟩
theorem lw_p32 : lw_okq (⟨"NineHeaps$Tape", "readSum", "(I)V"⟩, 10) := ⟨⟨by decide +kernel, by decide +kernel⟩, List.mem_of_getElem? (i := 38) (by decide +kernel), List.mem_of_getElem? (i := 1108) (by decide +kernel), List.mem_of_getElem? (i := 1109) (by decide +kernel)⟩
theorem lw_p33 : lw_okq (⟨"NineHeaps$Tape", "readTerm", "(I)V"⟩, 10) := ⟨⟨by decide +kernel, by decide +kernel⟩, List.mem_of_getElem? (i := 38) (by decide +kernel), List.mem_of_getElem? (i := 1112) (by decide +kernel), List.mem_of_getElem? (i := 1113) (by decide +kernel)⟩
theorem lw_p34 : lw_okq (⟨"NineHeaps$Tape", "readOne", "(I)V"⟩, 10) := ⟨⟨by decide +kernel, by decide +kernel⟩, List.mem_of_getElem? (i := 38) (by decide +kernel), List.mem_of_getElem? (i := 1116) (by decide +kernel), List.mem_of_getElem? (i := 1117) (by decide +kernel)⟩
def lw_privs_3 : List (MethodName × Nat) := [(⟨"NineHeaps$Tape", "readSum", "(I)V"⟩, 10), (⟨"NineHeaps$Tape", "readTerm", "(I)V"⟩, 10), (⟨"NineHeaps$Tape", "readOne", "(I)V"⟩, 10)]
theorem lw_r3 : ∀ q ∈ lw_privs_3, lw_okq q := List.forall_mem_cons.mpr ⟨lw_p32, List.forall_mem_cons.mpr ⟨lw_p33, List.forall_mem_cons.mpr ⟨lw_p34, fun _ h => absurd h List.not_mem_nil⟩⟩⟩
def lw_privs : List (MethodName × Nat) := lw_privs_1 ++ (lw_privs_2 ++ (lw_privs_3))
def lw_tbl : List Cond := k2_sels lw_privs ++ tables_1
theorem lw_privs_ok : ∀ q ∈ lw_privs, lw_okq q := by
  show ∀ q ∈ lw_privs_1 ++ (lw_privs_2 ++ (lw_privs_3)), lw_okq q
  exact List.forall_mem_append.mpr ⟨lw_r1, List.forall_mem_append.mpr ⟨lw_r2, lw_r3⟩⟩

def RX0 : String := "NineHeaps$Going"
def TX0 : u_T := fun k => match k with
  | 0 => ("NineHeaps$Going", "heaps", "[LNineHeaps$Heap;", true)
  | 1 => ("NineHeaps$Going", "goers", "[LNineHeaps$Walker;", true)
  | 2 => ("NineHeaps$Going", "goerCount", "I", false)
  | 3 => ("NineHeaps$Going", "many", "I", false)
  | 4 => ("NineHeaps$Going", "want", "I", false)
  | 5 => ("NineHeaps$Going", "second", "I", false)
  | 6 => ("NineHeaps$Going", "off", "[I", true)
  | 7 => ("NineHeaps$Going", "law", "LNineHeaps$Law;", false)
  | 8 => ("NineHeaps$Going", "offCount", "I", false)
  | 9 => ("NineHeaps$Going", "programmes", "I", false)
  | 10 => ("NineHeaps$Going", "wrong", "I", false)
  | 11 => ("NineHeaps$Going", "lacking", "I", false)
  | _ => ("NineHeaps$Going", "wantedIn", "I", false)
def tyX0 : Nat → FieldType := fun k => match k with
  | 0 => .array (.object "NineHeaps$Heap")
  | 1 => .array (.object "NineHeaps$Walker")
  | 2 => .int
  | 3 => .int
  | 4 => .int
  | 5 => .int
  | 6 => .array .int
  | 7 => .object "NineHeaps$Law"
  | 8 => .int
  | 9 => .int
  | 10 => .int
  | 11 => .int
  | _ => .int
theorem nmX0 : ∀ a, a < 13 → ∀ b, b < 13 → a ≠ b → (TX0 a).2.1 ≠ (TX0 b).2.1 := by decide +kernel
theorem tyX0_ok : ∀ k, k < 13 → parseFieldDescriptor (TX0 k).2.2.1 = some (tyX0 k) := by decide +kernel
abbrev cX0_init : ByteArray := prog_2_method_1_code
def yX0_init : MethodName := ⟨RX0, "<init>", "()V"⟩
abbrev cX0_lay : ByteArray := prog_2_method_2_code
def yX0_lay : MethodName := ⟨RX0, "lay", "([I[ILNineHeaps$Law;II)V"⟩
abbrev cX0_join : ByteArray := prog_2_method_3_code
def yX0_join : MethodName := ⟨RX0, "join", "(LNineHeaps$Walker;)V"⟩
abbrev cX0_heapAt : ByteArray := prog_2_method_4_code
def yX0_heapAt : MethodName := ⟨RX0, "heapAt", "(I)LNineHeaps$Heap;"⟩
abbrev cX0_badness : ByteArray := prog_2_method_7_code
def yX0_badness : MethodName := ⟨RX0, "badness", "()I"⟩
abbrev cX0_pass : ByteArray := prog_2_method_8_code
def yX0_pass : MethodName := ⟨RX0, "pass", "(I)V"⟩
abbrev cX0_moveOn : ByteArray := prog_2_method_9_code
def yX0_moveOn : MethodName := ⟨RX0, "moveOn", "(LNineHeaps$Walker;)V"⟩
abbrev cX0_endTaking : ByteArray := prog_2_method_10_code
def yX0_endTaking : MethodName := ⟨RX0, "endTaking", "(LNineHeaps$Walker;LNineHeaps$Heap;)V"⟩
abbrev cX0_endProgramme : ByteArray := prog_2_method_11_code
def yX0_endProgramme : MethodName := ⟨RX0, "endProgramme", "(LNineHeaps$Walker;)V"⟩
abbrev cX0_takesOf : ByteArray := prog_2_method_12_code
def yX0_takesOf : MethodName := ⟨RX0, "takesOf", "(LNineHeaps$Walker;LNineHeaps$Heap;I)I"⟩
abbrev cX0_stepOf : ByteArray := prog_2_method_13_code
def yX0_stepOf : MethodName := ⟨RX0, "stepOf", "(LNineHeaps$Walker;LNineHeaps$Heap;I)I"⟩
def RX1 : String := "NineHeaps$Grandfather"
def TX1 : u_T := fun k => match k with
  | 0 => ("NineHeaps$Walker", "number", "I", true)
  | 1 => ("NineHeaps$Walker", "more", "I", true)
  | 2 => ("NineHeaps$Walker", "from", "I", false)
  | 3 => ("NineHeaps$Walker", "at", "I", false)
  | 4 => ("NineHeaps$Walker", "doing", "I", false)
  | 5 => ("NineHeaps$Walker", "left", "I", false)
  | 6 => ("NineHeaps$Walker", "done", "I", false)
  | 7 => ("NineHeaps$Walker", "waited", "I", false)
  | 8 => ("NineHeaps$Walker", "has", "I", false)
  | 9 => ("NineHeaps$Walker", "blotted", "Z", false)
  | _ => ("NineHeaps$Walker", "lacks", "Z", false)
def tyX1 : Nat → FieldType := fun k => match k with
  | 0 => .int
  | 1 => .int
  | 2 => .int
  | 3 => .int
  | 4 => .int
  | 5 => .int
  | 6 => .int
  | 7 => .int
  | 8 => .int
  | 9 => .boolean
  | _ => .boolean
theorem nmX1 : ∀ a, a < 11 → ∀ b, b < 11 → a ≠ b → (TX1 a).2.1 ≠ (TX1 b).2.1 := by decide +kernel
theorem tyX1_ok : ∀ k, k < 11 → parseFieldDescriptor (TX1 k).2.2.1 = some (tyX1 k) := by decide +kernel
abbrev cX1_init : ByteArray := prog_3_method_1_code
def yX1_init : MethodName := ⟨RX1, "<init>", "(III)V"⟩
abbrev cX1_kind : ByteArray := prog_3_method_2_code
def yX1_kind : MethodName := ⟨RX1, "kind", "()I"⟩
abbrev cX1_takesFor : ByteArray := prog_3_method_4_code
def yX1_takesFor : MethodName := ⟨RX1, "takesFor", "(II)I"⟩
abbrev cX1_stepFor : ByteArray := prog_3_method_5_code
def yX1_stepFor : MethodName := ⟨RX1, "stepFor", "(I)I"⟩
def RX2 : String := "NineHeaps$Heap"
def TX2 : u_T := fun k => match k with
  | 0 => ("NineHeaps$Heap", "number", "I", true)
  | 1 => ("NineHeaps$Heap", "high", "I", false)
  | 2 => ("NineHeaps$Heap", "stick", "I", false)
  | 3 => ("NineHeaps$Heap", "takings", "I", false)
  | 4 => ("NineHeaps$Heap", "takers", "I", false)
  | 5 => ("NineHeaps$Heap", "ranOut", "I", false)
  | _ => ("NineHeaps$Heap", "missed", "Z", false)
def tyX2 : Nat → FieldType := fun k => match k with
  | 0 => .int
  | 1 => .int
  | 2 => .int
  | 3 => .int
  | 4 => .int
  | 5 => .int
  | _ => .boolean
theorem nmX2 : ∀ a, a < 7 → ∀ b, b < 7 → a ≠ b → (TX2 a).2.1 ≠ (TX2 b).2.1 := by decide +kernel
theorem tyX2_ok : ∀ k, k < 7 → parseFieldDescriptor (TX2 k).2.2.1 = some (tyX2 k) := by decide +kernel
abbrev cX2_init : ByteArray := prog_4_method_1_code
def yX2_init : MethodName := ⟨RX2, "<init>", "(I)V"⟩
abbrev cX2_beginGoing : ByteArray := prog_4_method_2_code
def yX2_beginGoing : MethodName := ⟨RX2, "beginGoing", "(II)V"⟩
abbrev cX2_lift : ByteArray := prog_4_method_3_code
def yX2_lift : MethodName := ⟨RX2, "lift", "(I)I"⟩
def RX3 : String := "NineHeaps$Law"
def TX3 : u_T := fun k => match k with
  | 0 => ("NineHeaps$Law", "words", "[I", true)
  | 1 => ("NineHeaps$Law", "starts", "[I", true)
  | 2 => ("NineHeaps$Law", "stack", "[I", true)
  | 3 => ("NineHeaps$Law", "names", "[I", true)
  | _ => ("NineHeaps$Law", "lone", "[I", true)
def tyX3 : Nat → FieldType := fun k => match k with
  | 0 => .array .int
  | 1 => .array .int
  | 2 => .array .int
  | 3 => .array .int
  | _ => .array .int
theorem nmX3 : ∀ a, a < 5 → ∀ b, b < 5 → a ≠ b → (TX3 a).2.1 ≠ (TX3 b).2.1 := by decide +kernel
theorem tyX3_ok : ∀ k, k < 5 → parseFieldDescriptor (TX3 k).2.2.1 = some (tyX3 k) := by decide +kernel
abbrev cX3_init : ByteArray := prog_5_method_1_code
def yX3_init : MethodName := ⟨RX3, "<init>", "([I[I)V"⟩
abbrev cX3_says : ByteArray := prog_5_method_2_code
def yX3_says : MethodName := ⟨RX3, "says", "(ILNineHeaps$Walker;IIII)I"⟩
abbrev cX3_bounded : ByteArray := prog_5_method_3_code
def yX3_bounded : MethodName := ⟨RX3, "bounded", "(II)I"⟩
abbrev cX3_read : ByteArray := prog_5_method_4_code
def yX3_read : MethodName := ⟨RX3, "read", "(I)I"⟩
abbrev cX3_worked : ByteArray := prog_5_method_5_code
def yX3_worked : MethodName := ⟨RX3, "worked", "(III)I"⟩
def RX4 : String := "NineHeaps$Passing"
def TX4 : u_T := fun k => match k with
  | 0 => ("NineHeaps$Walker", "number", "I", true)
  | 1 => ("NineHeaps$Walker", "more", "I", true)
  | 2 => ("NineHeaps$Walker", "from", "I", false)
  | 3 => ("NineHeaps$Walker", "at", "I", false)
  | 4 => ("NineHeaps$Walker", "doing", "I", false)
  | 5 => ("NineHeaps$Walker", "left", "I", false)
  | 6 => ("NineHeaps$Walker", "done", "I", false)
  | 7 => ("NineHeaps$Walker", "waited", "I", false)
  | 8 => ("NineHeaps$Walker", "has", "I", false)
  | 9 => ("NineHeaps$Walker", "blotted", "Z", false)
  | _ => ("NineHeaps$Walker", "lacks", "Z", false)
def tyX4 : Nat → FieldType := fun k => match k with
  | 0 => .int
  | 1 => .int
  | 2 => .int
  | 3 => .int
  | 4 => .int
  | 5 => .int
  | 6 => .int
  | 7 => .int
  | 8 => .int
  | 9 => .boolean
  | _ => .boolean
theorem nmX4 : ∀ a, a < 11 → ∀ b, b < 11 → a ≠ b → (TX4 a).2.1 ≠ (TX4 b).2.1 := by decide +kernel
theorem tyX4_ok : ∀ k, k < 11 → parseFieldDescriptor (TX4 k).2.2.1 = some (tyX4 k) := by decide +kernel
abbrev cX4_init : ByteArray := prog_6_method_1_code
def yX4_init : MethodName := ⟨RX4, "<init>", "(III)V"⟩
abbrev cX4_kind : ByteArray := prog_6_method_2_code
def yX4_kind : MethodName := ⟨RX4, "kind", "()I"⟩
abbrev cX4_takesFor : ByteArray := prog_6_method_4_code
def yX4_takesFor : MethodName := ⟨RX4, "takesFor", "(II)I"⟩
abbrev cX4_waits : ByteArray := prog_6_method_5_code
def yX4_waits : MethodName := ⟨RX4, "waits", "()Z"⟩
def RX5 : String := "NineHeaps$Quick"
def TX5 : u_T := fun k => match k with
  | 0 => ("NineHeaps$Walker", "number", "I", true)
  | 1 => ("NineHeaps$Walker", "more", "I", true)
  | 2 => ("NineHeaps$Walker", "from", "I", false)
  | 3 => ("NineHeaps$Walker", "at", "I", false)
  | 4 => ("NineHeaps$Walker", "doing", "I", false)
  | 5 => ("NineHeaps$Walker", "left", "I", false)
  | 6 => ("NineHeaps$Walker", "done", "I", false)
  | 7 => ("NineHeaps$Walker", "waited", "I", false)
  | 8 => ("NineHeaps$Walker", "has", "I", false)
  | 9 => ("NineHeaps$Walker", "blotted", "Z", false)
  | _ => ("NineHeaps$Walker", "lacks", "Z", false)
def tyX5 : Nat → FieldType := fun k => match k with
  | 0 => .int
  | 1 => .int
  | 2 => .int
  | 3 => .int
  | 4 => .int
  | 5 => .int
  | 6 => .int
  | 7 => .int
  | 8 => .int
  | 9 => .boolean
  | _ => .boolean
theorem nmX5 : ∀ a, a < 11 → ∀ b, b < 11 → a ≠ b → (TX5 a).2.1 ≠ (TX5 b).2.1 := by decide +kernel
theorem tyX5_ok : ∀ k, k < 11 → parseFieldDescriptor (TX5 k).2.2.1 = some (tyX5 k) := by decide +kernel
abbrev cX5_init : ByteArray := prog_7_method_1_code
def yX5_init : MethodName := ⟨RX5, "<init>", "(III)V"⟩
abbrev cX5_kind : ByteArray := prog_7_method_2_code
def yX5_kind : MethodName := ⟨RX5, "kind", "()I"⟩
abbrev cX5_stepFor : ByteArray := prog_7_method_4_code
def yX5_stepFor : MethodName := ⟨RX5, "stepFor", "(I)I"⟩
def RX6 : String := "NineHeaps$Sheet"
def TX6 : u_T := fun k => match k with
  | 0 => ("NineHeaps$Sheet", "sort", "I", false)
  | 1 => ("NineHeaps$Sheet", "size", "I", false)
  | _ => ("NineHeaps$Sheet", "cell", "[I", true)
def tyX6 : Nat → FieldType := fun k => match k with
  | 0 => .int
  | 1 => .int
  | _ => .array .int
theorem nmX6 : ∀ a, a < 3 → ∀ b, b < 3 → a ≠ b → (TX6 a).2.1 ≠ (TX6 b).2.1 := by decide +kernel
theorem tyX6_ok : ∀ k, k < 3 → parseFieldDescriptor (TX6 k).2.2.1 = some (tyX6 k) := by decide +kernel
abbrev cX6_init : ByteArray := prog_8_method_1_code
def yX6_init : MethodName := ⟨RX6, "<init>", "()V"⟩
abbrev cX6_become : ByteArray := prog_8_method_2_code
def yX6_become : MethodName := ⟨RX6, "become", "(II)V"⟩
abbrev cX6_missing : ByteArray := prog_8_method_3_code
def yX6_missing : MethodName := ⟨RX6, "missing", "()Z"⟩
abbrev cX6_holds : ByteArray := prog_8_method_4_code
def yX6_holds : MethodName := ⟨RX6, "holds", "(II)Z"⟩
abbrev cX6_put : ByteArray := prog_8_method_5_code
def yX6_put : MethodName := ⟨RX6, "put", "(II)V"⟩
def RX7 : String := "NineHeaps$Tape"
def TX7 : u_T := fun k => match k with
  | 0 => ("NineHeaps$Tape", "bytes", "[I", true)
  | 1 => ("NineHeaps$Tape", "size", "I", false)
  | 2 => ("NineHeaps$Tape", "place", "I", false)
  | 3 => ("NineHeaps$Tape", "token", "I", false)
  | 4 => ("NineHeaps$Tape", "tokenAt", "I", false)
  | 5 => ("NineHeaps$Tape", "tokenWord", "I", false)
  | 6 => ("NineHeaps$Tape", "fault", "I", false)
  | 7 => ("NineHeaps$Tape", "words", "[I", true)
  | 8 => ("NineHeaps$Tape", "wordCount", "I", false)
  | _ => ("NineHeaps$Tape", "starts", "[I", true)
def tyX7 : Nat → FieldType := fun k => match k with
  | 0 => .array .int
  | 1 => .int
  | 2 => .int
  | 3 => .int
  | 4 => .int
  | 5 => .int
  | 6 => .int
  | 7 => .array .int
  | 8 => .int
  | _ => .array .int
theorem nmX7 : ∀ a, a < 10 → ∀ b, b < 10 → a ≠ b → (TX7 a).2.1 ≠ (TX7 b).2.1 := by decide +kernel
theorem tyX7_ok : ∀ k, k < 10 → parseFieldDescriptor (TX7 k).2.2.1 = some (tyX7 k) := by decide +kernel
abbrev cX7_init : ByteArray := prog_9_method_1_code
def yX7_init : MethodName := ⟨RX7, "<init>", "()V"⟩
abbrev cX7_add : ByteArray := prog_9_method_2_code
def yX7_add : MethodName := ⟨RX7, "add", "(I)V"⟩
abbrev cX7_read : ByteArray := prog_9_method_3_code
def yX7_read : MethodName := ⟨RX7, "read", "()I"⟩
abbrev cX7_lastRead : ByteArray := prog_9_method_4_code
def yX7_lastRead : MethodName := ⟨RX7, "lastRead", "()LNineHeaps$Law;"⟩
abbrev cX7_readPart : ByteArray := prog_9_method_5_code
def yX7_readPart : MethodName := ⟨RX7, "readPart", "(II)V"⟩
abbrev cX7_readOr : ByteArray := prog_9_method_6_code
def yX7_readOr : MethodName := ⟨RX7, "readOr", "(I)V"⟩
abbrev cX7_readAnd : ByteArray := prog_9_method_7_code
def yX7_readAnd : MethodName := ⟨RX7, "readAnd", "(I)V"⟩
abbrev cX7_readNot : ByteArray := prog_9_method_8_code
def yX7_readNot : MethodName := ⟨RX7, "readNot", "(I)V"⟩
abbrev cX7_readSum : ByteArray := prog_9_method_9_code
def yX7_readSum : MethodName := ⟨RX7, "readSum", "(I)V"⟩
abbrev cX7_readTerm : ByteArray := prog_9_method_10_code
def yX7_readTerm : MethodName := ⟨RX7, "readTerm", "(I)V"⟩
abbrev cX7_readOne : ByteArray := prog_9_method_11_code
def yX7_readOne : MethodName := ⟨RX7, "readOne", "(I)V"⟩
abbrev cX7_mayOpen : ByteArray := prog_9_method_12_code
def yX7_mayOpen : MethodName := ⟨RX7, "mayOpen", "(I)Z"⟩
abbrev cX7_expect : ByteArray := prog_9_method_13_code
def yX7_expect : MethodName := ⟨RX7, "expect", "(I)V"⟩
abbrev cX7_fail : ByteArray := prog_9_method_14_code
def yX7_fail : MethodName := ⟨RX7, "fail", "()V"⟩
abbrev cX7_put : ByteArray := prog_9_method_15_code
def yX7_put : MethodName := ⟨RX7, "put", "(I)V"⟩
abbrev cX7_nextToken : ByteArray := prog_9_method_16_code
def yX7_nextToken : MethodName := ⟨RX7, "nextToken", "()V"⟩
abbrev cX7_takeWord : ByteArray := prog_9_method_17_code
def yX7_takeWord : MethodName := ⟨RX7, "takeWord", "()V"⟩
abbrev cX7_takeNumber : ByteArray := prog_9_method_18_code
def yX7_takeNumber : MethodName := ⟨RX7, "takeNumber", "()V"⟩
abbrev cX7_spells : ByteArray := prog_9_method_19_code
def yX7_spells : MethodName := ⟨RX7, "spells", "(Ljava/lang/String;)Z"⟩
abbrev cX7_byteAt : ByteArray := prog_9_method_20_code
def yX7_byteAt : MethodName := ⟨RX7, "byteAt", "(I)I"⟩
abbrev cX7_isLetter : ByteArray := prog_9_method_21_code
def yX7_isLetter : MethodName := ⟨RX7, "isLetter", "(I)Z"⟩
abbrev cX7_isDigit : ByteArray := prog_9_method_22_code
def yX7_isDigit : MethodName := ⟨RX7, "isDigit", "(I)Z"⟩
abbrev cX7_isSign : ByteArray := prog_9_method_23_code
def yX7_isSign : MethodName := ⟨RX7, "isSign", "(I)Z"⟩
def RX8 : String := "NineHeaps$Thumbed"
def TX8 : u_T := fun k => match k with
  | 0 => ("NineHeaps$Walker", "number", "I", true)
  | 1 => ("NineHeaps$Walker", "more", "I", true)
  | 2 => ("NineHeaps$Walker", "from", "I", false)
  | 3 => ("NineHeaps$Walker", "at", "I", false)
  | 4 => ("NineHeaps$Walker", "doing", "I", false)
  | 5 => ("NineHeaps$Walker", "left", "I", false)
  | 6 => ("NineHeaps$Walker", "done", "I", false)
  | 7 => ("NineHeaps$Walker", "waited", "I", false)
  | 8 => ("NineHeaps$Walker", "has", "I", false)
  | 9 => ("NineHeaps$Walker", "blotted", "Z", false)
  | _ => ("NineHeaps$Walker", "lacks", "Z", false)
def tyX8 : Nat → FieldType := fun k => match k with
  | 0 => .int
  | 1 => .int
  | 2 => .int
  | 3 => .int
  | 4 => .int
  | 5 => .int
  | 6 => .int
  | 7 => .int
  | 8 => .int
  | 9 => .boolean
  | _ => .boolean
theorem nmX8 : ∀ a, a < 11 → ∀ b, b < 11 → a ≠ b → (TX8 a).2.1 ≠ (TX8 b).2.1 := by decide +kernel
theorem tyX8_ok : ∀ k, k < 11 → parseFieldDescriptor (TX8 k).2.2.1 = some (tyX8 k) := by decide +kernel
abbrev cX8_init : ByteArray := prog_10_method_1_code
def yX8_init : MethodName := ⟨RX8, "<init>", "(III)V"⟩
abbrev cX8_kind : ByteArray := prog_10_method_2_code
def yX8_kind : MethodName := ⟨RX8, "kind", "()I"⟩
abbrev cX8_takesFor : ByteArray := prog_10_method_4_code
def yX8_takesFor : MethodName := ⟨RX8, "takesFor", "(II)I"⟩
def RX9 : String := "NineHeaps$Two"
def TX9 : u_T := fun k => match k with
  | 0 => ("NineHeaps$Walker", "number", "I", true)
  | 1 => ("NineHeaps$Walker", "more", "I", true)
  | 2 => ("NineHeaps$Walker", "from", "I", false)
  | 3 => ("NineHeaps$Walker", "at", "I", false)
  | 4 => ("NineHeaps$Walker", "doing", "I", false)
  | 5 => ("NineHeaps$Walker", "left", "I", false)
  | 6 => ("NineHeaps$Walker", "done", "I", false)
  | 7 => ("NineHeaps$Walker", "waited", "I", false)
  | 8 => ("NineHeaps$Walker", "has", "I", false)
  | 9 => ("NineHeaps$Walker", "blotted", "Z", false)
  | _ => ("NineHeaps$Walker", "lacks", "Z", false)
def tyX9 : Nat → FieldType := fun k => match k with
  | 0 => .int
  | 1 => .int
  | 2 => .int
  | 3 => .int
  | 4 => .int
  | 5 => .int
  | 6 => .int
  | 7 => .int
  | 8 => .int
  | 9 => .boolean
  | _ => .boolean
theorem nmX9 : ∀ a, a < 11 → ∀ b, b < 11 → a ≠ b → (TX9 a).2.1 ≠ (TX9 b).2.1 := by decide +kernel
theorem tyX9_ok : ∀ k, k < 11 → parseFieldDescriptor (TX9 k).2.2.1 = some (tyX9 k) := by decide +kernel
abbrev cX9_init : ByteArray := prog_11_method_1_code
def yX9_init : MethodName := ⟨RX9, "<init>", "(III)V"⟩
abbrev cX9_kind : ByteArray := prog_11_method_2_code
def yX9_kind : MethodName := ⟨RX9, "kind", "()I"⟩
abbrev cX9_takesFor : ByteArray := prog_11_method_4_code
def yX9_takesFor : MethodName := ⟨RX9, "takesFor", "(II)I"⟩
def RX10 : String := "NineHeaps$Walker"
def TX10 : u_T := fun k => match k with
  | 0 => ("NineHeaps$Walker", "number", "I", true)
  | 1 => ("NineHeaps$Walker", "more", "I", true)
  | 2 => ("NineHeaps$Walker", "from", "I", false)
  | 3 => ("NineHeaps$Walker", "at", "I", false)
  | 4 => ("NineHeaps$Walker", "doing", "I", false)
  | 5 => ("NineHeaps$Walker", "left", "I", false)
  | 6 => ("NineHeaps$Walker", "done", "I", false)
  | 7 => ("NineHeaps$Walker", "waited", "I", false)
  | 8 => ("NineHeaps$Walker", "has", "I", false)
  | 9 => ("NineHeaps$Walker", "blotted", "Z", false)
  | _ => ("NineHeaps$Walker", "lacks", "Z", false)
def tyX10 : Nat → FieldType := fun k => match k with
  | 0 => .int
  | 1 => .int
  | 2 => .int
  | 3 => .int
  | 4 => .int
  | 5 => .int
  | 6 => .int
  | 7 => .int
  | 8 => .int
  | 9 => .boolean
  | _ => .boolean
theorem nmX10 : ∀ a, a < 11 → ∀ b, b < 11 → a ≠ b → (TX10 a).2.1 ≠ (TX10 b).2.1 := by decide +kernel
theorem tyX10_ok : ∀ k, k < 11 → parseFieldDescriptor (TX10 k).2.2.1 = some (tyX10 k) := by decide +kernel
abbrev cX10_init : ByteArray := prog_12_method_1_code
def yX10_init : MethodName := ⟨RX10, "<init>", "(III)V"⟩
abbrev cX10_kind : ByteArray := prog_12_method_2_code
def yX10_kind : MethodName := ⟨RX10, "kind", "()I"⟩
abbrev cX10_takesFor : ByteArray := prog_12_method_4_code
def yX10_takesFor : MethodName := ⟨RX10, "takesFor", "(II)I"⟩
abbrev cX10_stepFor : ByteArray := prog_12_method_5_code
def yX10_stepFor : MethodName := ⟨RX10, "stepFor", "(I)I"⟩
abbrev cX10_waits : ByteArray := prog_12_method_6_code
def yX10_waits : MethodName := ⟨RX10, "waits", "()Z"⟩
abbrev cX10_beginGoing : ByteArray := prog_12_method_7_code
def yX10_beginGoing : MethodName := ⟨RX10, "beginGoing", "()V"⟩
def RX11 : String := "NineHeaps"
def TX11 : u_T := fun k => match k with
  | 0 => ("NineHeaps", "high", "[I", true)
  | 1 => ("NineHeaps", "stick", "[I", true)
  | 2 => ("NineHeaps", "want", "I", false)
  | 3 => ("NineHeaps", "walkers", "[LNineHeaps$Walker;", true)
  | 4 => ("NineHeaps", "walkerCount", "I", false)
  | 5 => ("NineHeaps", "texts", "[LNineHeaps$Law;", true)
  | 6 => ("NineHeaps", "textCount", "I", false)
  | 7 => ("NineHeaps", "law", "I", false)
  | 8 => ("NineHeaps", "tape", "LNineHeaps$Tape;", true)
  | 9 => ("NineHeaps", "sheets", "[LNineHeaps$Sheet;", true)
  | 10 => ("NineHeaps", "going", "LNineHeaps$Going;", true)
  | 11 => ("NineHeaps", "order", "[I", true)
  | 12 => ("NineHeaps", "fewest", "[[I", true)
  | 13 => ("NineHeaps", "shares", "[I", true)
  | 14 => ("NineHeaps", "imageHigh", "[I", true)
  | 15 => ("NineHeaps", "imageStick", "[I", true)
  | 16 => ("NineHeaps", "imageFrom", "[I", true)
  | 17 => ("NineHeaps", "imageWant", "I", false)
  | 18 => ("NineHeaps", "imageWalkers", "I", false)
  | _ => ("NineHeaps", "imageLaw", "I", false)
def tyX11 : Nat → FieldType := fun k => match k with
  | 0 => .array .int
  | 1 => .array .int
  | 2 => .int
  | 3 => .array (.object "NineHeaps$Walker")
  | 4 => .int
  | 5 => .array (.object "NineHeaps$Law")
  | 6 => .int
  | 7 => .int
  | 8 => .object "NineHeaps$Tape"
  | 9 => .array (.object "NineHeaps$Sheet")
  | 10 => .object "NineHeaps$Going"
  | 11 => .array .int
  | 12 => .array (.array .int)
  | 13 => .array .int
  | 14 => .array .int
  | 15 => .array .int
  | 16 => .array .int
  | 17 => .int
  | 18 => .int
  | _ => .int
theorem nmX11 : ∀ a, a < 20 → ∀ b, b < 20 → a ≠ b → (TX11 a).2.1 ≠ (TX11 b).2.1 := by decide +kernel
theorem tyX11_ok : ∀ k, k < 20 → parseFieldDescriptor (TX11 k).2.2.1 = some (tyX11 k) := by decide +kernel
abbrev cX11_init : ByteArray := prog_1_method_1_code
def yX11_init : MethodName := ⟨RX11, "<init>", "()V"⟩
abbrev cX11_set : ByteArray := prog_1_method_3_code
def yX11_set : MethodName := ⟨RX11, "set", "(III)I"⟩
abbrev cX11_changeWant : ByteArray := prog_1_method_4_code
def yX11_changeWant : MethodName := ⟨RX11, "changeWant", "(I)I"⟩
abbrev cX11_heap : ByteArray := prog_1_method_5_code
def yX11_heap : MethodName := ⟨RX11, "heap", "(II)I"⟩
abbrev cX11_feed : ByteArray := prog_1_method_6_code
def yX11_feed : MethodName := ⟨RX11, "feed", "(IIIIII)I"⟩
abbrev cX11_text : ByteArray := prog_1_method_7_code
def yX11_text : MethodName := ⟨RX11, "text", "()I"⟩
abbrev cX11_force : ByteArray := prog_1_method_8_code
def yX11_force : MethodName := ⟨RX11, "force", "(I)I"⟩
abbrev cX11_walker : ByteArray := prog_1_method_10_code
def yX11_walker : MethodName := ⟨RX11, "walker", "(III)I"⟩
abbrev cX11_told : ByteArray := prog_1_method_12_code
def yX11_told : MethodName := ⟨RX11, "told", "(II)I"⟩
abbrev cX11_run : ByteArray := prog_1_method_13_code
def yX11_run : MethodName := ⟨RX11, "run", "(II)I"⟩
abbrev cX11_one : ByteArray := prog_1_method_14_code
def yX11_one : MethodName := ⟨RX11, "one", "(III)I"⟩
abbrev cX11_height : ByteArray := prog_1_method_15_code
def yX11_height : MethodName := ⟨RX11, "height", "(III)I"⟩
abbrev cX11_go : ByteArray := prog_1_method_16_code
def yX11_go : MethodName := ⟨RX11, "go", "(I)I"⟩
abbrev cX11_best : ByteArray := prog_1_method_19_code
def yX11_best : MethodName := ⟨RX11, "best", "(I)I"⟩
abbrev cX11_start : ByteArray := prog_1_method_20_code
def yX11_start : MethodName := ⟨RX11, "start", "(II)I"⟩
abbrev cX11_layByOrder : ByteArray := prog_1_method_24_code
def yX11_layByOrder : MethodName := ⟨RX11, "layByOrder", "()V"⟩
abbrev cX11_orderByNumbers : ByteArray := prog_1_method_25_code
def yX11_orderByNumbers : MethodName := ⟨RX11, "orderByNumbers", "()V"⟩
abbrev cX11_orderAsDigits : ByteArray := prog_1_method_26_code
def yX11_orderAsDigits : MethodName := ⟨RX11, "orderAsDigits", "()I"⟩
abbrev cX11_nextOrder : ByteArray := prog_1_method_27_code
def yX11_nextOrder : MethodName := ⟨RX11, "nextOrder", "()Z"⟩
abbrev cX11_swapInOrder : ByteArray := prog_1_method_28_code
def yX11_swapInOrder : MethodName := ⟨RX11, "swapInOrder", "(II)V"⟩
abbrev cX11_judge : ByteArray := prog_1_method_37_code
def yX11_judge : MethodName := ⟨RX11, "judge", "(II)I"⟩
abbrev cX11_film : ByteArray := prog_1_method_42_code
def yX11_film : MethodName := ⟨RX11, "film", "(II)I"⟩
abbrev cX11_refusedTelling : ByteArray := prog_1_method_43_code
def yX11_refusedTelling : MethodName := ⟨RX11, "refusedTelling", "(I)I"⟩
abbrev cX11_refusedJudging : ByteArray := prog_1_method_44_code
def yX11_refusedJudging : MethodName := ⟨RX11, "refusedJudging", "(II)I"⟩
abbrev cX11_firstOtherwise : ByteArray := prog_1_method_45_code
def yX11_firstOtherwise : MethodName := ⟨RX11, "firstOtherwise", "(I)I"⟩
abbrev cX11_noHeap : ByteArray := prog_1_method_58_code
def yX11_noHeap : MethodName := ⟨RX11, "noHeap", "(I)Z"⟩
abbrev cX11_noByte : ByteArray := prog_1_method_59_code
def yX11_noByte : MethodName := ⟨RX11, "noByte", "(I)Z"⟩
abbrev cX11_noSeconds : ByteArray := prog_1_method_60_code
def yX11_noSeconds : MethodName := ⟨RX11, "noSeconds", "(I)Z"⟩
abbrev cX11_walkerOf : ByteArray := prog_1_method_61_code
def yX11_walkerOf : MethodName := ⟨RX11, "walkerOf", "(I)LNineHeaps$Walker;"⟩
abbrev cX11_textOf : ByteArray := prog_1_method_62_code
def yX11_textOf : MethodName := ⟨RX11, "textOf", "(I)LNineHeaps$Law;"⟩
abbrev cX11_sheetOf : ByteArray := prog_1_method_63_code
def yX11_sheetOf : MethodName := ⟨RX11, "sheetOf", "(I)LNineHeaps$Sheet;"⟩
abbrev cX11_layPlain : ByteArray := prog_1_method_64_code
def yX11_layPlain : MethodName := ⟨RX11, "layPlain", "()V"⟩
abbrev cX11_layWithout : ByteArray := prog_1_method_65_code
def yX11_layWithout : MethodName := ⟨RX11, "layWithout", "(I)V"⟩
abbrev cX11_layHeaps : ByteArray := prog_1_method_67_code
def yX11_layHeaps : MethodName := ⟨RX11, "layHeaps", "()V"⟩
abbrev cX11_newWalker : ByteArray := prog_1_method_68_code
def yX11_newWalker : MethodName := ⟨RX11, "newWalker", "(IIII)LNineHeaps$Walker;"⟩
def RX12 : String := "NineHeapsModel"
def TX12 : u_T := fun k => match k with
  | _ => ("", "", "", false)
def tyX12 : Nat → FieldType := fun k => match k with
  | _ => .int
theorem nmX12 : ∀ a, a < 0 → ∀ b, b < 0 → a ≠ b → (TX12 a).2.1 ≠ (TX12 b).2.1 := by decide +kernel
theorem tyX12_ok : ∀ k, k < 0 → parseFieldDescriptor (TX12 k).2.2.1 = some (tyX12 k) := by decide +kernel
def RJx145de : String := "java/io/Serializable"
def RJ5 : String := "java/lang/AbstractStringBuilder"
abbrev cJ5_init_d00df : ByteArray := prog_15_method_2_code
def yJ5_init_d00df : MethodName := ⟨RJ5, "<init>", "(I)V"⟩
abbrev cJ5_length_8abf5 : ByteArray := prog_15_method_6_code
def yJ5_length_8abf5 : MethodName := ⟨RJ5, "length", "()I"⟩
abbrev cJ5_ensureCapacityInternal_d00df : ByteArray := prog_15_method_9_code
def yJ5_ensureCapacityInternal_d00df : MethodName := ⟨RJ5, "ensureCapacityInternal", "(I)V"⟩
abbrev cJ5_newCapacity_0f7a4 : ByteArray := prog_15_method_10_code
def yJ5_newCapacity_0f7a4 : MethodName := ⟨RJ5, "newCapacity", "(I)I"⟩
abbrev cJ5_inflate_da8c8 : ByteArray := prog_15_method_11_code
def yJ5_inflate_da8c8 : MethodName := ⟨RJ5, "inflate", "()V"⟩
abbrev cJ5_append_cf1ce : ByteArray := prog_15_method_22_code
def yJ5_append_cf1ce : MethodName := ⟨RJ5, "append", "(Ljava/lang/String;)Ljava/lang/AbstractStringBuilder;"⟩
abbrev cJ5_appendNull_278bc : ByteArray := prog_15_method_26_code
def yJ5_appendNull_278bc : MethodName := ⟨RJ5, "appendNull", "()Ljava/lang/AbstractStringBuilder;"⟩
abbrev cJ5_append_c97b9 : ByteArray := prog_15_method_32_code
def yJ5_append_c97b9 : MethodName := ⟨RJ5, "append", "(I)Ljava/lang/AbstractStringBuilder;"⟩
abbrev cJ5_getValue_6d5f1 : ByteArray := prog_15_method_64_code
def yJ5_getValue_6d5f1 : MethodName := ⟨RJ5, "getValue", "()[B"⟩
abbrev cJ5_isLatin1_aae02 : ByteArray := prog_15_method_68_code
def yJ5_isLatin1_aae02 : MethodName := ⟨RJ5, "isLatin1", "()Z"⟩
abbrev cJ5_inflateIfNeededFor_a7421 : ByteArray := prog_15_method_71_code
def yJ5_inflateIfNeededFor_a7421 : MethodName := ⟨RJ5, "inflateIfNeededFor", "(Ljava/lang/String;)V"⟩
abbrev cJ5_putStringAt_47b60 : ByteArray := prog_15_method_73_code
def yJ5_putStringAt_47b60 : MethodName := ⟨RJ5, "putStringAt", "(ILjava/lang/String;)V"⟩
def RJx2cfe8 : String := "java/lang/Appendable"
def RJx9f9b0 : String := "java/lang/CharSequence"
def RJx8e188 : String := "java/lang/Cloneable"
def RJxb160c : String := "java/lang/Comparable"
def RJ6 : String := "java/lang/Integer"
abbrev cJ6_getChars_ba4f3 : ByteArray := prog_17_method_12_code
def yJ6_getChars_ba4f3 : MethodName := ⟨RJ6, "getChars", "(II[B)I"⟩
abbrev cJ6_stringSize_0f7a4 : ByteArray := prog_17_method_13_code
def yJ6_stringSize_0f7a4 : MethodName := ⟨RJ6, "stringSize", "(I)I"⟩
def RJ9 : String := "java/lang/Math"
abbrev cJ9_floorMod_7cf53 : ByteArray := prog_18_method_50_code
def yJ9_floorMod_7cf53 : MethodName := ⟨RJ9, "floorMod", "(II)I"⟩
abbrev cJ9_max_7cf53 : ByteArray := prog_18_method_65_code
def yJ9_max_7cf53 : MethodName := ⟨RJ9, "max", "(II)I"⟩
abbrev cJ9_max_f86c9 : ByteArray := prog_18_method_66_code
def yJ9_max_f86c9 : MethodName := ⟨RJ9, "max", "(JJ)J"⟩
abbrev cJ9_min_7cf53 : ByteArray := prog_18_method_69_code
def yJ9_min_7cf53 : MethodName := ⟨RJ9, "min", "(II)I"⟩
abbrev cJ9_min_f86c9 : ByteArray := prog_18_method_70_code
def yJ9_min_f86c9 : MethodName := ⟨RJ9, "min", "(JJ)J"⟩
def RJxd2413 : String := "java/lang/Number"
def RJ0 : String := "java/lang/String"
def TJ0 : u_T := fun k => match k with
  | 0 => ("java/lang/String", "value", "[B", true)
  | 1 => ("java/lang/String", "coder", "B", true)
  | 2 => ("java/lang/String", "hash", "I", false)
  | _ => ("java/lang/String", "hashIsZero", "Z", false)
def tyJ0 : Nat → FieldType := fun k => match k with
  | 0 => .array .byte
  | 1 => .byte
  | 2 => .int
  | _ => .boolean
theorem nmJ0 : ∀ a, a < 4 → ∀ b, b < 4 → a ≠ b → (TJ0 a).2.1 ≠ (TJ0 b).2.1 := by decide +kernel
theorem tyJ0_ok : ∀ k, k < 4 → parseFieldDescriptor (TJ0 k).2.2.1 = some (tyJ0 k) := by decide +kernel
abbrev cJ0_init_81219 : ByteArray := prog_20_method_53_code
def yJ0_init_81219 : MethodName := ⟨RJ0, "<init>", "(Ljava/lang/StringBuilder;)V"⟩
abbrev cJ0_length_8abf5 : ByteArray := prog_20_method_54_code
def yJ0_length_8abf5 : MethodName := ⟨RJ0, "length", "()I"⟩
abbrev cJ0_charAt_5068e : ByteArray := prog_20_method_56_code
def yJ0_charAt_5068e : MethodName := ⟨RJ0, "charAt", "(I)C"⟩
abbrev cJ0_getBytes_840e7 : ByteArray := prog_20_method_147_code
def yJ0_getBytes_840e7 : MethodName := ⟨RJ0, "getBytes", "([BIB)V"⟩
abbrev cJ0_init_db425 : ByteArray := prog_20_method_150_code
def yJ0_init_db425 : MethodName := ⟨RJ0, "<init>", "(Ljava/lang/AbstractStringBuilder;Ljava/lang/Void;)V"⟩
abbrev cJ0_coder_7d493 : ByteArray := prog_20_method_152_code
def yJ0_coder_7d493 : MethodName := ⟨RJ0, "coder", "()B"⟩
abbrev cJ0_isLatin1_aae02 : ByteArray := prog_20_method_154_code
def yJ0_isLatin1_aae02 : MethodName := ⟨RJ0, "isLatin1", "()Z"⟩
abbrev cJ0_checkIndex_df160 : ByteArray := prog_20_method_155_code
def yJ0_checkIndex_df160 : MethodName := ⟨RJ0, "checkIndex", "(II)V"⟩
abbrev cJ0_checkBoundsOffCount_cabcc : ByteArray := prog_20_method_157_code
def yJ0_checkBoundsOffCount_cabcc : MethodName := ⟨RJ0, "checkBoundsOffCount", "(III)I"⟩
abbrev cJ0_checkBoundsBeginEnd_23922 : ByteArray := prog_20_method_158_code
def yJ0_checkBoundsBeginEnd_23922 : MethodName := ⟨RJ0, "checkBoundsBeginEnd", "(III)V"⟩
def RJ4 : String := "java/lang/StringBuilder"
def TJ4 : u_T := fun k => match k with
  | 0 => ("java/lang/AbstractStringBuilder", "value", "[B", false)
  | 1 => ("java/lang/AbstractStringBuilder", "coder", "B", false)
  | 2 => ("java/lang/AbstractStringBuilder", "maybeLatin1", "Z", false)
  | _ => ("java/lang/AbstractStringBuilder", "count", "I", false)
def tyJ4 : Nat → FieldType := fun k => match k with
  | 0 => .array .byte
  | 1 => .byte
  | 2 => .boolean
  | _ => .int
theorem nmJ4 : ∀ a, a < 4 → ∀ b, b < 4 → a ≠ b → (TJ4 a).2.1 ≠ (TJ4 b).2.1 := by decide +kernel
theorem tyJ4_ok : ∀ k, k < 4 → parseFieldDescriptor (TJ4 k).2.2.1 = some (tyJ4 k) := by decide +kernel
abbrev cJ4_init_da8c8 : ByteArray := prog_21_method_1_code
def yJ4_init_da8c8 : MethodName := ⟨RJ4, "<init>", "()V"⟩
abbrev cJ4_append_15ec4 : ByteArray := prog_21_method_7_code
def yJ4_append_15ec4 : MethodName := ⟨RJ4, "append", "(Ljava/lang/String;)Ljava/lang/StringBuilder;"⟩
abbrev cJ4_append_bf812 : ByteArray := prog_21_method_15_code
def yJ4_append_bf812 : MethodName := ⟨RJ4, "append", "(I)Ljava/lang/StringBuilder;"⟩
abbrev cJ4_toString_0e30d : ByteArray := prog_21_method_42_code
def yJ4_toString_0e30d : MethodName := ⟨RJ4, "toString", "()Ljava/lang/String;"⟩
abbrev cJ4_length_8abf5 : ByteArray := prog_21_method_93_code
def yJ4_length_8abf5 : MethodName := ⟨RJ4, "length", "()I"⟩
def RJ1 : String := "java/lang/StringLatin1"
abbrev cJ1_charAt_3b067 : ByteArray := prog_22_method_2_code
def yJ1_charAt_3b067 : MethodName := ⟨RJ1, "charAt", "([BI)C"⟩
abbrev cJ1_inflate_0e8fd : ByteArray := prog_22_method_50_code
def yJ1_inflate_0e8fd : MethodName := ⟨RJ1, "inflate", "([BI[BII)V"⟩
def RJ2 : String := "java/lang/StringUTF16"
abbrev cJ2_newBytesFor_77867 : ByteArray := prog_23_method_2_code
def yJ2_newBytesFor_77867 : MethodName := ⟨RJ2, "newBytesFor", "(I)[B"⟩
abbrev cJ2_newBytesLength_0f7a4 : ByteArray := prog_23_method_3_code
def yJ2_newBytesLength_0f7a4 : MethodName := ⟨RJ2, "newBytesLength", "(I)I"⟩
abbrev cJ2_putChar_b72d1 : ByteArray := prog_23_method_4_code
def yJ2_putChar_b72d1 : MethodName := ⟨RJ2, "putChar", "([BII)V"⟩
abbrev cJ2_getChar_3b067 : ByteArray := prog_23_method_5_code
def yJ2_getChar_3b067 : MethodName := ⟨RJ2, "getChar", "([BI)C"⟩
abbrev cJ2_length_9d52b : ByteArray := prog_23_method_6_code
def yJ2_length_9d52b : MethodName := ⟨RJ2, "length", "([B)I"⟩
abbrev cJ2_coderFromArrayLen_85cad : ByteArray := prog_23_method_15_code
def yJ2_coderFromArrayLen_85cad : MethodName := ⟨RJ2, "coderFromArrayLen", "([BI)B"⟩
abbrev cJ2_compress_39247 : ByteArray := prog_23_method_17_code
def yJ2_compress_39247 : MethodName := ⟨RJ2, "compress", "([BII)[B"⟩
abbrev cJ2_compress_5af95 : ByteArray := prog_23_method_22_code
def yJ2_compress_5af95 : MethodName := ⟨RJ2, "compress", "([BI[BII)I"⟩
abbrev cJ2_getChars_46870 : ByteArray := prog_23_method_77_code
def yJ2_getChars_46870 : MethodName := ⟨RJ2, "getChars", "(III[B)I"⟩
abbrev cJ2_putCharsAt_cd4e5 : ByteArray := prog_23_method_81_code
def yJ2_putCharsAt_cd4e5 : MethodName := ⟨RJ2, "putCharsAt", "([BICCCC)I"⟩
abbrev cJ2_charAt_3b067 : ByteArray := prog_23_method_83_code
def yJ2_charAt_3b067 : MethodName := ⟨RJ2, "charAt", "([BI)C"⟩
abbrev cJ2_inflate_0e8fd : ByteArray := prog_23_method_86_code
def yJ2_inflate_0e8fd : MethodName := ⟨RJ2, "inflate", "([BI[BII)V"⟩
abbrev cJ2_getChars_ba4f3 : ByteArray := prog_23_method_89_code
def yJ2_getChars_ba4f3 : MethodName := ⟨RJ2, "getChars", "(II[B)I"⟩
abbrev cJ2_checkIndex_2214a : ByteArray := prog_23_method_91_code
def yJ2_checkIndex_2214a : MethodName := ⟨RJ2, "checkIndex", "(I[B)V"⟩
abbrev cJ2_checkBoundsBeginEnd_d044e : ByteArray := prog_23_method_93_code
def yJ2_checkBoundsBeginEnd_d044e : MethodName := ⟨RJ2, "checkBoundsBeginEnd", "(II[B)V"⟩
abbrev cJ2_checkBoundsOffCount_d044e : ByteArray := prog_23_method_94_code
def yJ2_checkBoundsOffCount_d044e : MethodName := ⟨RJ2, "checkBoundsOffCount", "(II[B)V"⟩
def RJ10 : String := "java/lang/System"
def RJxfd54e : String := "java/lang/constant/Constable"
def RJx3cf43 : String := "java/lang/constant/ConstantDesc"
def RJ7 : String := "java/util/Arrays"
abbrev cJ7_fill_53178 : ByteArray := prog_25_method_103_code
def yJ7_fill_53178 : MethodName := ⟨RJ7, "fill", "([II)V"⟩
abbrev cJ7_copyOf_9075b : ByteArray := prog_25_method_121_code
def yJ7_copyOf_9075b : MethodName := ⟨RJ7, "copyOf", "([BI)[B"⟩
abbrev cJ7_copyOf_59c91 : ByteArray := prog_25_method_123_code
def yJ7_copyOf_59c91 : MethodName := ⟨RJ7, "copyOf", "([II)[I"⟩
abbrev cJ7_checkLength_df160 : ByteArray := prog_25_method_131_code
def yJ7_checkLength_df160 : MethodName := ⟨RJ7, "checkLength", "(II)V"⟩
abbrev cJ7_copyOfRange_39247 : ByteArray := prog_25_method_132_code
def yJ7_copyOfRange_39247 : MethodName := ⟨RJ7, "copyOfRange", "([BII)[B"⟩
abbrev cJ7_copyOfRangeByte_39247 : ByteArray := prog_25_method_133_code
def yJ7_copyOfRangeByte_39247 : MethodName := ⟨RJ7, "copyOfRangeByte", "([BII)[B"⟩
def RJ8 : String := "jdk/internal/util/ArraysSupport"
abbrev cJ8_newLength_cabcc : ByteArray := prog_26_method_27_code
def yJ8_newLength_cabcc : MethodName := ⟨RJ8, "newLength", "(III)I"⟩
abbrev cJ8_hugeLength_7cf53 : ByteArray := prog_26_method_28_code
def yJ8_hugeLength_7cf53 : MethodName := ⟨RJ8, "hugeLength", "(II)I"⟩
def RJ3 : String := "jdk/internal/util/Preconditions"
abbrev cJ3_checkIndex_8e157 : ByteArray := prog_27_method_11_code
def yJ3_checkIndex_8e157 : MethodName := ⟨RJ3, "checkIndex", "(IILjava/util/function/BiFunction;)I"⟩
abbrev cJ3_checkFromToIndex_8c36e : ByteArray := prog_27_method_12_code
def yJ3_checkFromToIndex_8c36e : MethodName := ⟨RJ3, "checkFromToIndex", "(IIILjava/util/function/BiFunction;)I"⟩
abbrev cJ3_checkFromIndexSize_8c36e : ByteArray := prog_27_method_13_code
def yJ3_checkFromIndexSize_8c36e : MethodName := ⟨RJ3, "checkFromIndexSize", "(IIILjava/util/function/BiFunction;)I"⟩
def RL : String := "NineHeapsLaw"
abbrev cL_at : ByteArray := method_2_code
def yL_at : MethodName := ⟨RL, "at", "([II)I"⟩
abbrev cL_text : ByteArray := method_3_code
def yL_text : MethodName := ⟨RL, "text", "(LNineHeaps;Ljava/lang/String;)V"⟩
abbrev cL_build : ByteArray := method_4_code
def yL_build : MethodName := ⟨RL, "build", "([I)LNineHeaps;"⟩
abbrev cL_plain : ByteArray := method_5_code
def yL_plain : MethodName := ⟨RL, "plain", "([I)Z"⟩
abbrev cL_many : ByteArray := method_6_code
def yL_many : MethodName := ⟨RL, "many", "([I)I"⟩
abbrev cL_want : ByteArray := method_7_code
def yL_want : MethodName := ⟨RL, "want", "([I)I"⟩
abbrev cL_high : ByteArray := method_8_code
def yL_high : MethodName := ⟨RL, "high", "([II)I"⟩
abbrev cL_stick : ByteArray := method_9_code
def yL_stick : MethodName := ⟨RL, "stick", "([II)I"⟩
abbrev cL_kind : ByteArray := method_10_code
def yL_kind : MethodName := ⟨RL, "kind", "([II)I"⟩
abbrev cL_more : ByteArray := method_11_code
def yL_more : MethodName := ⟨RL, "more", "([II)I"⟩
abbrev cL_from : ByteArray := method_12_code
def yL_from : MethodName := ⟨RL, "from", "([II)I"⟩
abbrev cL_held : ByteArray := method_13_code
def yL_held : MethodName := ⟨RL, "held", "(JII)I"⟩
abbrev cL_start : ByteArray := method_14_code
def yL_start : MethodName := ⟨RL, "start", "([I[J)V"⟩
abbrev cL_begin : ByteArray := method_15_code
def yL_begin : MethodName := ⟨RL, "begin", "([J)V"⟩
abbrev cL_takes : ByteArray := method_16_code
def yL_takes : MethodName := ⟨RL, "takes", "([I[JIJJ)I"⟩
abbrev cL_steps : ByteArray := method_17_code
def yL_steps : MethodName := ⟨RL, "steps", "([I[JIJ)I"⟩
abbrev cL_lift : ByteArray := method_18_code
def yL_lift : MethodName := ⟨RL, "lift", "([I[JII)V"⟩
abbrev cL_second : ByteArray := method_19_code
def yL_second : MethodName := ⟨RL, "second", "([I[JIII)V"⟩
abbrev cL_go : ByteArray := method_20_code
def yL_go : MethodName := ⟨RL, "go", "([I[JIII)I"⟩
abbrev cL_plainly : ByteArray := method_21_code
def yL_plainly : MethodName := ⟨RL, "plainly", "([I[JII)I"⟩
abbrev cL_law : ByteArray := code
def yL_law : MethodName := ⟨RL, "law", "([I)Z"⟩
abbrev vwCl : List vw_C := [(RX0, TX0, 13), (RX1, TX1, 11), (RX2, TX2, 7), (RX3, TX3, 5), (RX4, TX4, 11), (RX5, TX5, 11), (RX6, TX6, 3), (RX7, TX7, 10), (RX8, TX8, 11), (RX9, TX9, 11), (RX10, TX10, 11), (RX11, TX11, 20), (RJ4, TJ4, 4), (RJ0, TJ0, 4)]
end
section
/-! THE ABSTRACT MACHINE: a whole world in numbered cells; EV: from a place in a method's code the machine comes to the method's end with Q -/
/-- the tables' words that hold of every state of the launch -/
def zGT : List Cond := lw_tbl.filter goodWord
theorem zin {c : Cond} (i : Nat) (h : lw_tbl[i]? = some c) (hg : goodWord c = true) : c ∈ zGT := List.mem_filter.mpr ⟨List.mem_of_getElem? h, hg⟩
theorem zGT_good : GoodIn zGT zGT := fun w h => ⟨h, good_of_word (List.mem_filter.mp h).2⟩
/-- a method: its name, code, locals, answer -/
abbrev zY : Type := MethodName × ByteArray × Nat × Option FieldType
/-- the abstract memory: how many cells, their kinds (and lengths), their ints, their references -/
abbrev zM : Type := Nat × (Nat → Nat × Nat) × (Nat → Nat → Int32) × (Nat → Nat → Option Nat)
def zn (μ : zM) : Nat := μ.1
def zk (μ : zM) (a : Nat) : Nat × Nat := μ.2.1 a
def zi (μ : zM) (a k : Nat) : Int32 := μ.2.2.1 a k
def zr (μ : zM) (a k : Nat) : Option Nat := μ.2.2.2 a k
/-- whole rows are changed: f is row a -/
def zA (μ : zM) (a : Nat) (f : Nat → Int32) : zM := (μ.1, μ.2.1, fun b => if b = a then f else μ.2.2.1 b, μ.2.2.2)
/-- one number -/
def zI (μ : zM) (a k : Nat) (x : Int32) : zM := zA μ a (upd (zi μ a) k x)
/-- one reference -/
def zR (μ : zM) (a k : Nat) (r : Option Nat) : zM := (μ.1, μ.2.1, μ.2.2.1, fun b => if b = a then va_up (μ.2.2.2 a) k r else μ.2.2.2 b)
/-- a new cell -/
def zN (μ : zM) (kd : Nat × Nat) : zM := (μ.1 + 1, fun b => if b = μ.1 then kd else μ.2.1 b, fun b => if b = μ.1 then fun _ => 0 else μ.2.2.1 b, fun b => if b = μ.1 then fun _ => none else μ.2.2.2 b)
/-- the world's constants: the heap's size at the law's entry, the state there, class numbers, array classes, old cells' addresses, what references never change, the script -/
abbrev zW : Type := Nat × State × va_G × (Nat → ClassId) × (Nat → Nat) × (Nat → Nat → Option (Option Nat)) × Nat × (Nat → Int32) × Option (Nat → Int64)
def zb0 (w : zW) : Nat := w.1
def zs0 (w : zW) : State := w.2.1
def zD (w : zW) : va_G := w.2.2.1
def zcA (w : zW) : Nat → ClassId := w.2.2.2.1
def zca (w : zW) : Nat → Nat := w.2.2.2.2.1
def zst (w : zW) : Nat → Nat → Option (Option Nat) := w.2.2.2.2.2.1
/-- what the row of longs holds, once it is never written again -/
def zhm (w : zW) : Option (Nat → Int64) := w.2.2.2.2.2.2.2.2
/-- 32 .. 80 and 114 on: cells; 81 .. 113: no cells of the heap (what the reference would hold), their numbers name old ones -/
def zrl (a : Nat) : Prop := 32 ≤ a ∧ (a < 81 ∨ 114 ≤ a)
def zix (a : Nat) : Nat := if a < 81 then a - 32 else a - 65
def zun (j : Nat) : Nat := if j < 49 then j + 32 else j + 65
def zsz (n : Nat) : Nat := if n ≤ 81 then n - 32 else if n < 114 then 49 else n - 65
def zvn (n : Nat) : Prop := 32 ≤ n ∧ (n ≤ 81 ∨ 114 ≤ n)
def zad (w : zW) (a : Nat) : Nat := if a < 32 then zca w a else if a < 81 then zb0 w + (a - 32) else if a < 114 then zca w a else zb0 w + (a - 65)
/-- a long in two ints -/
def zlo (x : Int64) : Int32 := Int32.ofInt x.toInt
def zhi (x : Int64) : Int32 := Int32.ofInt (x.toInt / 4294967296)
def zpk (lo hi : Int32) : Int64 := Int64.ofInt (hi.toInt * 4294967296 + lo.toInt % 4294967296)
theorem zpk_eq (x : Int64) : zpk (zlo x) (zhi x) = x := by
  have h1 := x.le_toInt
  have h2 := x.toInt_lt
  unfold zpk zlo zhi
  rw [Int32.toInt_ofInt, Int32.toInt_ofInt]
  have e : (x.toInt / 4294967296).bmod (2 ^ 32) = x.toInt / 4294967296 := by
    rw [Int.bmod_eq_of_le (by omega) (by omega)]
  have e2 : x.toInt.bmod (2 ^ 32) % 4294967296 = x.toInt % 4294967296 := by
    rw [Int.bmod_def]
    split <;> omega
  rw [e, e2, show x.toInt / 4294967296 * 4294967296 + x.toInt % 4294967296 = x.toInt by omega, Int64.ofInt_toInt]
/-- a row of longs in a row of ints -/
def zpr (h : Nat → Int64) : Nat → Int32 := fun j => if j % 2 = 0 then zlo (h (j / 2)) else zhi (h (j / 2))
def zlg (w : zW) (f : Nat → Int32) : Nat → Int64 := match zhm w with
  | none => fun k => zpk (f (2 * k)) (f (2 * k + 1))
  | some h => h
theorem zlg_w {w : zW} {h : Nat → Int64} (hw : zhm w = some h) (f : Nat → Int32) : zlg w f = h := by
  unfold zlg
  rw [hw]
theorem zlg_pr {w : zW} (hw : zhm w = none) (h : Nat → Int64) : zlg w (zpr h) = h := by
  unfold zlg
  rw [hw]
  funext k
  show zpk (zpr h (2 * k)) (zpr h (2 * k + 1)) = h k
  unfold zpr
  rw [if_pos (by omega), if_neg (by omega), show 2 * k / 2 = k by omega, show (2 * k + 1) / 2 = k by omega, zpk_eq]
def zva (w : zW) (v : Value) : Value := match v with
  | .ref a => .ref (zad w a)
  | v => v
theorem zva_int (w : zW) (x : Int32) : zva w (.int x) = .int x := rfl
theorem zva_long (w : zW) (x : Int64) : zva w (.long x) = .long x := rfl
theorem zva_ref (w : zW) (a : Nat) : zva w (.ref a) = .ref (zad w a) := rfl
theorem zva_null (w : zW) : zva w .null = .null := rfl
theorem zva_cat (w : zW) (v : Value) : (zva w v).category = v.category := by cases v <;> rfl
/-- classes: how many fields, of which types; is a field a reference -/
def zNf (c : Nat) : Nat := match c with
  | 0 => 13 | 1 => 11 | 2 => 7 | 3 => 5 | 4 => 11 | 5 => 11 | 6 => 3 | 7 => 10 | 8 => 11 | 9 => 11 | 10 => 11 | 11 => 20 | 12 => 4 | _ => 4
def zty (c : Nat) : Nat → FieldType := match c with
  | 0 => tyX0 | 1 => tyX1 | 2 => tyX2 | 3 => tyX3 | 4 => tyX4 | 5 => tyX5 | 6 => tyX6 | 7 => tyX7 | 8 => tyX8 | 9 => tyX9 | 10 => tyX10 | 11 => tyX11 | 12 => tyJ4 | _ => tyJ0
def zTf (c : Nat) : u_T := match c with
  | 0 => TX0 | 1 => TX1 | 2 => TX2 | 3 => TX3 | 4 => TX4 | 5 => TX5 | 6 => TX6 | 7 => TX7 | 8 => TX8 | 9 => TX9 | 10 => TX10 | 11 => TX11 | 12 => TJ4 | _ => TJ0
def zRf (c : Nat) : String := match c with
  | 0 => RX0 | 1 => RX1 | 2 => RX2 | 3 => RX3 | 4 => RX4 | 5 => RX5 | 6 => RX6 | 7 => RX7 | 8 => RX8 | 9 => RX9 | 10 => RX10 | 11 => RX11 | 12 => RJ4 | _ => RJ0
def zfl (c k : Nat) : Bool := match zty c k with
  | .int => false
  | .boolean => false
  | .byte => false
  | _ => true
theorem zcl_at : ∀ c, c < 14 → vwCl[c]? = some (zRf c, zTf c, zNf c) := fun c h => by
  match c, h with
  | 0, _ => rfl
  | 1, _ => rfl
  | 2, _ => rfl
  | 3, _ => rfl
  | 4, _ => rfl
  | 5, _ => rfl
  | 6, _ => rfl
  | 7, _ => rfl
  | 8, _ => rfl
  | 9, _ => rfl
  | 10, _ => rfl
  | 11, _ => rfl
  | 12, _ => rfl
  | 13, _ => rfl
/-- a reference as it stands: one that never changes, or the memory's -/
def zrr (w : zW) (μ : zM) (a k : Nat) : Option Nat := match zst w a k with
  | some r => r
  | none => zr μ a k
def zv (w : zW) (μ : zM) (a c k : Nat) : Value := if zfl c k = true then va_rf ((zrr w μ a k).map (zad w)) else .int (zi μ a k)
/-- a cell as the kit's worlds have it -/
def zE (w : zW) (μ : zM) (a : Nat) : va_E :=
  if (zk μ a).1 = 0 then .inl (zcA w 0, (zk μ a).2, .inl (zi μ a))
  else if (zk μ a).1 = 12 then .inl (zcA w 6, (zk μ a).2, .inl (zi μ a))
  else if (zk μ a).1 = 14 then .inl (zcA w 7, (zk μ a).2, .inr (.inl (zlg w (zi μ a))))
  else if (zk μ a).1 < 16 then .inl (zcA w (zk μ a).1, (zk μ a).2, .inr (.inr (.inr (.inr (fun k => (zrr w μ a k).map (zad w))))))
  else .inr ((zk μ a).1 - 16, (List.range (zNf ((zk μ a).1 - 16))).map (zv w μ a ((zk μ a).1 - 16)))
def zWs (w : zW) (μ : zM) : va_W := (List.range (zsz (zn μ))).map (fun j => (zb0 w + j, zE w μ (zun j)))
def zAq (w : zW) : Nat → Prop := fun q => zb0 w ≤ q
/-- the arrays' classes: ints, rows of ints, walkers, laws, sheets, heaps; bytes, longs -/
def zT (w : zW) : List (ClassId × FieldType) := [(zcA w 0, .int), (zcA w 1, .array .int), (zcA w 2, .object RX10), (zcA w 3, .object RX3), (zcA w 4, .object RX6), (zcA w 5, .object RX2), (zcA w 6, .byte), (zcA w 7, .long)]
theorem zun_ix {a : Nat} (h : zrl a) : zun (zix a) = a := by
  obtain ⟨h1, h2⟩ := h
  unfold zun zix
  split <;> split <;> omega
theorem zix_un (j : Nat) : zix (zun j) = j := by
  unfold zun zix
  split <;> split <;> omega
theorem zun_rl (j : Nat) : zrl (zun j) := by
  unfold zrl zun
  split <;> omega
theorem zix_lt {a n : Nat} (h : zrl a) (hn : a < n) : zix a < zsz n := by
  obtain ⟨h1, h2⟩ := h
  unfold zix zsz
  split <;> split <;> (try split) <;> omega
theorem zun_lt {j n : Nat} (h : j < zsz n) : zun j < n := by
  unfold zun
  unfold zsz at h
  split at h <;> split <;> (try split at h) <;> omega
theorem zad_rl (w : zW) {a : Nat} (h : zrl a) : zad w a = zb0 w + zix a := by
  obtain ⟨h1, h2⟩ := h
  unfold zad zix
  rw [if_neg (by omega)]
  by_cases c : a < 81
  · rw [if_pos c, if_pos c]
  · rw [if_neg c, if_neg c, if_neg (by omega)]
theorem zsz_push {n : Nat} (h : zrl n) : zsz (n + 1) = zsz n + 1 := by
  obtain ⟨h1, h2⟩ := h
  unfold zsz
  split <;> split <;> (try split) <;> (try split) <;> omega
theorem zsz_ix {n : Nat} (h : zrl n) : zsz n = zix n := by
  obtain ⟨h1, h2⟩ := h
  unfold zsz zix
  split <;> split <;> (try split) <;> omega
theorem zrl_vn {n : Nat} (h : zrl n) : zvn n ∧ zvn (n + 1) ∧ n ≠ 0 := by
  obtain ⟨h1, h2⟩ := h
  unfold zvn
  omega
theorem zWs_at (w : zW) {μ : zM} {a : Nat} (h : zrl a) (hn : a < zn μ) : (zWs w μ)[zix a]? = some (zad w a, zE w μ a) := by
  unfold zWs
  rw [List.getElem?_map, List.getElem?_range (zix_lt h hn), zad_rl w h]
  show some (zb0 w + zix a, zE w μ (zun (zix a))) = _
  rw [zun_ix h]
theorem zWs_len (w : zW) (μ : zM) : (zWs w μ).length = zsz (zn μ) := by simp [zWs]
theorem zWs_apart (w : zW) (μ : zM) : va_D (zAq w) (zWs w μ) := by
  have at' : ∀ (k : Nat) (q : Nat × va_E), (zWs w μ)[k]? = some q → q.1 = zb0 w + k := by
    intro k q h
    have hl : k < zsz (zn μ) := by rw [← zWs_len w μ]; exact (List.getElem?_eq_some_iff.mp h).1
    unfold zWs at h
    rw [List.getElem?_map, List.getElem?_range hl] at h
    cases h
    rfl
  refine ⟨fun i j p q hp hq h => ?_, fun k q hq => ?_⟩
  · have h1 := at' i p hp
    have h2 := at' j q hq
    omega
  · have h1 := at' k q hq
    show zb0 w ≤ q.1
    omega
/-- one cell changes -/
theorem zWs_set (w : zW) {μ μ' : zM} {a : Nat} (h : zrl a) (hn : a < zn μ) (hn' : zn μ' = zn μ) (he : ∀ b, b ≠ a → zE w μ' b = zE w μ b) : (zWs w μ).set (zix a) (zad w a, zE w μ' a) = zWs w μ' := by
  apply List.ext_getElem?
  intro k
  by_cases hk : k < zsz (zn μ)
  · by_cases e : k = zix a
    · subst e
      rw [List.getElem?_set_self (by rw [zWs_len]; exact hk), zWs_at w h (by omega)]
    · rw [List.getElem?_set_ne (fun q => e q.symm)]
      unfold zWs
      rw [List.getElem?_map, List.getElem?_map, List.getElem?_range hk, List.getElem?_range (by rw [hn']; exact hk)]
      show some (zb0 w + k, zE w μ (zun k)) = some (zb0 w + k, zE w μ' (zun k))
      rw [he (zun k) (fun q => e (by rw [← q, zix_un]))]
  · have h1 : (zWs w μ').length ≤ k := by rw [zWs_len, hn']; omega
    have h2 : ((zWs w μ).set (zix a) (zad w a, zE w μ' a)).length ≤ k := by rw [List.length_set, zWs_len]; omega
    rw [List.getElem?_eq_none h1, List.getElem?_eq_none h2]
/-- a cell comes -/
theorem zWs_push (w : zW) {μ μ' : zM} (h : zrl (zn μ)) (hn' : zn μ' = zn μ + 1) (he : ∀ b, b < zn μ → zE w μ' b = zE w μ b) : zWs w μ' = zWs w μ ++ [(zad w (zn μ), zE w μ' (zn μ))] := by
  have hs : zsz (zn μ) = zix (zn μ) := zsz_ix h
  unfold zWs
  rw [hn', zsz_push h, List.range_succ, List.map_append, List.map_singleton, zad_rl w h, hs, zun_ix h]
  congr 1
  apply List.map_congr_left
  intro j hj
  rw [he (zun j) (zun_lt (by rw [hs]; exact List.mem_range.mp hj))]
/-- the locals, of which some aren't spoken of -/
def zLv (w : zW) : Nat → List (Option Value) → List (Nat × Value)
  | _, [] => []
  | i, none :: L => zLv w (i + 1) L
  | i, some v :: L => (i, zva w v) :: zLv w (i + 1) L
theorem zLv_mem (w : zW) : ∀ (L : List (Option Value)) (i : Nat) (q : Nat × Value), q ∈ zLv w i L ↔ ∃ (j : Nat) (v : Value), L[j]? = some (some v) ∧ q = (i + j, zva w v)
  | [], i, q => by simp [zLv]
  | none :: L, i, q => by
    rw [show zLv w i (none :: L) = zLv w (i + 1) L from rfl, zLv_mem w L]
    constructor
    · rintro ⟨j, v, h, e⟩
      exact ⟨j + 1, v, by simpa using h, by rw [e]; congr 1; omega⟩
    · rintro ⟨j, v, h, e⟩
      match j, h with
      | 0, h => simp at h
      | j + 1, h => exact ⟨j, v, by simpa using h, by rw [e]; congr 1; omega⟩
  | some u :: L, i, q => by
    rw [show zLv w i (some u :: L) = (i, zva w u) :: zLv w (i + 1) L from rfl, List.mem_cons, zLv_mem w L]
    constructor
    · rintro (e | ⟨j, v, h, e⟩)
      · exact ⟨0, u, by simp, by rw [e]; rfl⟩
      · exact ⟨j + 1, v, by simpa using h, by rw [e]; congr 1; omega⟩
    · rintro ⟨j, v, h, e⟩
      match j, h with
      | 0, h =>
        simp at h
        subst h
        exact Or.inl (by rw [e]; rfl)
      | j + 1, h => exact Or.inr ⟨j, v, by simpa using h, by rw [e]; congr 1; omega⟩
def zL (w : zW) (n : Nat) (ls : Array Slot) (L : List (Option Value)) : Prop := lv_has ls n (zLv w 0 L)
theorem zL_get {w : zW} {n : Nat} {ls : Array Slot} {L : List (Option Value)} (h : zL w n ls L) {i : Nat} {v : Value} (hi : L[i]? = some (some v)) : ls[i]? = some (.val (zva w v)) :=
  h.2.2 (i, zva w v) ((zLv_mem w L 0 _).mpr ⟨i, v, hi, by simp⟩)
theorem zL_sub {w : zW} {n : Nat} {ls : Array Slot} {l : List (Nat × Value)} {L : List (Option Value)} (h : lv_has ls n l) (hs : ∀ (j : Nat) (v : Value), L[j]? = some (some v) → (j, zva w v) ∈ l) : zL w n ls L :=
  ⟨h.1, h.2.1, fun q hq => by
    obtain ⟨j, v, h1, e⟩ := (zLv_mem w L 0 q).mp hq
    rw [e, Nat.zero_add]
    exact h.2.2 _ (hs j v h1)⟩
/-- no long stands just before place i -/
def zno2 (L : List (Option Value)) (i : Nat) : Bool := match i with
  | 0 => true
  | j + 1 => match L[j]? with
    | some (some (.long _)) => false
    | some (some (.double _)) => false
    | _ => true
theorem zno2_cat {L : List (Option Value)} {i j : Nat} {v : Value} (h : zno2 L i = true) (hj : j + 1 = i) (hv : L[j]? = some (some v)) : ¬ v.category = 2 := by
  subst hj
  simp only [zno2, hv] at h
  cases v <;> simp_all [Value.category]
theorem zL_st1 {w : zW} {n : Nat} {ls' : Array Slot} {L : List (Option Value)} {i : Nat} {v : Value} (hno : zno2 L i = true)
    (h : lv_has ls' n ((i, zva w v) :: (zLv w 0 L).filter (fun q => !(q.1 == i) && !(q.1 + 1 == i && q.2.category == 2)))) : zL w n ls' (L.set i (some v)) := by
  refine zL_sub h fun j u hu => ?_
  by_cases e : j = i
  · subst e
    by_cases hl : j < L.length
    · rw [List.getElem?_set_self hl] at hu
      cases hu
      exact List.mem_cons_self
    · rw [List.getElem?_eq_none (by rw [List.length_set]; omega)] at hu
      cases hu
  · rw [List.getElem?_set_ne (fun q => e q.symm)] at hu
    refine List.mem_cons_of_mem _ (List.mem_filter.mpr ⟨(zLv_mem w L 0 _).mpr ⟨j, u, hu, by simp⟩, ?_⟩)
    have h2 : j + 1 = i → ¬ u.category = 2 := fun q => zno2_cat hno q hu
    simp only [zva_cat, Bool.and_eq_true, Bool.not_eq_true', beq_eq_false_iff_ne, ne_eq, Bool.and_eq_false_iff]
    refine ⟨e, ?_⟩
    by_cases q : j + 1 = i
    · exact Or.inr (h2 q)
    · exact Or.inl q
theorem zL_st2 {w : zW} {n : Nat} {ls' : Array Slot} {L : List (Option Value)} {i : Nat} {v : Value} (hno : zno2 L i = true)
    (h : lv_has ls' n ((i, zva w v) :: (zLv w 0 L).filter (fun q => !(q.1 == i) && (!(q.1 == i + 1) && !(q.1 + 1 == i && q.2.category == 2))))) : zL w n ls' ((L.set i (some v)).set (i + 1) none) := by
  refine zL_sub h fun j u hu => ?_
  by_cases e1 : j = i + 1
  · subst e1
    by_cases hl : i + 1 < (L.set i (some v)).length
    · rw [List.getElem?_set_self hl] at hu
      cases hu
    · rw [List.getElem?_eq_none (by rw [List.length_set]; omega)] at hu
      cases hu
  · rw [List.getElem?_set_ne (fun q => e1 q.symm)] at hu
    by_cases e : j = i
    · subst e
      by_cases hl : j < L.length
      · rw [List.getElem?_set_self hl] at hu
        cases hu
        exact List.mem_cons_self
      · rw [List.getElem?_eq_none (by rw [List.length_set]; omega)] at hu
        cases hu
    · rw [List.getElem?_set_ne (fun q => e q.symm)] at hu
      refine List.mem_cons_of_mem _ (List.mem_filter.mpr ⟨(zLv_mem w L 0 _).mpr ⟨j, u, hu, by simp⟩, ?_⟩)
      have h2 : j + 1 = i → ¬ u.category = 2 := fun q => zno2_cat hno q hu
      simp only [zva_cat, Bool.and_eq_true, Bool.not_eq_true', beq_eq_false_iff_ne, ne_eq, Bool.and_eq_false_iff]
      refine ⟨e, e1, ?_⟩
      by_cases q : j + 1 = i
      · exact Or.inr (h2 q)
      · exact Or.inl q
end
section
/-! EV, and its rows for instructions that touch no cell -/
/-- an old array of ints, exactly so long -/
def zTc (w : zW) (i N : Nat) (f : Nat → Int32) : Prop := ∃ cell : Cell, (zs0 w).heap[zca w i]? = some cell ∧ cell.cls = zcA w 0 ∧ cell.vm ≠ .unknown ∧ (∀ k, cell.vm ≠ .statics k) ∧ cell.slots.size = N ∧ (∀ j : Nat, j < N → cell.slots[j]? = some (.int (f j)))
def zxl (w : zW) : Nat := w.2.2.2.2.2.2.1
def zxs (w : zW) : Nat → Int32 := w.2.2.2.2.2.2.2.1
def zFl : Nat → Int32 := fun j => match j with | 0 => 2 | _ => 1
def zFs : Nat → Int32 := fun j => nI j
def zSlen : List Nat := [5, 5, 5, 2, 3, 3, 4, 6, 4, 4, 4, 4, 13, 24, 22, 1]
def zSbyt : List (List Int32) := [[116, 97, 107, 101, 115], [115, 116, 101, 112, 115], [109, 105, 110, 100, 115], [111, 114], [97, 110, 100], [110, 111, 116], [104, 101, 97, 112], [119, 97, 108, 107, 101, 114], [109, 111, 114, 101], [108, 101, 102, 116], [100, 111, 110, 101], [109, 97, 110, 121], [116, 97, 107, 101, 115, 32, 49, 43, 104, 101, 97, 112, 42], [43, 100, 111, 110, 101, 59, 115, 116, 101, 112, 115, 32, 109, 97, 110, 121, 43, 119, 97, 108, 107, 101, 114, 42], [45, 108, 101, 102, 116, 59, 109, 105, 110, 100, 115, 32, 100, 111, 110, 101, 43, 109, 111, 114, 101, 42], [59]]
def zStx : List String := ["takes", "steps", "minds", "or", "and", "not", "heap", "walker", "more", "left", "done", "many", "takes 1+heap*", "+done;steps many+walker*", "-left;minds done+more*", ";"]
def zSix : List Nat := [121, 127, 129, 131, 133, 135, 137, 139, 141, 143, 145, 147, 63, 75, 77, 79]
/-- whose texts they are; where they and their bytes stand -/
def zSow (i : Nat) : String := if i < 12 then "NineHeaps$Tape" else "NineHeapsLaw"
def zSa (i : Nat) : Nat := if i < 12 then 2 + i else 69 + i
def zVa (i : Nat) : Nat := if i < 12 then 14 + i else 73 + i
/-- Integer.DigitOnes -/
def zDo : Nat → Int32 := fun j => Int32.ofNat (48 + j % 10)
/-- words that aren't the tables' alone -/
def zNw : List Cond := [.castable "[I" "java/lang/Cloneable", .castable RX5 RX10, .castable RX8 RX10, .castable RX4 RX10, .castable RX1 RX10, .castable RX9 RX10, .methodLinkNest RX11 34 yX7_init RX11, .methodLinkNest RX11 93 yX6_init RX11]
def zAO2 (U : State) : Prop := (Cond.arrayOver (.array .int)).before #[] U = true
/-- a static of the machine's of which only 'a reference or null' is known -/
def zsio (w : zW) : Option Nat := if zca w 28 = 0 then none else some 27
/-- what holds of the world's constants -/
def zGF (w : zW) : Prop :=
  zb0 w = (zs0 w).heap.size ∧ va_K (zD w) vwCl (zT w) (zs0 w) ∧ (va_X (zca w 26) (zxl w) (zxs w) (zs0 w) (zs0 w).heap ∧ zca w 26 < zb0 w) ∧
  (va_Z "NineHeaps" "FIRST_LAW" "[I" (.ref (zca w 0)) (zAq w) (zs0 w) (zs0 w).heap ∧ zTc w 0 3 zFl) ∧ (va_Z "NineHeaps" "FIRST_LAW_STARTS" "[I" (.ref (zca w 1)) (zAq w) (zs0 w) (zs0 w).heap ∧ zTc w 1 4 zFs) ∧
  va_Z "java/lang/String" "COMPACT_STRINGS" "Z" (.int 1) (zAq w) (zs0 w) (zs0 w).heap ∧
  vk_S 16 zSlen zSbyt (fun i => zca w (zSa i)) (fun i => zca w (zVa i)) (zAq w) (zs0 w) (zs0 w).heap ∧
  (∀ C ∈ [RX10, RX3, RX6, RX2], va_AO C (zs0 w)) ∧ zAO2 (zs0 w) ∧
  va_Z "jdk/internal/util/Preconditions" "SIOOBE_FORMATTER" "Ljava/util/function/BiFunction;" (va_rf ((zsio w).map (zca w))) (zAq w) (zs0 w) (zs0 w).heap ∧
  (va_Z "java/lang/Integer" "DigitOnes" "[B" (.ref (zca w 89)) (zAq w) (zs0 w) (zs0 w).heap ∧ va_T .byte (zca w 89) 100 (fun j => .int (zDo j)) (zAq w) (zs0 w) (zs0 w).heap)
/-- what holds in a method's frame -/
def zFr (w : zW) (s : State) : Prop := (zs0 w).vm.Alike s.vm ∧ zb0 w ≤ s.heap.size ∧ (∀ q : Nat, q < zb0 w → s.heap[q]? = (zs0 w).heap[q]?) ∧ (∀ i : Nat, i < 16 → vk_R (zSow i) (zSix.getD i 0) (zStx.getD i "") (zca w (zSa i)) s) ∧ ∀ v ∈ zNw, va_Nw v s
def zCtx (w : zW) (y : zY) (p : Program) (s : State) (m : MethodId) (args : Array Value) (meth : Method) (c : Code) : Prop :=
  p.tables.exec = Jvm.exec ∧ c.code = y.2.1 ∧ c.maxLocals = y.2.2.1 ∧ s.vm.findClass y.1.cls = some m.cls ∧ (∀ v ∈ zGT, v.before args s = true) ∧ meth.sig.returnType = y.2.2.2 ∧ meth.locks = false ∧ meth.name = y.1.name ∧ zFr w s
/-- no cells at all: nothing is told -/
def zNm (w : zW) (μ : zM) (H : Heap) : Prop := zn μ ≠ 0 → zvn (zn μ) ∧ H.size = zb0 w + zsz (zn μ) ∧ va_P (zD w) vwCl (zWs w μ) H
/-- the heap holds the memory -/
def zRp (w : zW) (s : State) (μ : zM) (H : Heap) (locs : List Loc) : Prop := zNm w μ H ∧ va_S (zAq w) s.heap H locs
/-- a method's end at pc with v -/
def zRet (y : zY) (pc : Nat) (v : Option Value) : Prop :=
  (∃ x : Int32, v = some (.int x) ∧ decode y.2.1 pc = .ok (.ireturn, 1) ∧ ∃ ty, y.2.2.2 = some ty ∧ narrow ty (.int x) = .int x) ∨
  (∃ x : Int64, v = some (.long x) ∧ decode y.2.1 pc = .ok (.lreturn, 1) ∧ y.2.2.2 = some .long) ∨
  (∃ r : Value, v = some r ∧ (r = .null ∨ ∃ a, r = .ref a) ∧ decode y.2.1 pc = .ok (.areturn, 1) ∧ ∃ rt, y.2.2.2 = some rt ∧ ((∃ n, rt = .object n) ∨ ∃ t, rt = .array t)) ∨
  (v = none ∧ decode y.2.1 pc = .ok (.return_, 1) ∧ y.2.2.2 = none)
/-- THE JUDGEMENT: at depth d, with kc cells and ks slots to spend, from pc of y with locals L, stack st, memory μ, the method ends with an answer and a memory of which Q holds -/
def EV (w : zW) (d kc ks : Nat) (y : zY) (pc : Nat) (L : List (Option Value)) (st : List Value) (μ : zM) (Q : Option Value → zM → Prop) : Prop :=
  ∀ (p : Program) (l : Launch) (e : Env) (R : Room) (s : State) (m : MethodId) (args : Array Value) (below : List Frame) (meth : Method) (c : Code) (H : Heap) (locs : List Loc) (cells slots : Nat) (Qf : State → Prop) (ls : Array Slot),
    zGF w → zCtx w y p s m args meth c → zL w y.2.2.1 ls L → zRp w s μ H locs → d ≤ R.frames → 64 * d ≤ R.locals → cells + kc ≤ R.cells → slots + ks ≤ R.slots →
    (∀ (v : Option Value) (μ' : zM) (H' : Heap) (locs' : List Loc) (cells' slots' pc' : Nat) (ls' : Array Slot), Q v μ' → zRp w s μ' H' locs' → cells' ≤ cells + kc → slots' ≤ slots + ks → zRet y pc' v →
      W p l e R s m args below meth c H' locs' cells' slots' Qf (F0 m pc' ls' (v.map (zva w)).toList)) →
    W p l e R s m args below meth c H locs cells slots Qf (F0 m pc ls (st.map (zva w)))
section EVR
variable {w : zW} {d kc ks : Nat} {y : zY} {pc : Nat} {L : List (Option Value)} {st : List Value} {μ : zM} {Q Q' : Option Value → zM → Prop}
theorem EV.mono (h : EV w d kc ks y pc L st μ Q) (hQ : ∀ v μ', Q v μ' → Q' v μ') : EV w d kc ks y pc L st μ Q' := by
  intro p l e R s m args below meth c H locs cells slots Qf ls hG hC hL hP h1 h2 h3 h4 k
  exact h p l e R s m args below meth c H locs cells slots Qf ls hG hC hL hP h1 h2 h3 h4 (fun v μ' H' locs' cells' slots' pc' ls' q => k v μ' H' locs' cells' slots' pc' ls' (hQ v μ' q))
theorem EV.more {d' kc' ks' : Nat} (h : EV w d kc ks y pc L st μ Q) (hd : d ≤ d') (hc : kc ≤ kc') (hs : ks ≤ ks') : EV w d' kc' ks' y pc L st μ Q := by
  intro p l e R s m args below meth c H locs cells slots Qf ls hG hC hL hP h1 h2 h3 h4 k
  exact h p l e R s m args below meth c H locs cells slots Qf ls hG hC hL hP (Nat.le_trans hd h1) (Nat.le_trans (Nat.mul_le_mul_left 64 hd) h2) (by omega) (by omega) (fun v μ' H' locs' cells' slots' pc' ls' q r a b t => k v μ' H' locs' cells' slots' pc' ls' q r (by omega) (by omega) t)
/-- the locals may be spoken of less -/
theorem EV.less {L' : List (Option Value)} (h : EV w d kc ks y pc L' st μ Q) (hl : ∀ (j : Nat) (v : Value), L'[j]? = some (some v) → L[j]? = some (some v)) : EV w d kc ks y pc L st μ Q := by
  intro p l e R s m args below meth c H locs cells slots Qf ls hG hC hL hP h1 h2 h3 h4 k
  refine h p l e R s m args below meth c H locs cells slots Qf ls hG hC (zL_sub hL fun j v hj => (zLv_mem w L 0 _).mpr ⟨j, v, hl j v hj, by simp⟩) hP h1 h2 h3 h4 k
theorem ev_end_i {x : Int32} {ty : FieldType} (hd : decode y.2.1 pc = .ok (.ireturn, 1)) (ht : y.2.2.2 = some ty) (hn : narrow ty (.int x) = .int x) (hQ : Q (some (.int x)) μ) : EV w d kc ks y pc L [.int x] μ Q := by
  intro p l e R s m args below meth c H locs cells slots Qf ls hG hC hL hP h1 h2 h3 h4 k
  exact k (some (.int x)) μ H locs cells slots pc ls hQ hP (Nat.le_add_right _ _) (Nat.le_add_right _ _) (Or.inl ⟨x, rfl, hd, ty, ht, hn⟩)
theorem ev_end_l {x : Int64} (hd : decode y.2.1 pc = .ok (.lreturn, 1)) (ht : y.2.2.2 = some .long) (hQ : Q (some (.long x)) μ) : EV w d kc ks y pc L [.long x] μ Q := by
  intro p l e R s m args below meth c H locs cells slots Qf ls hG hC hL hP h1 h2 h3 h4 k
  exact k (some (.long x)) μ H locs cells slots pc ls hQ hP (Nat.le_add_right _ _) (Nat.le_add_right _ _) (Or.inr (Or.inl ⟨x, rfl, hd, ht⟩))
theorem ev_end_r {a : Nat} {rt : FieldType} (hd : decode y.2.1 pc = .ok (.areturn, 1)) (ht : y.2.2.2 = some rt) (hn : (∃ n, rt = .object n) ∨ ∃ t, rt = .array t) (hQ : Q (some (.ref a)) μ) : EV w d kc ks y pc L [.ref a] μ Q := by
  intro p l e R s m args below meth c H locs cells slots Qf ls hG hC hL hP h1 h2 h3 h4 k
  exact k (some (.ref a)) μ H locs cells slots pc ls hQ hP (Nat.le_add_right _ _) (Nat.le_add_right _ _) (Or.inr (Or.inr (Or.inl ⟨_, rfl, Or.inr ⟨a, rfl⟩, hd, rt, ht, hn⟩)))
theorem ev_end_n {rt : FieldType} (hd : decode y.2.1 pc = .ok (.areturn, 1)) (ht : y.2.2.2 = some rt) (hn : (∃ n, rt = .object n) ∨ ∃ t, rt = .array t) (hQ : Q (some .null) μ) : EV w d kc ks y pc L [.null] μ Q := by
  intro p l e R s m args below meth c H locs cells slots Qf ls hG hC hL hP h1 h2 h3 h4 k
  exact k (some .null) μ H locs cells slots pc ls hQ hP (Nat.le_add_right _ _) (Nat.le_add_right _ _) (Or.inr (Or.inr (Or.inl ⟨_, rfl, Or.inl rfl, hd, rt, ht, hn⟩)))
theorem ev_end_v (hd : decode y.2.1 pc = .ok (.return_, 1)) (ht : y.2.2.2 = none) (hQ : Q none μ) : EV w d kc ks y pc L [] μ Q := by
  intro p l e R s m args below meth c H locs cells slots Qf ls hG hC hL hP h1 h2 h3 h4 k
  exact k none μ H locs cells slots pc ls hQ hP (Nat.le_add_right _ _) (Nat.le_add_right _ _) (Or.inr (Or.inr (Or.inr ⟨rfl, hd, ht⟩)))
theorem ev_iconst {n : Int} {v : Int32} (hd : decode y.2.1 pc = .ok (.iconst n, 1)) (hv : Int32.ofInt n = v) (k : EV w d kc ks y (pc + 1) L (.int v :: st) μ Q) : EV w d kc ks y pc L (st) μ Q := by
  intro p l e R s m args below meth c H locs cells slots Qf ls hG hC hL hP h1 h2 h3 h4 hQ
  exact lv_iconst hC.1 hC.2.1 hd hv (k p l e R s m args below meth c H locs cells slots Qf ls hG hC hL hP h1 h2 h3 h4 hQ)
theorem ev_bipush {n : Int} {v : Int32} (hd : decode y.2.1 pc = .ok (.bipush n, 2)) (hv : (Int8.ofInt n).toInt32 = v) (k : EV w d kc ks y (pc + 2) L (.int v :: st) μ Q) : EV w d kc ks y pc L (st) μ Q := by
  intro p l e R s m args below meth c H locs cells slots Qf ls hG hC hL hP h1 h2 h3 h4 hQ
  exact lv_bipush hC.1 hC.2.1 hd hv (k p l e R s m args below meth c H locs cells slots Qf ls hG hC hL hP h1 h2 h3 h4 hQ)
theorem ev_sipush {n : Int} {v : Int32} (hd : decode y.2.1 pc = .ok (.sipush n, 3)) (hv : (Int16.ofInt n).toInt32 = v) (k : EV w d kc ks y (pc + 3) L (.int v :: st) μ Q) : EV w d kc ks y pc L (st) μ Q := by
  intro p l e R s m args below meth c H locs cells slots Qf ls hG hC hL hP h1 h2 h3 h4 hQ
  exact lv_sipush hC.1 hC.2.1 hd hv (k p l e R s m args below meth c H locs cells slots Qf ls hG hC hL hP h1 h2 h3 h4 hQ)
theorem ev_lconst {n : Fin 2} {v : Int64} (hd : decode y.2.1 pc = .ok (.lconst n, 1)) (hv : Int64.ofNat (n : Nat) = v) (k : EV w d kc ks y (pc + 1) L (.long v :: st) μ Q) : EV w d kc ks y pc L (st) μ Q := by
  intro p l e R s m args below meth c H locs cells slots Qf ls hG hC hL hP h1 h2 h3 h4 hQ
  exact lv_lconst hC.1 hC.2.1 hd hv (k p l e R s m args below meth c H locs cells slots Qf ls hG hC hL hP h1 h2 h3 h4 hQ)
theorem ev_null  (hd : decode y.2.1 pc = .ok (.aconst_null, 1))  (k : EV w d kc ks y (pc + 1) L (.null :: st) μ Q) : EV w d kc ks y pc L (st) μ Q := by
  intro p l e R s m args below meth c H locs cells slots Qf ls hG hC hL hP h1 h2 h3 h4 hQ
  exact lv_null hC.1 hC.2.1 hd (k p l e R s m args below meth c H locs cells slots Qf ls hG hC hL hP h1 h2 h3 h4 hQ)
theorem ev_iload_n {i : Fin 4} {j : Nat} {x : Int32} (hd : decode y.2.1 pc = .ok (.iload_n i, 1)) (hi : (i : Nat) = j) (hl : L[j]? = some (some (.int x))) (k : EV w d kc ks y (pc + 1) L (.int x :: st) μ Q) : EV w d kc ks y pc L (st) μ Q := by
  intro p l e R s m args below meth c H locs cells slots Qf ls hG hC hL hP h1 h2 h3 h4 hQ
  exact lv_iload_n hC.1 hC.2.1 hd hi (zL_get hL hl) (k p l e R s m args below meth c H locs cells slots Qf ls hG hC hL hP h1 h2 h3 h4 hQ)
theorem ev_iload {j : Nat} {x : Int32} (hd : decode y.2.1 pc = .ok (.iload j, 2)) (hl : L[j]? = some (some (.int x))) (k : EV w d kc ks y (pc + 2) L (.int x :: st) μ Q) : EV w d kc ks y pc L (st) μ Q := by
  intro p l e R s m args below meth c H locs cells slots Qf ls hG hC hL hP h1 h2 h3 h4 hQ
  exact lv_iload hC.1 hC.2.1 hd (zL_get hL hl) (k p l e R s m args below meth c H locs cells slots Qf ls hG hC hL hP h1 h2 h3 h4 hQ)
theorem ev_lload_n {i : Fin 4} {j : Nat} {x : Int64} (hd : decode y.2.1 pc = .ok (.lload_n i, 1)) (hi : (i : Nat) = j) (hl : L[j]? = some (some (.long x))) (k : EV w d kc ks y (pc + 1) L (.long x :: st) μ Q) : EV w d kc ks y pc L (st) μ Q := by
  intro p l e R s m args below meth c H locs cells slots Qf ls hG hC hL hP h1 h2 h3 h4 hQ
  exact lv_lload_n hC.1 hC.2.1 hd hi (zL_get hL hl) (k p l e R s m args below meth c H locs cells slots Qf ls hG hC hL hP h1 h2 h3 h4 hQ)
theorem ev_lload {j : Nat} {x : Int64} (hd : decode y.2.1 pc = .ok (.lload j, 2)) (hl : L[j]? = some (some (.long x))) (k : EV w d kc ks y (pc + 2) L (.long x :: st) μ Q) : EV w d kc ks y pc L (st) μ Q := by
  intro p l e R s m args below meth c H locs cells slots Qf ls hG hC hL hP h1 h2 h3 h4 hQ
  exact lv_lload hC.1 hC.2.1 hd (zL_get hL hl) (k p l e R s m args below meth c H locs cells slots Qf ls hG hC hL hP h1 h2 h3 h4 hQ)
theorem ev_aload_n {i : Fin 4} {j : Nat} {x : Nat} (hd : decode y.2.1 pc = .ok (.aload_n i, 1)) (hi : (i : Nat) = j) (hl : L[j]? = some (some (.ref x))) (k : EV w d kc ks y (pc + 1) L (.ref x :: st) μ Q) : EV w d kc ks y pc L (st) μ Q := by
  intro p l e R s m args below meth c H locs cells slots Qf ls hG hC hL hP h1 h2 h3 h4 hQ
  exact lv_aload_n hC.1 hC.2.1 hd hi (zL_get hL hl) (k p l e R s m args below meth c H locs cells slots Qf ls hG hC hL hP h1 h2 h3 h4 hQ)
theorem ev_aload {j : Nat} {x : Nat} (hd : decode y.2.1 pc = .ok (.aload j, 2)) (hl : L[j]? = some (some (.ref x))) (k : EV w d kc ks y (pc + 2) L (.ref x :: st) μ Q) : EV w d kc ks y pc L (st) μ Q := by
  intro p l e R s m args below meth c H locs cells slots Qf ls hG hC hL hP h1 h2 h3 h4 hQ
  exact lv_aload hC.1 hC.2.1 hd (zL_get hL hl) (k p l e R s m args below meth c H locs cells slots Qf ls hG hC hL hP h1 h2 h3 h4 hQ)
theorem ev_aload_nN {i : Fin 4} {j : Nat} (hd : decode y.2.1 pc = .ok (.aload_n i, 1)) (hi : (i : Nat) = j) (hl : L[j]? = some (some .null)) (k : EV w d kc ks y (pc + 1) L (.null :: st) μ Q) : EV w d kc ks y pc L (st) μ Q := by
  intro p l e R s m args below meth c H locs cells slots Qf ls hG hC hL hP h1 h2 h3 h4 hQ
  exact lv_aload_nN hC.1 hC.2.1 hd hi (zL_get hL hl) (k p l e R s m args below meth c H locs cells slots Qf ls hG hC hL hP h1 h2 h3 h4 hQ)
theorem ev_aloadN {j : Nat} (hd : decode y.2.1 pc = .ok (.aload j, 2)) (hl : L[j]? = some (some .null)) (k : EV w d kc ks y (pc + 2) L (.null :: st) μ Q) : EV w d kc ks y pc L (st) μ Q := by
  intro p l e R s m args below meth c H locs cells slots Qf ls hG hC hL hP h1 h2 h3 h4 hQ
  exact lv_aloadN hC.1 hC.2.1 hd (zL_get hL hl) (k p l e R s m args below meth c H locs cells slots Qf ls hG hC hL hP h1 h2 h3 h4 hQ)
theorem ev_istore_n {i : Fin 4} {j : Nat} {x : Int32} (hd : decode y.2.1 pc = .ok (.istore_n i, 1)) (hi : (i : Nat) = j) (hn : j < y.2.2.1) (hno : zno2 L j = true) (k : EV w d kc ks y (pc + 1) (L.set j (some (.int x))) st μ Q) : EV w d kc ks y pc L (.int x :: st) μ Q := by
  intro p l e R s m args below meth c H locs cells slots Qf ls hG hC hL hP h1 h2 h3 h4 hQ
  exact lv_istore_n hC.1 hC.2.1 hd hi hL hn rfl (fun ls' hl => k p l e R s m args below meth c H locs cells slots Qf ls' hG hC (zL_st1 hno hl) hP h1 h2 h3 h4 hQ)
theorem ev_istore {j : Nat} {x : Int32} (hd : decode y.2.1 pc = .ok (.istore j, 2))  (hn : j < y.2.2.1) (hno : zno2 L j = true) (k : EV w d kc ks y (pc + 2) (L.set j (some (.int x))) st μ Q) : EV w d kc ks y pc L (.int x :: st) μ Q := by
  intro p l e R s m args below meth c H locs cells slots Qf ls hG hC hL hP h1 h2 h3 h4 hQ
  exact lv_istore hC.1 hC.2.1 hd hL hn rfl (fun ls' hl => k p l e R s m args below meth c H locs cells slots Qf ls' hG hC (zL_st1 hno hl) hP h1 h2 h3 h4 hQ)
theorem ev_astore_n {i : Fin 4} {j : Nat} {x : Nat} (hd : decode y.2.1 pc = .ok (.astore_n i, 1)) (hi : (i : Nat) = j) (hn : j < y.2.2.1) (hno : zno2 L j = true) (k : EV w d kc ks y (pc + 1) (L.set j (some (.ref x))) st μ Q) : EV w d kc ks y pc L (.ref x :: st) μ Q := by
  intro p l e R s m args below meth c H locs cells slots Qf ls hG hC hL hP h1 h2 h3 h4 hQ
  exact lv_astore_n hC.1 hC.2.1 hd hi hL hn rfl (fun ls' hl => k p l e R s m args below meth c H locs cells slots Qf ls' hG hC (zL_st1 hno hl) hP h1 h2 h3 h4 hQ)
theorem ev_astore {j : Nat} {x : Nat} (hd : decode y.2.1 pc = .ok (.astore j, 2))  (hn : j < y.2.2.1) (hno : zno2 L j = true) (k : EV w d kc ks y (pc + 2) (L.set j (some (.ref x))) st μ Q) : EV w d kc ks y pc L (.ref x :: st) μ Q := by
  intro p l e R s m args below meth c H locs cells slots Qf ls hG hC hL hP h1 h2 h3 h4 hQ
  exact lv_astore hC.1 hC.2.1 hd hL hn rfl (fun ls' hl => k p l e R s m args below meth c H locs cells slots Qf ls' hG hC (zL_st1 hno hl) hP h1 h2 h3 h4 hQ)
theorem ev_astore_nN {i : Fin 4} {j : Nat} (hd : decode y.2.1 pc = .ok (.astore_n i, 1)) (hi : (i : Nat) = j) (hn : j < y.2.2.1) (hno : zno2 L j = true) (k : EV w d kc ks y (pc + 1) (L.set j (some .null)) st μ Q) : EV w d kc ks y pc L (.null :: st) μ Q := by
  intro p l e R s m args below meth c H locs cells slots Qf ls hG hC hL hP h1 h2 h3 h4 hQ
  exact lv_astore_nN hC.1 hC.2.1 hd hi hL hn rfl (fun ls' hl => k p l e R s m args below meth c H locs cells slots Qf ls' hG hC (zL_st1 hno hl) hP h1 h2 h3 h4 hQ)
theorem ev_astoreN {j : Nat} (hd : decode y.2.1 pc = .ok (.astore j, 2))  (hn : j < y.2.2.1) (hno : zno2 L j = true) (k : EV w d kc ks y (pc + 2) (L.set j (some .null)) st μ Q) : EV w d kc ks y pc L (.null :: st) μ Q := by
  intro p l e R s m args below meth c H locs cells slots Qf ls hG hC hL hP h1 h2 h3 h4 hQ
  exact lv_astoreN hC.1 hC.2.1 hd hL hn rfl (fun ls' hl => k p l e R s m args below meth c H locs cells slots Qf ls' hG hC (zL_st1 hno hl) hP h1 h2 h3 h4 hQ)
theorem ev_lstore_n {i : Fin 4} {j : Nat} {x : Int64} (hd : decode y.2.1 pc = .ok (.lstore_n i, 1)) (hi : (i : Nat) = j) (hn : j + 1 < y.2.2.1) (hno : zno2 L j = true) (k : EV w d kc ks y (pc + 1) ((L.set j (some (.long x))).set (j + 1) none) st μ Q) : EV w d kc ks y pc L (.long x :: st) μ Q := by
  intro p l e R s m args below meth c H locs cells slots Qf ls hG hC hL hP h1 h2 h3 h4 hQ
  exact lv_lstore_n hC.1 hC.2.1 hd hi hL hn rfl (fun ls' hl => k p l e R s m args below meth c H locs cells slots Qf ls' hG hC (zL_st2 hno hl) hP h1 h2 h3 h4 hQ)
theorem ev_lstore {j : Nat} {x : Int64} (hd : decode y.2.1 pc = .ok (.lstore j, 2))  (hn : j + 1 < y.2.2.1) (hno : zno2 L j = true) (k : EV w d kc ks y (pc + 2) ((L.set j (some (.long x))).set (j + 1) none) st μ Q) : EV w d kc ks y pc L (.long x :: st) μ Q := by
  intro p l e R s m args below meth c H locs cells slots Qf ls hG hC hL hP h1 h2 h3 h4 hQ
  exact lv_lstore hC.1 hC.2.1 hd hL hn rfl (fun ls' hl => k p l e R s m args below meth c H locs cells slots Qf ls' hG hC (zL_st2 hno hl) hP h1 h2 h3 h4 hQ)
theorem ev_iinc {j : Nat} {n : Int} {x v : Int32} (hd : decode y.2.1 pc = .ok (.iinc j n, 3)) (hx : L[j]? = some (some (.int x))) (hv : x + Int32.ofInt n = v) (hn : j < y.2.2.1) (hno : zno2 L j = true) (k : EV w d kc ks y (pc + 3) (L.set j (some (.int v))) st μ Q) : EV w d kc ks y pc L st μ Q := by
  intro p l e R s m args below meth c H locs cells slots Qf ls hG hC hL hP h1 h2 h3 h4 hQ
  obtain ⟨q, hq⟩ := List.getElem?_of_mem ((zLv_mem w L 0 (j, .int x)).mpr ⟨j, .int x, hx, by simp [zva]⟩)
  exact lv_iinc hC.1 hC.2.1 hd hL hq hv hn rfl (fun ls' hl => k p l e R s m args below meth c H locs cells slots Qf ls' hG hC (zL_st1 hno hl) hP h1 h2 h3 h4 hQ)
theorem ev_iadd {a b v : Int32} (hd : decode y.2.1 pc = .ok (.iadd, 1)) (hv : a + b = v) (k : EV w d kc ks y (pc + 1) L (.int v :: st) μ Q) : EV w d kc ks y pc L (.int b :: .int a :: st) μ Q := by
  intro p l e R s m args below meth c H locs cells slots Qf ls hG hC hL hP h1 h2 h3 h4 hQ
  exact lv_iadd hC.1 hC.2.1 hd (by rw [hv]; exact (k p l e R s m args below meth c H locs cells slots Qf ls hG hC hL hP h1 h2 h3 h4 hQ))
theorem ev_isub {a b v : Int32} (hd : decode y.2.1 pc = .ok (.isub, 1)) (hv : a - b = v) (k : EV w d kc ks y (pc + 1) L (.int v :: st) μ Q) : EV w d kc ks y pc L (.int b :: .int a :: st) μ Q := by
  intro p l e R s m args below meth c H locs cells slots Qf ls hG hC hL hP h1 h2 h3 h4 hQ
  exact lv_isub hC.1 hC.2.1 hd (by rw [hv]; exact (k p l e R s m args below meth c H locs cells slots Qf ls hG hC hL hP h1 h2 h3 h4 hQ))
theorem ev_imul {a b v : Int32} (hd : decode y.2.1 pc = .ok (.imul, 1)) (hv : a * b = v) (k : EV w d kc ks y (pc + 1) L (.int v :: st) μ Q) : EV w d kc ks y pc L (.int b :: .int a :: st) μ Q := by
  intro p l e R s m args below meth c H locs cells slots Qf ls hG hC hL hP h1 h2 h3 h4 hQ
  exact lv_imul hC.1 hC.2.1 hd (by rw [hv]; exact (k p l e R s m args below meth c H locs cells slots Qf ls hG hC hL hP h1 h2 h3 h4 hQ))
theorem ev_iand {a b v : Int32} (hd : decode y.2.1 pc = .ok (.iand, 1)) (hv : a &&& b = v) (k : EV w d kc ks y (pc + 1) L (.int v :: st) μ Q) : EV w d kc ks y pc L (.int b :: .int a :: st) μ Q := by
  intro p l e R s m args below meth c H locs cells slots Qf ls hG hC hL hP h1 h2 h3 h4 hQ
  exact lv_iand hC.1 hC.2.1 hd (by rw [hv]; exact (k p l e R s m args below meth c H locs cells slots Qf ls hG hC hL hP h1 h2 h3 h4 hQ))
theorem ev_ior {a b v : Int32} (hd : decode y.2.1 pc = .ok (.ior, 1)) (hv : a ||| b = v) (k : EV w d kc ks y (pc + 1) L (.int v :: st) μ Q) : EV w d kc ks y pc L (.int b :: .int a :: st) μ Q := by
  intro p l e R s m args below meth c H locs cells slots Qf ls hG hC hL hP h1 h2 h3 h4 hQ
  exact lv_ior hC.1 hC.2.1 hd (by rw [hv]; exact (k p l e R s m args below meth c H locs cells slots Qf ls hG hC hL hP h1 h2 h3 h4 hQ))
theorem ev_ixor {a b v : Int32} (hd : decode y.2.1 pc = .ok (.ixor, 1)) (hv : a ^^^ b = v) (k : EV w d kc ks y (pc + 1) L (.int v :: st) μ Q) : EV w d kc ks y pc L (.int b :: .int a :: st) μ Q := by
  intro p l e R s m args below meth c H locs cells slots Qf ls hG hC hL hP h1 h2 h3 h4 hQ
  exact lv_ixor hC.1 hC.2.1 hd (by rw [hv]; exact (k p l e R s m args below meth c H locs cells slots Qf ls hG hC hL hP h1 h2 h3 h4 hQ))
theorem ev_ishl {a b v : Int32} (hd : decode y.2.1 pc = .ok (.ishl, 1)) (hv : a <<< (b &&& 31) = v) (k : EV w d kc ks y (pc + 1) L (.int v :: st) μ Q) : EV w d kc ks y pc L (.int b :: .int a :: st) μ Q := by
  intro p l e R s m args below meth c H locs cells slots Qf ls hG hC hL hP h1 h2 h3 h4 hQ
  exact lv_ishl hC.1 hC.2.1 hd (by rw [hv]; exact (k p l e R s m args below meth c H locs cells slots Qf ls hG hC hL hP h1 h2 h3 h4 hQ))
theorem ev_ishr {a b v : Int32} (hd : decode y.2.1 pc = .ok (.ishr, 1)) (hv : a >>> (b &&& 31) = v) (k : EV w d kc ks y (pc + 1) L (.int v :: st) μ Q) : EV w d kc ks y pc L (.int b :: .int a :: st) μ Q := by
  intro p l e R s m args below meth c H locs cells slots Qf ls hG hC hL hP h1 h2 h3 h4 hQ
  exact lv_ishr hC.1 hC.2.1 hd (by rw [hv]; exact (k p l e R s m args below meth c H locs cells slots Qf ls hG hC hL hP h1 h2 h3 h4 hQ))
theorem ev_idiv {a b v : Int32} (hd : decode y.2.1 pc = .ok (.idiv, 1)) (hne : ¬ b = 0) (hv : a / b = v) (k : EV w d kc ks y (pc + 1) L (.int v :: st) μ Q) : EV w d kc ks y pc L (.int b :: .int a :: st) μ Q := by
  intro p l e R s m args below meth c H locs cells slots Qf ls hG hC hL hP h1 h2 h3 h4 hQ
  exact lv_idiv hC.1 hC.2.1 hd hne (by rw [hv]; exact (k p l e R s m args below meth c H locs cells slots Qf ls hG hC hL hP h1 h2 h3 h4 hQ))
theorem ev_irem {a b v : Int32} (hd : decode y.2.1 pc = .ok (.irem, 1)) (hne : ¬ b = 0) (hv : a - a / b * b = v) (k : EV w d kc ks y (pc + 1) L (.int v :: st) μ Q) : EV w d kc ks y pc L (.int b :: .int a :: st) μ Q := by
  intro p l e R s m args below meth c H locs cells slots Qf ls hG hC hL hP h1 h2 h3 h4 hQ
  exact lv_irem hC.1 hC.2.1 hd hne (by rw [hv]; exact (k p l e R s m args below meth c H locs cells slots Qf ls hG hC hL hP h1 h2 h3 h4 hQ))
theorem ev_ineg {a v : Int32} (hd : decode y.2.1 pc = .ok (.ineg, 1)) (hv : -a = v) (k : EV w d kc ks y (pc + 1) L (.int v :: st) μ Q) : EV w d kc ks y pc L (.int a :: st) μ Q := by
  intro p l e R s m args below meth c H locs cells slots Qf ls hG hC hL hP h1 h2 h3 h4 hQ
  exact lv_ineg hC.1 hC.2.1 hd (by rw [hv]; exact (k p l e R s m args below meth c H locs cells slots Qf ls hG hC hL hP h1 h2 h3 h4 hQ))
theorem ev_ladd {a b v : Int64} (hd : decode y.2.1 pc = .ok (.ladd, 1)) (hv : a + b = v) (k : EV w d kc ks y (pc + 1) L (.long v :: st) μ Q) : EV w d kc ks y pc L (.long b :: .long a :: st) μ Q := by
  intro p l e R s m args below meth c H locs cells slots Qf ls hG hC hL hP h1 h2 h3 h4 hQ
  exact lv_ladd hC.1 hC.2.1 hd (by rw [hv]; exact (k p l e R s m args below meth c H locs cells slots Qf ls hG hC hL hP h1 h2 h3 h4 hQ))
theorem ev_lsub {a b v : Int64} (hd : decode y.2.1 pc = .ok (.lsub, 1)) (hv : a - b = v) (k : EV w d kc ks y (pc + 1) L (.long v :: st) μ Q) : EV w d kc ks y pc L (.long b :: .long a :: st) μ Q := by
  intro p l e R s m args below meth c H locs cells slots Qf ls hG hC hL hP h1 h2 h3 h4 hQ
  exact lv_lsub hC.1 hC.2.1 hd (by rw [hv]; exact (k p l e R s m args below meth c H locs cells slots Qf ls hG hC hL hP h1 h2 h3 h4 hQ))
theorem ev_lor {a b v : Int64} (hd : decode y.2.1 pc = .ok (.lor, 1)) (hv : a ||| b = v) (k : EV w d kc ks y (pc + 1) L (.long v :: st) μ Q) : EV w d kc ks y pc L (.long b :: .long a :: st) μ Q := by
  intro p l e R s m args below meth c H locs cells slots Qf ls hG hC hL hP h1 h2 h3 h4 hQ
  exact lv_lor hC.1 hC.2.1 hd (by rw [hv]; exact (k p l e R s m args below meth c H locs cells slots Qf ls hG hC hL hP h1 h2 h3 h4 hQ))
theorem ev_lshl {a v : Int64} {b : Int32} (hd : decode y.2.1 pc = .ok (.lshl, 1)) (hv : a <<< (b.toInt64 &&& 63) = v) (k : EV w d kc ks y (pc + 1) L (.long v :: st) μ Q) : EV w d kc ks y pc L (.int b :: .long a :: st) μ Q := by
  intro p l e R s m args below meth c H locs cells slots Qf ls hG hC hL hP h1 h2 h3 h4 hQ
  exact lv_lshl hC.1 hC.2.1 hd hv (k p l e R s m args below meth c H locs cells slots Qf ls hG hC hL hP h1 h2 h3 h4 hQ)
theorem ev_lmul {a b v : Int64} (hd : decode y.2.1 pc = .ok (.lmul, 1)) (hv : a * b = v) (k : EV w d kc ks y (pc + 1) L (.long v :: st) μ Q) : EV w d kc ks y pc L (.long b :: .long a :: st) μ Q := by
  intro p l e R s m args below meth c H locs cells slots Qf ls hG hC hL hP h1 h2 h3 h4 hQ
  exact lv_lmul hC.1 hC.2.1 hd (by rw [hv]; exact (k p l e R s m args below meth c H locs cells slots Qf ls hG hC hL hP h1 h2 h3 h4 hQ))
theorem ev_ldiv {a b v : Int64} (hd : decode y.2.1 pc = .ok (.ldiv, 1)) (hne : ¬ b = 0) (hv : a / b = v) (k : EV w d kc ks y (pc + 1) L (.long v :: st) μ Q) : EV w d kc ks y pc L (.long b :: .long a :: st) μ Q := by
  intro p l e R s m args below meth c H locs cells slots Qf ls hG hC hL hP h1 h2 h3 h4 hQ
  exact lv_ldiv hC.1 hC.2.1 hd hne (by rw [hv]; exact (k p l e R s m args below meth c H locs cells slots Qf ls hG hC hL hP h1 h2 h3 h4 hQ))
theorem ev_lrem {a b v : Int64} (hd : decode y.2.1 pc = .ok (.lrem, 1)) (hne : ¬ b = 0) (hv : a - a / b * b = v) (k : EV w d kc ks y (pc + 1) L (.long v :: st) μ Q) : EV w d kc ks y pc L (.long b :: .long a :: st) μ Q := by
  intro p l e R s m args below meth c H locs cells slots Qf ls hG hC hL hP h1 h2 h3 h4 hQ
  exact lv_lrem hC.1 hC.2.1 hd hne (by rw [hv]; exact (k p l e R s m args below meth c H locs cells slots Qf ls hG hC hL hP h1 h2 h3 h4 hQ))
theorem ev_lcmp {a b : Int64} {v : Int32} (hd : decode y.2.1 pc = .ok (.lcmp, 1)) (hv : lg_cmp a b = v) (k : EV w d kc ks y (pc + 1) L (.int v :: st) μ Q) : EV w d kc ks y pc L (.long b :: .long a :: st) μ Q := by
  intro p l e R s m args below meth c H locs cells slots Qf ls hG hC hL hP h1 h2 h3 h4 hQ
  exact W.lcmp hC.1 hC.2.1 hd (by rw [hv]; exact (k p l e R s m args below meth c H locs cells slots Qf ls hG hC hL hP h1 h2 h3 h4 hQ))
theorem ev_i2l {a : Int32} {v : Int64} (hd : decode y.2.1 pc = .ok (.i2l, 1)) (hv : a.toInt64 = v) (k : EV w d kc ks y (pc + 1) L (.long v :: st) μ Q) : EV w d kc ks y pc L (.int a :: st) μ Q := by
  intro p l e R s m args below meth c H locs cells slots Qf ls hG hC hL hP h1 h2 h3 h4 hQ
  exact lv_i2l hC.1 hC.2.1 hd hv (k p l e R s m args below meth c H locs cells slots Qf ls hG hC hL hP h1 h2 h3 h4 hQ)
theorem ev_l2i {a : Int64} {v : Int32} (hd : decode y.2.1 pc = .ok (.l2i, 1)) (hv : a.toInt32 = v) (k : EV w d kc ks y (pc + 1) L (.int v :: st) μ Q) : EV w d kc ks y pc L (.long a :: st) μ Q := by
  intro p l e R s m args below meth c H locs cells slots Qf ls hG hC hL hP h1 h2 h3 h4 hQ
  exact lv_l2i hC.1 hC.2.1 hd hv (k p l e R s m args below meth c H locs cells slots Qf ls hG hC hL hP h1 h2 h3 h4 hQ)
theorem ev_i2b {a : Int32} {v : Int32} (hd : decode y.2.1 pc = .ok (.i2b, 1)) (hv : a.toInt8.toInt32 = v) (k : EV w d kc ks y (pc + 1) L (.int v :: st) μ Q) : EV w d kc ks y pc L (.int a :: st) μ Q := by
  intro p l e R s m args below meth c H locs cells slots Qf ls hG hC hL hP h1 h2 h3 h4 hQ
  exact lv_i2b hC.1 hC.2.1 hd hv (k p l e R s m args below meth c H locs cells slots Qf ls hG hC hL hP h1 h2 h3 h4 hQ)
theorem ev_i2s {a : Int32} {v : Int32} (hd : decode y.2.1 pc = .ok (.i2s, 1)) (hv : a.toInt16.toInt32 = v) (k : EV w d kc ks y (pc + 1) L (.int v :: st) μ Q) : EV w d kc ks y pc L (.int a :: st) μ Q := by
  intro p l e R s m args below meth c H locs cells slots Qf ls hG hC hL hP h1 h2 h3 h4 hQ
  exact lv_i2s hC.1 hC.2.1 hd hv (k p l e R s m args below meth c H locs cells slots Qf ls hG hC hL hP h1 h2 h3 h4 hQ)
theorem ev_dup {v : Value} (hd : decode y.2.1 pc = .ok (.dup, 1)) (hc : v.category = 1) (k : EV w d kc ks y (pc + 1) L (v :: v :: st) μ Q) : EV w d kc ks y pc L (v :: st) μ Q := by
  intro p l e R s m args below meth c H locs cells slots Qf ls hG hC hL hP h1 h2 h3 h4 hQ
  exact lv_dup hC.1 hC.2.1 hd (by rw [zva_cat]; exact hc) (k p l e R s m args below meth c H locs cells slots Qf ls hG hC hL hP h1 h2 h3 h4 hQ)
theorem ev_pop {v : Value} (hd : decode y.2.1 pc = .ok (.pop, 1)) (hc : v.category = 1) (k : EV w d kc ks y (pc + 1) L (st) μ Q) : EV w d kc ks y pc L (v :: st) μ Q := by
  intro p l e R s m args below meth c H locs cells slots Qf ls hG hC hL hP h1 h2 h3 h4 hQ
  exact lv_pop hC.1 hC.2.1 hd (by rw [zva_cat]; exact hc) (k p l e R s m args below meth c H locs cells slots Qf ls hG hC hL hP h1 h2 h3 h4 hQ)
theorem ev_dup2 {u v : Value} (hd : decode y.2.1 pc = .ok (.dup2, 1)) (hu : u.category = 1) (hc : v.category = 1) (k : EV w d kc ks y (pc + 1) L (u :: v :: u :: v :: st) μ Q) : EV w d kc ks y pc L (u :: v :: st) μ Q := by
  intro p l e R s m args below meth c H locs cells slots Qf ls hG hC hL hP h1 h2 h3 h4 hQ
  exact lv_dup2_11 hC.1 hC.2.1 hd (by rw [zva_cat]; exact hu) (by rw [zva_cat]; exact hc) (k p l e R s m args below meth c H locs cells slots Qf ls hG hC hL hP h1 h2 h3 h4 hQ)
theorem ev_icmp_eq {a b : Int32} {off : Int} {tgt : Nat} (hd : decode y.2.1 pc = .ok (.if_icmp .eq off, 3)) (ht : (pc : Int) + off = (tgt : Int)) (kt : (a = b) → EV w d kc ks y tgt L st μ Q) (kf : ¬ (a = b) → EV w d kc ks y (pc + 3) L st μ Q) : EV w d kc ks y pc L (.int b :: .int a :: st) μ Q := by
  intro p l e R s m args below meth c H locs cells slots Qf ls hG hC hL hP h1 h2 h3 h4 hQ
  exact lv_icmp_eq hC.1 hC.2.1 hd ht (fun z => (kt z p l e R s m args below meth c H locs cells slots Qf ls hG hC hL hP h1 h2 h3 h4 hQ)) (fun z => (kf z p l e R s m args below meth c H locs cells slots Qf ls hG hC hL hP h1 h2 h3 h4 hQ))
theorem ev_icmp_eq_t {a b : Int32} {off : Int} {tgt : Nat} (hd : decode y.2.1 pc = .ok (.if_icmp .eq off, 3)) (ht : (pc : Int) + off = (tgt : Int)) (h : (a = b)) (kt : EV w d kc ks y tgt L st μ Q) : EV w d kc ks y pc L (.int b :: .int a :: st) μ Q := ev_icmp_eq hd ht (fun _ => kt) (fun z => absurd h z)
theorem ev_icmp_eq_f {a b : Int32} {off : Int} {tgt : Nat} (hd : decode y.2.1 pc = .ok (.if_icmp .eq off, 3)) (ht : (pc : Int) + off = (tgt : Int)) (h : ¬ (a = b)) (kf : EV w d kc ks y (pc + 3) L st μ Q) : EV w d kc ks y pc L (.int b :: .int a :: st) μ Q := ev_icmp_eq hd ht (fun z => absurd z h) (fun _ => kf)
theorem ev_if_eq {a : Int32} {off : Int} {tgt : Nat} (hd : decode y.2.1 pc = .ok (.ifCond .eq off, 3)) (ht : (pc : Int) + off = (tgt : Int)) (kt : (a = 0) → EV w d kc ks y tgt L st μ Q) (kf : ¬ (a = 0) → EV w d kc ks y (pc + 3) L st μ Q) : EV w d kc ks y pc L (.int a :: st) μ Q := by
  intro p l e R s m args below meth c H locs cells slots Qf ls hG hC hL hP h1 h2 h3 h4 hQ
  exact lv_if_eq hC.1 hC.2.1 hd ht (fun z => (kt z p l e R s m args below meth c H locs cells slots Qf ls hG hC hL hP h1 h2 h3 h4 hQ)) (fun z => (kf z p l e R s m args below meth c H locs cells slots Qf ls hG hC hL hP h1 h2 h3 h4 hQ))
theorem ev_if_eq_t {a : Int32} {off : Int} {tgt : Nat} (hd : decode y.2.1 pc = .ok (.ifCond .eq off, 3)) (ht : (pc : Int) + off = (tgt : Int)) (h : (a = 0)) (kt : EV w d kc ks y tgt L st μ Q) : EV w d kc ks y pc L (.int a :: st) μ Q := ev_if_eq hd ht (fun _ => kt) (fun z => absurd h z)
theorem ev_if_eq_f {a : Int32} {off : Int} {tgt : Nat} (hd : decode y.2.1 pc = .ok (.ifCond .eq off, 3)) (ht : (pc : Int) + off = (tgt : Int)) (h : ¬ (a = 0)) (kf : EV w d kc ks y (pc + 3) L st μ Q) : EV w d kc ks y pc L (.int a :: st) μ Q := ev_if_eq hd ht (fun z => absurd z h) (fun _ => kf)
theorem ev_icmp_ne {a b : Int32} {off : Int} {tgt : Nat} (hd : decode y.2.1 pc = .ok (.if_icmp .ne off, 3)) (ht : (pc : Int) + off = (tgt : Int)) (kt : (¬ a = b) → EV w d kc ks y tgt L st μ Q) (kf : a = b → EV w d kc ks y (pc + 3) L st μ Q) : EV w d kc ks y pc L (.int b :: .int a :: st) μ Q := by
  intro p l e R s m args below meth c H locs cells slots Qf ls hG hC hL hP h1 h2 h3 h4 hQ
  exact lv_icmp_ne hC.1 hC.2.1 hd ht (fun z => (kt z p l e R s m args below meth c H locs cells slots Qf ls hG hC hL hP h1 h2 h3 h4 hQ)) (fun z => (kf z p l e R s m args below meth c H locs cells slots Qf ls hG hC hL hP h1 h2 h3 h4 hQ))
theorem ev_icmp_ne_t {a b : Int32} {off : Int} {tgt : Nat} (hd : decode y.2.1 pc = .ok (.if_icmp .ne off, 3)) (ht : (pc : Int) + off = (tgt : Int)) (h : (¬ a = b)) (kt : EV w d kc ks y tgt L st μ Q) : EV w d kc ks y pc L (.int b :: .int a :: st) μ Q := ev_icmp_ne hd ht (fun _ => kt) (fun z => absurd z h)
theorem ev_icmp_ne_f {a b : Int32} {off : Int} {tgt : Nat} (hd : decode y.2.1 pc = .ok (.if_icmp .ne off, 3)) (ht : (pc : Int) + off = (tgt : Int)) (h : a = b) (kf : EV w d kc ks y (pc + 3) L st μ Q) : EV w d kc ks y pc L (.int b :: .int a :: st) μ Q := ev_icmp_ne hd ht (fun z => absurd h z) (fun _ => kf)
theorem ev_if_ne {a : Int32} {off : Int} {tgt : Nat} (hd : decode y.2.1 pc = .ok (.ifCond .ne off, 3)) (ht : (pc : Int) + off = (tgt : Int)) (kt : (¬ a = 0) → EV w d kc ks y tgt L st μ Q) (kf : a = 0 → EV w d kc ks y (pc + 3) L st μ Q) : EV w d kc ks y pc L (.int a :: st) μ Q := by
  intro p l e R s m args below meth c H locs cells slots Qf ls hG hC hL hP h1 h2 h3 h4 hQ
  exact lv_if_ne hC.1 hC.2.1 hd ht (fun z => (kt z p l e R s m args below meth c H locs cells slots Qf ls hG hC hL hP h1 h2 h3 h4 hQ)) (fun z => (kf z p l e R s m args below meth c H locs cells slots Qf ls hG hC hL hP h1 h2 h3 h4 hQ))
theorem ev_if_ne_t {a : Int32} {off : Int} {tgt : Nat} (hd : decode y.2.1 pc = .ok (.ifCond .ne off, 3)) (ht : (pc : Int) + off = (tgt : Int)) (h : (¬ a = 0)) (kt : EV w d kc ks y tgt L st μ Q) : EV w d kc ks y pc L (.int a :: st) μ Q := ev_if_ne hd ht (fun _ => kt) (fun z => absurd z h)
theorem ev_if_ne_f {a : Int32} {off : Int} {tgt : Nat} (hd : decode y.2.1 pc = .ok (.ifCond .ne off, 3)) (ht : (pc : Int) + off = (tgt : Int)) (h : a = 0) (kf : EV w d kc ks y (pc + 3) L st μ Q) : EV w d kc ks y pc L (.int a :: st) μ Q := ev_if_ne hd ht (fun z => absurd h z) (fun _ => kf)
theorem ev_icmp_lt {a b : Int32} {off : Int} {tgt : Nat} (hd : decode y.2.1 pc = .ok (.if_icmp .lt off, 3)) (ht : (pc : Int) + off = (tgt : Int)) (kt : (a < b) → EV w d kc ks y tgt L st μ Q) (kf : ¬ (a < b) → EV w d kc ks y (pc + 3) L st μ Q) : EV w d kc ks y pc L (.int b :: .int a :: st) μ Q := by
  intro p l e R s m args below meth c H locs cells slots Qf ls hG hC hL hP h1 h2 h3 h4 hQ
  exact lv_icmp_lt hC.1 hC.2.1 hd ht (fun z => (kt z p l e R s m args below meth c H locs cells slots Qf ls hG hC hL hP h1 h2 h3 h4 hQ)) (fun z => (kf z p l e R s m args below meth c H locs cells slots Qf ls hG hC hL hP h1 h2 h3 h4 hQ))
theorem ev_icmp_lt_t {a b : Int32} {off : Int} {tgt : Nat} (hd : decode y.2.1 pc = .ok (.if_icmp .lt off, 3)) (ht : (pc : Int) + off = (tgt : Int)) (h : (a < b)) (kt : EV w d kc ks y tgt L st μ Q) : EV w d kc ks y pc L (.int b :: .int a :: st) μ Q := ev_icmp_lt hd ht (fun _ => kt) (fun z => absurd h z)
theorem ev_icmp_lt_f {a b : Int32} {off : Int} {tgt : Nat} (hd : decode y.2.1 pc = .ok (.if_icmp .lt off, 3)) (ht : (pc : Int) + off = (tgt : Int)) (h : ¬ (a < b)) (kf : EV w d kc ks y (pc + 3) L st μ Q) : EV w d kc ks y pc L (.int b :: .int a :: st) μ Q := ev_icmp_lt hd ht (fun z => absurd z h) (fun _ => kf)
theorem ev_if_lt {a : Int32} {off : Int} {tgt : Nat} (hd : decode y.2.1 pc = .ok (.ifCond .lt off, 3)) (ht : (pc : Int) + off = (tgt : Int)) (kt : (a < 0) → EV w d kc ks y tgt L st μ Q) (kf : ¬ (a < 0) → EV w d kc ks y (pc + 3) L st μ Q) : EV w d kc ks y pc L (.int a :: st) μ Q := by
  intro p l e R s m args below meth c H locs cells slots Qf ls hG hC hL hP h1 h2 h3 h4 hQ
  exact lv_if_lt hC.1 hC.2.1 hd ht (fun z => (kt z p l e R s m args below meth c H locs cells slots Qf ls hG hC hL hP h1 h2 h3 h4 hQ)) (fun z => (kf z p l e R s m args below meth c H locs cells slots Qf ls hG hC hL hP h1 h2 h3 h4 hQ))
theorem ev_if_lt_t {a : Int32} {off : Int} {tgt : Nat} (hd : decode y.2.1 pc = .ok (.ifCond .lt off, 3)) (ht : (pc : Int) + off = (tgt : Int)) (h : (a < 0)) (kt : EV w d kc ks y tgt L st μ Q) : EV w d kc ks y pc L (.int a :: st) μ Q := ev_if_lt hd ht (fun _ => kt) (fun z => absurd h z)
theorem ev_if_lt_f {a : Int32} {off : Int} {tgt : Nat} (hd : decode y.2.1 pc = .ok (.ifCond .lt off, 3)) (ht : (pc : Int) + off = (tgt : Int)) (h : ¬ (a < 0)) (kf : EV w d kc ks y (pc + 3) L st μ Q) : EV w d kc ks y pc L (.int a :: st) μ Q := ev_if_lt hd ht (fun z => absurd z h) (fun _ => kf)
theorem ev_icmp_ge {a b : Int32} {off : Int} {tgt : Nat} (hd : decode y.2.1 pc = .ok (.if_icmp .ge off, 3)) (ht : (pc : Int) + off = (tgt : Int)) (kt : (b ≤ a) → EV w d kc ks y tgt L st μ Q) (kf : ¬ (b ≤ a) → EV w d kc ks y (pc + 3) L st μ Q) : EV w d kc ks y pc L (.int b :: .int a :: st) μ Q := by
  intro p l e R s m args below meth c H locs cells slots Qf ls hG hC hL hP h1 h2 h3 h4 hQ
  exact lv_icmp_ge hC.1 hC.2.1 hd ht (fun z => (kt z p l e R s m args below meth c H locs cells slots Qf ls hG hC hL hP h1 h2 h3 h4 hQ)) (fun z => (kf z p l e R s m args below meth c H locs cells slots Qf ls hG hC hL hP h1 h2 h3 h4 hQ))
theorem ev_icmp_ge_t {a b : Int32} {off : Int} {tgt : Nat} (hd : decode y.2.1 pc = .ok (.if_icmp .ge off, 3)) (ht : (pc : Int) + off = (tgt : Int)) (h : (b ≤ a)) (kt : EV w d kc ks y tgt L st μ Q) : EV w d kc ks y pc L (.int b :: .int a :: st) μ Q := ev_icmp_ge hd ht (fun _ => kt) (fun z => absurd h z)
theorem ev_icmp_ge_f {a b : Int32} {off : Int} {tgt : Nat} (hd : decode y.2.1 pc = .ok (.if_icmp .ge off, 3)) (ht : (pc : Int) + off = (tgt : Int)) (h : ¬ (b ≤ a)) (kf : EV w d kc ks y (pc + 3) L st μ Q) : EV w d kc ks y pc L (.int b :: .int a :: st) μ Q := ev_icmp_ge hd ht (fun z => absurd z h) (fun _ => kf)
theorem ev_if_ge {a : Int32} {off : Int} {tgt : Nat} (hd : decode y.2.1 pc = .ok (.ifCond .ge off, 3)) (ht : (pc : Int) + off = (tgt : Int)) (kt : (0 ≤ a) → EV w d kc ks y tgt L st μ Q) (kf : ¬ (0 ≤ a) → EV w d kc ks y (pc + 3) L st μ Q) : EV w d kc ks y pc L (.int a :: st) μ Q := by
  intro p l e R s m args below meth c H locs cells slots Qf ls hG hC hL hP h1 h2 h3 h4 hQ
  exact lv_if_ge hC.1 hC.2.1 hd ht (fun z => (kt z p l e R s m args below meth c H locs cells slots Qf ls hG hC hL hP h1 h2 h3 h4 hQ)) (fun z => (kf z p l e R s m args below meth c H locs cells slots Qf ls hG hC hL hP h1 h2 h3 h4 hQ))
theorem ev_if_ge_t {a : Int32} {off : Int} {tgt : Nat} (hd : decode y.2.1 pc = .ok (.ifCond .ge off, 3)) (ht : (pc : Int) + off = (tgt : Int)) (h : (0 ≤ a)) (kt : EV w d kc ks y tgt L st μ Q) : EV w d kc ks y pc L (.int a :: st) μ Q := ev_if_ge hd ht (fun _ => kt) (fun z => absurd h z)
theorem ev_if_ge_f {a : Int32} {off : Int} {tgt : Nat} (hd : decode y.2.1 pc = .ok (.ifCond .ge off, 3)) (ht : (pc : Int) + off = (tgt : Int)) (h : ¬ (0 ≤ a)) (kf : EV w d kc ks y (pc + 3) L st μ Q) : EV w d kc ks y pc L (.int a :: st) μ Q := ev_if_ge hd ht (fun z => absurd z h) (fun _ => kf)
theorem ev_icmp_gt {a b : Int32} {off : Int} {tgt : Nat} (hd : decode y.2.1 pc = .ok (.if_icmp .gt off, 3)) (ht : (pc : Int) + off = (tgt : Int)) (kt : (b < a) → EV w d kc ks y tgt L st μ Q) (kf : ¬ (b < a) → EV w d kc ks y (pc + 3) L st μ Q) : EV w d kc ks y pc L (.int b :: .int a :: st) μ Q := by
  intro p l e R s m args below meth c H locs cells slots Qf ls hG hC hL hP h1 h2 h3 h4 hQ
  exact lv_icmp_gt hC.1 hC.2.1 hd ht (fun z => (kt z p l e R s m args below meth c H locs cells slots Qf ls hG hC hL hP h1 h2 h3 h4 hQ)) (fun z => (kf z p l e R s m args below meth c H locs cells slots Qf ls hG hC hL hP h1 h2 h3 h4 hQ))
theorem ev_icmp_gt_t {a b : Int32} {off : Int} {tgt : Nat} (hd : decode y.2.1 pc = .ok (.if_icmp .gt off, 3)) (ht : (pc : Int) + off = (tgt : Int)) (h : (b < a)) (kt : EV w d kc ks y tgt L st μ Q) : EV w d kc ks y pc L (.int b :: .int a :: st) μ Q := ev_icmp_gt hd ht (fun _ => kt) (fun z => absurd h z)
theorem ev_icmp_gt_f {a b : Int32} {off : Int} {tgt : Nat} (hd : decode y.2.1 pc = .ok (.if_icmp .gt off, 3)) (ht : (pc : Int) + off = (tgt : Int)) (h : ¬ (b < a)) (kf : EV w d kc ks y (pc + 3) L st μ Q) : EV w d kc ks y pc L (.int b :: .int a :: st) μ Q := ev_icmp_gt hd ht (fun z => absurd z h) (fun _ => kf)
theorem ev_if_gt {a : Int32} {off : Int} {tgt : Nat} (hd : decode y.2.1 pc = .ok (.ifCond .gt off, 3)) (ht : (pc : Int) + off = (tgt : Int)) (kt : (0 < a) → EV w d kc ks y tgt L st μ Q) (kf : ¬ (0 < a) → EV w d kc ks y (pc + 3) L st μ Q) : EV w d kc ks y pc L (.int a :: st) μ Q := by
  intro p l e R s m args below meth c H locs cells slots Qf ls hG hC hL hP h1 h2 h3 h4 hQ
  exact lv_if_gt hC.1 hC.2.1 hd ht (fun z => (kt z p l e R s m args below meth c H locs cells slots Qf ls hG hC hL hP h1 h2 h3 h4 hQ)) (fun z => (kf z p l e R s m args below meth c H locs cells slots Qf ls hG hC hL hP h1 h2 h3 h4 hQ))
theorem ev_if_gt_t {a : Int32} {off : Int} {tgt : Nat} (hd : decode y.2.1 pc = .ok (.ifCond .gt off, 3)) (ht : (pc : Int) + off = (tgt : Int)) (h : (0 < a)) (kt : EV w d kc ks y tgt L st μ Q) : EV w d kc ks y pc L (.int a :: st) μ Q := ev_if_gt hd ht (fun _ => kt) (fun z => absurd h z)
theorem ev_if_gt_f {a : Int32} {off : Int} {tgt : Nat} (hd : decode y.2.1 pc = .ok (.ifCond .gt off, 3)) (ht : (pc : Int) + off = (tgt : Int)) (h : ¬ (0 < a)) (kf : EV w d kc ks y (pc + 3) L st μ Q) : EV w d kc ks y pc L (.int a :: st) μ Q := ev_if_gt hd ht (fun z => absurd z h) (fun _ => kf)
theorem ev_icmp_le {a b : Int32} {off : Int} {tgt : Nat} (hd : decode y.2.1 pc = .ok (.if_icmp .le off, 3)) (ht : (pc : Int) + off = (tgt : Int)) (kt : (a ≤ b) → EV w d kc ks y tgt L st μ Q) (kf : ¬ (a ≤ b) → EV w d kc ks y (pc + 3) L st μ Q) : EV w d kc ks y pc L (.int b :: .int a :: st) μ Q := by
  intro p l e R s m args below meth c H locs cells slots Qf ls hG hC hL hP h1 h2 h3 h4 hQ
  exact lv_icmp_le hC.1 hC.2.1 hd ht (fun z => (kt z p l e R s m args below meth c H locs cells slots Qf ls hG hC hL hP h1 h2 h3 h4 hQ)) (fun z => (kf z p l e R s m args below meth c H locs cells slots Qf ls hG hC hL hP h1 h2 h3 h4 hQ))
theorem ev_icmp_le_t {a b : Int32} {off : Int} {tgt : Nat} (hd : decode y.2.1 pc = .ok (.if_icmp .le off, 3)) (ht : (pc : Int) + off = (tgt : Int)) (h : (a ≤ b)) (kt : EV w d kc ks y tgt L st μ Q) : EV w d kc ks y pc L (.int b :: .int a :: st) μ Q := ev_icmp_le hd ht (fun _ => kt) (fun z => absurd h z)
theorem ev_icmp_le_f {a b : Int32} {off : Int} {tgt : Nat} (hd : decode y.2.1 pc = .ok (.if_icmp .le off, 3)) (ht : (pc : Int) + off = (tgt : Int)) (h : ¬ (a ≤ b)) (kf : EV w d kc ks y (pc + 3) L st μ Q) : EV w d kc ks y pc L (.int b :: .int a :: st) μ Q := ev_icmp_le hd ht (fun z => absurd z h) (fun _ => kf)
theorem ev_if_le {a : Int32} {off : Int} {tgt : Nat} (hd : decode y.2.1 pc = .ok (.ifCond .le off, 3)) (ht : (pc : Int) + off = (tgt : Int)) (kt : (a ≤ 0) → EV w d kc ks y tgt L st μ Q) (kf : ¬ (a ≤ 0) → EV w d kc ks y (pc + 3) L st μ Q) : EV w d kc ks y pc L (.int a :: st) μ Q := by
  intro p l e R s m args below meth c H locs cells slots Qf ls hG hC hL hP h1 h2 h3 h4 hQ
  exact lv_if_le hC.1 hC.2.1 hd ht (fun z => (kt z p l e R s m args below meth c H locs cells slots Qf ls hG hC hL hP h1 h2 h3 h4 hQ)) (fun z => (kf z p l e R s m args below meth c H locs cells slots Qf ls hG hC hL hP h1 h2 h3 h4 hQ))
theorem ev_if_le_t {a : Int32} {off : Int} {tgt : Nat} (hd : decode y.2.1 pc = .ok (.ifCond .le off, 3)) (ht : (pc : Int) + off = (tgt : Int)) (h : (a ≤ 0)) (kt : EV w d kc ks y tgt L st μ Q) : EV w d kc ks y pc L (.int a :: st) μ Q := ev_if_le hd ht (fun _ => kt) (fun z => absurd h z)
theorem ev_if_le_f {a : Int32} {off : Int} {tgt : Nat} (hd : decode y.2.1 pc = .ok (.ifCond .le off, 3)) (ht : (pc : Int) + off = (tgt : Int)) (h : ¬ (a ≤ 0)) (kf : EV w d kc ks y (pc + 3) L st μ Q) : EV w d kc ks y pc L (.int a :: st) μ Q := ev_if_le hd ht (fun z => absurd z h) (fun _ => kf)
theorem ev_goto {off : Int} {tgt : Nat} (hd : decode y.2.1 pc = .ok (.goto off, 3)) (ht : (pc : Int) + off = (tgt : Int)) (k : EV w d kc ks y tgt L st μ Q) : EV w d kc ks y pc L st μ Q := by
  intro p l e R s m args below meth c H locs cells slots Qf ls hG hC hL hP h1 h2 h3 h4 hQ
  exact lv_goto hC.1 hC.2.1 hd ht (k p l e R s m args below meth c H locs cells slots Qf ls hG hC hL hP h1 h2 h3 h4 hQ)
theorem ev_ifnull_n {off : Int} {tgt : Nat} (hd : decode y.2.1 pc = .ok (.ifnull off, 3)) (ht : (pc : Int) + off = (tgt : Int)) (k : EV w d kc ks y tgt L st μ Q) : EV w d kc ks y pc L (.null :: st) μ Q := by
  intro p l e R s m args below meth c H locs cells slots Qf ls hG hC hL hP h1 h2 h3 h4 hQ
  exact lv_ifnullN hC.1 hC.2.1 hd ht (k p l e R s m args below meth c H locs cells slots Qf ls hG hC hL hP h1 h2 h3 h4 hQ)
theorem ev_ifnull_r {off : Int} {a : Nat} (hd : decode y.2.1 pc = .ok (.ifnull off, 3)) (k : EV w d kc ks y (pc + 3) L st μ Q) : EV w d kc ks y pc L (.ref a :: st) μ Q := by
  intro p l e R s m args below meth c H locs cells slots Qf ls hG hC hL hP h1 h2 h3 h4 hQ
  exact lv_ifnull hC.1 hC.2.1 hd (k p l e R s m args below meth c H locs cells slots Qf ls hG hC hL hP h1 h2 h3 h4 hQ)
theorem ev_ifnonnull_r {off : Int} {a tgt : Nat} (hd : decode y.2.1 pc = .ok (.ifnonnull off, 3)) (ht : (pc : Int) + off = (tgt : Int)) (k : EV w d kc ks y tgt L st μ Q) : EV w d kc ks y pc L (.ref a :: st) μ Q := by
  intro p l e R s m args below meth c H locs cells slots Qf ls hG hC hL hP h1 h2 h3 h4 hQ
  exact lv_ifnonnull hC.1 hC.2.1 hd ht (k p l e R s m args below meth c H locs cells slots Qf ls hG hC hL hP h1 h2 h3 h4 hQ)
theorem ev_ifnonnull_n {off : Int} (hd : decode y.2.1 pc = .ok (.ifnonnull off, 3)) (k : EV w d kc ks y (pc + 3) L st μ Q) : EV w d kc ks y pc L (.null :: st) μ Q := by
  intro p l e R s m args below meth c H locs cells slots Qf ls hG hC hL hP h1 h2 h3 h4 hQ
  exact lv_ifnonnullN hC.1 hC.2.1 hd (k p l e R s m args below meth c H locs cells slots Qf ls hG hC hL hP h1 h2 h3 h4 hQ)
theorem ev_lookup {dflt : Int} {ps : Array (Int × Int)} {len : Nat} {x : Int32} {off : Int} {tgt : Nat} (hd : decode y.2.1 pc = .ok (.lookupswitch dflt ps, len)) (hp : (ps.toList.zip (ps.toList.drop 1)).all (fun (a, next) => a.1 < next.1) = true) (ho : Op.lookupswitch.offset ps.toList dflt x.toInt = off) (ht : (pc : Int) + off = (tgt : Int)) (k : EV w d kc ks y tgt L st μ Q) : EV w d kc ks y pc L (.int x :: st) μ Q := by
  intro p l e R s m args below meth c H locs cells slots Qf ls hG hC hL hP h1 h2 h3 h4 hQ
  exact lv_lookup hC.1 hC.2.1 hd hp ho ht (k p l e R s m args below meth c H locs cells slots Qf ls hG hC hL hP h1 h2 h3 h4 hQ)
theorem ev_tableOut {dflt lo hi : Int} {offs : Array Int} {len : Nat} {x : Int32} {tgt : Nat} (hd : decode y.2.1 pc = .ok (.tableswitch dflt lo hi offs, len)) (h : x.toInt < lo ∨ hi < x.toInt) (ht : (pc : Int) + dflt = (tgt : Int)) (k : EV w d kc ks y tgt L st μ Q) : EV w d kc ks y pc L (.int x :: st) μ Q := by
  intro p l e R s m args below meth c H locs cells slots Qf ls hG hC hL hP h1 h2 h3 h4 hQ
  exact lv_tableOut hC.1 hC.2.1 hd h ht (k p l e R s m args below meth c H locs cells slots Qf ls hG hC hL hP h1 h2 h3 h4 hQ)
theorem ev_tableIn {dflt lo hi : Int} {offs : Array Int} {len : Nat} {x : Int32} {off : Int} {tgt : Nat} (hd : decode y.2.1 pc = .ok (.tableswitch dflt lo hi offs, len)) (hl : ¬ x.toInt < lo) (hh : ¬ hi < x.toInt) (ho : offs[(x.toInt - lo).toNat]? = some off) (ht : (pc : Int) + off = (tgt : Int)) (k : EV w d kc ks y tgt L st μ Q) : EV w d kc ks y pc L (.int x :: st) μ Q := by
  intro p l e R s m args below meth c H locs cells slots Qf ls hG hC hL hP h1 h2 h3 h4 hQ
  exact lv_tableIn hC.1 hC.2.1 hd hl hh ho ht (k p l e R s m args below meth c H locs cells slots Qf ls hG hC hL hP h1 h2 h3 h4 hQ)
theorem ev_ldc {i : Nat} {v : Int32} (hd : decode y.2.1 pc = .ok (.ldc i, 2)) (hc : Cond.constant y.1.cls i v ∈ zGT) (k : EV w d kc ks y (pc + 2) L (.int v :: st) μ Q) : EV w d kc ks y pc L (st) μ Q := by
  intro p l e R s m args below meth c H locs cells slots Qf ls hG hC hL hP h1 h2 h3 h4 hQ
  exact lv_ldc hC.1 hC.2.1 hC.2.2.2.1 (hC.2.2.2.2.1 _ hc) hd (k p l e R s m args below meth c H locs cells slots Qf ls hG hC hL hP h1 h2 h3 h4 hQ)
theorem ev_ldc2 {i : Nat} {v : Int64} (hd : decode y.2.1 pc = .ok (.ldc2_w i, 3)) (hc : Cond.constantLong y.1.cls i v ∈ zGT) (k : EV w d kc ks y (pc + 3) L (.long v :: st) μ Q) : EV w d kc ks y pc L (st) μ Q := by
  intro p l e R s m args below meth c H locs cells slots Qf ls hG hC hL hP h1 h2 h3 h4 hQ
  exact lv_ldc2 hC.1 hC.2.1 hC.2.2.2.1 (hC.2.2.2.2.1 _ hc) hd (k p l e R s m args below meth c H locs cells slots Qf ls hG hC hL hP h1 h2 h3 h4 hQ)
end EVR
end
section
/-! rows that read and write cells -/
theorem zins (ws : List Cond) (ps : List Nat) (h : ps.map (fun i => lw_tbl[i]?) = ws.map some) (hg : ws.all goodWord = true) : ∀ x ∈ ws, x ∈ zGT := by
  intro x hx
  have h1 : some x ∈ ps.map (fun i => lw_tbl[i]?) := by rw [h]; exact List.mem_map_of_mem hx
  obtain ⟨i, -, hi⟩ := List.mem_map.mp h1
  exact zin i hi (List.all_eq_true.mp hg x hx)
theorem zuw0 : ∀ x ∈ u_ws RX0 TX0 13, x ∈ zGT := zins _ [171, 173, 175, 177, 179, 181, 183, 185, 187, 189, 191, 193, 195] (by decide +kernel) (by decide +kernel)
theorem zuw1 : ∀ x ∈ u_ws RX1 TX1 11, x ∈ zGT := zins _ [739, 740, 741, 742, 743, 744, 745, 746, 747, 748, 749] (by decide +kernel) (by decide +kernel)
theorem zuw2 : ∀ x ∈ u_ws RX2 TX2 7, x ∈ zGT := zins _ [139, 141, 143, 145, 147, 149, 151] (by decide +kernel) (by decide +kernel)
theorem zuw3 : ∀ x ∈ u_ws RX3 TX3 5, x ∈ zGT := zins _ [233, 235, 237, 239, 241] (by decide +kernel) (by decide +kernel)
theorem zuw4 : ∀ x ∈ u_ws RX4 TX4 11, x ∈ zGT := zins _ [722, 723, 724, 725, 726, 727, 728, 729, 730, 731, 732] (by decide +kernel) (by decide +kernel)
theorem zuw5 : ∀ x ∈ u_ws RX5 TX5 11, x ∈ zGT := zins _ [676, 678, 680, 682, 684, 686, 688, 690, 692, 694, 696] (by decide +kernel) (by decide +kernel)
theorem zuw6 : ∀ x ∈ u_ws RX6 TX6 3, x ∈ zGT := zins _ [254, 256, 258] (by decide +kernel) (by decide +kernel)
theorem zuw7 : ∀ x ∈ u_ws RX7 TX7 10, x ∈ zGT := zins _ [89, 91, 93, 95, 97, 99, 101, 103, 105, 107] (by decide +kernel) (by decide +kernel)
theorem zuw8 : ∀ x ∈ u_ws RX8 TX8 11, x ∈ zGT := zins _ [704, 705, 706, 707, 708, 709, 710, 711, 712, 713, 714] (by decide +kernel) (by decide +kernel)
theorem zuw9 : ∀ x ∈ u_ws RX9 TX9 11, x ∈ zGT := zins _ [756, 757, 758, 759, 760, 761, 762, 763, 764, 765, 766] (by decide +kernel) (by decide +kernel)
theorem zuw10 : ∀ x ∈ u_ws RX10 TX10 11, x ∈ zGT := zins _ [770, 771, 772, 773, 774, 775, 776, 777, 778, 779, 780] (by decide +kernel) (by decide +kernel)
theorem zuw11 : ∀ x ∈ u_ws RX11 TX11 20, x ∈ zGT := zins _ [279, 281, 283, 285, 287, 289, 291, 293, 295, 297, 299, 301, 303, 305, 307, 309, 311, 313, 315, 317] (by decide +kernel) (by decide +kernel)
theorem zuw12 : ∀ x ∈ u_ws RJ4 TJ4 4, x ∈ zGT := zins _ [807, 809, 811, 813] (by decide +kernel) (by decide +kernel)
theorem zuw13 : ∀ x ∈ u_ws RJ0 TJ0 4, x ∈ zGT := zins _ [1011, 1013, 1015, 1017] (by decide +kernel) (by decide +kernel)
theorem zuw : ∀ c, c < 14 → ∀ x ∈ u_ws (zRf c) (zTf c) (zNf c), x ∈ zGT := fun c h => by
  match c, h with
  | 0, _ => exact zuw0
  | 1, _ => exact zuw1
  | 2, _ => exact zuw2
  | 3, _ => exact zuw3
  | 4, _ => exact zuw4
  | 5, _ => exact zuw5
  | 6, _ => exact zuw6
  | 7, _ => exact zuw7
  | 8, _ => exact zuw8
  | 9, _ => exact zuw9
  | 10, _ => exact zuw10
  | 11, _ => exact zuw11
  | 12, _ => exact zuw12
  | 13, _ => exact zuw13
theorem zty_ok : ∀ c, c < 14 → ∀ k, k < zNf c → parseFieldDescriptor (zTf c k).2.2.1 = some (zty c k) := fun c h => by
  match c, h with
  | 0, _ => exact tyX0_ok
  | 1, _ => exact tyX1_ok
  | 2, _ => exact tyX2_ok
  | 3, _ => exact tyX3_ok
  | 4, _ => exact tyX4_ok
  | 5, _ => exact tyX5_ok
  | 6, _ => exact tyX6_ok
  | 7, _ => exact tyX7_ok
  | 8, _ => exact tyX8_ok
  | 9, _ => exact tyX9_ok
  | 10, _ => exact tyX10_ok
  | 11, _ => exact tyX11_ok
  | 12, _ => exact tyJ4_ok
  | 13, _ => exact tyJ0_ok
theorem znm : ∀ c, c < 14 → ∀ a, a < zNf c → ∀ b, b < zNf c → a ≠ b → (zTf c a).2.1 ≠ (zTf c b).2.1 := fun c h => by
  match c, h with
  | 0, _ => exact nmX0
  | 1, _ => exact nmX1
  | 2, _ => exact nmX2
  | 3, _ => exact nmX3
  | 4, _ => exact nmX4
  | 5, _ => exact nmX5
  | 6, _ => exact nmX6
  | 7, _ => exact nmX7
  | 8, _ => exact nmX8
  | 9, _ => exact nmX9
  | 10, _ => exact nmX10
  | 11, _ => exact nmX11
  | 12, _ => exact nmJ4
  | 13, _ => exact nmJ0
/-- a cell is there, of a kind -/
def zHas (n : Nat) (kd : Nat → Nat × Nat) (a K : Nat) : Prop := zrl a ∧ a < n ∧ (kd a).1 = K
/-- a field as an instruction names it -/
def zFL (own : String) (idx c k : Nat) : Prop := c < 14 ∧ k < zNf c ∧ ∃ ref : String, Cond.fieldLink own idx ref (zTf c k).2.1 (zTf c k).2.2.1 ∈ zGT ∧ (ref = (zTf c k).1 ∨ Cond.sameField ref (zTf c k).1 (zTf c k).2.1 (zTf c k).2.2.1 ∈ zGT)
theorem zE_obj {w : zW} {μ : zM} {a c : Nat} (h : (zk μ a).1 = 16 + c) : zE w μ a = .inr (c, (List.range (zNf c)).map (zv w μ a c)) := by
  unfold zE
  rw [if_neg (by omega), if_neg (by omega), if_neg (by omega), if_neg (by omega), show (zk μ a).1 - 16 = c by omega]
theorem zE_int {w : zW} {μ : zM} {a : Nat} (h : (zk μ a).1 = 0) : zE w μ a = .inl (zcA w 0, (zk μ a).2, .inl (zi μ a)) := if_pos h
theorem zE_ref {w : zW} {μ : zM} {a j : Nat} (h : (zk μ a).1 = j) (h0 : 0 < j) (h1 : j < 12) : zE w μ a = .inl (zcA w j, (zk μ a).2, .inr (.inr (.inr (.inr (fun k => (zrr w μ a k).map (zad w)))))) := by
  unfold zE
  rw [if_neg (by omega), if_neg (by omega), if_neg (by omega), if_pos (by omega), h]
theorem zE_byt {w : zW} {μ : zM} {a : Nat} (h : (zk μ a).1 = 12) : zE w μ a = .inl (zcA w 6, (zk μ a).2, .inl (zi μ a)) := by
  unfold zE
  rw [if_neg (by omega), if_pos h]
theorem zE_lng {w : zW} {μ : zM} {a : Nat} (h : (zk μ a).1 = 14) : zE w μ a = .inl (zcA w 7, (zk μ a).2, .inr (.inl (zlg w (zi μ a)))) := by
  unfold zE
  rw [if_neg (by omega), if_neg (by omega), if_pos h]
theorem zKs {w : zW} {s : State} (hG : zGF w) (hF : zFr w s) : va_K (zD w) vwCl (zT w) s := hG.2.1.moved hF.1
theorem zCtx.fr {w : zW} {y : zY} {p : Program} {s : State} {m : MethodId} {args : Array Value} {meth : Method} {c : Code} (h : zCtx w y p s m args meth c) : zFr w s := h.2.2.2.2.2.2.2.2
theorem zCtx.word {w : zW} {y : zY} {p : Program} {s : State} {m : MethodId} {args : Array Value} {meth : Method} {c : Code} (h : zCtx w y p s m args meth c) {v : Cond} (hv : v ∈ zGT) : v.before args s = true := h.2.2.2.2.1 v hv
theorem zRp.nm {w : zW} {s : State} {μ : zM} {H : Heap} {locs : List Loc} (h : zRp w s μ H locs) {a : Nat} (h2 : a < zn μ) : zvn (zn μ) ∧ H.size = zb0 w + zsz (zn μ) ∧ va_P (zD w) vwCl (zWs w μ) H := h.1 (by omega)
theorem zRp.p {w : zW} {s : State} {μ : zM} {H : Heap} {locs : List Loc} (h : zRp w s μ H locs) {a : Nat} (h2 : a < zn μ) : va_P (zD w) vwCl (zWs w μ) H := (h.nm h2).2.2
theorem zRp.at {w : zW} {s : State} {μ : zM} {H : Heap} {locs : List Loc} (h : zRp w s μ H locs) {a : Nat} (h1 : zrl a) (h2 : a < zn μ) : va_at (zD w) vwCl (zad w a, zE w μ a) H := h.p h2 (zix a) _ (zWs_at w h1 h2)
theorem zFL.same {c k : Nat} {s : State} {args : Array Value} {ref : String} (hts : ∀ v ∈ zGT, v.before args s = true) (h : ref = (zTf c k).1 ∨ Cond.sameField ref (zTf c k).1 (zTf c k).2.1 (zTf c k).2.2.1 ∈ zGT) :
    ∀ x, s.fieldFound? (zTf c k).1 (zTf c k).2.1 (zTf c k).2.2.1 = some x → s.fieldFound? ref (zTf c k).2.1 (zTf c k).2.2.1 = some x := by
  rcases h with h | h
  · subst h
    exact fun _ h9 => h9
  · exact fun x hx => u_same (hts _ h) x hx
theorem zfs_at {w : zW} {μ : zM} {a c k : Nat} (hk : k < zNf c) : ((List.range (zNf c)).map (zv w μ a c))[k]? = some (zv w μ a c k) := by
  rw [List.getElem?_map, List.getElem?_range hk]
  rfl
/-- what a memory with one row changed has of the other cells -/
theorem zE_zA {w : zW} {μ : zM} {a b : Nat} {f : Nat → Int32} (h : b ≠ a) : zE w (zA μ a f) b = zE w μ b := by
  have e : zi (zA μ a f) b = zi μ b := by
    funext k
    show (if b = a then f else μ.2.2.1 b) k = μ.2.2.1 b k
    rw [if_neg h]
  unfold zE zv
  rw [e]
  rfl
theorem zE_zR {w : zW} {μ : zM} {a b k : Nat} {r : Option Nat} (h : b ≠ a) : zE w (zR μ a k r) b = zE w μ b := by
  have e : zr (zR μ a k r) b = zr μ b := by
    funext j
    show (if b = a then va_up (μ.2.2.2 a) k r else μ.2.2.2 b) j = μ.2.2.2 b j
    rw [if_neg h]
  have e2 : ∀ j, zrr w (zR μ a k r) b j = zrr w μ b j := fun j => by
    unfold zrr
    rw [e]
  unfold zE zv
  simp only [e2]
  rfl
theorem zi_zA {μ : zM} {a : Nat} {f : Nat → Int32} : zi (zA μ a f) a = f := by
  show (if a = a then f else μ.2.2.1 a) = f
  rw [if_pos rfl]
theorem zi_zA_ne {μ : zM} {a b : Nat} {f : Nat → Int32} (h : b ≠ a) : zi (zA μ a f) b = zi μ b := by
  show (if b = a then f else μ.2.2.1 b) = μ.2.2.1 b
  rw [if_neg h]
theorem zr_zR {μ : zM} {a k : Nat} {r : Option Nat} : zr (zR μ a k r) a = va_up (zr μ a) k r := by
  show (if a = a then va_up (μ.2.2.2 a) k r else μ.2.2.2 a) = _
  rw [if_pos rfl]
  rfl
theorem zr_zR_ne {μ : zM} {a b k : Nat} {r : Option Nat} (h : b ≠ a) : zr (zR μ a k r) b = zr μ b := by
  show (if b = a then va_up (μ.2.2.2 a) k r else μ.2.2.2 b) = μ.2.2.2 b
  rw [if_neg h]
/-- a cell is written: the memory follows -/
theorem zRp.put {w : zW} {s : State} {μ μ' : zM} {H H' : Heap} {locs : List Loc} {a k : Nat} (h : zRp w s μ H locs) (h1 : zrl a) (h2 : a < zn μ) (hn : zn μ' = zn μ) (he : ∀ b, b ≠ a → zE w μ' b = zE w μ b)
    (hat : va_at (zD w) vwCl (zad w a, zE w μ' a) H') (hz : H'.size = H.size) (oq : ∀ q, q ≠ zad w a → H'[q]? = H[q]?) : zRp w s μ' H' (locs ++ [⟨zad w a, k⟩]) := by
  obtain ⟨r1, r2, r3⟩ := h.nm h2
  refine ⟨fun _ => ⟨by rw [hn]; exact r1, by rw [hn, hz]; exact r2, ?_⟩, h.2.put hz oq (show zb0 w ≤ zad w a by rw [zad_rl w h1]; omega)⟩
  rw [← zWs_set w h1 h2 hn he]
  exact r3.set (zWs_apart w μ) (zWs_at w h1 h2) hat oq
theorem zRp.top {w : zW} {s : State} {μ : zM} {H : Heap} {locs : List Loc} (h : zRp w s μ H locs) (hr : zrl (zn μ)) : H.size = zad w (zn μ) := by
  rw [zad_rl w hr, ← zsz_ix hr]
  exact (h.1 (zrl_vn hr).2.2).2.1
/-- a cell comes: the memory follows -/
theorem zRp.push {w : zW} {s : State} {μ μ' : zM} {H H' : Heap} {locs : List Loc} (h : zRp w s μ H locs) (hr : zrl (zn μ)) (hn : zn μ' = zn μ + 1) (he : ∀ b, b < zn μ → zE w μ' b = zE w μ b)
    (hat : va_at (zD w) vwCl (zad w (zn μ), zE w μ' (zn μ)) H') (hz : H'.size = H.size + 1) (oq : ∀ q, q < H.size → H'[q]? = H[q]?) : zRp w s μ' H' locs := by
  obtain ⟨v1, v2, v3⟩ := zrl_vn hr
  obtain ⟨r1, r2, r3⟩ := h.1 v3
  have r4 := h.2
  refine ⟨fun _ => ⟨by rw [hn]; exact v2, by rw [hn, hz, r2, zsz_push hr]; omega, ?_⟩, ⟨by have := r4.1; omega, fun q h1 h2 => ?_, r4.2.2⟩⟩
  · rw [zWs_push w hr hn he]
    refine (r3.kept fun k q hq => oq q.1 ((r3 k q hq).lt)).app (fun k q hq => ?_)
    have hz : k < 1 := (List.getElem?_eq_some_iff.mp hq).1
    rw [show k = 0 by omega] at hq
    cases hq
    exact hat
  · rw [oq q (Nat.lt_of_lt_of_le h1 r4.1)]
    exact r4.2.1 q h1 h2
section EVC
variable {w : zW} {d kc ks : Nat} {y : zY} {pc : Nat} {L : List (Option Value)} {st : List Value} {μ : zM} {Q Q' : Option Value → zM → Prop}
theorem ev_get {idx c k a : Nat} {v : Value} (hd : decode y.2.1 pc = .ok (.getfield idx, 3)) (hf : zFL y.1.cls idx c k) (ha : zHas μ.1 μ.2.1 a (16 + c)) (hv : zv w μ a c k = zva w v)
    (kk : EV w d kc ks y (pc + 3) L (v :: st) μ Q) : EV w d kc ks y pc L (.ref a :: st) μ Q := by
  intro p l e R s m args below meth c0 H locs cells slots Qf ls hG hC hL hP h1 h2 h3 h4 hQ
  obtain ⟨hc, hk, ref, hl, hs⟩ := hf
  have he : (zWs w μ)[zix a]? = some (zad w a, .inr (c, (List.range (zNf c)).map (zv w μ a c))) := by
    rw [zWs_at w ha.1 ha.2.1, zE_obj ha.2.2]
  exact va_get (D := zD w) (ci := c) (v := zva w v) (C := zRf c) (T := zTf c) (N := zNf c) hC.1 hC.2.1 hC.2.2.2.2.1 (zuw c hc) hC.2.2.2.1 (zKs hG hC.fr) (hP.p ha.2.1) (zix a) he (zcl_at c hc) k hk (hC.word hl) (zFL.same hC.2.2.2.2.1 hs) (by rw [zfs_at hk, hv]) hd
    (kk p l e R s m args below meth c0 H locs cells slots Qf ls hG hC hL hP h1 h2 h3 h4 hQ)
theorem ev_getI {idx c k a : Nat} {x : Int32} (hd : decode y.2.1 pc = .ok (.getfield idx, 3)) (hf : zFL y.1.cls idx c k) (hfl : zfl c k = false) (ha : zHas μ.1 μ.2.1 a (16 + c)) (hv : zi μ a k = x)
    (kk : EV w d kc ks y (pc + 3) L (.int x :: st) μ Q) : EV w d kc ks y pc L (.ref a :: st) μ Q :=
  ev_get hd hf ha (by unfold zv; rw [if_neg (by rw [hfl]; decide), hv]; rfl) kk
theorem ev_getR {idx c k a b : Nat} (hd : decode y.2.1 pc = .ok (.getfield idx, 3)) (hf : zFL y.1.cls idx c k) (hfl : zfl c k = true) (ha : zHas μ.1 μ.2.1 a (16 + c)) (hv : zrr w μ a k = some b)
    (kk : EV w d kc ks y (pc + 3) L (.ref b :: st) μ Q) : EV w d kc ks y pc L (.ref a :: st) μ Q :=
  ev_get hd hf ha (by unfold zv; rw [if_pos hfl, hv]; rfl) kk
theorem ev_getN {idx c k a : Nat} (hd : decode y.2.1 pc = .ok (.getfield idx, 3)) (hf : zFL y.1.cls idx c k) (hfl : zfl c k = true) (ha : zHas μ.1 μ.2.1 a (16 + c)) (hv : zrr w μ a k = none)
    (kk : EV w d kc ks y (pc + 3) L (.null :: st) μ Q) : EV w d kc ks y pc L (.ref a :: st) μ Q :=
  ev_get hd hf ha (by unfold zv; rw [if_pos hfl, hv]; rfl) kk
/-- which fields may be written here -/
def zMay (y : zY) (c k : Nat) : Prop := (zTf c k).2.2.2 = false ∨ ((zTf c k).2.2.2 = true ∧ y.1.name = "<init>" ∧ (zTf c k).1 = y.1.cls)
theorem ev_put {idx c k a : Nat} {v : Value} {μ' : zM} (hd : decode y.2.1 pc = .ok (.putfield idx, 3)) (hf : zFL y.1.cls idx c k) (hm : zMay y c k) (ha : zHas μ.1 μ.2.1 a (16 + c)) (hn : narrow (zty c k) (zva w v) = zva w v) (hfit : fits (zty c k) (zva w v) = true)
    (h1 : zn μ' = zn μ) (h2 : ∀ b, b ≠ a → zE w μ' b = zE w μ b) (h3 : (zk μ' a).1 = 16 + c) (h4 : ∀ j, j < zNf c → zv w μ' a c j = if j = k then zva w v else zv w μ a c j)
    (kk : EV w d kc ks y (pc + 3) L st μ' Q) : EV w d kc ks y pc L (v :: .ref a :: st) μ Q := by
  intro p l e R s m args below meth c0 H locs cells slots Qf ls hG hC hL hP g1 g2 g3 g4 hQ
  obtain ⟨hc, hk, ref, hl, hs⟩ := hf
  have hK := zKs hG hC.fr
  have hts := hC.2.2.2.2.1
  have hin := zuw c hc
  have hap := va_apart (own := y.1.cls) hts hin (zty c) (zty_ok c hc) (znm c hc) hK (zcl_at c hc)
  have hat := hP.at ha.1 ha.2.1
  rw [zE_obj ha.2.2] at hat
  obtain ⟨r, e1, cell, q1, q2, q3, q4⟩ := hat
  have hr : r = (zRf c, zTf c, zNf c) := Option.some.inj (e1.symm.trans (zcl_at c hc))
  subst hr
  obtain ⟨hS, hfc, kC, hkC, hkind⟩ := hK.1 c _ (zcl_at c hc)
  obtain ⟨cf, kf, fi, f, hi, hsl⟩ := hS k hk
  have hlay := hts _ (hin _ (u_in_lay hk))
  have hst := (u_facts hfc hkC (u_lays hts hin hk) hi).1
  have fin : ∀ H' : Heap, H'[zad w a]? = some (cell.setSlot f.slot (zva w v)) → H'.size = H.size → (∀ q, q ≠ zad w a → H'[q]? = H[q]?) → W p l e R s m args below meth c0 H' (locs ++ [⟨zad w a, f.slot⟩]) cells slots Qf (F0 m (pc + 3) ls (st.map (zva w))) := by
    intro H' x1 x2 x3
    refine kk p l e R s m args below meth c0 H' (locs ++ [⟨zad w a, f.slot⟩]) cells slots Qf ls hG hC hL (hP.put ha.1 ha.2.1 h1 h2 ?_ x2 x3) g1 g2 g3 g4 hQ
    rw [zE_obj h3]
    rw [hsl] at x1
    refine ⟨_, zcl_at c hc, t_OB.to (V := updV (vp_V ((List.range (zNf c)).map (zv w μ a c))) k (zva w v)) ⟨_, x1, q2, q3, t_set q4 hap hk (zva w v)⟩ (fun j hj => ?_)⟩
    show updV (vp_V ((List.range (zNf c)).map (zv w μ a c))) k (zva w v) j = ((List.range (zNf c)).map (zv w μ' a c)).getD j .null
    rw [List.getD_eq_getElem?_getD, zfs_at hj, h4 j hj]
    by_cases e : j = k
    · subst e
      simp [updV]
    · rw [if_neg e]
      simp [updV, e, vp_V, hj]
  rcases hm with hm | ⟨hm, hi2, hde⟩
  · unfold u_lay at hlay
    rw [if_neg (by rw [hm]; decide)] at hlay
    exact W.putK hC.1 hC.2.1 (f := f) ⟨hC.2.2.2.1, hC.word hl, ⟨_, _, _, zFL.same hts hs _ hi⟩, hst⟩ (by rw [q2]; exact u_store hfc hkC hkind hlay hi (zty_ok c hc k hk) hn hfit) q1 q3 (by rw [hsl]; exact k2_hasslot (q4 k hk)) rfl rfl hd fin
  · unfold u_lay at hlay
    rw [if_pos hm] at hlay
    have hcf : m.cls = cf := by
      obtain ⟨_, _, c', _, _, _, -, -, hf', -, -, -, hown2, -⟩ := Cond.laysFinal_spec hlay
      have e1 : c' = cf := by have := hi.symm.trans hf'; simp at this; exact this.1.symm
      rw [hde] at hown2
      rw [← e1]; exact Option.some.inj (hC.2.2.2.1.symm.trans hown2)
    exact W.putFinK hC.1 hC.2.1 hC.2.2.2.1 (hC.word hl) (zFL.same hts hs _ hi) hst hcf (hC.2.2.2.2.2.2.2.1.trans hi2) (by rw [q2]; exact u_fits hfc hkC hkind (Or.inr hlay) hi (zty_ok c hc k hk) hn hfit) q1 q3 (by rw [hsl]; exact k2_hasslot (q4 k hk)) rfl rfl hd fin
theorem ev_putI {idx c k a : Nat} {x : Int32} (hd : decode y.2.1 pc = .ok (.putfield idx, 3)) (hf : zFL y.1.cls idx c k) (hm : zMay y c k) (hfl : zfl c k = false) (hn : narrow (zty c k) (.int x) = .int x) (hfit : fits (zty c k) (.int x) = true) (ha : zHas μ.1 μ.2.1 a (16 + c))
    (kk : EV w d kc ks y (pc + 3) L st (zI μ a k x) Q) : EV w d kc ks y pc L (.int x :: .ref a :: st) μ Q := by
  refine ev_put (μ' := zI μ a k x) hd hf hm ha hn hfit rfl (fun b hb => zE_zA hb) ha.2.2 (fun j hj => ?_) kk
  unfold zv
  by_cases e : j = k
  · subst e
    rw [if_neg (by rw [hfl]; decide), if_pos rfl]
    unfold zI
    rw [zi_zA]
    simp [upd]
    rfl
  · rw [if_neg e]
    unfold zI
    rw [zi_zA]
    simp only [upd, e, if_false]
    rfl
theorem ev_putR {idx c k a b : Nat} (hd : decode y.2.1 pc = .ok (.putfield idx, 3)) (hf : zFL y.1.cls idx c k) (hm : zMay y c k) (hfl : zfl c k = true) (hs : zst w a k = none) (hn : ∀ q, narrow (zty c k) (.ref q) = .ref q) (hfit : ∀ q, fits (zty c k) (.ref q) = true) (ha : zHas μ.1 μ.2.1 a (16 + c))
    (kk : EV w d kc ks y (pc + 3) L st (zR μ a k (some b)) Q) : EV w d kc ks y pc L (.ref b :: .ref a :: st) μ Q := by
  refine ev_put (μ' := zR μ a k (some b)) hd hf hm ha (hn _) (hfit _) rfl (fun q hq => zE_zR hq) ha.2.2 (fun j hj => ?_) kk
  unfold zv zrr
  rw [zr_zR]
  by_cases e : j = k
  · subst e
    rw [if_pos hfl, if_pos rfl, hs]
    simp [va_up, va_rf, zva]
  · rw [if_neg e]
    simp only [va_up, e, if_false]
    rfl
theorem ev_putN {idx c k a : Nat} (hd : decode y.2.1 pc = .ok (.putfield idx, 3)) (hf : zFL y.1.cls idx c k) (hm : zMay y c k) (hfl : zfl c k = true) (hs : zst w a k = none) (hn : narrow (zty c k) .null = .null) (hfit : fits (zty c k) .null = true) (ha : zHas μ.1 μ.2.1 a (16 + c))
    (kk : EV w d kc ks y (pc + 3) L st (zR μ a k none) Q) : EV w d kc ks y pc L (.null :: .ref a :: st) μ Q := by
  refine ev_put (μ' := zR μ a k none) hd hf hm ha hn hfit rfl (fun q hq => zE_zR hq) ha.2.2 (fun j hj => ?_) kk
  unfold zv zrr
  rw [zr_zR]
  by_cases e : j = k
  · subst e
    rw [if_pos hfl, if_pos rfl, hs]
    simp [va_up, va_rf, zva]
  · rw [if_neg e]
    simp only [va_up, e, if_false]
    rfl
/-! arrays -/
theorem ev_iald {a : Nat} {i x : Int32} (hd : decode y.2.1 pc = .ok (.iaload, 1)) (ha : zHas μ.1 μ.2.1 a 0) (hin : vp_in i (μ.2.1 a).2) (hv : zi μ a i.toNatClampNeg = x)
    (kk : EV w d kc ks y (pc + 1) L (.int x :: st) μ Q) : EV w d kc ks y pc L (.int i :: .ref a :: st) μ Q := by
  intro p l e R s m args below meth c0 H locs cells slots Qf ls hG hC hL hP h1 h2 h3 h4 hQ
  have he := zWs_at w (μ := μ) ha.1 ha.2.1
  rw [zE_int ha.2.2] at he
  refine va_iald (D := zD w) hC.1 hC.2.1 (zKs hG hC.fr) (hP.p ha.2.1) (zix a) 0 he rfl hin hd ?_
  rw [hv]
  exact kk p l e R s m args below meth c0 H locs cells slots Qf ls hG hC hL hP h1 h2 h3 h4 hQ
theorem ev_iast {a : Nat} {i x : Int32} (hd : decode y.2.1 pc = .ok (.iastore, 1)) (ha : zHas μ.1 μ.2.1 a 0) (hin : vp_in i (μ.2.1 a).2)
    (kk : EV w d kc ks y (pc + 1) L st (zI μ a i.toNatClampNeg x) Q) : EV w d kc ks y pc L (.int x :: .int i :: .ref a :: st) μ Q := by
  intro p l e R s m args below meth c0 H locs cells slots Qf ls hG hC hL hP h1 h2 h3 h4 hQ
  have hat := hP.at ha.1 ha.2.1
  rw [zE_int ha.2.2] at hat
  refine W.iast hC.1 hC.2.1 (a := zad w a) (cell := vp_cell (zcA w 0) ((μ.2.1 a).2, .inl (zi μ a))) hat (((zKs hG hC.fr).2 0 _ rfl).1 _ (fun j => .int (zi μ a j))) (fun q => by cases q) (by show ¬ (i < 0 ∨ (arrV _ _ _).slots.size ≤ _); rw [arrV_size]; exact hin) rfl rfl hd fun H1 x1 x2 x3 => ?_
  refine kk p l e R s m args below meth c0 H1 _ cells slots Qf ls hG hC hL (hP.put (μ' := zI μ a i.toNatClampNeg x) ha.1 ha.2.1 rfl (fun b hb => zE_zA hb) ?_ x2 x3) h1 h2 h3 h4 hQ
  rw [zE_int (show (zk (zI μ a i.toNatClampNeg x) a).1 = 0 from ha.2.2)]
  show H1[zad w a]? = some (vp_cell _ _)
  rw [x1]
  unfold zI
  rw [zi_zA, vp_cell_i, vp_cell_i, arrV_store]
  show some (arrV _ (μ.2.1 a).2 _) = some (arrV _ (μ.2.1 a).2 _)
  congr 2
  funext q
  by_cases hq : q = i.toNatClampNeg
  · subst hq
    simp [updV, upd]
  · simp [updV, upd, hq]
theorem zT_at {w : zW} {j : Nat} (h : j < 6) : ∃ ty : FieldType, (zT w)[j]? = some (zcA w j, ty) ∧ ty.isReference = (j != 0) := by
  match j, h with
  | 0, _ => exact ⟨_, rfl, rfl⟩
  | 1, _ => exact ⟨_, rfl, rfl⟩
  | 2, _ => exact ⟨_, rfl, rfl⟩
  | 3, _ => exact ⟨_, rfl, rfl⟩
  | 4, _ => exact ⟨_, rfl, rfl⟩
  | 5, _ => exact ⟨_, rfl, rfl⟩
theorem ev_aald {a j : Nat} {i : Int32} {v : Value} (hd : decode y.2.1 pc = .ok (.aaload, 1)) (ha : zHas μ.1 μ.2.1 a j) (h0 : 0 < j) (h6 : j < 6) (hin : vp_in i (μ.2.1 a).2) (hv : va_rf ((zrr w μ a i.toNatClampNeg).map (zad w)) = zva w v)
    (kk : EV w d kc ks y (pc + 1) L (v :: st) μ Q) : EV w d kc ks y pc L (.int i :: .ref a :: st) μ Q := by
  intro p l e R s m args below meth c0 H locs cells slots Qf ls hG hC hL hP h1 h2 h3 h4 hQ
  have hat := hP.at ha.1 ha.2.1
  rw [zE_ref ha.2.2 h0 (by omega)] at hat
  obtain ⟨ty, ht, hr⟩ := zT_at (w := w) h6
  have hlt : i.toNatClampNeg < (μ.2.1 a).2 := Nat.not_le.mp fun q => hin (Or.inr q)
  refine W.aald (v := zva w v) (ty := ty) hC.1 hC.2.1 (cell := vp_cell (zcA w j) ((μ.2.1 a).2, .inr (.inr (.inr (.inr (fun k => (zrr w μ a k).map (zad w))))))) hat (((zKs hG hC.fr).2 j _ ht).1 _ (fun k => va_rf ((zrr w μ a k).map (zad w)))) (by rw [hr]; simp; omega) (fun q => by cases q) (by show ¬ (i < 0 ∨ (arrV _ _ _).slots.size ≤ _); rw [arrV_size]; exact hin) (by show (arrV _ _ _).slots[_]? = _; rw [arrV_read _ _ hlt, hv]) rfl rfl hd ?_
  exact kk p l e R s m args below meth c0 H locs cells slots Qf ls hG hC hL hP h1 h2 h3 h4 hQ
theorem ev_aaldR {a j b : Nat} {i : Int32} (hd : decode y.2.1 pc = .ok (.aaload, 1)) (ha : zHas μ.1 μ.2.1 a j) (h0 : 0 < j) (h6 : j < 6) (hin : vp_in i (μ.2.1 a).2) (hv : zrr w μ a i.toNatClampNeg = some b)
    (kk : EV w d kc ks y (pc + 1) L (.ref b :: st) μ Q) : EV w d kc ks y pc L (.int i :: .ref a :: st) μ Q := ev_aald hd ha h0 h6 hin (by rw [hv]; rfl) kk
theorem ev_aaldN {a j : Nat} {i : Int32} (hd : decode y.2.1 pc = .ok (.aaload, 1)) (ha : zHas μ.1 μ.2.1 a j) (h0 : 0 < j) (h6 : j < 6) (hin : vp_in i (μ.2.1 a).2) (hv : zrr w μ a i.toNatClampNeg = none)
    (kk : EV w d kc ks y (pc + 1) L (.null :: st) μ Q) : EV w d kc ks y pc L (.int i :: .ref a :: st) μ Q := ev_aald hd ha h0 h6 hin (by rw [hv]; rfl) kk
theorem ev_alen {a j : Nat} {x : Int32} (hd : decode y.2.1 pc = .ok (.arraylength, 1)) (ha : zHas μ.1 μ.2.1 a j) (h6 : j < 6) (hv : Int32.ofNat (μ.2.1 a).2 = x)
    (kk : EV w d kc ks y (pc + 1) L (.int x :: st) μ Q) : EV w d kc ks y pc L (.ref a :: st) μ Q := by
  intro p l e R s m args below meth c0 H locs cells slots Qf ls hG hC hL hP h1 h2 h3 h4 hQ
  have he := zWs_at w (μ := μ) ha.1 ha.2.1
  obtain ⟨ty, ht, -⟩ := zT_at (w := w) h6
  by_cases h0 : j = 0
  · subst h0
    rw [zE_int ha.2.2] at he
    exact va_alen (D := zD w) hC.1 hC.2.1 (zKs hG hC.fr) (hP.p ha.2.1) (zix a) 0 he ht hv hd (kk p l e R s m args below meth c0 H locs cells slots Qf ls hG hC hL hP h1 h2 h3 h4 hQ)
  · rw [zE_ref ha.2.2 (by omega) (by omega)] at he
    exact va_alen (D := zD w) hC.1 hC.2.1 (zKs hG hC.fr) (hP.p ha.2.1) (zix a) j he ht hv hd (kk p l e R s m args below meth c0 H locs cells slots Qf ls hG hC hL hP h1 h2 h3 h4 hQ)
/-- null into a row of references -/
theorem ev_aastN {a j : Nat} {i : Int32} (hd : decode y.2.1 pc = .ok (.aastore, 1)) (ha : zHas μ.1 μ.2.1 a j) (h0 : 1 < j) (h6 : j < 6) (hs : ∀ k, zst w a k = none) (hin : vp_in i (μ.2.1 a).2)
    (kk : EV w d kc ks y (pc + 1) L st (zR μ a i.toNatClampNeg none) Q) : EV w d kc ks y pc L (.null :: .int i :: .ref a :: st) μ Q := by
  intro p l e R s m args below meth c0 H locs cells slots Qf ls hG hC hL hP h1 h2 h3 h4 hQ
  have hat := hP.at ha.1 ha.2.1
  rw [zE_ref ha.2.2 (by omega) (by omega)] at hat
  have hC' : ∃ C : String, (zT w)[j]? = some (zcA w j, .object C) := by
    match j, h0, h6 with
    | 2, _, _ => exact ⟨_, rfl⟩
    | 3, _, _ => exact ⟨_, rfl⟩
    | 4, _, _ => exact ⟨_, rfl⟩
    | 5, _, _ => exact ⟨_, rfl⟩
  obtain ⟨C, ht⟩ := hC'
  refine va_WaastN (C := C) hC.1 hC.2.1 (cell := vp_cell (zcA w j) ((μ.2.1 a).2, .inr (.inr (.inr (.inr (fun k => (zrr w μ a k).map (zad w))))))) hat (((zKs hG hC.fr).2 j _ ht).1 _ (fun k => va_rf ((zrr w μ a k).map (zad w)))) (fun h => by cases h) (by show ¬ (i < 0 ∨ (arrV _ _ _).slots.size ≤ _); rw [arrV_size]; exact hin) rfl rfl hd fun H1 x1 x2 x3 => ?_
  refine kk p l e R s m args below meth c0 H1 _ cells slots Qf ls hG hC hL (hP.put (μ' := zR μ a i.toNatClampNeg none) ha.1 ha.2.1 rfl (fun b hb => zE_zR hb) ?_ x2 x3) h1 h2 h3 h4 hQ
  rw [zE_ref (j := j) (show (zk (zR μ a i.toNatClampNeg none) a).1 = j from ha.2.2) (by omega) (by omega)]
  show H1[zad w a]? = some (vp_cell _ _)
  rw [x1, vp_cell_q, vp_cell_q, arrV_store]
  show some (arrV _ (μ.2.1 a).2 _) = some (arrV _ (μ.2.1 a).2 _)
  congr 2
  funext q
  unfold zrr
  rw [zr_zR, hs]
  by_cases hq : q = i.toNatClampNeg
  · subst hq
    simp [updV, va_up, va_rf]
  · simp [updV, va_up, hq, hs]
/-! rows of bytes, rows of longs -/
theorem ev_bald2 {a : Nat} {i x : Int32} (hd : decode y.2.1 pc = .ok (.baload, 1)) (ha : zHas μ.1 μ.2.1 a 12) (hin : vp_in i (μ.2.1 a).2) (hv : zi μ a i.toNatClampNeg = x)
    (kk : EV w d kc ks y (pc + 1) L (.int x :: st) μ Q) : EV w d kc ks y pc L (.int i :: .ref a :: st) μ Q := by
  intro p l e R s m args below meth c0 H locs cells slots Qf ls hG hC hL hP h1 h2 h3 h4 hQ
  have he := zWs_at w (μ := μ) ha.1 ha.2.1
  rw [zE_byt ha.2.2] at he
  refine va_bald (D := zD w) hC.1 hC.2.1 (zKs hG hC.fr) (hP.p ha.2.1) (zix a) 6 he rfl hin hd ?_
  rw [hv]
  exact kk p l e R s m args below meth c0 H locs cells slots Qf ls hG hC hL hP h1 h2 h3 h4 hQ
theorem ev_bast {a : Nat} {i x v : Int32} (hd : decode y.2.1 pc = .ok (.bastore, 1)) (ha : zHas μ.1 μ.2.1 a 12) (hin : vp_in i (μ.2.1 a).2) (hv : x.toInt8.toInt32 = v)
    (kk : EV w d kc ks y (pc + 1) L st (zI μ a i.toNatClampNeg v) Q) : EV w d kc ks y pc L (.int x :: .int i :: .ref a :: st) μ Q := by
  subst hv
  intro p l e R s m args below meth c0 H locs cells slots Qf ls hG hC hL hP h1 h2 h3 h4 hQ
  have hat := hP.at ha.1 ha.2.1
  rw [zE_byt ha.2.2] at hat
  refine W.bast hC.1 hC.2.1 (a := zad w a) (cell := vp_cell (zcA w 6) ((μ.2.1 a).2, .inl (zi μ a))) hat (((zKs hG hC.fr).2 6 _ rfl).1 _ (fun j => .int (zi μ a j))) (fun q => by cases q) (by show ¬ (i < 0 ∨ (arrV _ _ _).slots.size ≤ _); rw [arrV_size]; exact hin) rfl rfl hd fun H1 x1 x2 x3 => ?_
  refine kk p l e R s m args below meth c0 H1 _ cells slots Qf ls hG hC hL (hP.put (μ' := zI μ a i.toNatClampNeg x.toInt8.toInt32) ha.1 ha.2.1 rfl (fun b hb => zE_zA hb) ?_ x2 x3) h1 h2 h3 h4 hQ
  rw [zE_byt (show (zk (zI μ a i.toNatClampNeg x.toInt8.toInt32) a).1 = 12 from ha.2.2)]
  show H1[zad w a]? = some (vp_cell _ _)
  rw [x1]
  unfold zI
  rw [zi_zA, vp_cell_i, vp_cell_i, arrV_store]
  show some (arrV _ (μ.2.1 a).2 _) = some (arrV _ (μ.2.1 a).2 _)
  congr 2
  funext q
  by_cases hq : q = i.toNatClampNeg
  · subst hq
    simp [updV, upd, narrow]
  · simp [updV, upd, hq]
theorem ev_alenB {a : Nat} {x : Int32} (hd : decode y.2.1 pc = .ok (.arraylength, 1)) (ha : zHas μ.1 μ.2.1 a 12) (hv : Int32.ofNat (μ.2.1 a).2 = x)
    (kk : EV w d kc ks y (pc + 1) L (.int x :: st) μ Q) : EV w d kc ks y pc L (.ref a :: st) μ Q := by
  intro p l e R s m args below meth c0 H locs cells slots Qf ls hG hC hL hP h1 h2 h3 h4 hQ
  have he := zWs_at w (μ := μ) ha.1 ha.2.1
  rw [zE_byt ha.2.2] at he
  exact va_alen (D := zD w) hC.1 hC.2.1 (zKs hG hC.fr) (hP.p ha.2.1) (zix a) 6 he rfl hv hd (kk p l e R s m args below meth c0 H locs cells slots Qf ls hG hC hL hP h1 h2 h3 h4 hQ)
theorem ev_lald {a : Nat} {i : Int32} {x : Int64} (hd : decode y.2.1 pc = .ok (.laload, 1)) (ha : zHas μ.1 μ.2.1 a 14) (hin : vp_in i (μ.2.1 a).2) (hv : zlg w (zi μ a) i.toNatClampNeg = x)
    (kk : EV w d kc ks y (pc + 1) L (.long x :: st) μ Q) : EV w d kc ks y pc L (.int i :: .ref a :: st) μ Q := by
  intro p l e R s m args below meth c0 H locs cells slots Qf ls hG hC hL hP h1 h2 h3 h4 hQ
  have he := zWs_at w (μ := μ) ha.1 ha.2.1
  rw [zE_lng ha.2.2] at he
  refine va_lald (D := zD w) hC.1 hC.2.1 (zKs hG hC.fr) (hP.p ha.2.1) (zix a) 7 he rfl hin hd ?_
  rw [hv]
  exact kk p l e R s m args below meth c0 H locs cells slots Qf ls hG hC hL hP h1 h2 h3 h4 hQ
def zuL (h : Nat → Int64) (k : Nat) (x : Int64) : Nat → Int64 := fun j => if j = k then x else h j
/-- a memory whose row a holds the longs h -/
def zHm (μ : zM) (a : Nat) (h : Nat → Int64) : zM := zA μ a (zpr h)
theorem zHm_i {μ : zM} {a : Nat} {h : Nat → Int64} : zi (zHm μ a h) a = zpr h := by
  unfold zHm
  rw [zi_zA]
theorem zHm_n {μ : zM} {a : Nat} {h : Nat → Int64} : zn (zHm μ a h) = zn μ := rfl
theorem zHm_k {μ : zM} {a b : Nat} {h : Nat → Int64} : zk (zHm μ a h) b = zk μ b := rfl
theorem zHm_E {w : zW} {μ : zM} {a b : Nat} {h : Nat → Int64} (hb : b ≠ a) : zE w (zHm μ a h) b = zE w μ b := zE_zA hb
theorem ev_lastH {a : Nat} {i : Int32} {x : Int64} {h : Nat → Int64} (hw : zhm w = none) (hd : decode y.2.1 pc = .ok (.lastore, 1)) (ha : zHas μ.1 μ.2.1 a 14) (hin : vp_in i (μ.2.1 a).2)
    (kk : EV w d kc ks y (pc + 1) L st (zHm μ a (zuL h i.toNatClampNeg x)) Q) : EV w d kc ks y pc L (.long x :: .int i :: .ref a :: st) (zHm μ a h) Q := by
  intro p l e R s m args below meth c0 H locs cells slots Qf ls hG hC hL hP h1 h2 h3 h4 hQ
  have hat := hP.at ha.1 (by rw [zHm_n]; exact ha.2.1)
  rw [zE_lng (by rw [zHm_k]; exact ha.2.2), zHm_i, zlg_pr hw, zHm_k] at hat
  refine W.last hC.1 hC.2.1 (a := zad w a) (cell := vp_cell (zcA w 7) ((μ.2.1 a).2, .inr (.inl h))) hat (((zKs hG hC.fr).2 7 _ rfl).1 _ (fun j => .long (h j))) (fun q => by cases q) (by show ¬ (i < 0 ∨ (arrV _ _ _).slots.size ≤ _); rw [arrV_size]; exact hin) rfl rfl hd fun H1 x1 x2 x3 => ?_
  refine kk p l e R s m args below meth c0 H1 _ cells slots Qf ls hG hC hL (hP.put (μ' := zHm μ a (zuL h i.toNatClampNeg x)) ha.1 (by rw [zHm_n]; exact ha.2.1) (by rw [zHm_n, zHm_n]) (fun b hb => by rw [zHm_E hb, zHm_E hb]) ?_ x2 x3) h1 h2 h3 h4 hQ
  rw [zE_lng (by rw [zHm_k]; exact ha.2.2), zHm_i, zlg_pr hw, zHm_k]
  show H1[zad w a]? = some (vp_cell _ _)
  rw [x1, vp_cell_l, vp_cell_l, arrV_store]
  show some (arrV _ (μ.2.1 a).2 _) = some (arrV _ (μ.2.1 a).2 _)
  congr 2
  funext q
  by_cases hq : q = i.toNatClampNeg
  · subst hq
    simp [updV, zuL]
  · simp [updV, zuL, hq]
theorem ev_laldH {a : Nat} {i : Int32} {x : Int64} {h : Nat → Int64} (hw : zhm w = none) (hd : decode y.2.1 pc = .ok (.laload, 1)) (ha : zHas μ.1 μ.2.1 a 14) (hin : vp_in i (μ.2.1 a).2) (hv : h i.toNatClampNeg = x)
    (kk : EV w d kc ks y (pc + 1) L (.long x :: st) (zHm μ a h) Q) : EV w d kc ks y pc L (.int i :: .ref a :: st) (zHm μ a h) Q :=
  ev_lald hd ha hin (by rw [zHm_i, zlg_pr hw, hv]) kk
/-- the row is never written again: the world holds it -/
theorem ev_laldW {a : Nat} {i : Int32} {x : Int64} {h : Nat → Int64} (hw : zhm w = some h) (hd : decode y.2.1 pc = .ok (.laload, 1)) (ha : zHas μ.1 μ.2.1 a 14) (hin : vp_in i (μ.2.1 a).2) (hv : h i.toNatClampNeg = x)
    (kk : EV w d kc ks y (pc + 1) L (.long x :: st) μ Q) : EV w d kc ks y pc L (.int i :: .ref a :: st) μ Q :=
  ev_lald hd ha hin (show zlg w (zi μ a) i.toNatClampNeg = x from (congrFun (zlg_w hw (zi μ a)) i.toNatClampNeg).trans hv) kk
end EVC
end
section
/-! a method's EV is its contract; calls -/
def zfa (As : List Value) : List (Option Value) := As.flatMap (fun v => if v.category = 2 then [some v, none] else [some v])
def zL0 (As : List Value) (n : Nat) : List (Option Value) := zfa As ++ List.replicate (n - (zfa As).length) none
theorem zfa_args (w : zW) : ∀ (As : List Value) (i j : Nat) (v : Value), (zfa As)[j]? = some (some v) → (i + j, zva w v) ∈ lv_args i (As.map (zva w))
  | [], i, j, v, h => by simp [zfa] at h
  | u :: As, i, j, v, h => by
    show _ ∈ (i, zva w u) :: lv_args (if (zva w u).category = 2 then i + 2 else i + 1) (As.map (zva w))
    rw [zva_cat]
    have e : zfa (u :: As) = (if u.category = 2 then [some u, none] else [some u]) ++ zfa As := rfl
    rw [e] at h
    by_cases hc : u.category = 2
    · rw [if_pos hc] at h
      rw [if_pos hc]
      match j, h with
      | 0, h =>
        simp at h
        subst h
        exact List.mem_cons_self
      | 1, h => simp at h
      | j + 2, h =>
        have := zfa_args w As (i + 2) j v (by simpa using h)
        rw [show i + (j + 2) = i + 2 + j by omega]
        exact List.mem_cons_of_mem _ this
    · rw [if_neg hc] at h
      rw [if_neg hc]
      match j, h with
      | 0, h =>
        simp at h
        subst h
        exact List.mem_cons_self
      | j + 1, h =>
        have := zfa_args w As (i + 1) j v (by simpa using h)
        rw [show i + (j + 1) = i + 1 + j by omega]
        exact List.mem_cons_of_mem _ this
theorem zfa_len (w : zW) : ∀ (As : List Value), (lg_sl (As.map (zva w))).length = (zfa As).length
  | [] => rfl
  | u :: As => by
    have e1 : lg_sl ((u :: As).map (zva w)) = (if (zva w u).category = 2 then [.val (zva w u), .second] else [.val (zva w u)]) ++ lg_sl (As.map (zva w)) := rfl
    have e2 : zfa (u :: As) = (if u.category = 2 then [some u, none] else [some u]) ++ zfa As := rfl
    rw [e1, e2, List.length_append, List.length_append, zfa_len w As, zva_cat]
    by_cases h : u.category = 2
    · rw [if_pos h, if_pos h]
      rfl
    · rw [if_neg h, if_neg h]
      rfl
theorem zL_entry (w : zW) {As : List Value} {n : Nat} (h : (zfa As).length ≤ n) : zL w n ((lg_sl (As.map (zva w)) ++ List.replicate (n - (lg_sl (As.map (zva w))).length) Slot.unset).toArray) (zL0 As n) := by
  refine zL_sub (lv_entry (As.map (zva w)) (by rw [zfa_len]; exact h)) fun j v hj => ?_
  unfold zL0 at hj
  by_cases hl : j < (zfa As).length
  · rw [List.getElem?_append_left hl] at hj
    have := zfa_args w As 0 j v hj
    rwa [Nat.zero_add] at this
  · rw [List.getElem?_append_right (by omega)] at hj
    have := List.mem_of_getElem? hj
    rw [List.mem_replicate] at this
    cases this.2
def zPc (w : zW) (As : List Value) (μ : zM) : Array Value → State → Prop := fun a U => a = (As.map (zva w)).toArray ∧ zFr w U ∧ zNm w μ U.heap
def zQc (w : zW) (Q : Option Value → zM → Prop) : Array Value → State → Outcome → State → Prop := fun _ st oc t => (∃ (v : Option Value) (μ' : zM), oc = .returned (v.map (zva w)) ∧ Q v μ' ∧ zNm w μ' t.heap) ∧ va_F (zAq w) st t
def zrm (d kc ks : Nat) : Room := { frames := d, cells := kc, slots := ks, locals := 64 * d }
def zws (y : zY) : List Cond := Cond.code y.1 y.2.1 y.2.2.1 y.2.2.2 :: zGT
theorem zFr.alike {w : zW} {s U : State} (h : zFr w s) (hv : U.vm = s.vm) (hh : U.heap = s.heap) : zFr w U := by
  obtain ⟨h1, h2, h3, h4, h5⟩ := h
  have same : ∀ v : Cond, v.onTables = true → va_Nw v s → va_Nw v U := fun v ho hz => va_Nw.same ho hv.symm hz
  refine ⟨by rw [hv]; exact h1, by rw [hh]; exact h2, fun q hq => by rw [hh]; exact h3 q hq, fun i hi => vk_R.same hv (h4 i hi), ?_⟩
  intro v hm
  have hz := h5 v hm
  simp only [zNw, List.mem_cons, List.not_mem_nil, or_false] at hm
  rcases hm with rfl | rfl | rfl | rfl | rfl | rfl | rfl | rfl <;> exact same _ rfl hz
theorem zPc.blind (w : zW) (As : List Value) (μ : zM) : FrameBlind (zPc w As μ) := by
  intro a U g mk h
  obtain ⟨h1, h2, h3⟩ := h
  exact ⟨h1, h2.alike rfl rfl, h3⟩
theorem zFr.warm {w : zW} {s U : State} {μ : zM} {locs : List Loc} (h : zFr w s) (hP : zRp w s μ U.heap locs) (hW : s.WarmedH U.vm) : zFr w U := by
  obtain ⟨h1, h2, h3, h4, h5⟩ := h
  refine ⟨h1.trans hW.alike, Nat.le_trans h2 hP.2.1, fun q hq => ?_, fun i hi => vk_R.warm hW (h4 i hi), fun v hm => ?_⟩
  rotate_left
  · have hz := h5 v hm
    simp only [zNw, List.mem_cons, List.not_mem_nil, or_false] at hm
    rcases hm with rfl | rfl | rfl | rfl | rfl | rfl | rfl | rfl
    · exact va_Nw.warmC hW hz
    · exact va_Nw.warmC hW hz
    · exact va_Nw.warmC hW hz
    · exact va_Nw.warmC hW hz
    · exact va_Nw.warmC hW hz
    · exact va_Nw.warmC hW hz
    · exact va_Nw.warmM hW hz
    · exact va_Nw.warmM hW hz
  rw [hP.2.2.1 q (Nat.lt_of_lt_of_le hq h2) (fun z => absurd z (Nat.not_le.mpr hq))]
  exact h3 q hq
theorem zofW {l : Launch} {y : MethodName} {ws ws' : List Cond} {rm : Room} {Pc : Array Value → State → Prop} {Qc : Array Value → State → Outcome → State → Prop} {mc ms : Nat} {free : Addr → Prop} {cc : ByteArray} {maxL : Nat} {ret : Option FieldType}
    (hy : plainFor y = true) (hw : ws = Cond.code y cc maxL ret :: ws')
    (body : ∀ p e s m args below meth c s₁, BodyLoose p l y (headSpec ws rm) cc maxL ret e s m args below meth c s₁ → c.maxLocals = maxL → Pc args s →
      W p l e (headSpec ws rm).room s m args below meth c s.heap [] 0 0 (MQ below Qc args s mc ms free) (entryFrame m args maxL)) : Met l y ws rm Pc Qc mc ms free := by
  refine MetFree.of_bodySF (code := cc) (maxLocals := maxL) (ret := ret) hy ?_ ?_
  · intro args s m h hn
    obtain ⟨meth, c, h1, h2, h3, h4, h5, h6, -, -⟩ := Cond.code_spec hn (atoms_spec (ws := ws) h _ (by rw [hw]; exact List.mem_cons_self))
    exact ⟨meth, c, h1, h2, h3, h4, h5, h6⟩
  · intro p e s m args below meth c s₁ B hml hP _
    have hh0 : s₁.heap = s.heap := by rw [B.state]; rfl
    obtain ⟨t, a1, o, b1, b2, b3⟩ := body p e s m args below meth c s₁ B hml hP s₁ hh0 (Stand.of_body B)
    exact ⟨t, o, a1, b1, b2, ⟨b3.1, b3.2⟩⟩
theorem zmet {w : zW} {d kc ks : Nat} {y : zY} {As : List Value} {L0 : List (Option Value)} {μ : zM} {Q : Option Value → zM → Prop} (l : Launch) (hG : zGF w) (hy : plainFor y.1 = true) (hl0 : zL0 As y.2.2.1 = L0) (hlen : (zfa As).length ≤ y.2.2.1)
    (h : EV w d kc ks y 0 L0 [] μ Q) : Met l y.1 (zws y) (zrm d kc ks) (zPc w As μ) (zQc w Q) kc ks (zAq w) := by
  subst hl0
  refine zofW (cc := y.2.1) (maxL := y.2.2.1) (ret := y.2.2.2) hy rfl ?_
  intro p e s m args below meth c s₁ B hml hv
  obtain ⟨rfl, hF, hN⟩ := hv
  have hts := atoms_spec (ws := zws y) B.pre
  have hC : zCtx w y p s m ((As.map (zva w)).toArray) meth c := ⟨B.exec, B.bytes, hml, findClass_of_methodNamed B.named, fun v hv => hts v (List.mem_cons_of_mem _ hv), B.returns, B.notSynchronized, (name_of_methodNamed B.named B.method).1, hF⟩
  rw [lg_entry_eq]
  refine h p l e (headSpec (zws y) (zrm d kc ks)).room s m _ below meth c s.heap [] 0 0 _ _ hG hC (zL_entry w hlen) ⟨hN, va_S.rf⟩ (Nat.le_refl _) (Nat.le_refl _) (by rw [Nat.zero_add]; exact Nat.le_refl _) (by rw [Nat.zero_add]; exact Nat.le_refl _) ?_
  intro v μ' H' locs' cells' slots' pc' ls' hQ hR hc hs hret
  rw [Nat.zero_add] at hc hs
  refine W.widen hc hs ?_
  have fin : ∀ t : State, t.heap = H' → zQc w Q ((As.map (zva w)).toArray) s (.returned (v.map (zva w))) t := fun t ht => ⟨⟨v, μ', rfl, hQ, by rw [ht]; exact hR.1⟩, hR.2.F ht⟩
  rcases hret with ⟨x, rfl, hd, ty, ht, hn2⟩ | ⟨x, rfl, hd, ht⟩ | ⟨r, rfl, hr, hd, rt, ht, hrt⟩ | ⟨rfl, hd, ht⟩
  · exact W.zret hC.1 hC.2.1 (hC.2.2.2.2.2.1.trans ht) hn2 (fun t z _ => fin t z) hR.2.2.2 hd hC.2.2.2.2.2.2.1
  · exact W.lret hC.1 hC.2.1 (hC.2.2.2.2.2.1.trans ht) (fun t z _ => fin t z) hR.2.2.2 hd hC.2.2.2.2.2.2.1
  · have hv2 : zva w r = .null ∨ ∃ a, zva w r = .ref a := by
      rcases hr with rfl | ⟨a, rfl⟩
      · exact Or.inl rfl
      · exact Or.inr ⟨_, rfl⟩
    exact W.aret hC.1 hC.2.1 (hC.2.2.2.2.2.1.trans ht) hrt hv2 (fun t z _ => fin t z) hR.2.2.2 hd hC.2.2.2.2.2.2.1
  · exact W.vret hC.1 hC.2.1 (hC.2.2.2.2.2.1.trans ht) (fun t z _ => fin t z) hR.2.2.2 hd hC.2.2.2.2.2.2.1
section EVM
variable {w : zW} {d kc ks : Nat} {y : zY} {pc : Nat} {L : List (Option Value)} {st : List Value} {μ : zM} {Q Q' : Option Value → zM → Prop}
theorem zmap_rest (w : zW) (v : Option Value) (rest : List Value) : (v.map (zva w)).toList ++ rest.map (zva w) = (v.toList ++ rest).map (zva w) := by cases v <;> rfl
theorem ev_run {k1 z1 k2 z2 : Nat} {rest : List Value} {Q1 : Option Value → zM → Prop}
    (Hrun : ∀ (p : Program) (l : Launch) (e : Env) (R : Room) (s : State) (m : MethodId) (args : Array Value) (below : List Frame) (meth : Method) (c : Code) (H : Heap) (locs : List Loc) (cells slots : Nat) (ls : Array Slot),
      zGF w → zCtx w y p s m args meth c → zL w y.2.2.1 ls L → zRp w s μ H locs → d ≤ R.frames → 64 * d ≤ R.locals → cells + k1 ≤ R.cells → slots + z1 ≤ R.slots →
      ∃ a', va_Run p l e R s m args below meth c H locs cells slots k1 z1 (F0 m pc ls (st.map (zva w))) (rest.map (zva w)) (zQc w Q1 a') (zAq w))
    (cont : ∀ v μ', Q1 v μ' → EV w d k2 z2 y (pc + 3) L (v.toList ++ rest) μ' Q) : EV w d (k1 + k2) (z1 + z2) y pc L st μ Q := by
  intro p l e R s m args below meth c H locs cells slots Qf ls hG hC hL hP h1 h2 h3 h4 hQ T hT X
  obtain ⟨a', hr⟩ := Hrun p l e R s m args below meth c H locs cells slots ls hG hC hL hP h1 h2 (by omega) (by omega)
  obtain ⟨v0, st₀, t, T', L', h0, X', hL', e1, e2, ⟨⟨v, μ', hv, q1, n1⟩, hF⟩, stp⟩ := hr T hT X
  have hv' : v0 = v.map (zva w) := by cases hv; rfl
  subst hv'
  have hRp : zRp w s μ' T'.heap (locs ++ L') := by
    refine ⟨by rw [e1]; exact n1, ⟨?_, fun q g1 g2 => ?_, fun q hq => ?_⟩⟩
    · rw [e1]
      exact Nat.le_trans hP.2.1 (by rw [← h0]; exact hF.1)
    · rw [e1, hF.2 q (by rw [h0]; exact Nat.lt_of_lt_of_le g1 hP.2.1) g2, h0]
      exact hP.2.2.1 q g1 g2
    · rcases List.mem_append.mp hq with h | h
      · exact hP.2.2.2 q h
      · exact hL' q h
  obtain ⟨t2, b1, b2⟩ := cont v μ' q1 p l e R s m args below meth c T'.heap (locs ++ L') (cells + k1) (slots + z1) Qf ls hG hC hL hRp h1 h2 (by omega) (by omega)
    (fun v μ' H' locs' cells' slots' pc' ls' q r a b ret => hQ v μ' H' locs' cells' slots' pc' ls' q r (by omega) (by omega) ret) T' rfl X'
  rw [← zmap_rest] at b1
  exact ⟨t2, stp t2 b1, b2⟩
/-- a method that may be called: its code is the tables' -/
def zMeth (y : zY) (n : Nat) : Prop := Cond.code y.1 y.2.1 y.2.2.1 y.2.2.2 ∈ zGT ∧ Cond.initialized y.1.cls ∈ zGT ∧ plainFor y.1 = true ∧ (y.1.cls ≠ "java/lang/invoke/MethodHandle" ∧ y.1.cls ≠ "java/lang/invoke/VarHandle") ∧ (parseMethodDescriptor y.1.desc).map (fun d => d.parameters.length) = some n ∧ y.2.2.1 ≤ 45
theorem zMeth.len {y : zY} {n : Nat} (h : zMeth y n) : ∀ sig, parseMethodDescriptor y.1.desc = some sig → n = sig.parameters.length := fun sig hs => by
  have h2 := h.2.2.2.2.1
  rw [hs] at h2
  exact (Option.some.inj h2).symm
theorem zws_good {y : zY} {n : Nat} (h : zMeth y n) : GoodIn zGT (zws y) := fun v hv => by
  rcases List.mem_cons.mp hv with e | e
  · rw [e]
    exact zGT_good _ h.1
  · exact zGT_good v e
theorem zws_pay {w : zW} {y y' : zY} {n : Nat} {p : Program} {s : State} {m : MethodId} {args : Array Value} {meth : Method} {c : Code} (h : zMeth y' n) (hC : zCtx w y p s m args meth c) : ∀ v ∈ zws y', ∀ (a' : Array Value) (U : State), s.WarmedH U.vm → v.before a' U = true :=
  fun v hv _ _ hW => word_at hW (zws_good h v hv).2 (hC.word (zws_good h v hv).1)
theorem zroom {d d' k1 z1 : Nat} {y' : zY} {n : Nat} {R : Room} (h : zMeth y' n) (hd : d' + 1 ≤ d) (h1 : d ≤ R.frames) (h2 : 64 * d ≤ R.locals) : (zrm d' k1 z1).frames + 1 ≤ R.frames ∧ 8 + (y'.2.2.1 + 11) + (zrm d' k1 z1).locals ≤ R.locals := by
  have := h.2.2.2.2.2
  show d' + 1 ≤ R.frames ∧ 8 + (y'.2.2.1 + 11) + 64 * d' ≤ R.locals
  omega
theorem zrest (w : zW) {m : MethodId} {ls : Array Slot} {st rest : List Value} (h : (rest.map fun v => v.category).sum ≤ 8) : 2 * (F0 m pc ls (st.map (zva w))).monitorRoom + ((rest.map (zva w)).map fun v => v.category).sum ≤ 8 := by
  have e : ((rest.map (zva w)).map fun v => v.category) = rest.map fun v => v.category := by
    rw [List.map_map]
    exact List.map_congr_left fun v _ => zva_cat w v
  rw [e]
  exact lv_room (m := m) (pc := pc) (ls := ls) (rest := st.map (zva w)) h
theorem zPc_of {w : zW} {y : zY} {p : Program} {s : State} {m : MethodId} {args : Array Value} {meth : Method} {c : Code} {H : Heap} {locs : List Loc} {As : List Value} (hC : zCtx w y p s m args meth c) (hP : zRp w s μ H locs) : ∀ U : State, U.heap = H → s.WarmedH U.vm → zPc w As μ (As.map (zva w)).toArray U := by
  intro U hU hW
  subst hU
  exact ⟨rfl, hC.fr.warm hP hW, hP.1⟩
/-- a static method, of any class -/
theorem ev_callS {k1 z1 k2 z2 d' idx n : Nat} {y' : zY} {As rest : List Value} {L0 : List (Option Value)} {Q1 : Option Value → zM → Prop} (hd : decode y.2.1 pc = .ok (.invokestatic idx, 3)) (hm : zMeth y' n) (hl : Cond.methodLink y.1.cls idx y'.1 ∈ zGT) (hs : Cond.static y'.1 ∈ zGT)
    (hst : st = As.reverse ++ rest) (hn : As.length = n) (hr : (rest.map fun v => v.category).sum ≤ 8) (hl0 : zL0 As y'.2.2.1 = L0) (hlen : (zfa As).length ≤ y'.2.2.1) (hdd : d' + 1 ≤ d)
    (h : EV w d' k1 z1 y' 0 L0 [] μ Q1) (cont : ∀ v μ', Q1 v μ' → EV w d k2 z2 y (pc + 3) L (v.toList ++ rest) μ' Q) : EV w d (k1 + k2) (z1 + z2) y pc L st μ Q := by
  refine ev_run (rest := rest) (fun p l e R s m args below meth c H locs cells slots ls hG hC hL hP h1 h2 h3 h4 => ⟨(As.map (zva w)).toArray, ?_⟩) cont
  have hts := hC.2.2.2.2.1
  have hcw : CallB R s args y.1.cls idx y'.1 y'.2.1 y'.2.2.1 y'.2.2.2 (zws y') (zrm d' k1 z1) k1 z1 n := ⟨rfl, rfl, (zroom (k1 := k1) (z1 := z1) hm hdd h1 h2).1, (zroom (k1 := k1) (z1 := z1) hm hdd h1 h2).2, zws_pay hm hC, List.mem_cons_self, hC.word hm.1, hC.word hm.2.1, hm.2.2.2.1, hm.len, hC.word hl⟩
  exact va_runS (As := As.map (zva w)) ⟨hC.1, hC.2.1, hC.2.2.1, hC.2.2.2.1, hts⟩ (zmet l hG hm.2.2.1 hl0 hlen h) ⟨hcw, hC.word hs⟩ ⟨zPc.blind w As μ, zPc_of hC hP⟩ rfl (by rw [List.length_map]; exact hn) hL.1 (by show st.map (zva w) = _; rw [hst, List.map_append, List.map_reverse]) (zrest w hr) hd ⟨h3, h4⟩
/-- the receiver's class is C -/
def zRc (w : zW) (μ : zM) (b : Nat) (C : String) : Prop := ∃ c : Nat, c < 14 ∧ C = zRf c ∧ zHas μ.1 μ.2.1 b (16 + c)
theorem zRc.cell {w : zW} {μ : zM} {b : Nat} {C : String} {s : State} {H : Heap} {locs : List Loc} (h : zRc w μ b C) (hG : zGF w) (hF : zFr w s) (hP : zRp w s μ H locs) : ∃ cellB : Cell, H[zad w b]? = some cellB ∧ cellB.vm.isStatics = false ∧ s.vm.findClass C = some cellB.cls := by
  obtain ⟨c, hc, rfl, ha⟩ := h
  have he := zWs_at w (μ := μ) ha.1 ha.2.1
  rw [zE_obj ha.2.2] at he
  exact va_recv (zKs hG hF) (hP.p ha.2.1) (zcl_at c hc) he
/-- the same, said of the machine: old objects, too -/
def zRcv (w : zW) (μ : zM) (b : Nat) (C : String) : Prop := ∀ (s : State) (H : Heap) (locs : List Loc), zGF w → zFr w s → zRp w s μ H locs → ∃ cellB : Cell, H[zad w b]? = some cellB ∧ cellB.vm.isStatics = false ∧ s.vm.findClass C = some cellB.cls
theorem zRc.rcv {w : zW} {μ : zM} {b : Nat} {C : String} (h : zRc w μ b C) : zRcv w μ b C := fun _ _ _ hG hF hP => h.cell hG hF hP
/-- a method of the receiver's own class -/
theorem ev_callV {k1 z1 k2 z2 d' idx n b : Nat} {y' : zY} {As rest : List Value} {L0 : List (Option Value)} {Q1 : Option Value → zM → Prop} (hd : decode y.2.1 pc = .ok (.invokevirtual idx, 3)) (hm : zMeth y' n) (hl : Cond.methodLink y.1.cls idx y'.1 ∈ zGT) (hi : Cond.instanceMethod y'.1 ∈ zGT) (hse : Cond.selects y'.1.cls y'.1 y'.1 ∈ zGT)
    (hb : zRcv w μ b y'.1.cls) (hst : st = As.reverse ++ .ref b :: rest) (hn : As.length = n) (hr : (rest.map fun v => v.category).sum ≤ 8) (hl0 : zL0 (.ref b :: As) y'.2.2.1 = L0) (hlen : (zfa (.ref b :: As)).length ≤ y'.2.2.1) (hdd : d' + 1 ≤ d)
    (h : EV w d' k1 z1 y' 0 L0 [] μ Q1) (cont : ∀ v μ', Q1 v μ' → EV w d k2 z2 y (pc + 3) L (v.toList ++ rest) μ' Q) : EV w d (k1 + k2) (z1 + z2) y pc L st μ Q := by
  refine ev_run (rest := rest) (fun p l e R s m args below meth c H locs cells slots ls hG hC hL hP h1 h2 h3 h4 => ⟨(Value.ref (zad w b) :: As.map (zva w)).toArray, ?_⟩) cont
  have hts := hC.2.2.2.2.1
  have hcw : CallB R s args y.1.cls idx y'.1 y'.2.1 y'.2.2.1 y'.2.2.2 (zws y') (zrm d' k1 z1) k1 z1 n := ⟨rfl, rfl, (zroom (k1 := k1) (z1 := z1) hm hdd h1 h2).1, (zroom (k1 := k1) (z1 := z1) hm hdd h1 h2).2, zws_pay hm hC, List.mem_cons_self, hC.word hm.1, hC.word hm.2.1, hm.2.2.2.1, hm.len, hC.word hl⟩
  exact va_runV (As := As.map (zva w)) (b := zad w b) (C := y'.1.cls) ⟨hC.1, hC.2.1, hC.2.2.1, hC.2.2.2.1, hts⟩ (zmet l hG hm.2.2.1 hl0 hlen h) ⟨hcw, hC.word hi, hC.word hse⟩ ⟨zPc.blind w (.ref b :: As) μ, hb s H locs hG hC.fr hP, zPc_of (As := .ref b :: As) hC hP⟩ rfl (by rw [List.length_map]; exact hn) hL.1 (by show st.map (zva w) = _; rw [hst, List.map_append, List.map_reverse]; rfl) (zrest w hr) hd ⟨h3, h4⟩
/-- a method chosen by the receiver's class C: x is named, y' runs -/
theorem ev_callU {k1 z1 k2 z2 d' idx n b m0 : Nat} {x : MethodName} {y' : zY} {C owner : String} {b0 : ByteArray} {r0 : Option FieldType} {As rest : List Value} {L0 : List (Option Value)} {Q1 : Option Value → zM → Prop} (hd : decode y.2.1 pc = .ok (.invokevirtual idx, 3)) (hm : zMeth y' n) (hl : Cond.methodLink y.1.cls idx x ∈ zGT) (hsm : Cond.sameMethod x.cls owner x.name x.desc ∈ zGT)
    (hio : Cond.instanceMethod ⟨owner, x.name, x.desc⟩ ∈ zGT) (hco : Cond.code ⟨owner, x.name, x.desc⟩ b0 m0 r0 ∈ zGT) (hse : Cond.selects C x y'.1 ∈ zGT) (hi : Cond.instanceMethod y'.1 ∈ zGT) (how : owner ≠ "java/lang/invoke/MethodHandle" ∧ owner ≠ "java/lang/invoke/VarHandle") (hxd : x.desc = y'.1.desc)
    (hb : zRcv w μ b C) (hst : st = As.reverse ++ .ref b :: rest) (hn : As.length = n) (hr : (rest.map fun v => v.category).sum ≤ 8) (hl0 : zL0 (.ref b :: As) y'.2.2.1 = L0) (hlen : (zfa (.ref b :: As)).length ≤ y'.2.2.1) (hdd : d' + 1 ≤ d)
    (h : EV w d' k1 z1 y' 0 L0 [] μ Q1) (cont : ∀ v μ', Q1 v μ' → EV w d k2 z2 y (pc + 3) L (v.toList ++ rest) μ' Q) : EV w d (k1 + k2) (z1 + z2) y pc L st μ Q := by
  refine ev_run (rest := rest) (fun p l e R s m args below meth c H locs cells slots ls hG hC hL hP h1 h2 h3 h4 => ⟨(Value.ref (zad w b) :: As.map (zva w)).toArray, ?_⟩) cont
  have hts := hC.2.2.2.2.1
  have hcw : va_CU R s args y.1.cls C owner idx x y'.1 y'.2.1 y'.2.2.1 y'.2.2.2 (zws y') (zrm d' k1 z1) k1 z1 n := ⟨⟨rfl, rfl, (zroom (k1 := k1) (z1 := z1) hm hdd h1 h2).1, (zroom (k1 := k1) (z1 := z1) hm hdd h1 h2).2, zws_pay hm hC, List.mem_cons_self⟩, hC.word hm.1, hC.word hm.2.1, how, by rw [hxd]; exact hm.len, hC.word hl, hC.word hsm, va_Decl.of (hC.word hio) (hC.word hco), hC.word hse, hC.word hi⟩
  exact va_runU (As := As.map (zva w)) (b := zad w b) ⟨hC.1, hC.2.1, hC.2.2.1, hC.2.2.2.1, hts⟩ (zmet l hG hm.2.2.1 hl0 hlen h) hcw ⟨zPc.blind w (.ref b :: As) μ, hb s H locs hG hC.fr hP, zPc_of (As := .ref b :: As) hC hP⟩ rfl (by rw [List.length_map]; exact hn) hL.1 (by show st.map (zva w) = _; rw [hst, List.map_append, List.map_reverse]; rfl) (zrest w hr) hd ⟨h3, h4⟩
/-- a constructor -/
theorem ev_callI {k1 z1 k2 z2 d' idx n b : Nat} {y' : zY} {As rest : List Value} {L0 : List (Option Value)} {Q1 : Option Value → zM → Prop} (hd : decode y.2.1 pc = .ok (.invokespecial idx, 3)) (hm : zMeth y' n) (hl : Cond.methodLink y.1.cls idx y'.1 ∈ zGT) (hi : Cond.instanceMethod y'.1 ∈ zGT) (hini : y'.1.name = "<init>") (hre : y'.2.2.2 = none)
    (hst : st = As.reverse ++ .ref b :: rest) (hn : As.length = n) (hr : (rest.map fun v => v.category).sum ≤ 8) (hl0 : zL0 (.ref b :: As) y'.2.2.1 = L0) (hlen : (zfa (.ref b :: As)).length ≤ y'.2.2.1) (hdd : d' + 1 ≤ d)
    (h : EV w d' k1 z1 y' 0 L0 [] μ Q1) (cont : ∀ v μ', Q1 v μ' → EV w d k2 z2 y (pc + 3) L (v.toList ++ rest) μ' Q) : EV w d (k1 + k2) (z1 + z2) y pc L st μ Q := by
  refine ev_run (rest := rest) (fun p l e R s m args below meth c H locs cells slots ls hG hC hL hP h1 h2 h3 h4 => ⟨(Value.ref (zad w b) :: As.map (zva w)).toArray, ?_⟩) cont
  have hts := hC.2.2.2.2.1
  have hcw : CallB R s args y.1.cls idx y'.1 y'.2.1 y'.2.2.1 none (zws y') (zrm d' k1 z1) k1 z1 n := ⟨rfl, rfl, (zroom (k1 := k1) (z1 := z1) hm hdd h1 h2).1, (zroom (k1 := k1) (z1 := z1) hm hdd h1 h2).2, zws_pay hm hC, by rw [← hre]; exact List.mem_cons_self, by rw [← hre]; exact hC.word hm.1, hC.word hm.2.1, hm.2.2.2.1, hm.len, hC.word hl⟩
  exact va_runI (As := As.map (zva w)) (b := zad w b) ⟨hC.1, hC.2.1, hC.2.2.1, hC.2.2.2.1, hts⟩ (zmet l hG hm.2.2.1 hl0 hlen h) ⟨hcw, hini, hC.word hi⟩ ⟨zPc.blind w (.ref b :: As) μ, zPc_of (As := .ref b :: As) hC hP⟩ rfl (by rw [List.length_map]; exact hn) hL.1 (by show st.map (zva w) = _; rw [hst, List.map_append, List.map_reverse]; rfl) (zrest w hr) hd ⟨h3, h4⟩
/-- super.f(..) -/
theorem ev_callP {k1 z1 k2 z2 d' idx n b : Nat} {y' : zY} {C : String} {As rest : List Value} {L0 : List (Option Value)} {Q1 : Option Value → zM → Prop} (hd : decode y.2.1 pc = .ok (.invokespecial idx, 3)) (hm : zMeth y' n) (hl : Cond.methodLink y.1.cls idx y'.1 ∈ zGT) (hsm : Cond.sameMethod y'.1.cls y'.1.cls y'.1.name y'.1.desc ∈ zGT) (hsu : Cond.superclass y.1.cls y'.1.cls ∈ zGT) (hi : Cond.instanceMethod y'.1 ∈ zGT) (hini : y'.1.name ≠ "<init>")
    (hb : zRc w μ b C) (hst : st = As.reverse ++ .ref b :: rest) (hn : As.length = n) (hr : (rest.map fun v => v.category).sum ≤ 8) (hl0 : zL0 (.ref b :: As) y'.2.2.1 = L0) (hlen : (zfa (.ref b :: As)).length ≤ y'.2.2.1) (hdd : d' + 1 ≤ d)
    (h : EV w d' k1 z1 y' 0 L0 [] μ Q1) (cont : ∀ v μ', Q1 v μ' → EV w d k2 z2 y (pc + 3) L (v.toList ++ rest) μ' Q) : EV w d (k1 + k2) (z1 + z2) y pc L st μ Q := by
  refine ev_run (rest := rest) (fun p l e R s m args below meth c H locs cells slots ls hG hC hL hP h1 h2 h3 h4 => ⟨(Value.ref (zad w b) :: As.map (zva w)).toArray, ?_⟩) cont
  have hts := hC.2.2.2.2.1
  have hcw : va_CS R s args y.1.cls idx y'.1 y'.2.1 y'.2.2.1 y'.2.2.2 (zws y') (zrm d' k1 z1) k1 z1 n := ⟨⟨rfl, rfl, (zroom (k1 := k1) (z1 := z1) hm hdd h1 h2).1, (zroom (k1 := k1) (z1 := z1) hm hdd h1 h2).2, zws_pay hm hC, List.mem_cons_self⟩, hC.word hl, hC.word hsm, hC.word hsu, hC.word hi, hC.word hm.2.1, hC.word hm.1, hini, hm.len⟩
  have hb2 := hb
  obtain ⟨c, hc, rfl, ha⟩ := hb2
  exact va_runSU (As := As.map (zva w)) (b := zad w b) (cC := (zD w).1 c) ((zKs hG hC.fr).1 c _ (zcl_at c hc)).2 ⟨hC.1, hC.2.1, hC.2.2.1, hC.2.2.2.1, hts⟩ (zmet l hG hm.2.2.1 hl0 hlen h) hcw ⟨zPc.blind w (.ref b :: As) μ, hb.cell hG hC.fr hP, zPc_of (As := .ref b :: As) hC hP⟩ rfl (by rw [List.length_map]; exact hn) hL.1 (by show st.map (zva w) = _; rw [hst, List.map_append, List.map_reverse]; rfl) (zrest w hr) hd ⟨h3, h4⟩
end EVM
end
section
/-! new cells; old arrays; texts; the machine's own functions -/
theorem zAO2.moved {u U : State} (hvm : u.vm.Alike U.vm) (h : zAO2 u) : zAO2 U := Jvm.Stand.arrayOver_alikeB hvm h
/-- a new row of ints with these numbers -/
def zNA (μ : zM) (N : Nat) (f : Nat → Int32) : zM := zA (zN μ (0, N)) (zn μ) f
theorem zk_zN {μ : zM} {kd : Nat × Nat} : zk (zN μ kd) (zn μ) = kd := if_pos rfl
theorem zk_zN_ne {μ : zM} {kd : Nat × Nat} {b : Nat} (h : b ≠ zn μ) : zk (zN μ kd) b = zk μ b := if_neg h
theorem zi_zN {μ : zM} {kd : Nat × Nat} : zi (zN μ kd) (zn μ) = fun _ => 0 := if_pos rfl
theorem zi_zN_ne {μ : zM} {kd : Nat × Nat} {b : Nat} (h : b ≠ zn μ) : zi (zN μ kd) b = zi μ b := if_neg h
theorem zr_zN {μ : zM} {kd : Nat × Nat} : zr (zN μ kd) (zn μ) = fun _ => none := if_pos rfl
theorem zr_zN_ne {μ : zM} {kd : Nat × Nat} {b : Nat} (h : b ≠ zn μ) : zr (zN μ kd) b = zr μ b := if_neg h
theorem zE_zN {w : zW} {μ : zM} {kd : Nat × Nat} {b : Nat} (h : b ≠ zn μ) : zE w (zN μ kd) b = zE w μ b := by
  have e1 : zi (zN μ kd) b = zi μ b := zi_zN_ne h
  have e2 : zk (zN μ kd) b = zk μ b := zk_zN_ne h
  have e3 : zr (zN μ kd) b = zr μ b := zr_zN_ne h
  unfold zE zv zrr
  rw [e1, e2, e3]
theorem zE_zNA {w : zW} {μ : zM} {N : Nat} {f : Nat → Int32} {b : Nat} (h : b ≠ zn μ) : zE w (zNA μ N f) b = zE w μ b := (zE_zA h).trans (zE_zN h)
theorem zE_zNA_new {w : zW} {μ : zM} {N : Nat} {f : Nat → Int32} : zE w (zNA μ N f) (zn μ) = .inl (zcA w 0, N, .inl f) := by
  have e : zk (zNA μ N f) (zn μ) = (0, N) := zk_zN (kd := (0, N))
  rw [zE_int (by rw [e]), e, show zi (zNA μ N f) (zn μ) = f from zi_zA]
theorem zcls_int {w : zW} {s : State} (hG : zGF w) (hF : zFr w s) {cA : ClassId} (h : s.vm.findClass ("[" ++ FieldType.int.toString) = some cA) : cA = zcA w 0 := by
  have h1 := ((zKs hG hF).2 0 _ rfl).2
  have h2 : s.vm.findClass ("[" ++ FieldType.int.toString) = some (zcA w 0) := h1
  exact Option.some.inj (h.symm.trans h2)
theorem zcls_byt {w : zW} {s : State} (hG : zGF w) (hF : zFr w s) {cA : ClassId} (h : s.vm.findClass ("[" ++ FieldType.byte.toString) = some cA) : cA = zcA w 6 := by
  have h1 := ((zKs hG hF).2 6 _ rfl).2
  have h2 : s.vm.findClass ("[" ++ FieldType.byte.toString) = some (zcA w 6) := h1
  exact Option.some.inj (h.symm.trans h2)
theorem zcls_lng {w : zW} {s : State} (hG : zGF w) (hF : zFr w s) {cA : ClassId} (h : s.vm.findClass ("[" ++ FieldType.long.toString) = some cA) : cA = zcA w 7 := by
  have h1 := ((zKs hG hF).2 7 _ rfl).2
  have h2 : s.vm.findClass ("[" ++ FieldType.long.toString) = some (zcA w 7) := h1
  exact Option.some.inj (h.symm.trans h2)
theorem zdef : ∀ c, c < 14 → ∀ k, k < zNf c → defaultValue (zty c k) = if zfl c k = true then Value.null else .int 0 := by decide +kernel
section ZCP
variable {p : Program} {l : Launch} {e : Env} {R : Room} {s : State} {m : MethodId} {args : Array Value} {below : List Frame} {meth : Method} {c : Code} {H : Heap} {locs : List Loc} {cells slots : Nat} {Q : State → Prop}
variable {pc : Nat} {ls : Array Slot} {rest : List Value} {D : va_G} {cl : List vw_C} {A : Nat → Prop} {a : Nat} {tys : List (ClassId × FieldType)} {ws : va_W} {H0 : Heap}
theorem zcopy_row {cc : ByteArray} (hexec : p.tables.exec = Jvm.exec) (hb : c.code = cc) (hml : c.maxLocals = ls.size) {own : String} {index : Nat} (hown : s.vm.findClass own = some m.cls) (hlink : (Cond.methodLink own index arraycopyName).before args s = true) (hnat : (Cond.native arraycopyName).before args s = true) (hstat : (Cond.static arraycopyName).before args s = true) (hini : (Cond.initialized "java/lang/System").before args s = true)
    (hK : va_K D cl tys s) (hP : va_P D cl ws H) (hD : va_D A ws) (hS : va_S A H0 H locs) (q0 q1 t0 t1 : Nat) {a0 : Nat} {c0 c1 : ClassId} {n0 n1 : Nat} {f g : Nat → Int32} {ty : FieldType} (ha0 : ws[q0]? = some (a0, .inl (c0, n0, .inl f))) (ha1 : ws[q1]? = some (a, .inl (c1, n1, .inl g))) (ht0 : tys[t0]? = some (c0, ty)) (ht1 : tys[t1]? = some (c1, ty)) (hprim : refKind ty = false)
    {sp dp n : Int32} (h1 : ¬ sp < 0) (h2 : ¬ dp < 0) (h3 : ¬ n < 0) (h4 : sp.toNatClampNeg + n.toNatClampNeg ≤ n0) (h5 : dp.toNatClampNeg + n.toNatClampNeg ≤ n1) (hfit : ∀ i, i < n.toNatClampNeg → fits ty (.int (f (sp.toNatClampNeg + i))) = true)
    (hframes : 1 ≤ R.frames) (hlocals : (rest.map fun v => v.category).sum + (nativeFrameWords "java/lang/System" "arraycopy" 5 + 11) ≤ R.locals) (hdg : decode cc pc = .ok (.invokestatic index, 3))
    (kk : ∀ (H1 : Heap) (locs1 : List Loc), H1.size = H.size → va_P D cl (ws.set q1 (a, .inl (c1, n1, .inl (va_cpy f g sp.toNatClampNeg dp.toNatClampNeg n.toNatClampNeg)))) H1 → va_D A (ws.set q1 (a, .inl (c1, n1, .inl (va_cpy f g sp.toNatClampNeg dp.toNatClampNeg n.toNatClampNeg)))) → va_S A H0 H1 locs1 → W p l e R s m args below meth c H1 locs1 cells slots Q (F0 m (pc + 3) ls rest)) : W p l e R s m args below meth c H locs cells slots Q (F0 m pc ls (.int n :: .int dp :: .ref a :: .int sp :: .ref a0 :: rest)) := by
  have nn : ∀ z : Int32, ¬ z < 0 → z.toInt = (z.toNatClampNeg : Int) := by
    intro z hz
    have hz0 : (0 : Int) ≤ z.toInt := by
      have := Int32.not_lt.mp hz
      simpa using Int32.le_iff_toInt_le.mp this
    show z.toInt = ((z.toInt.toNat : Nat) : Int)
    omega
  intro T hT X
  have hc0 : H[a0]? = some (vp_cell c0 (n0, .inl f)) := hP q0 _ ha0
  have hc1 : H[a]? = some (vp_cell c1 (n1, .inl g)) := hP q1 _ ha1
  obtain ⟨-, k0, hk0, cm0, hkk0⟩ := (hK.2 t0 _ ht0).1 n0 (fun j => .int (f j))
  obtain ⟨-, k1, hk1, cm1, hkk1⟩ := (hK.2 t1 _ ht1).1 n1 (fun j => .int (g j))
  obtain ⟨vm', X', step⟩ := X.arraycopy hexec hown hlink hnat hstat hini (src := a0) (dst := a) (cs := vp_cell c0 (n0, .inl f)) (cd := vp_cell c1 (n1, .inl g)) (srcPos := sp) (destPos := dp) (n := n) (by rw [hT]; exact hc0) (by rw [hT]; exact hc1)
    (fun _ h => by cases h) (fun _ h => by cases h) (fun h => by cases h) (fun h => by cases h) hk0 hk1 hkk0 hkk1 (by simp [hprim]) h1 h2 h3
    (by rw [nn sp h1, nn n h3]; show ¬ _ > ((arrV c0 n0 (fun j => .int (f j))).slots.size : Int); rw [arrV_size]; omega)
    (by rw [nn dp h2, nn n h3]; show ¬ _ > ((arrV c1 n1 (fun j => .int (g j))).slots.size : Int); rw [arrV_size]; omega)
    (fun vm₁ _ i hi => by
      have e : (vp_cell c0 (n0, .inl f)).slots.getD (sp.toNatClampNeg + i) .null = .int (f (sp.toNatClampNeg + i)) := by
        show (arrV c0 n0 (fun j => .int (f j))).slots.getD _ _ = _
        rw [Array.getD_eq_getD_getElem?, arrV_read _ _ (by omega)]
        rfl
      refine ⟨?_, ?_⟩
      · rw [e]
        exact hfit i hi
      · rw [e]
        exact trivial)
    (g := F0 m pc ls (.int n :: .int dp :: .ref a :: .int sp :: .ref a0 :: rest)) rfl (by rw [hml]) (rest := rest) rfl (by rw [hb]; exact hdg) hframes (by show 2 * 0 + _ + _ ≤ _; omega)
  have e1 : copied (vp_cell c0 (n0, .inl f)) (vp_cell c1 (n1, .inl g)) sp dp n = vp_cell c1 (n1, .inl (va_cpy f g sp.toNatClampNeg dp.toNatClampNeg n.toNatClampNeg)) := va_copied (fun z => .int z) c0 c1 f g h4
  rw [e1] at X' step
  have hl : a < H.size := (Array.getElem?_eq_some_iff.mp hc1).1
  have hheap : ((T.setVm vm').setCell a (vp_cell c1 (n1, .inl (va_cpy f g sp.toNatClampNeg dp.toNatClampNeg n.toNatClampNeg)))).heap = H.setIfInBounds a (vp_cell c1 (n1, .inl (va_cpy f g sp.toNatClampNeg dp.toNatClampNeg n.toNatClampNeg))) := by rw [← hT]; rfl
  have oq : ∀ q : Nat, q ≠ a → (H.setIfInBounds a (vp_cell c1 (n1, .inl (va_cpy f g sp.toNatClampNeg dp.toNatClampNeg n.toNatClampNeg))))[q]? = H[q]? := fun q hq => by simp [Array.getElem?_setIfInBounds, Ne.symm hq]
  obtain ⟨t, a1, b1⟩ := kk _ _ (by simp) (hP.set hD ha1 (show (H.setIfInBounds a _)[a]? = some _ by simp [Array.getElem?_setIfInBounds, hl]) oq) (hD.set ha1) ⟨by simp; exact hS.1, fun q g1 g2 => by
      rw [oq q (fun e => g2 (by rw [e]; exact hD.2 q1 _ ha1))]
      exact hS.2.1 q g1 g2, fun q hq => by
      rcases List.mem_append.mp hq with h | h
      · exact hS.2.2 q h
      · obtain ⟨z, -, hz⟩ := List.mem_map.mp h
        rw [← hz]
        exact hD.2 q1 _ ha1⟩ _ hheap X'
  exact ⟨t, step t a1, b1⟩
theorem zcopy_x {cc : ByteArray} (hexec : p.tables.exec = Jvm.exec) (hb : c.code = cc) (hml : c.maxLocals = ls.size) {own : String} {index : Nat} (hown : s.vm.findClass own = some m.cls) (hlink : (Cond.methodLink own index arraycopyName).before args s = true) (hnat : (Cond.native arraycopyName).before args s = true) (hstat : (Cond.static arraycopyName).before args s = true) (hini : (Cond.initialized "java/lang/System").before args s = true)
    (hK : va_K D cl tys s) (hP : va_P D cl ws H) (hD : va_D A ws) (hS : va_S A H0 H locs) (q1 t1 : Nat) {a0 : Nat} {cs : Cell} {c1 : ClassId} {n0 n1 : Nat} {f g : Nat → Int32} {ty : FieldType} (hc0 : H[a0]? = some cs) (harr : s.isArrayOf cs ty) (hkn : cs.vm ≠ .unknown) (hsz : n0 ≤ cs.slots.size) (hsl : ∀ j, j < n0 → cs.slots[j]? = some (.int (f j))) (ha1 : ws[q1]? = some (a, .inl (c1, n1, .inl g))) (ht1 : tys[t1]? = some (c1, ty)) (hprim : refKind ty = false)
    {sp dp n : Int32} (h1 : ¬ sp < 0) (h2 : ¬ dp < 0) (h3 : ¬ n < 0) (h4 : sp.toNatClampNeg + n.toNatClampNeg ≤ n0) (h5 : dp.toNatClampNeg + n.toNatClampNeg ≤ n1) (hfit : ∀ i, i < n.toNatClampNeg → fits ty (.int (f (sp.toNatClampNeg + i))) = true)
    (hframes : 1 ≤ R.frames) (hlocals : (rest.map fun v => v.category).sum + (nativeFrameWords "java/lang/System" "arraycopy" 5 + 11) ≤ R.locals) (hdg : decode cc pc = .ok (.invokestatic index, 3))
    (kk : ∀ (H1 : Heap) (locs1 : List Loc), H1.size = H.size → va_P D cl (ws.set q1 (a, .inl (c1, n1, .inl (va_cpy f g sp.toNatClampNeg dp.toNatClampNeg n.toNatClampNeg)))) H1 → va_D A (ws.set q1 (a, .inl (c1, n1, .inl (va_cpy f g sp.toNatClampNeg dp.toNatClampNeg n.toNatClampNeg)))) → va_S A H0 H1 locs1 → W p l e R s m args below meth c H1 locs1 cells slots Q (F0 m (pc + 3) ls rest)) : W p l e R s m args below meth c H locs cells slots Q (F0 m pc ls (.int n :: .int dp :: .ref a :: .int sp :: .ref a0 :: rest)) := by
  have nn : ∀ z : Int32, ¬ z < 0 → z.toInt = (z.toNatClampNeg : Int) := by
    intro z hz
    have hz0 : (0 : Int) ≤ z.toInt := by
      have := Int32.not_lt.mp hz
      simpa using Int32.le_iff_toInt_le.mp this
    show z.toInt = ((z.toInt.toNat : Nat) : Int)
    omega
  intro T hT X
  have hc1 : H[a]? = some (vp_cell c1 (n1, .inl g)) := hP q1 _ ha1
  obtain ⟨hst0, k0, hk0, cm0, hkk0⟩ := harr
  obtain ⟨-, k1, hk1, cm1, hkk1⟩ := (hK.2 t1 _ ht1).1 n1 (fun j => .int (g j))
  obtain ⟨vm', X', step⟩ := X.arraycopy hexec hown hlink hnat hstat hini (src := a0) (dst := a) (cs := cs) (cd := vp_cell c1 (n1, .inl g)) (srcPos := sp) (destPos := dp) (n := n) (by rw [hT]; exact hc0) (by rw [hT]; exact hc1)
    hst0 (fun _ h => by cases h) hkn (fun h => by cases h) hk0 hk1 hkk0 hkk1 (by simp [hprim]) h1 h2 h3
    (by rw [nn sp h1, nn n h3]; omega)
    (by rw [nn dp h2, nn n h3]; show ¬ _ > ((arrV c1 n1 (fun j => .int (g j))).slots.size : Int); rw [arrV_size]; omega)
    (fun vm₁ _ i hi => by
      have e : cs.slots.getD (sp.toNatClampNeg + i) .null = .int (f (sp.toNatClampNeg + i)) := by
        rw [Array.getD_eq_getD_getElem?, hsl _ (by omega)]
        rfl
      refine ⟨?_, ?_⟩
      · rw [e]
        exact hfit i hi
      · rw [e]
        exact trivial)
    (g := F0 m pc ls (.int n :: .int dp :: .ref a :: .int sp :: .ref a0 :: rest)) rfl (by rw [hml]) (rest := rest) rfl (by rw [hb]; exact hdg) hframes (by show 2 * 0 + _ + _ ≤ _; omega)
  have e1 : copied cs (vp_cell c1 (n1, .inl g)) sp dp n = vp_cell c1 (n1, .inl (va_cpy f g sp.toNatClampNeg dp.toNatClampNeg n.toNatClampNeg)) := va_copiedX (fun z => .int z) cs c1 f g hsl h4
  rw [e1] at X' step
  have hl : a < H.size := (Array.getElem?_eq_some_iff.mp hc1).1
  have hheap : ((T.setVm vm').setCell a (vp_cell c1 (n1, .inl (va_cpy f g sp.toNatClampNeg dp.toNatClampNeg n.toNatClampNeg)))).heap = H.setIfInBounds a (vp_cell c1 (n1, .inl (va_cpy f g sp.toNatClampNeg dp.toNatClampNeg n.toNatClampNeg))) := by rw [← hT]; rfl
  have oq : ∀ q : Nat, q ≠ a → (H.setIfInBounds a (vp_cell c1 (n1, .inl (va_cpy f g sp.toNatClampNeg dp.toNatClampNeg n.toNatClampNeg))))[q]? = H[q]? := fun q hq => by simp [Array.getElem?_setIfInBounds, Ne.symm hq]
  obtain ⟨t, a1, b1⟩ := kk _ _ (by simp) (hP.set hD ha1 (show (H.setIfInBounds a _)[a]? = some _ by simp [Array.getElem?_setIfInBounds, hl]) oq) (hD.set ha1) ⟨by simp; exact hS.1, fun q g1 g2 => by
      rw [oq q (fun e => g2 (by rw [e]; exact hD.2 q1 _ ha1))]
      exact hS.2.1 q g1 g2, fun q hq => by
      rcases List.mem_append.mp hq with h | h
      · exact hS.2.2 q h
      · obtain ⟨z, -, hz⟩ := List.mem_map.mp h
        rw [← hz]
        exact hD.2 q1 _ ha1⟩ _ hheap X'
  exact ⟨t, step t a1, b1⟩
end ZCP
section EVA
variable {w : zW} {d kc ks : Nat} {y : zY} {pc : Nat} {L : List (Option Value)} {st : List Value} {μ : zM} {Q Q' : Option Value → zM → Prop}
theorem ev_new {idx c : Nat} (hd : decode y.2.1 pc = .ok (.new idx, 3)) (hc : c < 14) (hcl : Cond.classLink y.1.cls idx (zRf c) ∈ zGT) (hins : Cond.instantiable (zRf c) (zNf c) ∈ zGT) (hini : Cond.initialized (zRf c) ∈ zGT) (hs : ∀ k, zst w (zn μ) k = none) (hr : zrl (zn μ))
    (kk : EV w d kc ks y (pc + 3) L (.ref (zn μ) :: st) (zN μ (16 + c, 0)) Q) : EV w d (kc + 1) (ks + zNf c) y pc L st μ Q := by
  intro p l e R s m args below meth c0 H locs cells slots Qf ls hG hC hL hP h1 h2 h3 h4 hQ
  have hK := zKs hG hC.fr
  have hKn := hK.1 c _ (zcl_at c hc)
  refine W.newcK hC.1 hC.2.1 hC.2.2.2.1 (hC.word hcl) (hC.word hins) (hC.word hini) rfl hd (by omega) (by omega) hKn.2.1 (hP.top hr) fun H1 kC hkC e1 z1 o1 => ?_
  have hk : zk (zN μ (16 + c, 0)) (zn μ) = (16 + c, 0) := zk_zN
  refine kk p l e R s m args below meth c0 H1 locs (cells + 1) (slots + zNf c) Qf ls hG hC hL (hP.push (μ' := zN μ (16 + c, 0)) hr rfl (fun b hb => zE_zN (by omega)) ?_ (by rw [z1, (hP.top hr)]) (fun q hq => o1 q (by rw [← (hP.top hr)]; exact hq))) h1 h2 (by omega) (by omega) (fun v μ' H' locs' cells' slots' pc' ls' q r a b t => hQ v μ' H' locs' cells' slots' pc' ls' q r (by omega) (by omega) t)
  rw [zE_obj (by rw [hk])]
  refine ⟨_, zcl_at c hc, (u_born (zty c) hC.2.2.2.2.1 (zuw c hc) hKn hkC e1 (zty_ok c hc)).to fun j hj => ?_⟩
  show _ = ((List.range (zNf c)).map (zv w (zN μ (16 + c, 0)) (zn μ) c)).getD j .null
  rw [List.getD_eq_getElem?_getD, zfs_at hj]
  unfold zv zrr
  rw [hs, zr_zN, zi_zN]
  rw [zdef c hc j hj]
  cases zfl c j <;> rfl
theorem ev_newI {n : Int32} {N : Nat} (hd : decode y.2.1 pc = .ok (.newarray .int, 2)) (hw : Cond.arrayClass .int ∈ zGT) (hn : ¬ n < 0) (hN : n.toNatClampNeg = N) (hb : N ≤ 100000000) (hr : zrl (zn μ))
    (kk : EV w d kc ks y (pc + 2) L (.ref (zn μ) :: st) (zNA μ N (fun _ => 0)) Q) : EV w d (kc + 1) (ks + N) y pc L (.int n :: st) μ Q := by
  intro p l e R s m args below meth c0 H locs cells slots Qf ls hG hC hL hP h1 h2 h3 h4 hQ
  refine va_newaK hC.1 hC.2.1 (atype := .int) (hC.word hw) rfl hd rfl hn hN (show N * 4 ≤ 536870912 by omega) (by omega) (by omega) (hP.top hr) fun H1 cA e1 z1 o1 hAr hNm => ?_
  have hcA : cA = zcA w 0 := zcls_int hG hC.fr hNm
  subst hcA
  refine kk p l e R s m args below meth c0 H1 locs (cells + 1) (slots + N) Qf ls hG hC hL (hP.push (μ' := zNA μ N (fun _ => 0)) hr rfl (fun b hb => zE_zNA (by omega)) ?_ (by rw [z1, (hP.top hr)]) (fun q hq => o1 q (by rw [← (hP.top hr)]; exact hq))) h1 h2 (by omega) (by omega) (fun v μ' H' locs' cells' slots' pc' ls' q r a b t => hQ v μ' H' locs' cells' slots' pc' ls' q r (by omega) (by omega) t)
  rw [zE_zNA_new]
  exact e1
/-- new C[n] -/
theorem ev_newQ {n : Int32} {N idx j : Nat} {C : String} (hd : decode y.2.1 pc = .ok (.anewarray idx, 3)) (hj0 : 0 < j) (hj : j < 6) (hC0 : C ∈ [RX10, RX3, RX6, RX2]) (hjC : ∀ w : zW, (zT w)[j]? = some (zcA w j, .object C)) (hcl : Cond.classLink y.1.cls idx C ∈ zGT) (hn : ¬ n < 0) (hN : n.toNatClampNeg = N) (hb : N ≤ 100000000) (hs : ∀ k, zst w (zn μ) k = none) (hr : zrl (zn μ))
    (kk : EV w d kc ks y (pc + 3) L (.ref (zn μ) :: st) (zN μ (j, N)) Q) : EV w d (kc + 1) (ks + N) y pc L (.int n :: st) μ Q := by
  subst hN
  intro p l e R s m args below meth c0 H locs cells slots Qf ls hG hC hL hP h1 h2 h3 h4 hQ
  have hao : va_AO C s := (hG.2.2.2.2.2.2.2.1 C hC0).moved hC.fr.1
  refine W.anew hC.1 hC.2.1 hC.2.2.2.1 (hC.word hcl) (va_AO.use hao) rfl hd rfl hn (by omega) (by omega) (by omega) fun cA kA comp f1 f2 f3 f4 => ?_
  have hra := ((zKs hG hC.fr).2 j _ (hjC w)).2
  obtain ⟨kA', comp', g1, g2, g3, g4⟩ := hra
  have hcA : cA = zcA w j := Option.some.inj (f1.symm.trans g4)
  subst hcA
  generalize hH1 : H.push ({ cls := zcA w j, slots := Array.replicate n.toNatClampNeg .null, vm := .none } : Cell) = H1
  have z1 : H1.size = H.size + 1 := by rw [← hH1, Array.size_push]
  have e1 : H1[H.size]? = some (arrV (zcA w j) n.toNatClampNeg (fun _ => .null)) := by rw [← hH1, Array.getElem?_push_size, ← arrV_new]
  have o1 : ∀ q : Nat, q < H.size → H1[q]? = H[q]? := fun q hq => by rw [← hH1, Array.getElem?_push, if_neg (Nat.ne_of_lt hq)]
  have hkd : zk (zN μ (j, n.toNatClampNeg)) (zn μ) = (j, n.toNatClampNeg) := zk_zN
  have key := kk p l e R s m args below meth c0 H1 locs (cells + 1) (slots + n.toNatClampNeg) Qf ls hG hC hL (hP.push (μ' := zN μ (j, n.toNatClampNeg)) hr rfl (fun b hb => zE_zN (by omega)) ?_ z1 o1) h1 h2 (by omega) (by omega) (fun v μ' H' locs' cells' slots' pc' ls' q r a b t => hQ v μ' H' locs' cells' slots' pc' ls' q r (by omega) (by omega) t)
  · have e : Array.size H = zad w (zn μ) := (hP.top hr)
    rw [e]
    exact key
  · rw [zE_ref (j := j) (by rw [hkd]) hj0 (by omega), hkd]
    show H1[zad w (zn μ)]? = some (vp_cell _ _)
    rw [← (hP.top hr), e1, vp_cell_q]
    congr 2
    funext k
    unfold zrr
    rw [hs, zr_zN]
    rfl
/-- a reference into a row of its class (or its class's superclass) -/
theorem ev_aast {a j b c c2 : Nat} {i : Int32} (hd : decode y.2.1 pc = .ok (.aastore, 1)) (ha : zHas μ.1 μ.2.1 a j) (h0 : 0 < j) (h6 : j < 6) (hb : zHas μ.1 μ.2.1 b (16 + c)) (hc : c < 14) (hc2 : c2 < 14) (hjC : ∀ w : zW, (zT w)[j]? = some (zcA w j, .object (zRf c2))) (hcc : c = c2 ∨ Cond.castable (zRf c) (zRf c2) ∈ zNw) (hs : zst w a i.toNatClampNeg = none) (hin : vp_in i (μ.2.1 a).2)
    (kk : EV w d kc ks y (pc + 1) L st (zR μ a i.toNatClampNeg (some b)) Q) : EV w d kc ks y pc L (.ref b :: .int i :: .ref a :: st) μ Q := by
  intro p l e R s m args below meth c0 H locs cells slots Qf ls hG hC hL hP h1 h2 h3 h4 hQ
  have hK := zKs hG hC.fr
  have hlt : i.toNatClampNeg < (μ.2.1 a).2 := Nat.not_le.mp fun q => hin (Or.inr q)
  have h00 : ¬ i < 0 := fun q => hin (Or.inl q)
  have hat := hP.at ha.1 ha.2.1
  rw [zE_ref ha.2.2 h0 (by omega)] at hat
  have hbt := hP.at hb.1 hb.2.1
  rw [zE_obj hb.2.2] at hbt
  obtain ⟨r', hr', cellV, g1, g2, g3, -⟩ := hbt
  have hcls := (hK.1 c _ (zcl_at c hc)).2
  have hcls2 := (hK.1 c2 _ (zcl_at c2 hc2)).2
  obtain ⟨kA, comp, k1, k2, k3, -⟩ := (hK.2 j _ (hjC w)).2
  have hcomp : comp = (zD w).1 c2 := Option.some.inj (k3.symm.trans hcls2.1)
  subst hcomp
  obtain ⟨kC, hkC, -⟩ := hcls.2
  obtain ⟨kC2, hkC2, -⟩ := hcls2.2
  have hasg : s.vm.assignable ((zD w).1 c) ((zD w).1 c2) = true := by
    rcases hcc with e | e
    · subst e
      exact va_assign hcls
    · obtain ⟨x1, x2, f1, f2, f3⟩ := Cond.castable_spec (va_Nw.use (A := args) rfl (hC.fr.2.2.2.2 _ e))
      cases hcls.1.symm.trans f1
      cases hcls2.1.symm.trans f2
      exact f3
  refine W.aast hC.1 hC.2.1 (cell := vp_cell (zcA w j) ((μ.2.1 a).2, .inr (.inr (.inr (.inr (fun k => (zrr w μ a k).map (zad w))))))) hat (fun q h => by cases h) (fun h => by cases h) k1 k2 rfl hkC2 ⟨h00, by show _ < (arrV _ _ _).slots.size; rw [arrV_size]; exact hlt⟩ g1 (fun q h => by rw [g3] at h; cases h) (by rw [g2]; exact hkC) (by rw [g2]; exact hasg) rfl rfl hd fun H1 x1 x2 x3 => ?_
  refine kk p l e R s m args below meth c0 H1 _ cells slots Qf ls hG hC hL (hP.put (μ' := zR μ a i.toNatClampNeg (some b)) ha.1 ha.2.1 rfl (fun q hq => zE_zR hq) ?_ x2 x3) h1 h2 h3 h4 hQ
  rw [zE_ref (j := j) (show (zk (zR μ a i.toNatClampNeg (some b)) a).1 = j from ha.2.2) h0 (by omega)]
  show H1[zad w a]? = some (vp_cell _ _)
  rw [x1, vp_cell_q, vp_cell_q, arrV_store]
  show some (arrV _ (μ.2.1 a).2 _) = some (arrV _ (μ.2.1 a).2 _)
  congr 2
  funext q
  unfold zrr
  rw [zr_zR]
  by_cases hq : q = i.toNatClampNeg
  · subst hq
    simp [updV, va_up, va_rf, hs]
  · simp only [updV, va_up, hq, if_false]
/-- clone of a row of ints -/
theorem ev_clone {a idx N : Nat} {f : Nat → Int32} (hd : decode y.2.1 pc = .ok (.invokevirtual idx, 3)) (hl : Cond.methodLink y.1.cls idx ⟨"[I", "clone", "()Ljava/lang/Object;"⟩ ∈ zGT) (hsm : Cond.sameMethod "[I" "java/lang/Object" "clone" "()Ljava/lang/Object;" ∈ zGT) (hna : Cond.native ⟨"java/lang/Object", "clone", "()Ljava/lang/Object;"⟩ ∈ zGT) (hin : Cond.instanceMethod ⟨"java/lang/Object", "clone", "()Ljava/lang/Object;"⟩ ∈ zGT) (hse : Cond.selects "[I" ⟨"[I", "clone", "()Ljava/lang/Object;"⟩ ⟨"java/lang/Object", "clone", "()Ljava/lang/Object;"⟩ ∈ zGT)
    (hrl : zrl (zn μ)) (hd1 : 1 ≤ d) (hr : (st.map fun v => v.category).sum ≤ 8) (hsrc : ∀ (s : State) (H : Heap) (locs : List Loc), zGF w → zFr w s → zRp w s μ H locs → ∃ cell : Cell, H[zad w a]? = some cell ∧ cell.cls = zcA w 0 ∧ cell.vm ≠ .unknown ∧ (∀ k, cell.vm ≠ .statics k) ∧ cell.slots.size = N ∧ ∀ j : Nat, j < N → cell.slots[j]? = some (.int (f j)))
    (kk : EV w d kc ks y (pc + 3) L (.ref (zn μ) :: st) (zNA μ N f) Q) : EV w d (kc + 1) (ks + N) y pc L (.ref a :: st) μ Q := by
  intro p l e R s m args below meth c0 H locs cells slots Qf ls hG hC hL hP h1 h2 h3 h4 hQ T hT X
  have hK := zKs hG hC.fr
  obtain ⟨cell, q1, q2, q3, q4, q5, q6⟩ := hsrc s H locs hG hC.fr hP
  have hnm : s.vm.findClass "[I" = some (zcA w 0) := (hK.2 0 _ rfl).2
  obtain ⟨c1, t1, f1, f2, f3⟩ := Cond.castable_spec (va_Nw.use (A := args) rfl (hC.fr.2.2.2.2 (.castable "[I" "java/lang/Cloneable") (by simp [zNw])))
  cases hnm.symm.trans f1
  obtain ⟨-, kA, hkA, comp, hkind⟩ := State.isArrayOf_alike X.warmed.alike ((hK.2 0 _ rfl).1 0 (fun _ => .null))
  obtain ⟨-, kS, hkS, compS, hkindS⟩ := (hK.2 0 _ rfl).1 0 (fun _ => .null)
  obtain ⟨vm', X', stp⟩ := X.cloneArray hC.1 hC.2.2.2.1 (hC.word hl) (hC.word hsm) (hC.word hna) (hC.word hin) (hC.word hse) (a := zad w a) (cell := cell) (by rw [hT]; exact q1) q4 q3 (by rw [q2]; exact hnm) f2 (by rw [q2]; exact f3)
    (fun i v hv => by
      rw [q2]
      have hk' : T.vm.classes[zcA w 0]? = some kA := hkA
      have hi : i < N := by rw [← q5]; exact (Array.getElem?_eq_some_iff.mp hv).1
      rw [q6 i hi] at hv
      cases hv
      simp [State.fitsSlot, State.slotType?, hk', hkind, fits])
    (g := F0 m pc ls (.ref (zad w a) :: st.map (zva w))) rfl (by rw [hC.2.2.1]; exact hL.1) rfl (by rw [hC.2.1]; exact hd) (by omega) (by have := zrest (pc := pc) w (m := m) (ls := ls) (st := st) hr; show 2 * 0 + _ + 14 ≤ _; have e : 2 * (F0 m pc ls (st.map (zva w))).monitorRoom = 0 := rfl; omega) (by omega) (by rw [q5]; omega) (hloader := by rw [q2]; exact Vm.clonesLoader_of_array hkS hkindS)
  have hce : ({ cls := cell.cls, slots := cell.slots } : Cell) = vp_cell (zcA w 0) (N, .inl f) := by
    rw [q2, vp_cell_i]
    have hsl : cell.slots = (arrV (zcA w 0) N (fun j => .int (f j))).slots := by
      apply Array.ext_getElem?
      intro i
      by_cases hi : i < N
      · rw [q6 i hi, arrV_read _ _ hi]
      · rw [Array.getElem?_eq_none (by rw [q5]; omega), Array.getElem?_eq_none (by rw [arrV_size]; omega)]
    rw [hsl]
    rfl
  rw [hce, q5] at X'
  generalize hH1 : H.push (vp_cell (zcA w 0) (N, .inl f)) = H1
  have z1 : H1.size = H.size + 1 := by rw [← hH1, Array.size_push]
  have e1 : H1[H.size]? = some (vp_cell (zcA w 0) (N, .inl f)) := by rw [← hH1, Array.getElem?_push_size]
  have o1 : ∀ q : Nat, q < H.size → H1[q]? = H[q]? := fun q hq => by rw [← hH1, Array.getElem?_push, if_neg (Nat.ne_of_lt hq)]
  obtain ⟨t, b1, b2⟩ := kk p l e R s m args below meth c0 H1 locs (cells + 1) (slots + N) Qf ls hG hC hL (hP.push (μ' := zNA μ N f) hrl rfl (fun b hb => zE_zNA (by omega)) (by rw [zE_zNA_new, ← hP.top hrl]; exact e1) z1 o1) h1 h2 (by omega) (by omega) (fun v μ' H' locs' cells' slots' pc' ls' q r a b t => hQ v μ' H' locs' cells' slots' pc' ls' q r (by omega) (by omega) t)
    ((T.setVm vm').pushCell (vp_cell (zcA w 0) (N, .inl f))) (by rw [← hH1, ← hT]; rfl) X'
  refine ⟨t, stp t ?_, b2⟩
  rw [hce, hT, hP.top hrl]
  exact b1
theorem zsrc_row {a N : Nat} {f : Nat → Int32} (ha : zHas μ.1 μ.2.1 a 0) (hN : (μ.2.1 a).2 = N) (hf : zi μ a = f) : ∀ (s : State) (H : Heap) (locs : List Loc), zGF w → zFr w s → zRp w s μ H locs → ∃ cell : Cell, H[zad w a]? = some cell ∧ cell.cls = zcA w 0 ∧ cell.vm ≠ .unknown ∧ (∀ k, cell.vm ≠ .statics k) ∧ cell.slots.size = N ∧ ∀ j : Nat, j < N → cell.slots[j]? = some (.int (f j)) := by
  intro s H locs _ _ hP
  have hat := hP.at ha.1 ha.2.1
  rw [zE_int ha.2.2, show (zk μ a).2 = N from hN, hf] at hat
  exact ⟨_, hat, rfl, (fun h => by cases h), (fun k h => by cases h), arrV_size _ _ _, fun j hj => arrV_read _ _ hj⟩
theorem zsrc_old {i N : Nat} {f : Nat → Int32} (hi : i < 32) (h : zTc w i N f) : ∀ (s : State) (H : Heap) (locs : List Loc), zGF w → zFr w s → zRp w s μ H locs → ∃ cell : Cell, H[zad w i]? = some cell ∧ cell.cls = zcA w 0 ∧ cell.vm ≠ .unknown ∧ (∀ k, cell.vm ≠ .statics k) ∧ cell.slots.size = N ∧ ∀ j : Nat, j < N → cell.slots[j]? = some (.int (f j)) := by
  intro s H locs hG hF hP
  obtain ⟨cell, q1, q2⟩ := h
  have hl : zca w i < zb0 w := by rw [hG.1]; exact (Array.getElem?_eq_some_iff.mp q1).1
  refine ⟨cell, ?_, q2⟩
  rw [show zad w i = zca w i from if_pos hi, hP.2.2.1 _ (Nat.lt_of_lt_of_le hl hF.2.1) (fun z => absurd z (Nat.not_le.mpr hl)), hF.2.2.1 _ hl]
  exact q1
/-- (int[]) of a row of ints -/
theorem ev_castI {a idx : Nat} (hd : decode y.2.1 pc = .ok (.checkcast idx, 3)) (hcl : Cond.classLink y.1.cls idx "[I" ∈ zGT) (ha : zHas μ.1 μ.2.1 a 0) (kk : EV w d kc ks y (pc + 3) L (.ref a :: st) μ Q) : EV w d kc ks y pc L (.ref a :: st) μ Q := by
  intro p l e R s m args below meth c0 H locs cells slots Qf ls hG hC hL hP h1 h2 h3 h4 hQ
  have he := zWs_at w (μ := μ) ha.1 ha.2.1
  rw [zE_int ha.2.2] at he
  exact va_castA (D := zD w) hC.1 hC.2.1 hC.2.2.2.1 (hC.word hcl) (hP.p ha.2.1) (zix a) he (show s.vm.findClass "[I" = some (zcA w 0) from ((zKs hG hC.fr).2 0 _ rfl).2) hd (kk p l e R s m args below meth c0 H locs cells slots Qf ls hG hC hL hP h1 h2 h3 h4 hQ)
/-- System.arraycopy of ints -/
theorem ev_copy {a0 a idx : Nat} {sp dp n : Int32} (hd : decode y.2.1 pc = .ok (.invokestatic idx, 3)) (hl : Cond.methodLink y.1.cls idx arraycopyName ∈ zGT) (hna : Cond.native arraycopyName ∈ zGT) (hst : Cond.static arraycopyName ∈ zGT) (hini : Cond.initialized "java/lang/System" ∈ zGT) (ha0 : zHas μ.1 μ.2.1 a0 0) (ha : zHas μ.1 μ.2.1 a 0)
    (h1' : ¬ sp < 0) (h2' : ¬ dp < 0) (h3' : ¬ n < 0) (h4' : sp.toNatClampNeg + n.toNatClampNeg ≤ (μ.2.1 a0).2) (h5' : dp.toNatClampNeg + n.toNatClampNeg ≤ (μ.2.1 a).2) (hd1 : 1 ≤ d) (hr : (st.map fun v => v.category).sum ≤ 8) (hfw : nativeFrameWords "java/lang/System" "arraycopy" 5 ≤ 40)
    (kk : EV w d kc ks y (pc + 3) L st (zA μ a (va_cpy (zi μ a0) (zi μ a) sp.toNatClampNeg dp.toNatClampNeg n.toNatClampNeg)) Q) : EV w d kc ks y pc L (.int n :: .int dp :: .ref a :: .int sp :: .ref a0 :: st) μ Q := by
  intro p l e R s m args below meth c0 H locs cells slots Qf ls hG hC hL hP h1 h2 h3 h4 hQ
  have he0 := zWs_at w (μ := μ) ha0.1 ha0.2.1
  rw [zE_int ha0.2.2] at he0
  have he := zWs_at w (μ := μ) ha.1 ha.2.1
  rw [zE_int ha.2.2] at he
  have hrs := zrest (pc := pc) w (m := m) (ls := ls) (st := st) hr
  have e0 : 2 * (F0 m pc ls (st.map (zva w))).monitorRoom = 0 := rfl
  have key : ∀ (n1 : Nat) (H1 : Heap) (locs1 : List Loc), H1.size = H.size → va_P (zD w) vwCl ((zWs w μ).set (zix a) (zad w a, .inl (zcA w 0, (zk μ a).2, .inl (va_cpy (zi μ a0) (zi μ a) sp.toNatClampNeg dp.toNatClampNeg n.toNatClampNeg)))) H1 → va_S (zAq w) s.heap H1 locs1 → zRp w s (zA μ a (va_cpy (zi μ a0) (zi μ a) sp.toNatClampNeg dp.toNatClampNeg n.toNatClampNeg)) H1 locs1 := by
    intro n1 H1 locs1 hz p1 s1
    refine ⟨fun q => ⟨(hP.1 q).1, by rw [hz]; exact (hP.1 q).2.1, ?_⟩, s1⟩
    rw [← zWs_set w (μ := μ) (μ' := zA μ a (va_cpy (zi μ a0) (zi μ a) sp.toNatClampNeg dp.toNatClampNeg n.toNatClampNeg)) ha.1 ha.2.1 rfl (fun b hb => zE_zA hb), zE_int (show (zk (zA μ a _) a).1 = 0 from ha.2.2), zi_zA]
    exact p1
  exact zcopy_row hC.1 hC.2.1 (by rw [hC.2.2.1]; exact hL.1.symm) hC.2.2.2.1 (hC.word hl) (hC.word hna) (hC.word hst) (hC.word hini) (zKs hG hC.fr) (hP.p ha.2.1) (zWs_apart w μ) hP.2 (zix a0) (zix a) 0 0 he0 he rfl rfl rfl h1' h2' h3' h4' h5' (fun i hi => rfl) (by omega) (by omega) hd
    (fun H1 locs1 hz p1 _ s1 => kk p l e R s m args below meth c0 H1 locs1 cells slots Qf ls hG hC hL (key 0 H1 locs1 hz p1 s1) h1 h2 h3 h4 hQ)
/-! rows of bytes -/
theorem zE_zN_byt {w : zW} {μ : zM} {N : Nat} : zE w (zN μ (12, N)) (zn μ) = .inl (zcA w 6, N, .inl (fun _ => 0)) := by
  have e : zk (zN μ (12, N)) (zn μ) = (12, N) := zk_zN
  rw [zE_byt (by rw [e]), e, zi_zN]
theorem ev_newB {n : Int32} {N : Nat} (hd : decode y.2.1 pc = .ok (.newarray .byte, 2)) (hw : Cond.arrayClass .byte ∈ zGT) (hn : ¬ n < 0) (hN : n.toNatClampNeg = N) (hb : N ≤ 100000000) (hr : zrl (zn μ))
    (kk : EV w d kc ks y (pc + 2) L (.ref (zn μ) :: st) (zN μ (12, N)) Q) : EV w d (kc + 1) (ks + N) y pc L (.int n :: st) μ Q := by
  intro p l e R s m args below meth c0 H locs cells slots Qf ls hG hC hL hP h1 h2 h3 h4 hQ
  refine va_newaK hC.1 hC.2.1 (atype := .byte) (hC.word hw) rfl hd rfl hn hN (show N * 1 ≤ 536870912 by omega) (by omega) (by omega) (hP.top hr) fun H1 cA e1 z1 o1 hAr hNm => ?_
  have hcA : cA = zcA w 6 := zcls_byt hG hC.fr hNm
  subst hcA
  refine kk p l e R s m args below meth c0 H1 locs (cells + 1) (slots + N) Qf ls hG hC hL (hP.push (μ' := zN μ (12, N)) hr rfl (fun b hb => zE_zN (by omega)) ?_ (by rw [z1, hP.top hr]) (fun q hq => o1 q (by rw [← hP.top hr]; exact hq))) h1 h2 (by omega) (by omega) (fun v μ' H' locs' cells' slots' pc' ls' q r a b t => hQ v μ' H' locs' cells' slots' pc' ls' q r (by omega) (by omega) t)
  rw [zE_zN_byt]
  exact e1
theorem zE_zN_lng {w : zW} {μ : zM} {N : Nat} (hw : zhm w = none) : zE w (zHm (zN μ (14, N)) (zn μ) (fun _ => 0)) (zn μ) = .inl (zcA w 7, N, .inr (.inl (fun _ => 0))) := by
  have e : zk (zN μ (14, N)) (zn μ) = (14, N) := zk_zN
  rw [zE_lng (by rw [zHm_k, e]), zHm_k, e, zHm_i, zlg_pr hw]
theorem ev_newL {n : Int32} {N : Nat} (hh : zhm w = none) (hd : decode y.2.1 pc = .ok (.newarray .long, 2)) (hw : Cond.arrayClass .long ∈ zGT) (hn : ¬ n < 0) (hN : n.toNatClampNeg = N) (hb : N ≤ 10000000) (hr : zrl (zn μ))
    (kk : EV w d kc ks y (pc + 2) L (.ref (zn μ) :: st) (zHm (zN μ (14, N)) (zn μ) (fun _ => 0)) Q) : EV w d (kc + 1) (ks + N) y pc L (.int n :: st) μ Q := by
  intro p l e R s m args below meth c0 H locs cells slots Qf ls hG hC hL hP h1 h2 h3 h4 hQ
  refine va_newaK hC.1 hC.2.1 (atype := .long) (hC.word hw) rfl hd rfl hn hN (show N * 8 ≤ 536870912 by omega) (by omega) (by omega) (hP.top hr) fun H1 cA e1 z1 o1 hAr hNm => ?_
  have hcA : cA = zcA w 7 := zcls_lng hG hC.fr hNm
  subst hcA
  refine kk p l e R s m args below meth c0 H1 locs (cells + 1) (slots + N) Qf ls hG hC hL (hP.push (μ' := zHm (zN μ (14, N)) (zn μ) (fun _ => 0)) hr rfl (fun b hb => (zHm_E (by omega)).trans (zE_zN (by omega))) ?_ (by rw [z1, hP.top hr]) (fun q hq => o1 q (by rw [← hP.top hr]; exact hq))) h1 h2 (by omega) (by omega) (fun v μ' H' locs' cells' slots' pc' ls' q r a b t => hQ v μ' H' locs' cells' slots' pc' ls' q r (by omega) (by omega) t)
  rw [zE_zN_lng hh]
  exact e1
/-- where bytes may be copied from -/
def zSrc (w : zW) (μ : zM) (a0 N0 : Nat) (f : Nat → Int32) : Prop := ∀ (s : State) (H : Heap) (locs : List Loc), zGF w → zFr w s → zRp w s μ H locs → ∃ cs : Cell, H[zad w a0]? = some cs ∧ s.isArrayOf cs .byte ∧ cs.vm ≠ .unknown ∧ N0 ≤ cs.slots.size ∧ ∀ j, j < N0 → cs.slots[j]? = some (.int (f j))
theorem zSrc_row {a N : Nat} {f : Nat → Int32} (ha : zHas μ.1 μ.2.1 a 12) (hN : (μ.2.1 a).2 = N) (hf : zi μ a = f) : zSrc w μ a N f := by
  intro s H locs hG hF hP
  have hat := hP.at ha.1 ha.2.1
  rw [zE_byt ha.2.2, show (zk μ a).2 = N from hN, hf] at hat
  exact ⟨_, hat, ((zKs hG hF).2 6 _ rfl).1 _ (fun j => .int (f j)), (fun h => by cases h), Nat.le_of_eq (arrV_size _ _ _).symm, fun j hj => arrV_read _ _ hj⟩
/-- System.arraycopy of bytes -/
theorem ev_copyB {a0 a idx N0 : Nat} {f : Nat → Int32} {sp dp n : Int32} (hd : decode y.2.1 pc = .ok (.invokestatic idx, 3)) (hl : Cond.methodLink y.1.cls idx arraycopyName ∈ zGT) (hna : Cond.native arraycopyName ∈ zGT) (hst : Cond.static arraycopyName ∈ zGT) (hini : Cond.initialized "java/lang/System" ∈ zGT) (hsrc : zSrc w μ a0 N0 f) (ha : zHas μ.1 μ.2.1 a 12)
    (h1' : ¬ sp < 0) (h2' : ¬ dp < 0) (h3' : ¬ n < 0) (h4' : sp.toNatClampNeg + n.toNatClampNeg ≤ N0) (h5' : dp.toNatClampNeg + n.toNatClampNeg ≤ (μ.2.1 a).2) (hfit : ∀ i, i < n.toNatClampNeg → fits .byte (.int (f (sp.toNatClampNeg + i))) = true) (hd1 : 1 ≤ d) (hr : (st.map fun v => v.category).sum ≤ 8) (hfw : nativeFrameWords "java/lang/System" "arraycopy" 5 ≤ 40)
    (kk : EV w d kc ks y (pc + 3) L st (zA μ a (va_cpy f (zi μ a) sp.toNatClampNeg dp.toNatClampNeg n.toNatClampNeg)) Q) : EV w d kc ks y pc L (.int n :: .int dp :: .ref a :: .int sp :: .ref a0 :: st) μ Q := by
  intro p l e R s m args below meth c0 H locs cells slots Qf ls hG hC hL hP h1 h2 h3 h4 hQ
  obtain ⟨cs, q1, q2, q3, q4, q5⟩ := hsrc s H locs hG hC.fr hP
  have he := zWs_at w (μ := μ) ha.1 ha.2.1
  rw [zE_byt ha.2.2] at he
  have hrs := zrest (pc := pc) w (m := m) (ls := ls) (st := st) hr
  have e0 : 2 * (F0 m pc ls (st.map (zva w))).monitorRoom = 0 := rfl
  have key : ∀ (n1 : Nat) (H1 : Heap) (locs1 : List Loc), H1.size = H.size → va_P (zD w) vwCl ((zWs w μ).set (zix a) (zad w a, .inl (zcA w 6, (zk μ a).2, .inl (va_cpy f (zi μ a) sp.toNatClampNeg dp.toNatClampNeg n.toNatClampNeg)))) H1 → va_S (zAq w) s.heap H1 locs1 → zRp w s (zA μ a (va_cpy f (zi μ a) sp.toNatClampNeg dp.toNatClampNeg n.toNatClampNeg)) H1 locs1 := by
    intro n1 H1 locs1 hz p1 s1
    refine ⟨fun q => ⟨(hP.1 q).1, by rw [hz]; exact (hP.1 q).2.1, ?_⟩, s1⟩
    rw [← zWs_set w (μ := μ) (μ' := zA μ a (va_cpy f (zi μ a) sp.toNatClampNeg dp.toNatClampNeg n.toNatClampNeg)) ha.1 ha.2.1 rfl (fun b hb => zE_zA hb), zE_byt (show (zk (zA μ a _) a).1 = 12 from ha.2.2), zi_zA]
    exact p1
  exact zcopy_x hC.1 hC.2.1 (by rw [hC.2.2.1]; exact hL.1.symm) hC.2.2.2.1 (hC.word hl) (hC.word hna) (hC.word hst) (hC.word hini) (zKs hG hC.fr) (hP.p ha.2.1) (zWs_apart w μ) hP.2 (zix a) 6 q1 q2 q3 q4 q5 he rfl rfl h1' h2' h3' h4' h5' hfit (by omega) (by omega) hd
    (fun H1 locs1 hz p1 _ s1 => kk p l e R s m args below meth c0 H1 locs1 cells slots Qf ls hG hC hL (key 0 H1 locs1 hz p1 s1) h1 h2 h3 h4 hQ)
end EVA
end
section
/-! new int[n][m]; nest mates' constructors; old cells; the machine's own functions -/
theorem vr_outer (c : ClassId) (N h0 : Nat) : ∀ i : Nat, Jvm.Free.Multi.outerC c N h0 i = arrV c N (fun j => va_rf (if j < i then some (h0 + 1 + j) else none))
  | 0 => by
    show ({ cls := c, slots := Array.replicate N .null, vm := .none } : Cell) = _
    rw [arrV_new]
    refine congrArg (arrV c N) (funext fun j => ?_)
    simp [va_rf]
  | i + 1 => by
    show (Jvm.Free.Multi.outerC c N h0 i).setSlot i (.ref (h0 + 1 + i)) = _
    rw [vr_outer c N h0 i, arrV_store]
    refine congrArg (arrV c N) (funext fun j => ?_)
    by_cases e : j = i
    · subst e
      simp [updV, va_rf]
    · by_cases h : j < i
      · simp [updV, e, h, Nat.lt_succ_of_lt h]
      · simp [updV, e, h, show ¬ j < i + 1 by omega]
def zMul (μ : zM) (N M : Nat) : zM := (μ.1 + 1 + N, fun b => if b = μ.1 then (1, N) else if μ.1 < b ∧ b ≤ μ.1 + N then (0, M) else μ.2.1 b, fun b => if μ.1 ≤ b ∧ b ≤ μ.1 + N then fun _ => 0 else μ.2.2.1 b, fun b => if b = μ.1 then fun k => if k < N then some (μ.1 + 1 + k) else none else if μ.1 < b ∧ b ≤ μ.1 + N then fun _ => none else μ.2.2.2 b)
theorem zRp.grow {w : zW} {s : State} {μ μ' : zM} {H H' : Heap} {locs : List Loc} (h : zRp w s μ H locs) (h32 : 32 ≤ zn μ) (h81 : zn μ' ≤ 81) (hn : zn μ ≤ zn μ') (he : ∀ b, b < zn μ → zE w μ' b = zE w μ b)
    (hat : ∀ b, zn μ ≤ b → b < zn μ' → va_at (zD w) vwCl (zad w b, zE w μ' b) H') (hz : H'.size = H.size + (zn μ' - zn μ)) (oq : ∀ q, q < H.size → H'[q]? = H[q]?) : zRp w s μ' H' locs := by
  obtain ⟨r1, r2, r3⟩ := h.1 (by omega)
  have r4 := h.2
  have s1 : zsz (zn μ') = zn μ' - 32 := if_pos h81
  have s2 : zsz (zn μ) = zn μ - 32 := if_pos (by omega)
  refine ⟨fun _ => ⟨⟨by omega, Or.inl h81⟩, by rw [s1]; rw [s2] at r2; omega, fun k q hk => ?_⟩, ⟨by have := r4.1; omega, fun q h1 h2 => ?_, r4.2.2⟩⟩
  · have hl : k < zn μ' - 32 := by rw [← s1, ← zWs_len w μ']; exact (List.getElem?_eq_some_iff.mp hk).1
    have hx : zix (k + 32) = k := by
      unfold zix
      rw [if_pos (by omega)]
      omega
    have h1 := zWs_at w (μ := μ') (a := k + 32) ⟨by omega, Or.inl (by omega)⟩ (by omega)
    rw [hx] at h1
    have e := Option.some.inj (hk.symm.trans h1)
    by_cases hb : k + 32 < zn μ
    · rw [e, he _ hb]
      have h2 := zWs_at w (μ := μ) (a := k + 32) ⟨by omega, Or.inl (by omega)⟩ hb
      rw [hx] at h2
      have h3 := r3 k _ h2
      exact h3.kept (oq _ h3.lt)
    · rw [e]
      exact hat _ (by omega) (by omega)
  · rw [oq q (Nat.lt_of_lt_of_le h1 r4.1)]
    exact r4.2.1 q h1 h2
theorem zad_lo (w : zW) {a : Nat} (h : 32 ≤ a) (h2 : a < 81) : zad w a = zb0 w + (a - 32) := by
  unfold zad
  rw [if_neg (by omega), if_pos h2]
theorem zad_gh (w : zW) {a : Nat} (h : 81 ≤ a) (h2 : a < 114) : zad w a = zca w a := by
  unfold zad
  rw [if_neg (by omega), if_neg (by omega), if_pos h2]
theorem zX {w : zW} {s : State} (hG : zGF w) (hF : zFr w s) : va_X (zca w 26) (zxl w) (zxs w) s s.heap := (hG.2.2.1.1.moved hF.1).kept (hF.2.2.1 _ hG.2.2.1.2)
theorem zkept {w : zW} {s : State} (hG : zGF w) (hF : zFr w s) : ∀ a : Nat, a < (zs0 w).heap.size → ¬ zAq w a → s.heap[a]? = (zs0 w).heap[a]? := fun a ha _ => hF.2.2.1 a (by rw [hG.1]; exact ha)
theorem zstr {w : zW} {s : State} (hG : zGF w) (hF : zFr w s) : vk_S 16 zSlen zSbyt (fun i => zca w (zSa i)) (fun i => zca w (zVa i)) (zAq w) s s.heap := (vk_S.moved hF.1 hG.2.2.2.2.2.2.1).kept (zkept hG hF)
section EVB
variable {w : zW} {d kc ks : Nat} {y : zY} {pc : Nat} {L : List (Option Value)} {st : List Value} {μ : zM} {Q Q' : Option Value → zM → Prop}
theorem ev_mul {n k : Int32} {N M idx : Nat} (hd : decode y.2.1 pc = .ok (.multianewarray idx 2, 4)) (hcl : Cond.classLink y.1.cls idx ("[" ++ (FieldType.array .int).toString) ∈ zGT) (hw : Cond.arrayClass .int ∈ zGT) (hn : ¬ n < 0) (hk : ¬ k < 0) (hN : n.toNatClampNeg = N) (hM : k.toNatClampNeg = M) (hlim : 32 ≤ zn μ ∧ zn μ + 1 + N ≤ 81) (hN2 : N ≤ 1000) (hM2 : M ≤ 1000) (hs : ∀ j, zst w (zn μ) j = none)
    (kk : EV w d kc ks y (pc + 4) L (.ref (zn μ) :: st) (zMul μ N M) Q) : EV w d (kc + (1 + N)) (ks + (N + N * M)) y pc L (.int k :: .int n :: st) μ Q := by
  subst hN
  subst hM
  intro p l e R s m args below meth c0 H locs cells slots Qf ls hG hC hL hP h1 h2 h3 h4 hQ T hT X
  have hK := zKs hG hC.fr
  have hrl : zrl (zn μ) := ⟨hlim.1, Or.inl (by omega)⟩
  have hsz : zsz (zn μ) = μ.1 - 32 := if_pos (by omega)
  obtain ⟨vm₁, cA, comp, -, fA, fC, hO, -, X', step⟩ := X.multianewarray2F hC.1 hC.2.2.2.1 (hC.word hcl) (show (Cond.arrayOver (.array .int)).before args s = true from (hG.2.2.2.2.2.2.2.2.1).moved hC.fr.1) (hC.word hw) (g := F0 m pc ls (.int k :: .int n :: st.map (zva w))) rfl (by rw [hC.2.1]; exact hd) rfl hn hk (by omega) (show k.toNatClampNeg * 4 ≤ _ by omega) (by omega) rfl rfl (by omega) (by omega)
  have hra1 := (hK.2 1 _ rfl).2
  have ecA : cA = zcA w 1 := Option.some.inj (fA.symm.trans (show s.vm.findClass ("[" ++ (FieldType.array .int).toString) = some (zcA w 1) from hra1))
  have eco : comp = zcA w 0 := Option.some.inj (fC.symm.trans (show s.vm.findClass "[I" = some (zcA w 0) from (hK.2 0 _ rfl).2))
  subst ecA
  subst eco
  generalize hF : Jvm.Free.Multi.fill (T.setVm vm₁) (zcA w 1) (zcA w 0) n.toNatClampNeg k.toNatClampNeg (defaultValue .int) n.toNatClampNeg = F at X' step
  have hTh : (T.setVm vm₁).heap = H := hT
  obtain ⟨f1, f2, -, -⟩ := Jvm.Free.Multi.fill_facts (T.setVm vm₁) (zcA w 1) (zcA w 0) n.toNatClampNeg k.toNatClampNeg (defaultValue .int) n.toNatClampNeg
  have f3 := Jvm.Free.Multi.fill_inner (T.setVm vm₁) (zcA w 1) (zcA w 0) n.toNatClampNeg k.toNatClampNeg (defaultValue .int) n.toNatClampNeg
  rw [hF, hTh] at f1 f2 f3
  have hold : ∀ x : Nat, x < H.size → F.heap[x]? = H[x]? := fun x hx => by
    have := Jvm.Free.Multi.fill_old (T.setVm vm₁) (zcA w 1) (zcA w 0) n.toNatClampNeg k.toNatClampNeg (defaultValue .int) (a := x) (by rw [hTh]; exact hx) n.toNatClampNeg
    rw [hF, hTh] at this
    exact this
  have hz : zn (zMul μ n.toNatClampNeg k.toNatClampNeg) = zn μ + 1 + n.toNatClampNeg := rfl
  have hRp : zRp w s (zMul μ n.toNatClampNeg k.toNatClampNeg) F.heap locs := by
    refine hP.grow hlim.1 (by rw [hz]; exact hlim.2) (by omega) (fun b hb => ?_) (fun b g1 g2 => ?_) (by rw [f1]; omega) hold
    · have e1 : zk (zMul μ n.toNatClampNeg k.toNatClampNeg) b = zk μ b := by
        show (if b = μ.1 then _ else if μ.1 < b ∧ b ≤ μ.1 + n.toNatClampNeg then _ else μ.2.1 b) = _
        have hb' : b < μ.1 := hb
        rw [if_neg (by omega), if_neg (by omega)]
        rfl
      have e2 : zi (zMul μ n.toNatClampNeg k.toNatClampNeg) b = zi μ b := by
        funext j
        show (if μ.1 ≤ b ∧ b ≤ μ.1 + n.toNatClampNeg then fun _ => 0 else μ.2.2.1 b) j = _
        have hb' : b < μ.1 := hb
        rw [if_neg (by omega)]
        rfl
      have e3 : zr (zMul μ n.toNatClampNeg k.toNatClampNeg) b = zr μ b := by
        funext j
        show (if b = μ.1 then _ else if μ.1 < b ∧ b ≤ μ.1 + n.toNatClampNeg then fun _ => none else μ.2.2.2 b) j = _
        have hb' : b < μ.1 := hb
        rw [if_neg (by omega), if_neg (by omega)]
        rfl
      unfold zE zv zrr
      rw [e1, e2, e3]
    · by_cases e : b = zn μ
      · subst e
        have e1 : zk (zMul μ n.toNatClampNeg k.toNatClampNeg) (zn μ) = (1, n.toNatClampNeg) := if_pos rfl
        have e3 : zr (zMul μ n.toNatClampNeg k.toNatClampNeg) (zn μ) = fun j => if j < n.toNatClampNeg then some (μ.1 + 1 + j) else none := if_pos rfl
        rw [zE_ref (j := 1) (by rw [e1]) (by omega) (by omega), e1]
        show F.heap[zad w (zn μ)]? = some (vp_cell _ _)
        rw [← hP.top hrl, f2, vp_cell_q, vr_outer]
        congr 2
        funext j
        unfold zrr
        rw [hs, e3]
        show va_rf _ = va_rf (Option.map _ (if j < n.toNatClampNeg then some (μ.1 + 1 + j) else none))
        by_cases hj : j < n.toNatClampNeg
        · rw [if_pos hj, if_pos hj]
          have h32 : 32 ≤ μ.1 := hlim.1
          have t1 : H.size = zb0 w + (μ.1 - 32) := by rw [← hsz]; exact (hP.1 (by omega)).2.1
          have t3 : zb0 w + (μ.1 - 32) + 1 + j = zb0 w + (μ.1 + 1 + j - 32) := by omega
          show Value.ref _ = Value.ref (zad w (μ.1 + 1 + j))
          rw [t1, t3, zad_lo w (show 32 ≤ μ.1 + 1 + j by omega) (by have h9 : μ.1 + 1 + n.toNatClampNeg ≤ 81 := hlim.2; omega)]
        · rw [if_neg hj, if_neg hj]
          rfl
      · have g1' : μ.1 ≤ b := g1
        have g2' : b < μ.1 + 1 + n.toNatClampNeg := g2
        have e' : b ≠ μ.1 := e
        have e1 : zk (zMul μ n.toNatClampNeg k.toNatClampNeg) b = (0, k.toNatClampNeg) := by
          show (if b = μ.1 then _ else if μ.1 < b ∧ b ≤ μ.1 + n.toNatClampNeg then (0, k.toNatClampNeg) else μ.2.1 b) = _
          rw [if_neg e', if_pos (by omega)]
        have e2 : zi (zMul μ n.toNatClampNeg k.toNatClampNeg) b = fun _ => 0 := by
          funext j
          show (if μ.1 ≤ b ∧ b ≤ μ.1 + n.toNatClampNeg then fun _ => 0 else μ.2.2.1 b) j = _
          rw [if_pos (by omega)]
        rw [zE_int (by rw [e1]), e1, e2]
        show F.heap[zad w b]? = some (vp_cell _ _)
        have h32 : 32 ≤ μ.1 := hlim.1
        have ea : zad w b = H.size + 1 + (b - μ.1 - 1) := by
          have t1 : H.size = zb0 w + (μ.1 - 32) := by rw [← hsz]; exact (hP.1 (by omega)).2.1
          have t3 : zb0 w + (b - 32) = (zb0 w + (μ.1 - 32)) + 1 + (b - μ.1 - 1) := by omega
          rw [zad_lo w (show 32 ≤ b by omega) (by have h9 : μ.1 + 1 + n.toNatClampNeg ≤ 81 := hlim.2; omega), t3, t1]
        rw [ea, f3 _ (by omega), vp_cell_i, ← arrV_new]
        rfl
  obtain ⟨t, b1, b2⟩ := kk p l e R s m args below meth c0 F.heap locs (cells + 1 + n.toNatClampNeg) (slots + n.toNatClampNeg + n.toNatClampNeg * k.toNatClampNeg) Qf ls hG hC hL hRp h1 h2 (by omega) (by omega) (fun v μ' H' locs' cells' slots' pc' ls' q r a b t => hQ v μ' H' locs' cells' slots' pc' ls' q r (by omega) (by omega) t) F rfl X'
  refine ⟨t, step t ?_, b2⟩
  rw [hT]
  have e : Array.size H = zad w (zn μ) := hP.top hrl
  rw [e]
  exact b1
/-- a nest mate's private constructor -/
theorem ev_callIN {k1 z1 k2 z2 d' idx n b : Nat} {y' : zY} {host : String} {As rest : List Value} {L0 : List (Option Value)} {Q1 : Option Value → zM → Prop} (hd : decode y.2.1 pc = .ok (.invokespecial idx, 3)) (hm : zMeth y' n) (hl : Cond.methodLinkNest y.1.cls idx y'.1 host ∈ zNw) (hi : Cond.instanceMethod y'.1 ∈ zGT) (hini : y'.1.name = "<init>") (hre : y'.2.2.2 = none)
    (hst : st = As.reverse ++ .ref b :: rest) (hn : As.length = n) (hr : (rest.map fun v => v.category).sum ≤ 8) (hl0 : zL0 (.ref b :: As) y'.2.2.1 = L0) (hlen : (zfa (.ref b :: As)).length ≤ y'.2.2.1) (hdd : d' + 1 ≤ d)
    (h : EV w d' k1 z1 y' 0 L0 [] μ Q1) (cont : ∀ v μ', Q1 v μ' → EV w d k2 z2 y (pc + 3) L (v.toList ++ rest) μ' Q) : EV w d (k1 + k2) (z1 + z2) y pc L st μ Q := by
  refine ev_run (rest := rest) (fun p l e R s m args below meth c H locs cells slots ls hG hC hL hP h1 h2 h3 h4 => ⟨(Value.ref (zad w b) :: As.map (zva w)).toArray, ?_⟩) cont
  have hts := hC.2.2.2.2.1
  have hcw : va_CN R s args y.1.cls idx y'.1 host y'.2.1 y'.2.2.1 none (zws y') (zrm d' k1 z1) k1 z1 n := ⟨⟨rfl, rfl, (zroom (k1 := k1) (z1 := z1) hm hdd h1 h2).1, (zroom (k1 := k1) (z1 := z1) hm hdd h1 h2).2, zws_pay hm hC, by rw [← hre]; exact List.mem_cons_self⟩, by rw [← hre]; exact hC.word hm.1, hC.word hm.2.1, hm.2.2.2.1, hm.len, va_Nw.use rfl (hC.fr.2.2.2.2 _ hl)⟩
  exact va_runIN (As := As.map (zva w)) (b := zad w b) ⟨hC.1, hC.2.1, hC.2.2.1, hC.2.2.2.1, hts⟩ (zmet l hG hm.2.2.1 hl0 hlen h) ⟨hcw, hini, hC.word hi⟩ ⟨zPc.blind w (.ref b :: As) μ, zPc_of (As := .ref b :: As) hC hP⟩ rfl (by rw [List.length_map]; exact hn) hL.1 (by show st.map (zva w) = _; rw [hst, List.map_append, List.map_reverse]; rfl) (zrest w hr) hd ⟨h3, h4⟩
theorem ev_objInit {idx a : Nat} (hd : decode y.2.1 pc = .ok (.invokespecial idx, 3)) (hl : Cond.methodLink y.1.cls idx objectInit ∈ zGT) (hi : Cond.instanceMethod objectInit ∈ zGT) (hco : Cond.code objectInit ⟨#[0xb1]⟩ 1 none ∈ zGT) (hd1 : 1 ≤ d) (hr : (st.map fun v => v.category).sum ≤ 8)
    (kk : EV w d kc ks y (pc + 3) L st μ Q) : EV w d kc ks y pc L (.ref a :: st) μ Q := by
  intro p l e R s m args below meth c0 H locs cells slots Qf ls hG hC hL hP h1 h2 h3 h4 hQ
  have hrs := zrest (pc := pc) w (m := m) (ls := ls) (st := st) hr
  have e0 : 2 * (F0 m pc ls (st.map (zva w))).monitorRoom = 0 := rfl
  exact W.objInit hC.1 hC.2.1 hC.2.2.2.1 (hC.word hl) (hC.word hi) (hC.word hco) rfl (by rw [hC.2.2.1]; exact hL.1) rfl hd (by omega) (by show 2 * 0 + _ + 12 ≤ _; omega) (kk p l e R s m args below meth c0 H locs cells slots Qf ls hG hC hL hP h1 h2 h3 h4 hQ)
theorem ev_max {idx : Nat} {a b v : Int32} (hd : decode y.2.1 pc = .ok (.invokestatic idx, 3)) (hl : Cond.methodLink y.1.cls idx Lib.Math.max.name ∈ zGT) (hst : Cond.static Lib.Math.max.name ∈ zGT) (hini : Cond.initialized "java/lang/Math" ∈ zGT) (hco : Cond.code Lib.Math.max.name Lib.Math.max.code 2 (some .int) ∈ zGT) (hd1 : 1 ≤ d) (hr : (st.map fun v => v.category).sum ≤ 8) (hv : (if a < b then b else a) = v)
    (kk : EV w d kc ks y (pc + 3) L (.int v :: st) μ Q) : EV w d kc ks y pc L (.int b :: .int a :: st) μ Q := by
  intro p l e R s m args below meth c0 H locs cells slots Qf ls hG hC hL hP h1 h2 h3 h4 hQ
  have hrs := zrest (pc := pc) w (m := m) (ls := ls) (st := st) hr
  have e0 : 2 * (F0 m pc ls (st.map (zva w))).monitorRoom = 0 := rfl
  exact va_mmax hC.1 hC.2.1 (by rw [hC.2.2.1]; exact hL.1.symm) hC.2.2.2.1 (hC.word hl) (hC.word hst) (hC.word hini) (hC.word hco) (by omega) (by omega) (by omega) (by omega) hd (by rw [hv]; exact kk p l e R s m args below meth c0 H locs cells slots Qf ls hG hC hL hP h1 h2 h3 h4 hQ)
theorem ev_min {idx : Nat} {a b v : Int32} (hd : decode y.2.1 pc = .ok (.invokestatic idx, 3)) (hl : Cond.methodLink y.1.cls idx Lib.Math.min.name ∈ zGT) (hst : Cond.static Lib.Math.min.name ∈ zGT) (hini : Cond.initialized "java/lang/Math" ∈ zGT) (hco : Cond.code Lib.Math.min.name Lib.Math.min.code 2 (some .int) ∈ zGT) (hd1 : 1 ≤ d) (hr : (st.map fun v => v.category).sum ≤ 8) (hv : (if b < a then b else a) = v)
    (kk : EV w d kc ks y (pc + 3) L (.int v :: st) μ Q) : EV w d kc ks y pc L (.int b :: .int a :: st) μ Q := by
  intro p l e R s m args below meth c0 H locs cells slots Qf ls hG hC hL hP h1 h2 h3 h4 hQ
  have hrs := zrest (pc := pc) w (m := m) (ls := ls) (st := st) hr
  have e0 : 2 * (F0 m pc ls (st.map (zva w))).monitorRoom = 0 := rfl
  exact va_mmin hC.1 hC.2.1 (by rw [hC.2.2.1]; exact hL.1.symm) hC.2.2.2.1 (hC.word hl) (hC.word hst) (hC.word hini) (hC.word hco) (by omega) (by omega) (by omega) (by omega) hd (by rw [hv]; exact kk p l e R s m args below meth c0 H locs cells slots Qf ls hG hC hL hP h1 h2 h3 h4 hQ)
/-- the statics: 0, 1: the first law's two rows; 2: COMPACT_STRINGS -/
theorem ev_getsF {idx : Nat} (hd : decode y.2.1 pc = .ok (.getstatic idx, 3)) (hl : Cond.fieldLink y.1.cls idx "NineHeaps" "FIRST_LAW" "[I" ∈ zGT) (kk : EV w d kc ks y (pc + 3) L (.ref 0 :: st) μ Q) : EV w d kc ks y pc L st μ Q := by
  intro p l e R s m args below meth c0 H locs cells slots Qf ls hG hC hL hP h1 h2 h3 h4 hQ
  exact va_gets hC.1 hC.2.1 ((va_Z.moved hC.fr.1 hG.2.2.2.1.1).kept (zkept hG hC.fr)) hP.2 hC.2.2.2.1 (hC.word hl) (fun _ h => h) hd (kk p l e R s m args below meth c0 H locs cells slots Qf ls hG hC hL hP h1 h2 h3 h4 hQ)
theorem ev_getsS {idx : Nat} (hd : decode y.2.1 pc = .ok (.getstatic idx, 3)) (hl : Cond.fieldLink y.1.cls idx "NineHeaps" "FIRST_LAW_STARTS" "[I" ∈ zGT) (kk : EV w d kc ks y (pc + 3) L (.ref 1 :: st) μ Q) : EV w d kc ks y pc L st μ Q := by
  intro p l e R s m args below meth c0 H locs cells slots Qf ls hG hC hL hP h1 h2 h3 h4 hQ
  exact va_gets hC.1 hC.2.1 ((va_Z.moved hC.fr.1 hG.2.2.2.2.1.1).kept (zkept hG hC.fr)) hP.2 hC.2.2.2.1 (hC.word hl) (fun _ h => h) hd (kk p l e R s m args below meth c0 H locs cells slots Qf ls hG hC hL hP h1 h2 h3 h4 hQ)
theorem ev_getsC {idx : Nat} (hd : decode y.2.1 pc = .ok (.getstatic idx, 3)) (hl : Cond.fieldLink y.1.cls idx "java/lang/String" "COMPACT_STRINGS" "Z" ∈ zGT) (kk : EV w d kc ks y (pc + 3) L (.int 1 :: st) μ Q) : EV w d kc ks y pc L st μ Q := by
  intro p l e R s m args below meth c0 H locs cells slots Qf ls hG hC hL hP h1 h2 h3 h4 hQ
  exact va_gets hC.1 hC.2.1 ((va_Z.moved hC.fr.1 hG.2.2.2.2.2.1).kept (zkept hG hC.fr)) hP.2 hC.2.2.2.1 (hC.word hl) (fun _ h => h) hd (kk p l e R s m args below meth c0 H locs cells slots Qf ls hG hC hL hP h1 h2 h3 h4 hQ)
theorem ev_getsQ {idx : Nat} (hd : decode y.2.1 pc = .ok (.getstatic idx, 3)) (hl : Cond.fieldLink y.1.cls idx "jdk/internal/util/Preconditions" "SIOOBE_FORMATTER" "Ljava/util/function/BiFunction;" ∈ zGT) (kk : EV w d kc ks y (pc + 3) L (va_rf (zsio w) :: st) μ Q) : EV w d kc ks y pc L st μ Q := by
  intro p l e R s m args below meth c0 H locs cells slots Qf ls hG hC hL hP h1 h2 h3 h4 hQ
  have e9 : zva w (va_rf (zsio w)) = va_rf ((zsio w).map (zca w)) := by
    unfold zsio
    by_cases h : zca w 28 = 0
    · rw [if_pos h]
      rfl
    · rw [if_neg h]
      rfl
  have hk : W p l e R s m args below meth c0 H locs cells slots Qf (F0 m (pc + 3) ls (zva w (va_rf (zsio w)) :: st.map (zva w))) := kk p l e R s m args below meth c0 H locs cells slots Qf ls hG hC hL hP h1 h2 h3 h4 hQ
  rw [e9] at hk
  exact va_gets hC.1 hC.2.1 ((va_Z.moved hC.fr.1 hG.2.2.2.2.2.2.2.2.2.1).kept (zkept hG hC.fr)) hP.2 hC.2.2.2.1 (hC.word hl) (fun _ h => h) hd hk
/-- old rows of ints -/
theorem zold_at {w : zW} {s : State} {H : Heap} {locs : List Loc} {i N : Nat} {f : Nat → Int32} (hi : i < 32) (hT : zGF w → zTc w i N f) (hG : zGF w) (hF : zFr w s) (hP : zRp w s μ H locs) : ∃ cell : Cell, H[zad w i]? = some cell ∧ s.isArrayOf cell .int ∧ cell.vm ≠ .unknown ∧ cell.slots.size = N ∧ ∀ j : Nat, j < N → cell.slots[j]? = some (.int (f j)) := by
  obtain ⟨cell, q1, q2, q3, q4, q5, q6⟩ := zsrc_old hi (hT hG) s H locs hG hF hP
  refine ⟨cell, q1, ⟨q4, ?_⟩, q3, q5, q6⟩
  rw [q2]
  exact (((zKs hG hF).2 0 _ rfl).1 0 (fun _ => .null)).2
theorem ev_ialdO {i N : Nat} {j x : Int32} {f : Nat → Int32} (hd : decode y.2.1 pc = .ok (.iaload, 1)) (hi : i < 32) (hT : zGF w → zTc w i N f) (hin : vp_in j N) (hv : f j.toNatClampNeg = x)
    (kk : EV w d kc ks y (pc + 1) L (.int x :: st) μ Q) : EV w d kc ks y pc L (.int j :: .ref i :: st) μ Q := by
  intro p l e R s m args below meth c0 H locs cells slots Qf ls hG hC hL hP h1 h2 h3 h4 hQ
  obtain ⟨cell, q1, q2, q3, q4, q5⟩ := zold_at hi hT hG hC.fr hP
  have hlt : j.toNatClampNeg < N := Nat.not_le.mp fun q => hin (Or.inr q)
  exact W.iald (v := .int x) hC.1 hC.2.1 q1 q2 q3 (by rw [q4]; exact hin) (by rw [q5 _ hlt, hv]) rfl rfl hd (kk p l e R s m args below meth c0 H locs cells slots Qf ls hG hC hL hP h1 h2 h3 h4 hQ)
theorem ev_alenO {i N : Nat} {x : Int32} {f : Nat → Int32} (hd : decode y.2.1 pc = .ok (.arraylength, 1)) (hi : i < 32) (hT : zGF w → zTc w i N f) (hv : N.toInt32 = x)
    (kk : EV w d kc ks y (pc + 1) L (.int x :: st) μ Q) : EV w d kc ks y pc L (.ref i :: st) μ Q := by
  intro p l e R s m args below meth c0 H locs cells slots Qf ls hG hC hL hP h1 h2 h3 h4 hQ
  obtain ⟨cell, q1, q2, q3, q4, q5⟩ := zold_at hi hT hG hC.fr hP
  exact W.alen hC.1 hC.2.1 q1 q2 (by rw [q4]; exact hv) rfl rfl hd (kk p l e R s m args below meth c0 H locs cells slots Qf ls hG hC hL hP h1 h2 h3 h4 hQ)
/-- the script -/
theorem ev_sld {j x : Int32} (hd : decode y.2.1 pc = .ok (.iaload, 1)) (hin : vp_in j (zxl w)) (hv : zxs w j.toNatClampNeg = x)
    (kk : EV w d kc ks y (pc + 1) L (.int x :: st) μ Q) : EV w d kc ks y pc L (.int j :: .ref 26 :: st) μ Q := by
  intro p l e R s m args below meth c0 H locs cells slots Qf ls hG hC hL hP h1 h2 h3 h4 hQ
  exact va_sld hC.1 hC.2.1 (zX hG hC.fr) (Nat.lt_of_lt_of_le hG.2.2.1.2 hC.fr.2.1) (Nat.not_le.mpr hG.2.2.1.2) hP.2 hin hd (by rw [hv]; exact kk p l e R s m args below meth c0 H locs cells slots Qf ls hG hC hL hP h1 h2 h3 h4 hQ)
theorem ev_slen {x : Int32} (hd : decode y.2.1 pc = .ok (.arraylength, 1)) (hv : Int32.ofNat (zxl w) = x)
    (kk : EV w d kc ks y (pc + 1) L (.int x :: st) μ Q) : EV w d kc ks y pc L (.ref 26 :: st) μ Q := by
  intro p l e R s m args below meth c0 H locs cells slots Qf ls hG hC hL hP h1 h2 h3 h4 hQ
  exact va_slen hC.1 hC.2.1 (zX hG hC.fr) (Nat.lt_of_lt_of_le hG.2.2.1.2 hC.fr.2.1) (Nat.not_le.mpr hG.2.2.1.2) hP.2 hd (by subst hv; exact kk p l e R s m args below meth c0 H locs cells slots Qf ls hG hC hL hP h1 h2 h3 h4 hQ)
/-! texts: 2 .. 13, their bytes 14 .. 25; the law's: 81 .. 84, their bytes 85 .. 88 -/
theorem ev_ldcS {i idx : Nat} (hd : decode y.2.1 pc = .ok (.ldc idx, 2)) (hi : i < 12) (hx : zSix.getD (i) 0 = idx) (hy : y.1.cls = "NineHeaps$Tape") (kk : EV w d kc ks y (pc + 2) L (.ref (2 + i) :: st) μ Q) : EV w d kc ks y pc L st μ Q := by
  intro p l e R s m args below meth c0 H locs cells slots Qf ls hG hC hL hP h1 h2 h3 h4 hQ
  have hz := hC.fr.2.2.2.1 (i) (by omega)
  rw [hx, (show zSow (i) = "NineHeaps$Tape" from if_pos (by omega)), (show zSa (i) = 2 + i from if_pos (by omega))] at hz
  have hk := kk p l e R s m args below meth c0 H locs cells slots Qf ls hG hC hL hP h1 h2 h3 h4 hQ
  have hk2 : W p l e R s m args below meth c0 H locs cells slots Qf (F0 m (pc + 2) ls (.ref (zad w (2 + i)) :: st.map (zva w))) := hk
  rw [(show zad w (2 + i) = zca w (2 + i) from if_pos (by omega))] at hk2
  exact va_ldcS hC.1 hC.2.1 (by rw [← hy]; exact hC.2.2.2.1) hz hd hk2
theorem zrcv_str {i : Nat} (hi : i < 12) : zRcv w μ (2 + i) "java/lang/String" := by
  intro s H locs hG hF hP
  rw [(show zad w (2 + i) = zca w (2 + i) from if_pos (by omega))]
  have h9 := vk_recv (i := i) (zstr hG hF) (by omega) hP.2
  rw [(show zSa (i) = 2 + i from if_pos (by omega))] at h9
  exact h9
theorem ev_strV {i idx : Nat} (hd : decode y.2.1 pc = .ok (.getfield idx, 3)) (hi : i < 12) (hl : Cond.fieldLink y.1.cls idx "java/lang/String" "value" "[B" ∈ zGT) (kk : EV w d kc ks y (pc + 3) L (.ref (14 + i) :: st) μ Q) : EV w d kc ks y pc L (.ref (2 + i) :: st) μ Q := by
  intro p l e R s m args below meth c0 H locs cells slots Qf ls hG hC hL hP h1 h2 h3 h4 hQ
  have hk : W p l e R s m args below meth c0 H locs cells slots Qf (F0 m (pc + 3) ls (.ref (zad w (14 + i)) :: st.map (zva w))) := kk p l e R s m args below meth c0 H locs cells slots Qf ls hG hC hL hP h1 h2 h3 h4 hQ
  rw [(show zad w (14 + i) = zca w (14 + i) from if_pos (by omega))] at hk
  show W p l e R s m args below meth c0 H locs cells slots Qf (F0 m pc ls (.ref (zad w (2 + i)) :: st.map (zva w)))
  rw [(show zad w (2 + i) = zca w (2 + i) from if_pos (by omega))]
  have hz := ((zstr hG hC.fr).1 (i) (by omega)).2.2.1
  dsimp only at hz
  rw [(show zSa (i) = 2 + i from if_pos (by omega)), (show zVa (i) = 14 + i from if_pos (by omega))] at hz
  exact vk_getf hC.1 hC.2.1 hz hP.2 hC.2.2.2.1 (hC.word hl) (fun _ h => h) hd hk
theorem ev_strC {i idx : Nat} (hd : decode y.2.1 pc = .ok (.getfield idx, 3)) (hi : i < 12) (hl : Cond.fieldLink y.1.cls idx "java/lang/String" "coder" "B" ∈ zGT) (kk : EV w d kc ks y (pc + 3) L (.int 0 :: st) μ Q) : EV w d kc ks y pc L (.ref (2 + i) :: st) μ Q := by
  intro p l e R s m args below meth c0 H locs cells slots Qf ls hG hC hL hP h1 h2 h3 h4 hQ
  have hk := kk p l e R s m args below meth c0 H locs cells slots Qf ls hG hC hL hP h1 h2 h3 h4 hQ
  show W p l e R s m args below meth c0 H locs cells slots Qf (F0 m pc ls (.ref (zad w (2 + i)) :: st.map (zva w)))
  rw [(show zad w (2 + i) = zca w (2 + i) from if_pos (by omega))]
  have hz := ((zstr hG hC.fr).1 (i) (by omega)).2.1
  dsimp only at hz
  rw [(show zSa (i) = 2 + i from if_pos (by omega))] at hz
  exact vk_getf hC.1 hC.2.1 hz hP.2 hC.2.2.2.1 (hC.word hl) (fun _ h => h) hd hk
theorem ev_bald {i : Nat} {j x : Int32} (hd : decode y.2.1 pc = .ok (.baload, 1)) (hi : i < 12) (hin : vp_in j (zSlen.getD (i) 0)) (hv : (zSbyt.getD (i) []).getD j.toNatClampNeg 0 = x)
    (kk : EV w d kc ks y (pc + 1) L (.int x :: st) μ Q) : EV w d kc ks y pc L (.int j :: .ref (14 + i) :: st) μ Q := by
  intro p l e R s m args below meth c0 H locs cells slots Qf ls hG hC hL hP h1 h2 h3 h4 hQ
  have hk := kk p l e R s m args below meth c0 H locs cells slots Qf ls hG hC hL hP h1 h2 h3 h4 hQ
  show W p l e R s m args below meth c0 H locs cells slots Qf (F0 m pc ls (.int j :: .ref (zad w (14 + i)) :: st.map (zva w)))
  rw [(show zad w (14 + i) = zca w (14 + i) from if_pos (by omega))]
  have hz := ((zstr hG hC.fr).1 (i) (by omega)).2.2.2
  dsimp only at hz
  rw [(show zVa (i) = 14 + i from if_pos (by omega))] at hz
  exact va_tb hC.1 hC.2.1 hz hP.2 hin (v := .int x) (by rw [hv]) hd hk
theorem ev_blen {i : Nat} {x : Int32} (hd : decode y.2.1 pc = .ok (.arraylength, 1)) (hi : i < 12) (hv : Int32.ofNat (zSlen.getD (i) 0) = x)
    (kk : EV w d kc ks y (pc + 1) L (.int x :: st) μ Q) : EV w d kc ks y pc L (.ref (14 + i) :: st) μ Q := by
  intro p l e R s m args below meth c0 H locs cells slots Qf ls hG hC hL hP h1 h2 h3 h4 hQ
  have hk := kk p l e R s m args below meth c0 H locs cells slots Qf ls hG hC hL hP h1 h2 h3 h4 hQ
  show W p l e R s m args below meth c0 H locs cells slots Qf (F0 m pc ls (.ref (zad w (14 + i)) :: st.map (zva w)))
  rw [(show zad w (14 + i) = zca w (14 + i) from if_pos (by omega))]
  have hz := ((zstr hG hC.fr).1 (i) (by omega)).2.2.2
  dsimp only at hz
  rw [(show zVa (i) = 14 + i from if_pos (by omega))] at hz
  exact va_tlen hC.1 hC.2.1 hz hP.2 hv hd hk
theorem ev_ldcT {i idx : Nat} (hd : decode y.2.1 pc = .ok (.ldc idx, 2)) (hi : i < 4) (hx : zSix.getD (12 + i) 0 = idx) (hy : y.1.cls = "NineHeapsLaw") (kk : EV w d kc ks y (pc + 2) L (.ref (81 + i) :: st) μ Q) : EV w d kc ks y pc L st μ Q := by
  intro p l e R s m args below meth c0 H locs cells slots Qf ls hG hC hL hP h1 h2 h3 h4 hQ
  have hz := hC.fr.2.2.2.1 (12 + i) (by omega)
  rw [hx, (show zSow (12 + i) = "NineHeapsLaw" from if_neg (by omega)), (show zSa (12 + i) = 81 + i by unfold zSa; rw [if_neg (by omega)]; omega)] at hz
  have hk := kk p l e R s m args below meth c0 H locs cells slots Qf ls hG hC hL hP h1 h2 h3 h4 hQ
  have hk2 : W p l e R s m args below meth c0 H locs cells slots Qf (F0 m (pc + 2) ls (.ref (zad w (81 + i)) :: st.map (zva w))) := hk
  rw [(show zad w (81 + i) = zca w (81 + i) from zad_gh w (by omega) (by omega))] at hk2
  exact va_ldcS hC.1 hC.2.1 (by rw [← hy]; exact hC.2.2.2.1) hz hd hk2
theorem zrcv_strT {i : Nat} (hi : i < 4) : zRcv w μ (81 + i) "java/lang/String" := by
  intro s H locs hG hF hP
  rw [(show zad w (81 + i) = zca w (81 + i) from zad_gh w (by omega) (by omega))]
  have h9 := vk_recv (i := 12 + i) (zstr hG hF) (by omega) hP.2
  rw [(show zSa (12 + i) = 81 + i by unfold zSa; rw [if_neg (by omega)]; omega)] at h9
  exact h9
theorem ev_strTV {i idx : Nat} (hd : decode y.2.1 pc = .ok (.getfield idx, 3)) (hi : i < 4) (hl : Cond.fieldLink y.1.cls idx "java/lang/String" "value" "[B" ∈ zGT) (kk : EV w d kc ks y (pc + 3) L (.ref (85 + i) :: st) μ Q) : EV w d kc ks y pc L (.ref (81 + i) :: st) μ Q := by
  intro p l e R s m args below meth c0 H locs cells slots Qf ls hG hC hL hP h1 h2 h3 h4 hQ
  have hk : W p l e R s m args below meth c0 H locs cells slots Qf (F0 m (pc + 3) ls (.ref (zad w (85 + i)) :: st.map (zva w))) := kk p l e R s m args below meth c0 H locs cells slots Qf ls hG hC hL hP h1 h2 h3 h4 hQ
  rw [(show zad w (85 + i) = zca w (85 + i) from zad_gh w (by omega) (by omega))] at hk
  show W p l e R s m args below meth c0 H locs cells slots Qf (F0 m pc ls (.ref (zad w (81 + i)) :: st.map (zva w)))
  rw [(show zad w (81 + i) = zca w (81 + i) from zad_gh w (by omega) (by omega))]
  have hz := ((zstr hG hC.fr).1 (12 + i) (by omega)).2.2.1
  dsimp only at hz
  rw [(show zSa (12 + i) = 81 + i by unfold zSa; rw [if_neg (by omega)]; omega), (show zVa (12 + i) = 85 + i by unfold zVa; rw [if_neg (by omega)]; omega)] at hz
  exact vk_getf hC.1 hC.2.1 hz hP.2 hC.2.2.2.1 (hC.word hl) (fun _ h => h) hd hk
theorem ev_strTC {i idx : Nat} (hd : decode y.2.1 pc = .ok (.getfield idx, 3)) (hi : i < 4) (hl : Cond.fieldLink y.1.cls idx "java/lang/String" "coder" "B" ∈ zGT) (kk : EV w d kc ks y (pc + 3) L (.int 0 :: st) μ Q) : EV w d kc ks y pc L (.ref (81 + i) :: st) μ Q := by
  intro p l e R s m args below meth c0 H locs cells slots Qf ls hG hC hL hP h1 h2 h3 h4 hQ
  have hk := kk p l e R s m args below meth c0 H locs cells slots Qf ls hG hC hL hP h1 h2 h3 h4 hQ
  show W p l e R s m args below meth c0 H locs cells slots Qf (F0 m pc ls (.ref (zad w (81 + i)) :: st.map (zva w)))
  rw [(show zad w (81 + i) = zca w (81 + i) from zad_gh w (by omega) (by omega))]
  have hz := ((zstr hG hC.fr).1 (12 + i) (by omega)).2.1
  dsimp only at hz
  rw [(show zSa (12 + i) = 81 + i by unfold zSa; rw [if_neg (by omega)]; omega)] at hz
  exact vk_getf hC.1 hC.2.1 hz hP.2 hC.2.2.2.1 (hC.word hl) (fun _ h => h) hd hk
theorem ev_bTald {i : Nat} {j x : Int32} (hd : decode y.2.1 pc = .ok (.baload, 1)) (hi : i < 4) (hin : vp_in j (zSlen.getD (12 + i) 0)) (hv : (zSbyt.getD (12 + i) []).getD j.toNatClampNeg 0 = x)
    (kk : EV w d kc ks y (pc + 1) L (.int x :: st) μ Q) : EV w d kc ks y pc L (.int j :: .ref (85 + i) :: st) μ Q := by
  intro p l e R s m args below meth c0 H locs cells slots Qf ls hG hC hL hP h1 h2 h3 h4 hQ
  have hk := kk p l e R s m args below meth c0 H locs cells slots Qf ls hG hC hL hP h1 h2 h3 h4 hQ
  show W p l e R s m args below meth c0 H locs cells slots Qf (F0 m pc ls (.int j :: .ref (zad w (85 + i)) :: st.map (zva w)))
  rw [(show zad w (85 + i) = zca w (85 + i) from zad_gh w (by omega) (by omega))]
  have hz := ((zstr hG hC.fr).1 (12 + i) (by omega)).2.2.2
  dsimp only at hz
  rw [(show zVa (12 + i) = 85 + i by unfold zVa; rw [if_neg (by omega)]; omega)] at hz
  exact va_tb hC.1 hC.2.1 hz hP.2 hin (v := .int x) (by rw [hv]) hd hk
theorem ev_bTlen {i : Nat} {x : Int32} (hd : decode y.2.1 pc = .ok (.arraylength, 1)) (hi : i < 4) (hv : Int32.ofNat (zSlen.getD (12 + i) 0) = x)
    (kk : EV w d kc ks y (pc + 1) L (.int x :: st) μ Q) : EV w d kc ks y pc L (.ref (85 + i) :: st) μ Q := by
  intro p l e R s m args below meth c0 H locs cells slots Qf ls hG hC hL hP h1 h2 h3 h4 hQ
  have hk := kk p l e R s m args below meth c0 H locs cells slots Qf ls hG hC hL hP h1 h2 h3 h4 hQ
  show W p l e R s m args below meth c0 H locs cells slots Qf (F0 m pc ls (.ref (zad w (85 + i)) :: st.map (zva w)))
  rw [(show zad w (85 + i) = zca w (85 + i) from zad_gh w (by omega) (by omega))]
  have hz := ((zstr hG hC.fr).1 (12 + i) (by omega)).2.2.2
  dsimp only at hz
  rw [(show zVa (12 + i) = 85 + i by unfold zVa; rw [if_neg (by omega)]; omega)] at hz
  exact va_tlen hC.1 hC.2.1 hz hP.2 hv hd hk
/-- a text's bytes to copy from -/
theorem zSrc_str {i : Nat} (hi : i < 4) : zSrc w μ (85 + i) (zSlen.getD (12 + i) 0) (fun k => (zSbyt.getD (12 + i) []).getD k 0) := by
  intro s H locs hG hF hP
  rw [show zad w (85 + i) = zca w (85 + i) from zad_gh w (by omega) (by omega)]
  have hz := ((zstr hG hF).1 (12 + i) (by omega)).2.2.2
  dsimp only at hz
  rw [show zVa (12 + i) = 85 + i by unfold zVa; rw [if_neg (by omega)]; omega] at hz
  obtain ⟨cell, q1, q2, q3, q4, -, q5, q6⟩ := hz
  have hl : zca w (85 + i) < s.heap.size := (Array.getElem?_eq_some_iff.mp q1).1
  exact ⟨cell, by rw [hP.2.2.1 _ hl q6]; exact q1, q2, q3, q4, q5⟩
/-- Integer.DigitOnes -/
theorem ev_getsD {idx : Nat} (hd : decode y.2.1 pc = .ok (.getstatic idx, 3)) (hl : Cond.fieldLink y.1.cls idx "java/lang/Integer" "DigitOnes" "[B" ∈ zGT) (kk : EV w d kc ks y (pc + 3) L (.ref 89 :: st) μ Q) : EV w d kc ks y pc L st μ Q := by
  intro p l e R s m args below meth c0 H locs cells slots Qf ls hG hC hL hP h1 h2 h3 h4 hQ
  have hk : W p l e R s m args below meth c0 H locs cells slots Qf (F0 m (pc + 3) ls (.ref (zad w 89) :: st.map (zva w))) := kk p l e R s m args below meth c0 H locs cells slots Qf ls hG hC hL hP h1 h2 h3 h4 hQ
  rw [zad_gh w (by decide) (by decide)] at hk
  exact va_gets hC.1 hC.2.1 ((va_Z.moved hC.fr.1 hG.2.2.2.2.2.2.2.2.2.2.1).kept (zkept hG hC.fr)) hP.2 hC.2.2.2.1 (hC.word hl) (fun _ h => h) hd hk
theorem ev_baldD {j x : Int32} (hd : decode y.2.1 pc = .ok (.baload, 1)) (hin : vp_in j 100) (hv : zDo j.toNatClampNeg = x)
    (kk : EV w d kc ks y (pc + 1) L (.int x :: st) μ Q) : EV w d kc ks y pc L (.int j :: .ref 89 :: st) μ Q := by
  intro p l e R s m args below meth c0 H locs cells slots Qf ls hG hC hL hP h1 h2 h3 h4 hQ
  have hk := kk p l e R s m args below meth c0 H locs cells slots Qf ls hG hC hL hP h1 h2 h3 h4 hQ
  show W p l e R s m args below meth c0 H locs cells slots Qf (F0 m pc ls (.int j :: .ref (zad w 89) :: st.map (zva w)))
  rw [zad_gh w (by decide) (by decide)]
  exact va_tb hC.1 hC.2.1 ((va_T.moved hC.fr.1 hG.2.2.2.2.2.2.2.2.2.2.2).kept (zkept hG hC.fr)) hP.2 hin (v := .int x) (by rw [hv]) hd hk
/-- Math.max, Math.min of longs -/
theorem ev_maxL {idx : Nat} {a b v : Int64} (hd : decode y.2.1 pc = .ok (.invokestatic idx, 3)) (hl : Cond.methodLink y.1.cls idx Lib.MathLoose.max_long.x ∈ zGT) (hst : Cond.static Lib.MathLoose.max_long.x ∈ zGT) (hini : Cond.initialized "java/lang/Math" ∈ zGT) (hco : Cond.code Lib.MathLoose.max_long.x Lib.MathLoose.max_long.code 4 (some .long) ∈ zGT) (hd1 : 1 ≤ d) (hr : (st.map fun v => v.category).sum ≤ 8) (hv : (if b < a then a else b) = v)
    (kk : EV w d kc ks y (pc + 3) L (.long v :: st) μ Q) : EV w d kc ks y pc L (.long b :: .long a :: st) μ Q := by
  intro p l e R s m args below meth c0 H locs cells slots Qf ls hG hC hL hP h1 h2 h3 h4 hQ
  have hrs := zrest (pc := pc) w (m := m) (ls := ls) (st := st) hr
  have e0 : 2 * (F0 m pc ls (st.map (zva w))).monitorRoom = 0 := rfl
  exact va_mmax_long hC.1 hC.2.1 (by rw [hC.2.2.1]; exact hL.1.symm) hC.2.2.2.1 (hC.word hl) (hC.word hst) (hC.word hini) (hC.word hco) (by omega) (by omega) (by omega) (by omega) hd (by rw [hv]; exact kk p l e R s m args below meth c0 H locs cells slots Qf ls hG hC hL hP h1 h2 h3 h4 hQ)
theorem ev_minL {idx : Nat} {a b v : Int64} (hd : decode y.2.1 pc = .ok (.invokestatic idx, 3)) (hl : Cond.methodLink y.1.cls idx Lib.MathLoose.min_long.x ∈ zGT) (hst : Cond.static Lib.MathLoose.min_long.x ∈ zGT) (hini : Cond.initialized "java/lang/Math" ∈ zGT) (hco : Cond.code Lib.MathLoose.min_long.x Lib.MathLoose.min_long.code 4 (some .long) ∈ zGT) (hd1 : 1 ≤ d) (hr : (st.map fun v => v.category).sum ≤ 8) (hv : (if b < a then b else a) = v)
    (kk : EV w d kc ks y (pc + 3) L (.long v :: st) μ Q) : EV w d kc ks y pc L (.long b :: .long a :: st) μ Q := by
  intro p l e R s m args below meth c0 H locs cells slots Qf ls hG hC hL hP h1 h2 h3 h4 hQ
  have hrs := zrest (pc := pc) w (m := m) (ls := ls) (st := st) hr
  have e0 : 2 * (F0 m pc ls (st.map (zva w))).monitorRoom = 0 := rfl
  exact va_mmin_long hC.1 hC.2.1 (by rw [hC.2.2.1]; exact hL.1.symm) hC.2.2.2.1 (hC.word hl) (hC.word hst) (hC.word hini) (hC.word hco) (by omega) (by omega) (by omega) (by omega) hd (by rw [hv]; exact kk p l e R s m args below meth c0 H locs cells slots Qf ls hG hC hL hP h1 h2 h3 h4 hQ)
end EVB
end
