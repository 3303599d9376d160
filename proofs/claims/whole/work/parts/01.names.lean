-- ===== PART A: goes FIRST, ahead of the names: the tables' words, and 'selects' of the private methods out of them =====
/-- a private method of a class that the tables say can be made, by its rows of tables_1 -/
def lw_okq (q : MethodName × Nat) : Prop := (q.1.cls ≠ "java/lang/invoke/MethodHandle" ∧ q.1.cls ≠ "java/lang/invoke/VarHandle") ∧ Cond.instantiable q.1.cls q.2 ∈ tables_1 ∧ Cond.privateMethod q.1 ∈ tables_1 ∧ Cond.instanceMethod q.1 ∈ tables_1
theorem lw_p0 : lw_okq (⟨"NineHeaps", "changeWant", "(I)I"⟩, 20) := ⟨⟨by decide +kernel, by decide +kernel⟩, List.mem_of_getElem? (i := 22) (by decide +kernel), List.mem_of_getElem? (i := 298) (by decide +kernel), List.mem_of_getElem? (i := 299) (by decide +kernel)⟩
theorem lw_p1 : lw_okq (⟨"NineHeaps$Tape", "nextToken", "()V"⟩, 10) := ⟨⟨by decide +kernel, by decide +kernel⟩, List.mem_of_getElem? (i := 34) (by decide +kernel), List.mem_of_getElem? (i := 328) (by decide +kernel), List.mem_of_getElem? (i := 329) (by decide +kernel)⟩
theorem lw_p2 : lw_okq (⟨"NineHeaps$Tape", "byteAt", "(I)I"⟩, 10) := ⟨⟨by decide +kernel, by decide +kernel⟩, List.mem_of_getElem? (i := 34) (by decide +kernel), List.mem_of_getElem? (i := 332) (by decide +kernel), List.mem_of_getElem? (i := 333) (by decide +kernel)⟩
theorem lw_p3 : lw_okq (⟨"NineHeaps$Tape", "takeWord", "()V"⟩, 10) := ⟨⟨by decide +kernel, by decide +kernel⟩, List.mem_of_getElem? (i := 34) (by decide +kernel), List.mem_of_getElem? (i := 339) (by decide +kernel), List.mem_of_getElem? (i := 340) (by decide +kernel)⟩
theorem lw_p4 : lw_okq (⟨"NineHeaps$Tape", "spells", "(Ljava/lang/String;)Z"⟩, 10) := ⟨⟨by decide +kernel, by decide +kernel⟩, List.mem_of_getElem? (i := 34) (by decide +kernel), List.mem_of_getElem? (i := 344) (by decide +kernel), List.mem_of_getElem? (i := 345) (by decide +kernel)⟩
theorem lw_p5 : lw_okq (⟨"NineHeaps$Tape", "takeNumber", "()V"⟩, 10) := ⟨⟨by decide +kernel, by decide +kernel⟩, List.mem_of_getElem? (i := 34) (by decide +kernel), List.mem_of_getElem? (i := 410) (by decide +kernel), List.mem_of_getElem? (i := 411) (by decide +kernel)⟩
theorem lw_p6 : lw_okq (⟨"NineHeaps$Tape", "readPart", "(II)V"⟩, 10) := ⟨⟨by decide +kernel, by decide +kernel⟩, List.mem_of_getElem? (i := 34) (by decide +kernel), List.mem_of_getElem? (i := 417) (by decide +kernel), List.mem_of_getElem? (i := 418) (by decide +kernel)⟩
theorem lw_p7 : lw_okq (⟨"NineHeaps$Tape", "expect", "(I)V"⟩, 10) := ⟨⟨by decide +kernel, by decide +kernel⟩, List.mem_of_getElem? (i := 34) (by decide +kernel), List.mem_of_getElem? (i := 421) (by decide +kernel), List.mem_of_getElem? (i := 422) (by decide +kernel)⟩
theorem lw_p8 : lw_okq (⟨"NineHeaps$Tape", "fail", "()V"⟩, 10) := ⟨⟨by decide +kernel, by decide +kernel⟩, List.mem_of_getElem? (i := 34) (by decide +kernel), List.mem_of_getElem? (i := 425) (by decide +kernel), List.mem_of_getElem? (i := 426) (by decide +kernel)⟩
theorem lw_p9 : lw_okq (⟨"NineHeaps$Tape", "readOr", "(I)V"⟩, 10) := ⟨⟨by decide +kernel, by decide +kernel⟩, List.mem_of_getElem? (i := 34) (by decide +kernel), List.mem_of_getElem? (i := 429) (by decide +kernel), List.mem_of_getElem? (i := 430) (by decide +kernel)⟩
theorem lw_p10 : lw_okq (⟨"NineHeaps$Tape", "readAnd", "(I)V"⟩, 10) := ⟨⟨by decide +kernel, by decide +kernel⟩, List.mem_of_getElem? (i := 34) (by decide +kernel), List.mem_of_getElem? (i := 433) (by decide +kernel), List.mem_of_getElem? (i := 434) (by decide +kernel)⟩
theorem lw_p11 : lw_okq (⟨"NineHeaps$Tape", "readNot", "(I)V"⟩, 10) := ⟨⟨by decide +kernel, by decide +kernel⟩, List.mem_of_getElem? (i := 34) (by decide +kernel), List.mem_of_getElem? (i := 437) (by decide +kernel), List.mem_of_getElem? (i := 438) (by decide +kernel)⟩
theorem lw_p12 : lw_okq (⟨"NineHeaps$Tape", "mayOpen", "(I)Z"⟩, 10) := ⟨⟨by decide +kernel, by decide +kernel⟩, List.mem_of_getElem? (i := 34) (by decide +kernel), List.mem_of_getElem? (i := 441) (by decide +kernel), List.mem_of_getElem? (i := 442) (by decide +kernel)⟩
theorem lw_p13 : lw_okq (⟨"NineHeaps$Tape", "put", "(I)V"⟩, 10) := ⟨⟨by decide +kernel, by decide +kernel⟩, List.mem_of_getElem? (i := 34) (by decide +kernel), List.mem_of_getElem? (i := 445) (by decide +kernel), List.mem_of_getElem? (i := 446) (by decide +kernel)⟩
theorem lw_p14 : lw_okq (⟨"NineHeaps$Tape", "readSum", "(I)V"⟩, 10) := ⟨⟨by decide +kernel, by decide +kernel⟩, List.mem_of_getElem? (i := 34) (by decide +kernel), List.mem_of_getElem? (i := 449) (by decide +kernel), List.mem_of_getElem? (i := 450) (by decide +kernel)⟩
theorem lw_p15 : lw_okq (⟨"NineHeaps$Tape", "readTerm", "(I)V"⟩, 10) := ⟨⟨by decide +kernel, by decide +kernel⟩, List.mem_of_getElem? (i := 34) (by decide +kernel), List.mem_of_getElem? (i := 453) (by decide +kernel), List.mem_of_getElem? (i := 454) (by decide +kernel)⟩
def lw_privs_1 : List (MethodName × Nat) := [(⟨"NineHeaps", "changeWant", "(I)I"⟩, 20), (⟨"NineHeaps$Tape", "nextToken", "()V"⟩, 10), (⟨"NineHeaps$Tape", "byteAt", "(I)I"⟩, 10), (⟨"NineHeaps$Tape", "takeWord", "()V"⟩, 10), (⟨"NineHeaps$Tape", "spells", "(Ljava/lang/String;)Z"⟩, 10), (⟨"NineHeaps$Tape", "takeNumber", "()V"⟩, 10), (⟨"NineHeaps$Tape", "readPart", "(II)V"⟩, 10), (⟨"NineHeaps$Tape", "expect", "(I)V"⟩, 10), (⟨"NineHeaps$Tape", "fail", "()V"⟩, 10), (⟨"NineHeaps$Tape", "readOr", "(I)V"⟩, 10), (⟨"NineHeaps$Tape", "readAnd", "(I)V"⟩, 10), (⟨"NineHeaps$Tape", "readNot", "(I)V"⟩, 10), (⟨"NineHeaps$Tape", "mayOpen", "(I)Z"⟩, 10), (⟨"NineHeaps$Tape", "put", "(I)V"⟩, 10), (⟨"NineHeaps$Tape", "readSum", "(I)V"⟩, 10), (⟨"NineHeaps$Tape", "readTerm", "(I)V"⟩, 10)]
theorem lw_r1 : ∀ q ∈ lw_privs_1, lw_okq q := List.forall_mem_cons.mpr ⟨lw_p0, List.forall_mem_cons.mpr ⟨lw_p1, List.forall_mem_cons.mpr ⟨lw_p2, List.forall_mem_cons.mpr ⟨lw_p3, List.forall_mem_cons.mpr ⟨lw_p4, List.forall_mem_cons.mpr ⟨lw_p5, List.forall_mem_cons.mpr ⟨lw_p6, List.forall_mem_cons.mpr ⟨lw_p7, List.forall_mem_cons.mpr ⟨lw_p8, List.forall_mem_cons.mpr ⟨lw_p9, List.forall_mem_cons.mpr ⟨lw_p10, List.forall_mem_cons.mpr ⟨lw_p11, List.forall_mem_cons.mpr ⟨lw_p12, List.forall_mem_cons.mpr ⟨lw_p13, List.forall_mem_cons.mpr ⟨lw_p14, List.forall_mem_cons.mpr ⟨lw_p15, fun _ h => absurd h List.not_mem_nil⟩⟩⟩⟩⟩⟩⟩⟩⟩⟩⟩⟩⟩⟩⟩⟩
theorem lw_p16 : lw_okq (⟨"NineHeaps$Tape", "readOne", "(I)V"⟩, 10) := ⟨⟨by decide +kernel, by decide +kernel⟩, List.mem_of_getElem? (i := 34) (by decide +kernel), List.mem_of_getElem? (i := 457) (by decide +kernel), List.mem_of_getElem? (i := 458) (by decide +kernel)⟩
theorem lw_p17 : lw_okq (⟨"NineHeaps", "walkerOf", "(I)LNineHeaps$Walker;"⟩, 20) := ⟨⟨by decide +kernel, by decide +kernel⟩, List.mem_of_getElem? (i := 22) (by decide +kernel), List.mem_of_getElem? (i := 493) (by decide +kernel), List.mem_of_getElem? (i := 494) (by decide +kernel)⟩
theorem lw_p18 : lw_okq (⟨"NineHeaps", "textOf", "(I)LNineHeaps$Law;"⟩, 20) := ⟨⟨by decide +kernel, by decide +kernel⟩, List.mem_of_getElem? (i := 22) (by decide +kernel), List.mem_of_getElem? (i := 497) (by decide +kernel), List.mem_of_getElem? (i := 498) (by decide +kernel)⟩
theorem lw_p19 : lw_okq (⟨"NineHeaps$Law", "read", "(I)I"⟩, 5) := ⟨⟨by decide +kernel, by decide +kernel⟩, List.mem_of_getElem? (i := 169) (by decide +kernel), List.mem_of_getElem? (i := 505) (by decide +kernel), List.mem_of_getElem? (i := 506) (by decide +kernel)⟩
theorem lw_p20 : lw_okq (⟨"NineHeaps", "layPlain", "()V"⟩, 20) := ⟨⟨by decide +kernel, by decide +kernel⟩, List.mem_of_getElem? (i := 22) (by decide +kernel), List.mem_of_getElem? (i := 721) (by decide +kernel), List.mem_of_getElem? (i := 722) (by decide +kernel)⟩
theorem lw_p21 : lw_okq (⟨"NineHeaps", "layWithout", "(I)V"⟩, 20) := ⟨⟨by decide +kernel, by decide +kernel⟩, List.mem_of_getElem? (i := 22) (by decide +kernel), List.mem_of_getElem? (i := 725) (by decide +kernel), List.mem_of_getElem? (i := 726) (by decide +kernel)⟩
theorem lw_p22 : lw_okq (⟨"NineHeaps", "layHeaps", "()V"⟩, 20) := ⟨⟨by decide +kernel, by decide +kernel⟩, List.mem_of_getElem? (i := 22) (by decide +kernel), List.mem_of_getElem? (i := 729) (by decide +kernel), List.mem_of_getElem? (i := 730) (by decide +kernel)⟩
theorem lw_p23 : lw_okq (⟨"NineHeaps$Going", "moveOn", "(LNineHeaps$Walker;)V"⟩, 13) := ⟨⟨by decide +kernel, by decide +kernel⟩, List.mem_of_getElem? (i := 75) (by decide +kernel), List.mem_of_getElem? (i := 759) (by decide +kernel), List.mem_of_getElem? (i := 760) (by decide +kernel)⟩
theorem lw_p24 : lw_okq (⟨"NineHeaps$Going", "endTaking", "(LNineHeaps$Walker;LNineHeaps$Heap;)V"⟩, 13) := ⟨⟨by decide +kernel, by decide +kernel⟩, List.mem_of_getElem? (i := 75) (by decide +kernel), List.mem_of_getElem? (i := 768) (by decide +kernel), List.mem_of_getElem? (i := 769) (by decide +kernel)⟩
theorem lw_p25 : lw_okq (⟨"NineHeaps$Going", "endProgramme", "(LNineHeaps$Walker;)V"⟩, 13) := ⟨⟨by decide +kernel, by decide +kernel⟩, List.mem_of_getElem? (i := 75) (by decide +kernel), List.mem_of_getElem? (i := 776) (by decide +kernel), List.mem_of_getElem? (i := 777) (by decide +kernel)⟩
theorem lw_p26 : lw_okq (⟨"NineHeaps", "orderByNumbers", "()V"⟩, 20) := ⟨⟨by decide +kernel, by decide +kernel⟩, List.mem_of_getElem? (i := 22) (by decide +kernel), List.mem_of_getElem? (i := 861) (by decide +kernel), List.mem_of_getElem? (i := 862) (by decide +kernel)⟩
theorem lw_p27 : lw_okq (⟨"NineHeaps", "layByOrder", "()V"⟩, 20) := ⟨⟨by decide +kernel, by decide +kernel⟩, List.mem_of_getElem? (i := 22) (by decide +kernel), List.mem_of_getElem? (i := 865) (by decide +kernel), List.mem_of_getElem? (i := 866) (by decide +kernel)⟩
theorem lw_p28 : lw_okq (⟨"NineHeaps", "orderAsDigits", "()I"⟩, 20) := ⟨⟨by decide +kernel, by decide +kernel⟩, List.mem_of_getElem? (i := 22) (by decide +kernel), List.mem_of_getElem? (i := 870) (by decide +kernel), List.mem_of_getElem? (i := 871) (by decide +kernel)⟩
theorem lw_p29 : lw_okq (⟨"NineHeaps", "nextOrder", "()Z"⟩, 20) := ⟨⟨by decide +kernel, by decide +kernel⟩, List.mem_of_getElem? (i := 22) (by decide +kernel), List.mem_of_getElem? (i := 874) (by decide +kernel), List.mem_of_getElem? (i := 875) (by decide +kernel)⟩
theorem lw_p30 : lw_okq (⟨"NineHeaps", "swapInOrder", "(II)V"⟩, 20) := ⟨⟨by decide +kernel, by decide +kernel⟩, List.mem_of_getElem? (i := 22) (by decide +kernel), List.mem_of_getElem? (i := 878) (by decide +kernel), List.mem_of_getElem? (i := 879) (by decide +kernel)⟩
theorem lw_p31 : lw_okq (⟨"NineHeaps", "planStretches", "()I"⟩, 20) := ⟨⟨by decide +kernel, by decide +kernel⟩, List.mem_of_getElem? (i := 22) (by decide +kernel), List.mem_of_getElem? (i := 902) (by decide +kernel), List.mem_of_getElem? (i := 903) (by decide +kernel)⟩
def lw_privs_2 : List (MethodName × Nat) := [(⟨"NineHeaps$Tape", "readOne", "(I)V"⟩, 10), (⟨"NineHeaps", "walkerOf", "(I)LNineHeaps$Walker;"⟩, 20), (⟨"NineHeaps", "textOf", "(I)LNineHeaps$Law;"⟩, 20), (⟨"NineHeaps$Law", "read", "(I)I"⟩, 5), (⟨"NineHeaps", "layPlain", "()V"⟩, 20), (⟨"NineHeaps", "layWithout", "(I)V"⟩, 20), (⟨"NineHeaps", "layHeaps", "()V"⟩, 20), (⟨"NineHeaps$Going", "moveOn", "(LNineHeaps$Walker;)V"⟩, 13), (⟨"NineHeaps$Going", "endTaking", "(LNineHeaps$Walker;LNineHeaps$Heap;)V"⟩, 13), (⟨"NineHeaps$Going", "endProgramme", "(LNineHeaps$Walker;)V"⟩, 13), (⟨"NineHeaps", "orderByNumbers", "()V"⟩, 20), (⟨"NineHeaps", "layByOrder", "()V"⟩, 20), (⟨"NineHeaps", "orderAsDigits", "()I"⟩, 20), (⟨"NineHeaps", "nextOrder", "()Z"⟩, 20), (⟨"NineHeaps", "swapInOrder", "(II)V"⟩, 20), (⟨"NineHeaps", "planStretches", "()I"⟩, 20)]
theorem lw_r2 : ∀ q ∈ lw_privs_2, lw_okq q := List.forall_mem_cons.mpr ⟨lw_p16, List.forall_mem_cons.mpr ⟨lw_p17, List.forall_mem_cons.mpr ⟨lw_p18, List.forall_mem_cons.mpr ⟨lw_p19, List.forall_mem_cons.mpr ⟨lw_p20, List.forall_mem_cons.mpr ⟨lw_p21, List.forall_mem_cons.mpr ⟨lw_p22, List.forall_mem_cons.mpr ⟨lw_p23, List.forall_mem_cons.mpr ⟨lw_p24, List.forall_mem_cons.mpr ⟨lw_p25, List.forall_mem_cons.mpr ⟨lw_p26, List.forall_mem_cons.mpr ⟨lw_p27, List.forall_mem_cons.mpr ⟨lw_p28, List.forall_mem_cons.mpr ⟨lw_p29, List.forall_mem_cons.mpr ⟨lw_p30, List.forall_mem_cons.mpr ⟨lw_p31, fun _ h => absurd h List.not_mem_nil⟩⟩⟩⟩⟩⟩⟩⟩⟩⟩⟩⟩⟩⟩⟩⟩
theorem lw_p32 : lw_okq (⟨"NineHeaps", "fewestFrom", "(II)I"⟩, 20) := ⟨⟨by decide +kernel, by decide +kernel⟩, List.mem_of_getElem? (i := 22) (by decide +kernel), List.mem_of_getElem? (i := 906) (by decide +kernel), List.mem_of_getElem? (i := 907) (by decide +kernel)⟩
theorem lw_p33 : lw_okq (⟨"NineHeaps", "ownSeconds", "(III)I"⟩, 20) := ⟨⟨by decide +kernel, by decide +kernel⟩, List.mem_of_getElem? (i := 22) (by decide +kernel), List.mem_of_getElem? (i := 911) (by decide +kernel), List.mem_of_getElem? (i := 912) (by decide +kernel)⟩
theorem lw_p34 : lw_okq (⟨"NineHeaps", "shareHeaps", "(I)V"⟩, 20) := ⟨⟨by decide +kernel, by decide +kernel⟩, List.mem_of_getElem? (i := 22) (by decide +kernel), List.mem_of_getElem? (i := 917) (by decide +kernel), List.mem_of_getElem? (i := 918) (by decide +kernel)⟩
theorem lw_p35 : lw_okq (⟨"NineHeaps", "sharesAsDigits", "()I"⟩, 20) := ⟨⟨by decide +kernel, by decide +kernel⟩, List.mem_of_getElem? (i := 22) (by decide +kernel), List.mem_of_getElem? (i := 921) (by decide +kernel), List.mem_of_getElem? (i := 922) (by decide +kernel)⟩
theorem lw_p36 : lw_okq (⟨"NineHeaps", "secondsOfAll", "()I"⟩, 20) := ⟨⟨by decide +kernel, by decide +kernel⟩, List.mem_of_getElem? (i := 22) (by decide +kernel), List.mem_of_getElem? (i := 925) (by decide +kernel), List.mem_of_getElem? (i := 926) (by decide +kernel)⟩
theorem lw_p37 : lw_okq (⟨"NineHeaps", "refusedJudging", "(II)I"⟩, 20) := ⟨⟨by decide +kernel, by decide +kernel⟩, List.mem_of_getElem? (i := 22) (by decide +kernel), List.mem_of_getElem? (i := 937) (by decide +kernel), List.mem_of_getElem? (i := 938) (by decide +kernel)⟩
theorem lw_p38 : lw_okq (⟨"NineHeaps", "refusedTelling", "(I)I"⟩, 20) := ⟨⟨by decide +kernel, by decide +kernel⟩, List.mem_of_getElem? (i := 22) (by decide +kernel), List.mem_of_getElem? (i := 941) (by decide +kernel), List.mem_of_getElem? (i := 942) (by decide +kernel)⟩
theorem lw_p39 : lw_okq (⟨"NineHeaps", "sheetOf", "(I)LNineHeaps$Sheet;"⟩, 20) := ⟨⟨by decide +kernel, by decide +kernel⟩, List.mem_of_getElem? (i := 22) (by decide +kernel), List.mem_of_getElem? (i := 945) (by decide +kernel), List.mem_of_getElem? (i := 946) (by decide +kernel)⟩
theorem lw_p40 : lw_okq (⟨"NineHeaps", "firstOtherwise", "(I)I"⟩, 20) := ⟨⟨by decide +kernel, by decide +kernel⟩, List.mem_of_getElem? (i := 22) (by decide +kernel), List.mem_of_getElem? (i := 953) (by decide +kernel), List.mem_of_getElem? (i := 954) (by decide +kernel)⟩
theorem lw_p41 : lw_okq (⟨"NineHeaps", "layPlainWith", "(LNineHeaps$Walker;)V"⟩, 20) := ⟨⟨by decide +kernel, by decide +kernel⟩, List.mem_of_getElem? (i := 22) (by decide +kernel), List.mem_of_getElem? (i := 969) (by decide +kernel), List.mem_of_getElem? (i := 970) (by decide +kernel)⟩
theorem lw_p42 : lw_okq (⟨"NineHeaps", "heapTaken", "(II)I"⟩, 20) := ⟨⟨by decide +kernel, by decide +kernel⟩, List.mem_of_getElem? (i := 22) (by decide +kernel), List.mem_of_getElem? (i := 1047) (by decide +kernel), List.mem_of_getElem? (i := 1048) (by decide +kernel)⟩
theorem lw_p43 : lw_okq (⟨"NineHeaps", "walkerTaken", "(II)I"⟩, 20) := ⟨⟨by decide +kernel, by decide +kernel⟩, List.mem_of_getElem? (i := 22) (by decide +kernel), List.mem_of_getElem? (i := 1051) (by decide +kernel), List.mem_of_getElem? (i := 1052) (by decide +kernel)⟩
theorem lw_p44 : lw_okq (⟨"NineHeapsModel", "next", "()V"⟩, 53) := ⟨⟨by decide +kernel, by decide +kernel⟩, List.mem_of_getElem? (i := 1080) (by decide +kernel), List.mem_of_getElem? (i := 1090) (by decide +kernel), List.mem_of_getElem? (i := 1091) (by decide +kernel)⟩
theorem lw_p45 : lw_okq (⟨"NineHeapsModel", "wordFrom", "(II)I"⟩, 53) := ⟨⟨by decide +kernel, by decide +kernel⟩, List.mem_of_getElem? (i := 1080) (by decide +kernel), List.mem_of_getElem? (i := 1097) (by decide +kernel), List.mem_of_getElem? (i := 1098) (by decide +kernel)⟩
theorem lw_p46 : lw_okq (⟨"NineHeapsModel", "eRead", "()Z"⟩, 53) := ⟨⟨by decide +kernel, by decide +kernel⟩, List.mem_of_getElem? (i := 1080) (by decide +kernel), List.mem_of_getElem? (i := 1101) (by decide +kernel), List.mem_of_getElem? (i := 1102) (by decide +kernel)⟩
theorem lw_p47 : lw_okq (⟨"NineHeapsModel", "puts", "(I)V"⟩, 53) := ⟨⟨by decide +kernel, by decide +kernel⟩, List.mem_of_getElem? (i := 1080) (by decide +kernel), List.mem_of_getElem? (i := 1106) (by decide +kernel), List.mem_of_getElem? (i := 1107) (by decide +kernel)⟩
def lw_privs_3 : List (MethodName × Nat) := [(⟨"NineHeaps", "fewestFrom", "(II)I"⟩, 20), (⟨"NineHeaps", "ownSeconds", "(III)I"⟩, 20), (⟨"NineHeaps", "shareHeaps", "(I)V"⟩, 20), (⟨"NineHeaps", "sharesAsDigits", "()I"⟩, 20), (⟨"NineHeaps", "secondsOfAll", "()I"⟩, 20), (⟨"NineHeaps", "refusedJudging", "(II)I"⟩, 20), (⟨"NineHeaps", "refusedTelling", "(I)I"⟩, 20), (⟨"NineHeaps", "sheetOf", "(I)LNineHeaps$Sheet;"⟩, 20), (⟨"NineHeaps", "firstOtherwise", "(I)I"⟩, 20), (⟨"NineHeaps", "layPlainWith", "(LNineHeaps$Walker;)V"⟩, 20), (⟨"NineHeaps", "heapTaken", "(II)I"⟩, 20), (⟨"NineHeaps", "walkerTaken", "(II)I"⟩, 20), (⟨"NineHeapsModel", "next", "()V"⟩, 53), (⟨"NineHeapsModel", "wordFrom", "(II)I"⟩, 53), (⟨"NineHeapsModel", "eRead", "()Z"⟩, 53), (⟨"NineHeapsModel", "puts", "(I)V"⟩, 53)]
theorem lw_r3 : ∀ q ∈ lw_privs_3, lw_okq q := List.forall_mem_cons.mpr ⟨lw_p32, List.forall_mem_cons.mpr ⟨lw_p33, List.forall_mem_cons.mpr ⟨lw_p34, List.forall_mem_cons.mpr ⟨lw_p35, List.forall_mem_cons.mpr ⟨lw_p36, List.forall_mem_cons.mpr ⟨lw_p37, List.forall_mem_cons.mpr ⟨lw_p38, List.forall_mem_cons.mpr ⟨lw_p39, List.forall_mem_cons.mpr ⟨lw_p40, List.forall_mem_cons.mpr ⟨lw_p41, List.forall_mem_cons.mpr ⟨lw_p42, List.forall_mem_cons.mpr ⟨lw_p43, List.forall_mem_cons.mpr ⟨lw_p44, List.forall_mem_cons.mpr ⟨lw_p45, List.forall_mem_cons.mpr ⟨lw_p46, List.forall_mem_cons.mpr ⟨lw_p47, fun _ h => absurd h List.not_mem_nil⟩⟩⟩⟩⟩⟩⟩⟩⟩⟩⟩⟩⟩⟩⟩⟩
theorem lw_p48 : lw_okq (⟨"NineHeapsModel", "unwinds", "(I)V"⟩, 53) := ⟨⟨by decide +kernel, by decide +kernel⟩, List.mem_of_getElem? (i := 1080) (by decide +kernel), List.mem_of_getElem? (i := 1110) (by decide +kernel), List.mem_of_getElem? (i := 1111) (by decide +kernel)⟩
theorem lw_p49 : lw_okq (⟨"NineHeapsModel", "opensOne", "(I)Z"⟩, 53) := ⟨⟨by decide +kernel, by decide +kernel⟩, List.mem_of_getElem? (i := 1080) (by decide +kernel), List.mem_of_getElem? (i := 1117) (by decide +kernel), List.mem_of_getElem? (i := 1118) (by decide +kernel)⟩
theorem lw_p50 : lw_okq (⟨"NineHeapsModel", "holds", "(I)V"⟩, 53) := ⟨⟨by decide +kernel, by decide +kernel⟩, List.mem_of_getElem? (i := 1080) (by decide +kernel), List.mem_of_getElem? (i := 1121) (by decide +kernel), List.mem_of_getElem? (i := 1122) (by decide +kernel)⟩
theorem lw_p51 : lw_okq (⟨"NineHeapsModel", "signOf", "()I"⟩, 53) := ⟨⟨by decide +kernel, by decide +kernel⟩, List.mem_of_getElem? (i := 1080) (by decide +kernel), List.mem_of_getElem? (i := 1125) (by decide +kernel), List.mem_of_getElem? (i := 1126) (by decide +kernel)⟩
theorem lw_p52 : lw_okq (⟨"NineHeapsModel", "between", "(I)Z"⟩, 53) := ⟨⟨by decide +kernel, by decide +kernel⟩, List.mem_of_getElem? (i := 1080) (by decide +kernel), List.mem_of_getElem? (i := 1129) (by decide +kernel), List.mem_of_getElem? (i := 1130) (by decide +kernel)⟩
theorem lw_p53 : lw_okq (⟨"NineHeapsModel", "isWalker", "(I)Z"⟩, 53) := ⟨⟨by decide +kernel, by decide +kernel⟩, List.mem_of_getElem? (i := 1080) (by decide +kernel), List.mem_of_getElem? (i := 1324) (by decide +kernel), List.mem_of_getElem? (i := 1325) (by decide +kernel)⟩
theorem lw_p54 : lw_okq (⟨"NineHeapsModel", "asksOf", "(IIIII)I"⟩, 53) := ⟨⟨by decide +kernel, by decide +kernel⟩, List.mem_of_getElem? (i := 1080) (by decide +kernel), List.mem_of_getElem? (i := 1328) (by decide +kernel), List.mem_of_getElem? (i := 1329) (by decide +kernel)⟩
theorem lw_p55 : lw_okq (⟨"NineHeapsModel", "says", "(I)I"⟩, 53) := ⟨⟨by decide +kernel, by decide +kernel⟩, List.mem_of_getElem? (i := 1080) (by decide +kernel), List.mem_of_getElem? (i := 1332) (by decide +kernel), List.mem_of_getElem? (i := 1333) (by decide +kernel)⟩
theorem lw_p56 : lw_okq (⟨"NineHeapsModel", "goesPlain", "(I)V"⟩, 53) := ⟨⟨by decide +kernel, by decide +kernel⟩, List.mem_of_getElem? (i := 1080) (by decide +kernel), List.mem_of_getElem? (i := 1361) (by decide +kernel), List.mem_of_getElem? (i := 1362) (by decide +kernel)⟩
theorem lw_p57 : lw_okq (⟨"NineHeapsModel", "orders", "(I)V"⟩, 53) := ⟨⟨by decide +kernel, by decide +kernel⟩, List.mem_of_getElem? (i := 1080) (by decide +kernel), List.mem_of_getElem? (i := 1365) (by decide +kernel), List.mem_of_getElem? (i := 1366) (by decide +kernel)⟩
theorem lw_p58 : lw_okq (⟨"NineHeapsModel", "goesFor", "(I)V"⟩, 53) := ⟨⟨by decide +kernel, by decide +kernel⟩, List.mem_of_getElem? (i := 1080) (by decide +kernel), List.mem_of_getElem? (i := 1369) (by decide +kernel), List.mem_of_getElem? (i := 1370) (by decide +kernel)⟩
theorem lw_p59 : lw_okq (⟨"NineHeapsModel", "begins", "()V"⟩, 53) := ⟨⟨by decide +kernel, by decide +kernel⟩, List.mem_of_getElem? (i := 1080) (by decide +kernel), List.mem_of_getElem? (i := 1373) (by decide +kernel), List.mem_of_getElem? (i := 1374) (by decide +kernel)⟩
theorem lw_p60 : lw_okq (⟨"NineHeapsModel", "second", "(I)V"⟩, 53) := ⟨⟨by decide +kernel, by decide +kernel⟩, List.mem_of_getElem? (i := 1080) (by decide +kernel), List.mem_of_getElem? (i := 1377) (by decide +kernel), List.mem_of_getElem? (i := 1378) (by decide +kernel)⟩
theorem lw_p61 : lw_okq (⟨"NineHeapsModel", "takesOn", "(II)V"⟩, 53) := ⟨⟨by decide +kernel, by decide +kernel⟩, List.mem_of_getElem? (i := 1080) (by decide +kernel), List.mem_of_getElem? (i := 1381) (by decide +kernel), List.mem_of_getElem? (i := 1382) (by decide +kernel)⟩
theorem lw_p62 : lw_okq (⟨"NineHeapsModel", "lifts", "(II)V"⟩, 53) := ⟨⟨by decide +kernel, by decide +kernel⟩, List.mem_of_getElem? (i := 1080) (by decide +kernel), List.mem_of_getElem? (i := 1385) (by decide +kernel), List.mem_of_getElem? (i := 1386) (by decide +kernel)⟩
theorem lw_p63 : lw_okq (⟨"NineHeapsModel", "makes", "(II)V"⟩, 53) := ⟨⟨by decide +kernel, by decide +kernel⟩, List.mem_of_getElem? (i := 1080) (by decide +kernel), List.mem_of_getElem? (i := 1389) (by decide +kernel), List.mem_of_getElem? (i := 1390) (by decide +kernel)⟩
def lw_privs_4 : List (MethodName × Nat) := [(⟨"NineHeapsModel", "unwinds", "(I)V"⟩, 53), (⟨"NineHeapsModel", "opensOne", "(I)Z"⟩, 53), (⟨"NineHeapsModel", "holds", "(I)V"⟩, 53), (⟨"NineHeapsModel", "signOf", "()I"⟩, 53), (⟨"NineHeapsModel", "between", "(I)Z"⟩, 53), (⟨"NineHeapsModel", "isWalker", "(I)Z"⟩, 53), (⟨"NineHeapsModel", "asksOf", "(IIIII)I"⟩, 53), (⟨"NineHeapsModel", "says", "(I)I"⟩, 53), (⟨"NineHeapsModel", "goesPlain", "(I)V"⟩, 53), (⟨"NineHeapsModel", "orders", "(I)V"⟩, 53), (⟨"NineHeapsModel", "goesFor", "(I)V"⟩, 53), (⟨"NineHeapsModel", "begins", "()V"⟩, 53), (⟨"NineHeapsModel", "second", "(I)V"⟩, 53), (⟨"NineHeapsModel", "takesOn", "(II)V"⟩, 53), (⟨"NineHeapsModel", "lifts", "(II)V"⟩, 53), (⟨"NineHeapsModel", "makes", "(II)V"⟩, 53)]
theorem lw_r4 : ∀ q ∈ lw_privs_4, lw_okq q := List.forall_mem_cons.mpr ⟨lw_p48, List.forall_mem_cons.mpr ⟨lw_p49, List.forall_mem_cons.mpr ⟨lw_p50, List.forall_mem_cons.mpr ⟨lw_p51, List.forall_mem_cons.mpr ⟨lw_p52, List.forall_mem_cons.mpr ⟨lw_p53, List.forall_mem_cons.mpr ⟨lw_p54, List.forall_mem_cons.mpr ⟨lw_p55, List.forall_mem_cons.mpr ⟨lw_p56, List.forall_mem_cons.mpr ⟨lw_p57, List.forall_mem_cons.mpr ⟨lw_p58, List.forall_mem_cons.mpr ⟨lw_p59, List.forall_mem_cons.mpr ⟨lw_p60, List.forall_mem_cons.mpr ⟨lw_p61, List.forall_mem_cons.mpr ⟨lw_p62, List.forall_mem_cons.mpr ⟨lw_p63, fun _ h => absurd h List.not_mem_nil⟩⟩⟩⟩⟩⟩⟩⟩⟩⟩⟩⟩⟩⟩⟩⟩
theorem lw_p64 : lw_okq (⟨"NineHeapsModel", "stepsOf", "(IIII)I"⟩, 53) := ⟨⟨by decide +kernel, by decide +kernel⟩, List.mem_of_getElem? (i := 1080) (by decide +kernel), List.mem_of_getElem? (i := 1393) (by decide +kernel), List.mem_of_getElem? (i := 1394) (by decide +kernel)⟩
theorem lw_p65 : lw_okq (⟨"NineHeapsModel", "waitsOn", "(I)V"⟩, 53) := ⟨⟨by decide +kernel, by decide +kernel⟩, List.mem_of_getElem? (i := 1080) (by decide +kernel), List.mem_of_getElem? (i := 1397) (by decide +kernel), List.mem_of_getElem? (i := 1398) (by decide +kernel)⟩
theorem lw_p66 : lw_okq (⟨"NineHeapsModel", "mustWait", "(I)Z"⟩, 53) := ⟨⟨by decide +kernel, by decide +kernel⟩, List.mem_of_getElem? (i := 1080) (by decide +kernel), List.mem_of_getElem? (i := 1401) (by decide +kernel), List.mem_of_getElem? (i := 1402) (by decide +kernel)⟩
theorem lw_p67 : lw_okq (⟨"NineHeapsModel", "takesOf", "(IIII)I"⟩, 53) := ⟨⟨by decide +kernel, by decide +kernel⟩, List.mem_of_getElem? (i := 1080) (by decide +kernel), List.mem_of_getElem? (i := 1405) (by decide +kernel), List.mem_of_getElem? (i := 1406) (by decide +kernel)⟩
theorem lw_p68 : lw_okq (⟨"NineHeapsModel", "howMany", "(I)I"⟩, 53) := ⟨⟨by decide +kernel, by decide +kernel⟩, List.mem_of_getElem? (i := 1080) (by decide +kernel), List.mem_of_getElem? (i := 1409) (by decide +kernel), List.mem_of_getElem? (i := 1410) (by decide +kernel)⟩
theorem lw_p69 : lw_okq (⟨"NineHeapsModel", "waitings", "()I"⟩, 53) := ⟨⟨by decide +kernel, by decide +kernel⟩, List.mem_of_getElem? (i := 1080) (by decide +kernel), List.mem_of_getElem? (i := 1413) (by decide +kernel), List.mem_of_getElem? (i := 1414) (by decide +kernel)⟩
theorem lw_p70 : lw_okq (⟨"NineHeapsModel", "offNumber", "(I)I"⟩, 53) := ⟨⟨by decide +kernel, by decide +kernel⟩, List.mem_of_getElem? (i := 1080) (by decide +kernel), List.mem_of_getElem? (i := 1433) (by decide +kernel), List.mem_of_getElem? (i := 1434) (by decide +kernel)⟩
theorem lw_p71 : lw_okq (⟨"NineHeapsModel", "lastOff", "()I"⟩, 53) := ⟨⟨by decide +kernel, by decide +kernel⟩, List.mem_of_getElem? (i := 1080) (by decide +kernel), List.mem_of_getElem? (i := 1441) (by decide +kernel), List.mem_of_getElem? (i := 1442) (by decide +kernel)⟩
theorem lw_p72 : lw_okq (⟨"NineHeapsModel", "powerOf", "(I)I"⟩, 53) := ⟨⟨by decide +kernel, by decide +kernel⟩, List.mem_of_getElem? (i := 1080) (by decide +kernel), List.mem_of_getElem? (i := 1449) (by decide +kernel), List.mem_of_getElem? (i := 1450) (by decide +kernel)⟩
theorem lw_p73 : lw_okq (⟨"NineHeapsModel", "tells", "(I)Z"⟩, 53) := ⟨⟨by decide +kernel, by decide +kernel⟩, List.mem_of_getElem? (i := 1080) (by decide +kernel), List.mem_of_getElem? (i := 1453) (by decide +kernel), List.mem_of_getElem? (i := 1454) (by decide +kernel)⟩
theorem lw_p74 : lw_okq (⟨"NineHeapsModel", "digitsNow", "()I"⟩, 53) := ⟨⟨by decide +kernel, by decide +kernel⟩, List.mem_of_getElem? (i := 1080) (by decide +kernel), List.mem_of_getElem? (i := 1457) (by decide +kernel), List.mem_of_getElem? (i := 1458) (by decide +kernel)⟩
theorem lw_p75 : lw_okq (⟨"NineHeapsModel", "without", "(I)I"⟩, 53) := ⟨⟨by decide +kernel, by decide +kernel⟩, List.mem_of_getElem? (i := 1080) (by decide +kernel), List.mem_of_getElem? (i := 1469) (by decide +kernel), List.mem_of_getElem? (i := 1470) (by decide +kernel)⟩
theorem lw_p76 : lw_okq (⟨"NineHeapsModel", "findsStretches", "()I"⟩, 53) := ⟨⟨by decide +kernel, by decide +kernel⟩, List.mem_of_getElem? (i := 1080) (by decide +kernel), List.mem_of_getElem? (i := 1485) (by decide +kernel), List.mem_of_getElem? (i := 1486) (by decide +kernel)⟩
theorem lw_p77 : lw_okq (⟨"NineHeapsModel", "tens", "(I)I"⟩, 53) := ⟨⟨by decide +kernel, by decide +kernel⟩, List.mem_of_getElem? (i := 1080) (by decide +kernel), List.mem_of_getElem? (i := 1489) (by decide +kernel), List.mem_of_getElem? (i := 1490) (by decide +kernel)⟩
theorem lw_p78 : lw_okq (⟨"NineHeapsModel", "tellsStretches", "(I)Z"⟩, 53) := ⟨⟨by decide +kernel, by decide +kernel⟩, List.mem_of_getElem? (i := 1080) (by decide +kernel), List.mem_of_getElem? (i := 1493) (by decide +kernel), List.mem_of_getElem? (i := 1494) (by decide +kernel)⟩
theorem lw_p79 : lw_okq (⟨"NineHeapsModel", "mostSeconds", "()I"⟩, 53) := ⟨⟨by decide +kernel, by decide +kernel⟩, List.mem_of_getElem? (i := 1080) (by decide +kernel), List.mem_of_getElem? (i := 1497) (by decide +kernel), List.mem_of_getElem? (i := 1498) (by decide +kernel)⟩
def lw_privs_5 : List (MethodName × Nat) := [(⟨"NineHeapsModel", "stepsOf", "(IIII)I"⟩, 53), (⟨"NineHeapsModel", "waitsOn", "(I)V"⟩, 53), (⟨"NineHeapsModel", "mustWait", "(I)Z"⟩, 53), (⟨"NineHeapsModel", "takesOf", "(IIII)I"⟩, 53), (⟨"NineHeapsModel", "howMany", "(I)I"⟩, 53), (⟨"NineHeapsModel", "waitings", "()I"⟩, 53), (⟨"NineHeapsModel", "offNumber", "(I)I"⟩, 53), (⟨"NineHeapsModel", "lastOff", "()I"⟩, 53), (⟨"NineHeapsModel", "powerOf", "(I)I"⟩, 53), (⟨"NineHeapsModel", "tells", "(I)Z"⟩, 53), (⟨"NineHeapsModel", "digitsNow", "()I"⟩, 53), (⟨"NineHeapsModel", "without", "(I)I"⟩, 53), (⟨"NineHeapsModel", "findsStretches", "()I"⟩, 53), (⟨"NineHeapsModel", "tens", "(I)I"⟩, 53), (⟨"NineHeapsModel", "tellsStretches", "(I)Z"⟩, 53), (⟨"NineHeapsModel", "mostSeconds", "()I"⟩, 53)]
theorem lw_r5 : ∀ q ∈ lw_privs_5, lw_okq q := List.forall_mem_cons.mpr ⟨lw_p64, List.forall_mem_cons.mpr ⟨lw_p65, List.forall_mem_cons.mpr ⟨lw_p66, List.forall_mem_cons.mpr ⟨lw_p67, List.forall_mem_cons.mpr ⟨lw_p68, List.forall_mem_cons.mpr ⟨lw_p69, List.forall_mem_cons.mpr ⟨lw_p70, List.forall_mem_cons.mpr ⟨lw_p71, List.forall_mem_cons.mpr ⟨lw_p72, List.forall_mem_cons.mpr ⟨lw_p73, List.forall_mem_cons.mpr ⟨lw_p74, List.forall_mem_cons.mpr ⟨lw_p75, List.forall_mem_cons.mpr ⟨lw_p76, List.forall_mem_cons.mpr ⟨lw_p77, List.forall_mem_cons.mpr ⟨lw_p78, List.forall_mem_cons.mpr ⟨lw_p79, fun _ h => absurd h List.not_mem_nil⟩⟩⟩⟩⟩⟩⟩⟩⟩⟩⟩⟩⟩⟩⟩⟩
theorem lw_p80 : lw_okq (⟨"NineHeapsModel", "secondsOf", "(III)I"⟩, 53) := ⟨⟨by decide +kernel, by decide +kernel⟩, List.mem_of_getElem? (i := 1080) (by decide +kernel), List.mem_of_getElem? (i := 1501) (by decide +kernel), List.mem_of_getElem? (i := 1502) (by decide +kernel)⟩
theorem lw_p81 : lw_okq (⟨"NineHeapsModel", "timeWrong", "(II)I"⟩, 53) := ⟨⟨by decide +kernel, by decide +kernel⟩, List.mem_of_getElem? (i := 1080) (by decide +kernel), List.mem_of_getElem? (i := 1513) (by decide +kernel), List.mem_of_getElem? (i := 1514) (by decide +kernel)⟩
theorem lw_p82 : lw_okq (⟨"NineHeapsModel", "sheetWrong", "(I)I"⟩, 53) := ⟨⟨by decide +kernel, by decide +kernel⟩, List.mem_of_getElem? (i := 1080) (by decide +kernel), List.mem_of_getElem? (i := 1517) (by decide +kernel), List.mem_of_getElem? (i := 1518) (by decide +kernel)⟩
theorem lw_p83 : lw_okq (⟨"NineHeapsModel", "unlike", "(II)I"⟩, 53) := ⟨⟨by decide +kernel, by decide +kernel⟩, List.mem_of_getElem? (i := 1080) (by decide +kernel), List.mem_of_getElem? (i := 1521) (by decide +kernel), List.mem_of_getElem? (i := 1522) (by decide +kernel)⟩
theorem lw_p84 : lw_okq (⟨"NineHeapsModel", "unlikeNow", "(I)I"⟩, 53) := ⟨⟨by decide +kernel, by decide +kernel⟩, List.mem_of_getElem? (i := 1080) (by decide +kernel), List.mem_of_getElem? (i := 1525) (by decide +kernel), List.mem_of_getElem? (i := 1526) (by decide +kernel)⟩
theorem lw_p85 : lw_okq (⟨"NineHeapsModel", "goesBy", "(II)V"⟩, 53) := ⟨⟨by decide +kernel, by decide +kernel⟩, List.mem_of_getElem? (i := 1080) (by decide +kernel), List.mem_of_getElem? (i := 1554) (by decide +kernel), List.mem_of_getElem? (i := 1555) (by decide +kernel)⟩
def lw_privs_6 : List (MethodName × Nat) := [(⟨"NineHeapsModel", "secondsOf", "(III)I"⟩, 53), (⟨"NineHeapsModel", "timeWrong", "(II)I"⟩, 53), (⟨"NineHeapsModel", "sheetWrong", "(I)I"⟩, 53), (⟨"NineHeapsModel", "unlike", "(II)I"⟩, 53), (⟨"NineHeapsModel", "unlikeNow", "(I)I"⟩, 53), (⟨"NineHeapsModel", "goesBy", "(II)V"⟩, 53)]
theorem lw_r6 : ∀ q ∈ lw_privs_6, lw_okq q := List.forall_mem_cons.mpr ⟨lw_p80, List.forall_mem_cons.mpr ⟨lw_p81, List.forall_mem_cons.mpr ⟨lw_p82, List.forall_mem_cons.mpr ⟨lw_p83, List.forall_mem_cons.mpr ⟨lw_p84, List.forall_mem_cons.mpr ⟨lw_p85, fun _ h => absurd h List.not_mem_nil⟩⟩⟩⟩⟩⟩
def lw_privs : List (MethodName × Nat) := lw_privs_1 ++ (lw_privs_2 ++ (lw_privs_3 ++ (lw_privs_4 ++ (lw_privs_5 ++ (lw_privs_6)))))
def lw_tbl : List Cond := k2_sels lw_privs ++ tables_1
theorem lw_privs_ok : ∀ q ∈ lw_privs, lw_okq q := by
  show ∀ q ∈ lw_privs_1 ++ (lw_privs_2 ++ (lw_privs_3 ++ (lw_privs_4 ++ (lw_privs_5 ++ (lw_privs_6))))), lw_okq q
  exact List.forall_mem_append.mpr ⟨lw_r1, List.forall_mem_append.mpr ⟨lw_r2, List.forall_mem_append.mpr ⟨lw_r3, List.forall_mem_append.mpr ⟨lw_r4, List.forall_mem_append.mpr ⟨lw_r5, lw_r6⟩⟩⟩⟩⟩

def RX0 : String := "NineHeaps$Going"
def TX0 : u_T := fun k => match k with
  | 0 => ("NineHeaps$Going", "heaps", "[LNineHeaps$Heap;", true)
  | 1 => ("NineHeaps$Going", "goers", "[LNineHeaps$Walker;", true)
  | 2 => ("NineHeaps$Going", "goerCount", "I", false)
  | 3 => ("NineHeaps$Going", "many", "I", false)
  | 4 => ("NineHeaps$Going", "want", "I", false)
  | 5 => ("NineHeaps$Going", "second", "I", false)
  | 6 => ("NineHeaps$Going", "off", "[I", true)
  | 7 => ("NineHeaps$Going", "law", "LNineHeaps$Law;", false)
  | 8 => ("NineHeaps$Going", "offCount", "I", false)
  | 9 => ("NineHeaps$Going", "programmes", "I", false)
  | 10 => ("NineHeaps$Going", "wrong", "I", false)
  | 11 => ("NineHeaps$Going", "lacking", "I", false)
  | _ => ("NineHeaps$Going", "wantedIn", "I", false)
def tyX0 : Nat → FieldType := fun k => match k with
  | 0 => .array (.object "NineHeaps$Heap")
  | 1 => .array (.object "NineHeaps$Walker")
  | 2 => .int
  | 3 => .int
  | 4 => .int
  | 5 => .int
  | 6 => .array .int
  | 7 => .object "NineHeaps$Law"
  | 8 => .int
  | 9 => .int
  | 10 => .int
  | 11 => .int
  | _ => .int
theorem nmX0 : ∀ a, a < 13 → ∀ b, b < 13 → a ≠ b → (TX0 a).2.1 ≠ (TX0 b).2.1 := by decide +kernel
theorem tyX0_ok : ∀ k, k < 13 → parseFieldDescriptor (TX0 k).2.2.1 = some (tyX0 k) := by decide +kernel
abbrev cX0_init : ByteArray := prog_2_method_1_code
def yX0_init : MethodName := ⟨RX0, "<init>", "()V"⟩
abbrev cX0_lay : ByteArray := prog_2_method_2_code
def yX0_lay : MethodName := ⟨RX0, "lay", "([I[ILNineHeaps$Law;II)V"⟩
abbrev cX0_join : ByteArray := prog_2_method_3_code
def yX0_join : MethodName := ⟨RX0, "join", "(LNineHeaps$Walker;)V"⟩
abbrev cX0_heapAt : ByteArray := prog_2_method_4_code
def yX0_heapAt : MethodName := ⟨RX0, "heapAt", "(I)LNineHeaps$Heap;"⟩
abbrev cX0_draw : ByteArray := prog_2_method_5_code
def yX0_draw : MethodName := ⟨RX0, "draw", "(I)V"⟩
abbrev cX0_offAt : ByteArray := prog_2_method_6_code
def yX0_offAt : MethodName := ⟨RX0, "offAt", "(I)I"⟩
abbrev cX0_badness : ByteArray := prog_2_method_7_code
def yX0_badness : MethodName := ⟨RX0, "badness", "()I"⟩
abbrev cX0_pass : ByteArray := prog_2_method_8_code
def yX0_pass : MethodName := ⟨RX0, "pass", "(I)V"⟩
abbrev cX0_moveOn : ByteArray := prog_2_method_9_code
def yX0_moveOn : MethodName := ⟨RX0, "moveOn", "(LNineHeaps$Walker;)V"⟩
abbrev cX0_endTaking : ByteArray := prog_2_method_10_code
def yX0_endTaking : MethodName := ⟨RX0, "endTaking", "(LNineHeaps$Walker;LNineHeaps$Heap;)V"⟩
abbrev cX0_endProgramme : ByteArray := prog_2_method_11_code
def yX0_endProgramme : MethodName := ⟨RX0, "endProgramme", "(LNineHeaps$Walker;)V"⟩
abbrev cX0_takesOf : ByteArray := prog_2_method_12_code
def yX0_takesOf : MethodName := ⟨RX0, "takesOf", "(LNineHeaps$Walker;LNineHeaps$Heap;I)I"⟩
abbrev cX0_stepOf : ByteArray := prog_2_method_13_code
def yX0_stepOf : MethodName := ⟨RX0, "stepOf", "(LNineHeaps$Walker;LNineHeaps$Heap;I)I"⟩
def RX1 : String := "NineHeaps$Grandfather"
def TX1 : u_T := fun k => match k with
  | 0 => ("NineHeaps$Walker", "number", "I", true)
  | 1 => ("NineHeaps$Walker", "more", "I", true)
  | 2 => ("NineHeaps$Walker", "from", "I", false)
  | 3 => ("NineHeaps$Walker", "at", "I", false)
  | 4 => ("NineHeaps$Walker", "doing", "I", false)
  | 5 => ("NineHeaps$Walker", "left", "I", false)
  | 6 => ("NineHeaps$Walker", "done", "I", false)
  | 7 => ("NineHeaps$Walker", "waited", "I", false)
  | 8 => ("NineHeaps$Walker", "has", "I", false)
  | 9 => ("NineHeaps$Walker", "blotted", "Z", false)
  | _ => ("NineHeaps$Walker", "lacks", "Z", false)
def tyX1 : Nat → FieldType := fun k => match k with
  | 0 => .int
  | 1 => .int
  | 2 => .int
  | 3 => .int
  | 4 => .int
  | 5 => .int
  | 6 => .int
  | 7 => .int
  | 8 => .int
  | 9 => .boolean
  | _ => .boolean
theorem nmX1 : ∀ a, a < 11 → ∀ b, b < 11 → a ≠ b → (TX1 a).2.1 ≠ (TX1 b).2.1 := by decide +kernel
theorem tyX1_ok : ∀ k, k < 11 → parseFieldDescriptor (TX1 k).2.2.1 = some (tyX1 k) := by decide +kernel
abbrev cX1_init : ByteArray := prog_3_method_1_code
def yX1_init : MethodName := ⟨RX1, "<init>", "(III)V"⟩
abbrev cX1_kind : ByteArray := prog_3_method_2_code
def yX1_kind : MethodName := ⟨RX1, "kind", "()I"⟩
abbrev cX1_isOf : ByteArray := prog_3_method_3_code
def yX1_isOf : MethodName := ⟨RX1, "isOf", "(I)Z"⟩
abbrev cX1_takesFor : ByteArray := prog_3_method_4_code
def yX1_takesFor : MethodName := ⟨RX1, "takesFor", "(II)I"⟩
abbrev cX1_stepFor : ByteArray := prog_3_method_5_code
def yX1_stepFor : MethodName := ⟨RX1, "stepFor", "(I)I"⟩
def RX2 : String := "NineHeaps$Heap"
def TX2 : u_T := fun k => match k with
  | 0 => ("NineHeaps$Heap", "number", "I", true)
  | 1 => ("NineHeaps$Heap", "high", "I", false)
  | 2 => ("NineHeaps$Heap", "stick", "I", false)
  | 3 => ("NineHeaps$Heap", "takings", "I", false)
  | 4 => ("NineHeaps$Heap", "takers", "I", false)
  | 5 => ("NineHeaps$Heap", "ranOut", "I", false)
  | _ => ("NineHeaps$Heap", "missed", "Z", false)
def tyX2 : Nat → FieldType := fun k => match k with
  | 0 => .int
  | 1 => .int
  | 2 => .int
  | 3 => .int
  | 4 => .int
  | 5 => .int
  | _ => .boolean
theorem nmX2 : ∀ a, a < 7 → ∀ b, b < 7 → a ≠ b → (TX2 a).2.1 ≠ (TX2 b).2.1 := by decide +kernel
theorem tyX2_ok : ∀ k, k < 7 → parseFieldDescriptor (TX2 k).2.2.1 = some (tyX2 k) := by decide +kernel
abbrev cX2_init : ByteArray := prog_4_method_1_code
def yX2_init : MethodName := ⟨RX2, "<init>", "(I)V"⟩
abbrev cX2_beginGoing : ByteArray := prog_4_method_2_code
def yX2_beginGoing : MethodName := ⟨RX2, "beginGoing", "(II)V"⟩
abbrev cX2_lift : ByteArray := prog_4_method_3_code
def yX2_lift : MethodName := ⟨RX2, "lift", "(I)I"⟩
def RX3 : String := "NineHeaps$Law"
def TX3 : u_T := fun k => match k with
  | 0 => ("NineHeaps$Law", "words", "[I", true)
  | 1 => ("NineHeaps$Law", "starts", "[I", true)
  | 2 => ("NineHeaps$Law", "stack", "[I", true)
  | 3 => ("NineHeaps$Law", "names", "[I", true)
  | _ => ("NineHeaps$Law", "lone", "[I", true)
def tyX3 : Nat → FieldType := fun k => match k with
  | 0 => .array .int
  | 1 => .array .int
  | 2 => .array .int
  | 3 => .array .int
  | _ => .array .int
theorem nmX3 : ∀ a, a < 5 → ∀ b, b < 5 → a ≠ b → (TX3 a).2.1 ≠ (TX3 b).2.1 := by decide +kernel
theorem tyX3_ok : ∀ k, k < 5 → parseFieldDescriptor (TX3 k).2.2.1 = some (tyX3 k) := by decide +kernel
abbrev cX3_init : ByteArray := prog_5_method_1_code
def yX3_init : MethodName := ⟨RX3, "<init>", "([I[I)V"⟩
abbrev cX3_says : ByteArray := prog_5_method_2_code
def yX3_says : MethodName := ⟨RX3, "says", "(ILNineHeaps$Walker;IIII)I"⟩
abbrev cX3_bounded : ByteArray := prog_5_method_3_code
def yX3_bounded : MethodName := ⟨RX3, "bounded", "(II)I"⟩
abbrev cX3_read : ByteArray := prog_5_method_4_code
def yX3_read : MethodName := ⟨RX3, "read", "(I)I"⟩
abbrev cX3_worked : ByteArray := prog_5_method_5_code
def yX3_worked : MethodName := ⟨RX3, "worked", "(III)I"⟩
def RX4 : String := "NineHeaps$Passing"
def TX4 : u_T := fun k => match k with
  | 0 => ("NineHeaps$Walker", "number", "I", true)
  | 1 => ("NineHeaps$Walker", "more", "I", true)
  | 2 => ("NineHeaps$Walker", "from", "I", false)
  | 3 => ("NineHeaps$Walker", "at", "I", false)
  | 4 => ("NineHeaps$Walker", "doing", "I", false)
  | 5 => ("NineHeaps$Walker", "left", "I", false)
  | 6 => ("NineHeaps$Walker", "done", "I", false)
  | 7 => ("NineHeaps$Walker", "waited", "I", false)
  | 8 => ("NineHeaps$Walker", "has", "I", false)
  | 9 => ("NineHeaps$Walker", "blotted", "Z", false)
  | _ => ("NineHeaps$Walker", "lacks", "Z", false)
def tyX4 : Nat → FieldType := fun k => match k with
  | 0 => .int
  | 1 => .int
  | 2 => .int
  | 3 => .int
  | 4 => .int
  | 5 => .int
  | 6 => .int
  | 7 => .int
  | 8 => .int
  | 9 => .boolean
  | _ => .boolean
theorem nmX4 : ∀ a, a < 11 → ∀ b, b < 11 → a ≠ b → (TX4 a).2.1 ≠ (TX4 b).2.1 := by decide +kernel
theorem tyX4_ok : ∀ k, k < 11 → parseFieldDescriptor (TX4 k).2.2.1 = some (tyX4 k) := by decide +kernel
abbrev cX4_init : ByteArray := prog_6_method_1_code
def yX4_init : MethodName := ⟨RX4, "<init>", "(III)V"⟩
abbrev cX4_kind : ByteArray := prog_6_method_2_code
def yX4_kind : MethodName := ⟨RX4, "kind", "()I"⟩
abbrev cX4_isOf : ByteArray := prog_6_method_3_code
def yX4_isOf : MethodName := ⟨RX4, "isOf", "(I)Z"⟩
abbrev cX4_takesFor : ByteArray := prog_6_method_4_code
def yX4_takesFor : MethodName := ⟨RX4, "takesFor", "(II)I"⟩
abbrev cX4_waits : ByteArray := prog_6_method_5_code
def yX4_waits : MethodName := ⟨RX4, "waits", "()Z"⟩
def RX5 : String := "NineHeaps$Quick"
def TX5 : u_T := fun k => match k with
  | 0 => ("NineHeaps$Walker", "number", "I", true)
  | 1 => ("NineHeaps$Walker", "more", "I", true)
  | 2 => ("NineHeaps$Walker", "from", "I", false)
  | 3 => ("NineHeaps$Walker", "at", "I", false)
  | 4 => ("NineHeaps$Walker", "doing", "I", false)
  | 5 => ("NineHeaps$Walker", "left", "I", false)
  | 6 => ("NineHeaps$Walker", "done", "I", false)
  | 7 => ("NineHeaps$Walker", "waited", "I", false)
  | 8 => ("NineHeaps$Walker", "has", "I", false)
  | 9 => ("NineHeaps$Walker", "blotted", "Z", false)
  | _ => ("NineHeaps$Walker", "lacks", "Z", false)
def tyX5 : Nat → FieldType := fun k => match k with
  | 0 => .int
  | 1 => .int
  | 2 => .int
  | 3 => .int
  | 4 => .int
  | 5 => .int
  | 6 => .int
  | 7 => .int
  | 8 => .int
  | 9 => .boolean
  | _ => .boolean
theorem nmX5 : ∀ a, a < 11 → ∀ b, b < 11 → a ≠ b → (TX5 a).2.1 ≠ (TX5 b).2.1 := by decide +kernel
theorem tyX5_ok : ∀ k, k < 11 → parseFieldDescriptor (TX5 k).2.2.1 = some (tyX5 k) := by decide +kernel
abbrev cX5_init : ByteArray := prog_7_method_1_code
def yX5_init : MethodName := ⟨RX5, "<init>", "(III)V"⟩
abbrev cX5_kind : ByteArray := prog_7_method_2_code
def yX5_kind : MethodName := ⟨RX5, "kind", "()I"⟩
abbrev cX5_isOf : ByteArray := prog_7_method_3_code
def yX5_isOf : MethodName := ⟨RX5, "isOf", "(I)Z"⟩
abbrev cX5_stepFor : ByteArray := prog_7_method_4_code
def yX5_stepFor : MethodName := ⟨RX5, "stepFor", "(I)I"⟩
def RX6 : String := "NineHeaps$Sheet"
def TX6 : u_T := fun k => match k with
  | 0 => ("NineHeaps$Sheet", "sort", "I", false)
  | 1 => ("NineHeaps$Sheet", "size", "I", false)
  | _ => ("NineHeaps$Sheet", "cell", "[I", true)
def tyX6 : Nat → FieldType := fun k => match k with
  | 0 => .int
  | 1 => .int
  | _ => .array .int
theorem nmX6 : ∀ a, a < 3 → ∀ b, b < 3 → a ≠ b → (TX6 a).2.1 ≠ (TX6 b).2.1 := by decide +kernel
theorem tyX6_ok : ∀ k, k < 3 → parseFieldDescriptor (TX6 k).2.2.1 = some (tyX6 k) := by decide +kernel
abbrev cX6_init : ByteArray := prog_8_method_1_code
def yX6_init : MethodName := ⟨RX6, "<init>", "()V"⟩
abbrev cX6_become : ByteArray := prog_8_method_2_code
def yX6_become : MethodName := ⟨RX6, "become", "(II)V"⟩
abbrev cX6_missing : ByteArray := prog_8_method_3_code
def yX6_missing : MethodName := ⟨RX6, "missing", "()Z"⟩
abbrev cX6_holds : ByteArray := prog_8_method_4_code
def yX6_holds : MethodName := ⟨RX6, "holds", "(II)Z"⟩
abbrev cX6_put : ByteArray := prog_8_method_5_code
def yX6_put : MethodName := ⟨RX6, "put", "(II)V"⟩
def RX7 : String := "NineHeaps$Tape"
def TX7 : u_T := fun k => match k with
  | 0 => ("NineHeaps$Tape", "bytes", "[I", true)
  | 1 => ("NineHeaps$Tape", "size", "I", false)
  | 2 => ("NineHeaps$Tape", "place", "I", false)
  | 3 => ("NineHeaps$Tape", "token", "I", false)
  | 4 => ("NineHeaps$Tape", "tokenAt", "I", false)
  | 5 => ("NineHeaps$Tape", "tokenWord", "I", false)
  | 6 => ("NineHeaps$Tape", "fault", "I", false)
  | 7 => ("NineHeaps$Tape", "words", "[I", true)
  | 8 => ("NineHeaps$Tape", "wordCount", "I", false)
  | _ => ("NineHeaps$Tape", "starts", "[I", true)
def tyX7 : Nat → FieldType := fun k => match k with
  | 0 => .array .int
  | 1 => .int
  | 2 => .int
  | 3 => .int
  | 4 => .int
  | 5 => .int
  | 6 => .int
  | 7 => .array .int
  | 8 => .int
  | _ => .array .int
theorem nmX7 : ∀ a, a < 10 → ∀ b, b < 10 → a ≠ b → (TX7 a).2.1 ≠ (TX7 b).2.1 := by decide +kernel
theorem tyX7_ok : ∀ k, k < 10 → parseFieldDescriptor (TX7 k).2.2.1 = some (tyX7 k) := by decide +kernel
abbrev cX7_init : ByteArray := prog_9_method_1_code
def yX7_init : MethodName := ⟨RX7, "<init>", "()V"⟩
abbrev cX7_add : ByteArray := prog_9_method_2_code
def yX7_add : MethodName := ⟨RX7, "add", "(I)V"⟩
abbrev cX7_read : ByteArray := prog_9_method_3_code
def yX7_read : MethodName := ⟨RX7, "read", "()I"⟩
abbrev cX7_lastRead : ByteArray := prog_9_method_4_code
def yX7_lastRead : MethodName := ⟨RX7, "lastRead", "()LNineHeaps$Law;"⟩
abbrev cX7_readPart : ByteArray := prog_9_method_5_code
def yX7_readPart : MethodName := ⟨RX7, "readPart", "(II)V"⟩
abbrev cX7_readOr : ByteArray := prog_9_method_6_code
def yX7_readOr : MethodName := ⟨RX7, "readOr", "(I)V"⟩
abbrev cX7_readAnd : ByteArray := prog_9_method_7_code
def yX7_readAnd : MethodName := ⟨RX7, "readAnd", "(I)V"⟩
abbrev cX7_readNot : ByteArray := prog_9_method_8_code
def yX7_readNot : MethodName := ⟨RX7, "readNot", "(I)V"⟩
abbrev cX7_readSum : ByteArray := prog_9_method_9_code
def yX7_readSum : MethodName := ⟨RX7, "readSum", "(I)V"⟩
abbrev cX7_readTerm : ByteArray := prog_9_method_10_code
def yX7_readTerm : MethodName := ⟨RX7, "readTerm", "(I)V"⟩
abbrev cX7_readOne : ByteArray := prog_9_method_11_code
def yX7_readOne : MethodName := ⟨RX7, "readOne", "(I)V"⟩
abbrev cX7_mayOpen : ByteArray := prog_9_method_12_code
def yX7_mayOpen : MethodName := ⟨RX7, "mayOpen", "(I)Z"⟩
abbrev cX7_expect : ByteArray := prog_9_method_13_code
def yX7_expect : MethodName := ⟨RX7, "expect", "(I)V"⟩
abbrev cX7_fail : ByteArray := prog_9_method_14_code
def yX7_fail : MethodName := ⟨RX7, "fail", "()V"⟩
abbrev cX7_put : ByteArray := prog_9_method_15_code
def yX7_put : MethodName := ⟨RX7, "put", "(I)V"⟩
abbrev cX7_nextToken : ByteArray := prog_9_method_16_code
def yX7_nextToken : MethodName := ⟨RX7, "nextToken", "()V"⟩
abbrev cX7_takeWord : ByteArray := prog_9_method_17_code
def yX7_takeWord : MethodName := ⟨RX7, "takeWord", "()V"⟩
abbrev cX7_takeNumber : ByteArray := prog_9_method_18_code
def yX7_takeNumber : MethodName := ⟨RX7, "takeNumber", "()V"⟩
abbrev cX7_spells : ByteArray := prog_9_method_19_code
def yX7_spells : MethodName := ⟨RX7, "spells", "(Ljava/lang/String;)Z"⟩
abbrev cX7_byteAt : ByteArray := prog_9_method_20_code
def yX7_byteAt : MethodName := ⟨RX7, "byteAt", "(I)I"⟩
abbrev cX7_isLetter : ByteArray := prog_9_method_21_code
def yX7_isLetter : MethodName := ⟨RX7, "isLetter", "(I)Z"⟩
abbrev cX7_isDigit : ByteArray := prog_9_method_22_code
def yX7_isDigit : MethodName := ⟨RX7, "isDigit", "(I)Z"⟩
abbrev cX7_isSign : ByteArray := prog_9_method_23_code
def yX7_isSign : MethodName := ⟨RX7, "isSign", "(I)Z"⟩
def RX8 : String := "NineHeaps$Thumbed"
def TX8 : u_T := fun k => match k with
  | 0 => ("NineHeaps$Walker", "number", "I", true)
  | 1 => ("NineHeaps$Walker", "more", "I", true)
  | 2 => ("NineHeaps$Walker", "from", "I", false)
  | 3 => ("NineHeaps$Walker", "at", "I", false)
  | 4 => ("NineHeaps$Walker", "doing", "I", false)
  | 5 => ("NineHeaps$Walker", "left", "I", false)
  | 6 => ("NineHeaps$Walker", "done", "I", false)
  | 7 => ("NineHeaps$Walker", "waited", "I", false)
  | 8 => ("NineHeaps$Walker", "has", "I", false)
  | 9 => ("NineHeaps$Walker", "blotted", "Z", false)
  | _ => ("NineHeaps$Walker", "lacks", "Z", false)
def tyX8 : Nat → FieldType := fun k => match k with
  | 0 => .int
  | 1 => .int
  | 2 => .int
  | 3 => .int
  | 4 => .int
  | 5 => .int
  | 6 => .int
  | 7 => .int
  | 8 => .int
  | 9 => .boolean
  | _ => .boolean
theorem nmX8 : ∀ a, a < 11 → ∀ b, b < 11 → a ≠ b → (TX8 a).2.1 ≠ (TX8 b).2.1 := by decide +kernel
theorem tyX8_ok : ∀ k, k < 11 → parseFieldDescriptor (TX8 k).2.2.1 = some (tyX8 k) := by decide +kernel
abbrev cX8_init : ByteArray := prog_10_method_1_code
def yX8_init : MethodName := ⟨RX8, "<init>", "(III)V"⟩
abbrev cX8_kind : ByteArray := prog_10_method_2_code
def yX8_kind : MethodName := ⟨RX8, "kind", "()I"⟩
abbrev cX8_isOf : ByteArray := prog_10_method_3_code
def yX8_isOf : MethodName := ⟨RX8, "isOf", "(I)Z"⟩
abbrev cX8_takesFor : ByteArray := prog_10_method_4_code
def yX8_takesFor : MethodName := ⟨RX8, "takesFor", "(II)I"⟩
def RX9 : String := "NineHeaps$Two"
def TX9 : u_T := fun k => match k with
  | 0 => ("NineHeaps$Walker", "number", "I", true)
  | 1 => ("NineHeaps$Walker", "more", "I", true)
  | 2 => ("NineHeaps$Walker", "from", "I", false)
  | 3 => ("NineHeaps$Walker", "at", "I", false)
  | 4 => ("NineHeaps$Walker", "doing", "I", false)
  | 5 => ("NineHeaps$Walker", "left", "I", false)
  | 6 => ("NineHeaps$Walker", "done", "I", false)
  | 7 => ("NineHeaps$Walker", "waited", "I", false)
  | 8 => ("NineHeaps$Walker", "has", "I", false)
  | 9 => ("NineHeaps$Walker", "blotted", "Z", false)
  | _ => ("NineHeaps$Walker", "lacks", "Z", false)
def tyX9 : Nat → FieldType := fun k => match k with
  | 0 => .int
  | 1 => .int
  | 2 => .int
  | 3 => .int
  | 4 => .int
  | 5 => .int
  | 6 => .int
  | 7 => .int
  | 8 => .int
  | 9 => .boolean
  | _ => .boolean
theorem nmX9 : ∀ a, a < 11 → ∀ b, b < 11 → a ≠ b → (TX9 a).2.1 ≠ (TX9 b).2.1 := by decide +kernel
theorem tyX9_ok : ∀ k, k < 11 → parseFieldDescriptor (TX9 k).2.2.1 = some (tyX9 k) := by decide +kernel
abbrev cX9_init : ByteArray := prog_11_method_1_code
def yX9_init : MethodName := ⟨RX9, "<init>", "(III)V"⟩
abbrev cX9_kind : ByteArray := prog_11_method_2_code
def yX9_kind : MethodName := ⟨RX9, "kind", "()I"⟩
abbrev cX9_isOf : ByteArray := prog_11_method_3_code
def yX9_isOf : MethodName := ⟨RX9, "isOf", "(I)Z"⟩
abbrev cX9_takesFor : ByteArray := prog_11_method_4_code
def yX9_takesFor : MethodName := ⟨RX9, "takesFor", "(II)I"⟩
def RX10 : String := "NineHeaps$Walker"
def TX10 : u_T := fun k => match k with
  | 0 => ("NineHeaps$Walker", "number", "I", true)
  | 1 => ("NineHeaps$Walker", "more", "I", true)
  | 2 => ("NineHeaps$Walker", "from", "I", false)
  | 3 => ("NineHeaps$Walker", "at", "I", false)
  | 4 => ("NineHeaps$Walker", "doing", "I", false)
  | 5 => ("NineHeaps$Walker", "left", "I", false)
  | 6 => ("NineHeaps$Walker", "done", "I", false)
  | 7 => ("NineHeaps$Walker", "waited", "I", false)
  | 8 => ("NineHeaps$Walker", "has", "I", false)
  | 9 => ("NineHeaps$Walker", "blotted", "Z", false)
  | _ => ("NineHeaps$Walker", "lacks", "Z", false)
def tyX10 : Nat → FieldType := fun k => match k with
  | 0 => .int
  | 1 => .int
  | 2 => .int
  | 3 => .int
  | 4 => .int
  | 5 => .int
  | 6 => .int
  | 7 => .int
  | 8 => .int
  | 9 => .boolean
  | _ => .boolean
theorem nmX10 : ∀ a, a < 11 → ∀ b, b < 11 → a ≠ b → (TX10 a).2.1 ≠ (TX10 b).2.1 := by decide +kernel
theorem tyX10_ok : ∀ k, k < 11 → parseFieldDescriptor (TX10 k).2.2.1 = some (tyX10 k) := by decide +kernel
abbrev cX10_init : ByteArray := prog_12_method_1_code
def yX10_init : MethodName := ⟨RX10, "<init>", "(III)V"⟩
abbrev cX10_kind : ByteArray := prog_12_method_2_code
def yX10_kind : MethodName := ⟨RX10, "kind", "()I"⟩
abbrev cX10_isOf : ByteArray := prog_12_method_3_code
def yX10_isOf : MethodName := ⟨RX10, "isOf", "(I)Z"⟩
abbrev cX10_takesFor : ByteArray := prog_12_method_4_code
def yX10_takesFor : MethodName := ⟨RX10, "takesFor", "(II)I"⟩
abbrev cX10_stepFor : ByteArray := prog_12_method_5_code
def yX10_stepFor : MethodName := ⟨RX10, "stepFor", "(I)I"⟩
abbrev cX10_waits : ByteArray := prog_12_method_6_code
def yX10_waits : MethodName := ⟨RX10, "waits", "()Z"⟩
abbrev cX10_beginGoing : ByteArray := prog_12_method_7_code
def yX10_beginGoing : MethodName := ⟨RX10, "beginGoing", "()V"⟩
def RX11 : String := "NineHeaps"
def TX11 : u_T := fun k => match k with
  | 0 => ("NineHeaps", "high", "[I", true)
  | 1 => ("NineHeaps", "stick", "[I", true)
  | 2 => ("NineHeaps", "want", "I", false)
  | 3 => ("NineHeaps", "walkers", "[LNineHeaps$Walker;", true)
  | 4 => ("NineHeaps", "walkerCount", "I", false)
  | 5 => ("NineHeaps", "texts", "[LNineHeaps$Law;", true)
  | 6 => ("NineHeaps", "textCount", "I", false)
  | 7 => ("NineHeaps", "law", "I", false)
  | 8 => ("NineHeaps", "tape", "LNineHeaps$Tape;", true)
  | 9 => ("NineHeaps", "sheets", "[LNineHeaps$Sheet;", true)
  | 10 => ("NineHeaps", "going", "LNineHeaps$Going;", true)
  | 11 => ("NineHeaps", "order", "[I", true)
  | 12 => ("NineHeaps", "fewest", "[[I", true)
  | 13 => ("NineHeaps", "shares", "[I", true)
  | 14 => ("NineHeaps", "imageHigh", "[I", true)
  | 15 => ("NineHeaps", "imageStick", "[I", true)
  | 16 => ("NineHeaps", "imageFrom", "[I", true)
  | 17 => ("NineHeaps", "imageWant", "I", false)
  | 18 => ("NineHeaps", "imageWalkers", "I", false)
  | _ => ("NineHeaps", "imageLaw", "I", false)
def tyX11 : Nat → FieldType := fun k => match k with
  | 0 => .array .int
  | 1 => .array .int
  | 2 => .int
  | 3 => .array (.object "NineHeaps$Walker")
  | 4 => .int
  | 5 => .array (.object "NineHeaps$Law")
  | 6 => .int
  | 7 => .int
  | 8 => .object "NineHeaps$Tape"
  | 9 => .array (.object "NineHeaps$Sheet")
  | 10 => .object "NineHeaps$Going"
  | 11 => .array .int
  | 12 => .array (.array .int)
  | 13 => .array .int
  | 14 => .array .int
  | 15 => .array .int
  | 16 => .array .int
  | 17 => .int
  | 18 => .int
  | _ => .int
theorem nmX11 : ∀ a, a < 20 → ∀ b, b < 20 → a ≠ b → (TX11 a).2.1 ≠ (TX11 b).2.1 := by decide +kernel
theorem tyX11_ok : ∀ k, k < 20 → parseFieldDescriptor (TX11 k).2.2.1 = some (tyX11 k) := by decide +kernel
abbrev cX11_init : ByteArray := prog_1_method_1_code
def yX11_init : MethodName := ⟨RX11, "<init>", "()V"⟩
abbrev cX11_count : ByteArray := prog_1_method_2_code
def yX11_count : MethodName := ⟨RX11, "count", "(I)I"⟩
abbrev cX11_set : ByteArray := prog_1_method_3_code
def yX11_set : MethodName := ⟨RX11, "set", "(III)I"⟩
abbrev cX11_changeWant : ByteArray := prog_1_method_4_code
def yX11_changeWant : MethodName := ⟨RX11, "changeWant", "(I)I"⟩
abbrev cX11_heap : ByteArray := prog_1_method_5_code
def yX11_heap : MethodName := ⟨RX11, "heap", "(II)I"⟩
abbrev cX11_feed : ByteArray := prog_1_method_6_code
def yX11_feed : MethodName := ⟨RX11, "feed", "(IIIIII)I"⟩
abbrev cX11_text : ByteArray := prog_1_method_7_code
def yX11_text : MethodName := ⟨RX11, "text", "()I"⟩
abbrev cX11_force : ByteArray := prog_1_method_8_code
def yX11_force : MethodName := ⟨RX11, "force", "(I)I"⟩
abbrev cX11_asks : ByteArray := prog_1_method_9_code
def yX11_asks : MethodName := ⟨RX11, "asks", "(III)I"⟩
abbrev cX11_walker : ByteArray := prog_1_method_10_code
def yX11_walker : MethodName := ⟨RX11, "walker", "(III)I"⟩
abbrev cX11_begin : ByteArray := prog_1_method_11_code
def yX11_begin : MethodName := ⟨RX11, "begin", "(II)I"⟩
abbrev cX11_told : ByteArray := prog_1_method_12_code
def yX11_told : MethodName := ⟨RX11, "told", "(II)I"⟩
abbrev cX11_run : ByteArray := prog_1_method_13_code
def yX11_run : MethodName := ⟨RX11, "run", "(II)I"⟩
abbrev cX11_one : ByteArray := prog_1_method_14_code
def yX11_one : MethodName := ⟨RX11, "one", "(III)I"⟩
abbrev cX11_height : ByteArray := prog_1_method_15_code
def yX11_height : MethodName := ⟨RX11, "height", "(III)I"⟩
abbrev cX11_go : ByteArray := prog_1_method_16_code
def yX11_go : MethodName := ⟨RX11, "go", "(I)I"⟩
abbrev cX11_off : ByteArray := prog_1_method_17_code
def yX11_off : MethodName := ⟨RX11, "off", "(I)I"⟩
abbrev cX11_find : ByteArray := prog_1_method_18_code
def yX11_find : MethodName := ⟨RX11, "find", "(II)I"⟩
abbrev cX11_best : ByteArray := prog_1_method_19_code
def yX11_best : MethodName := ⟨RX11, "best", "(I)I"⟩
abbrev cX11_start : ByteArray := prog_1_method_20_code
def yX11_start : MethodName := ⟨RX11, "start", "(II)I"⟩
abbrev cX11_sit : ByteArray := prog_1_method_21_code
def yX11_sit : MethodName := ⟨RX11, "sit", "(I)I"⟩
abbrev cX11_worth : ByteArray := prog_1_method_22_code
def yX11_worth : MethodName := ⟨RX11, "worth", "(I)I"⟩
abbrev cX11_more : ByteArray := prog_1_method_23_code
def yX11_more : MethodName := ⟨RX11, "more", "(I)I"⟩
abbrev cX11_layByOrder : ByteArray := prog_1_method_24_code
def yX11_layByOrder : MethodName := ⟨RX11, "layByOrder", "()V"⟩
abbrev cX11_orderByNumbers : ByteArray := prog_1_method_25_code
def yX11_orderByNumbers : MethodName := ⟨RX11, "orderByNumbers", "()V"⟩
abbrev cX11_orderAsDigits : ByteArray := prog_1_method_26_code
def yX11_orderAsDigits : MethodName := ⟨RX11, "orderAsDigits", "()I"⟩
abbrev cX11_nextOrder : ByteArray := prog_1_method_27_code
def yX11_nextOrder : MethodName := ⟨RX11, "nextOrder", "()Z"⟩
abbrev cX11_swapInOrder : ByteArray := prog_1_method_28_code
def yX11_swapInOrder : MethodName := ⟨RX11, "swapInOrder", "(II)V"⟩
abbrev cX11_stretch : ByteArray := prog_1_method_29_code
def yX11_stretch : MethodName := ⟨RX11, "stretch", "(I)I"⟩
abbrev cX11_slowest : ByteArray := prog_1_method_30_code
def yX11_slowest : MethodName := ⟨RX11, "slowest", "()I"⟩
abbrev cX11_planStretches : ByteArray := prog_1_method_31_code
def yX11_planStretches : MethodName := ⟨RX11, "planStretches", "()I"⟩
abbrev cX11_fewestFrom : ByteArray := prog_1_method_32_code
def yX11_fewestFrom : MethodName := ⟨RX11, "fewestFrom", "(II)I"⟩
abbrev cX11_shareHeaps : ByteArray := prog_1_method_33_code
def yX11_shareHeaps : MethodName := ⟨RX11, "shareHeaps", "(I)V"⟩
abbrev cX11_sharesAsDigits : ByteArray := prog_1_method_34_code
def yX11_sharesAsDigits : MethodName := ⟨RX11, "sharesAsDigits", "()I"⟩
abbrev cX11_secondsOfAll : ByteArray := prog_1_method_35_code
def yX11_secondsOfAll : MethodName := ⟨RX11, "secondsOfAll", "()I"⟩
abbrev cX11_ownSeconds : ByteArray := prog_1_method_36_code
def yX11_ownSeconds : MethodName := ⟨RX11, "ownSeconds", "(III)I"⟩
abbrev cX11_judge : ByteArray := prog_1_method_37_code
def yX11_judge : MethodName := ⟨RX11, "judge", "(II)I"⟩
abbrev cX11_when : ByteArray := prog_1_method_38_code
def yX11_when : MethodName := ⟨RX11, "when", "(II)I"⟩
abbrev cX11_sticks : ByteArray := prog_1_method_39_code
def yX11_sticks : MethodName := ⟨RX11, "sticks", "(III)I"⟩
abbrev cX11_kinds : ByteArray := prog_1_method_40_code
def yX11_kinds : MethodName := ⟨RX11, "kinds", "(III)I"⟩
abbrev cX11_laws : ByteArray := prog_1_method_41_code
def yX11_laws : MethodName := ⟨RX11, "laws", "(II)I"⟩
abbrev cX11_film : ByteArray := prog_1_method_42_code
def yX11_film : MethodName := ⟨RX11, "film", "(II)I"⟩
abbrev cX11_refusedTelling : ByteArray := prog_1_method_43_code
def yX11_refusedTelling : MethodName := ⟨RX11, "refusedTelling", "(I)I"⟩
abbrev cX11_refusedJudging : ByteArray := prog_1_method_44_code
def yX11_refusedJudging : MethodName := ⟨RX11, "refusedJudging", "(II)I"⟩
abbrev cX11_firstOtherwise : ByteArray := prog_1_method_45_code
def yX11_firstOtherwise : MethodName := ⟨RX11, "firstOtherwise", "(I)I"⟩
abbrev cX11_drawn : ByteArray := prog_1_method_46_code
def yX11_drawn : MethodName := ⟨RX11, "drawn", "(II)I"⟩
abbrev cX11_odds : ByteArray := prog_1_method_47_code
def yX11_odds : MethodName := ⟨RX11, "odds", "(IIII)J"⟩
abbrev cX11_commonDivisor : ByteArray := prog_1_method_48_code
def yX11_commonDivisor : MethodName := ⟨RX11, "commonDivisor", "(II)I"⟩
abbrev cX11_image : ByteArray := prog_1_method_49_code
def yX11_image : MethodName := ⟨RX11, "image", "()I"⟩
abbrev cX11_back : ByteArray := prog_1_method_50_code
def yX11_back : MethodName := ⟨RX11, "back", "()I"⟩
abbrev cX11_sheet : ByteArray := prog_1_method_51_code
def yX11_sheet : MethodName := ⟨RX11, "sheet", "(III)I"⟩
abbrev cX11_cell : ByteArray := prog_1_method_52_code
def yX11_cell : MethodName := ⟨RX11, "cell", "(III)I"⟩
abbrev cX11_copy : ByteArray := prog_1_method_53_code
def yX11_copy : MethodName := ⟨RX11, "copy", "(IIIII)I"⟩
abbrev cX11_walkersBy : ByteArray := prog_1_method_54_code
def yX11_walkersBy : MethodName := ⟨RX11, "walkersBy", "(IIII)I"⟩
abbrev cX11_taken : ByteArray := prog_1_method_55_code
def yX11_taken : MethodName := ⟨RX11, "taken", "(II)I"⟩
abbrev cX11_heapTaken : ByteArray := prog_1_method_56_code
def yX11_heapTaken : MethodName := ⟨RX11, "heapTaken", "(II)I"⟩
abbrev cX11_walkerTaken : ByteArray := prog_1_method_57_code
def yX11_walkerTaken : MethodName := ⟨RX11, "walkerTaken", "(II)I"⟩
abbrev cX11_noHeap : ByteArray := prog_1_method_58_code
def yX11_noHeap : MethodName := ⟨RX11, "noHeap", "(I)Z"⟩
abbrev cX11_noByte : ByteArray := prog_1_method_59_code
def yX11_noByte : MethodName := ⟨RX11, "noByte", "(I)Z"⟩
abbrev cX11_noSeconds : ByteArray := prog_1_method_60_code
def yX11_noSeconds : MethodName := ⟨RX11, "noSeconds", "(I)Z"⟩
abbrev cX11_walkerOf : ByteArray := prog_1_method_61_code
def yX11_walkerOf : MethodName := ⟨RX11, "walkerOf", "(I)LNineHeaps$Walker;"⟩
abbrev cX11_textOf : ByteArray := prog_1_method_62_code
def yX11_textOf : MethodName := ⟨RX11, "textOf", "(I)LNineHeaps$Law;"⟩
abbrev cX11_sheetOf : ByteArray := prog_1_method_63_code
def yX11_sheetOf : MethodName := ⟨RX11, "sheetOf", "(I)LNineHeaps$Sheet;"⟩
abbrev cX11_layPlain : ByteArray := prog_1_method_64_code
def yX11_layPlain : MethodName := ⟨RX11, "layPlain", "()V"⟩
abbrev cX11_layWithout : ByteArray := prog_1_method_65_code
def yX11_layWithout : MethodName := ⟨RX11, "layWithout", "(I)V"⟩
abbrev cX11_layPlainWith : ByteArray := prog_1_method_66_code
def yX11_layPlainWith : MethodName := ⟨RX11, "layPlainWith", "(LNineHeaps$Walker;)V"⟩
abbrev cX11_layHeaps : ByteArray := prog_1_method_67_code
def yX11_layHeaps : MethodName := ⟨RX11, "layHeaps", "()V"⟩
abbrev cX11_newWalker : ByteArray := prog_1_method_68_code
def yX11_newWalker : MethodName := ⟨RX11, "newWalker", "(IIII)LNineHeaps$Walker;"⟩
def RX12 : String := "NineHeapsModel"
def TX12 : u_T := fun k => match k with
  | 0 => ("NineHeapsModel", "high", "[I", true)
  | 1 => ("NineHeapsModel", "stick", "[I", true)
  | 2 => ("NineHeapsModel", "want", "I", false)
  | 3 => ("NineHeapsModel", "walkers", "I", false)
  | 4 => ("NineHeapsModel", "kind", "[I", true)
  | 5 => ("NineHeapsModel", "moreOf", "[I", true)
  | 6 => ("NineHeapsModel", "fromOf", "[I", true)
  | 7 => ("NineHeapsModel", "tape", "[I", true)
  | 8 => ("NineHeapsModel", "taped", "I", false)
  | 9 => ("NineHeapsModel", "codes", "[I", true)
  | 10 => ("NineHeapsModel", "starts", "[I", true)
  | 11 => ("NineHeapsModel", "texts", "I", false)
  | 12 => ("NineHeapsModel", "rule", "I", false)
  | 13 => ("NineHeapsModel", "hasImage", "Z", false)
  | 14 => ("NineHeapsModel", "imageWalkers", "I", false)
  | 15 => ("NineHeapsModel", "imageWant", "I", false)
  | 16 => ("NineHeapsModel", "imageRule", "I", false)
  | 17 => ("NineHeapsModel", "imageRows", "[I", true)
  | 18 => ("NineHeapsModel", "sheetSort", "[I", true)
  | 19 => ("NineHeapsModel", "sheetSize", "[I", true)
  | 20 => ("NineHeapsModel", "cells", "[I", true)
  | 21 => ("NineHeapsModel", "law", "[I", true)
  | 22 => ("NineHeapsModel", "at", "I", false)
  | 23 => ("NineHeapsModel", "begun", "I", false)
  | 24 => ("NineHeapsModel", "token", "I", false)
  | 25 => ("NineHeapsModel", "value", "I", false)
  | 26 => ("NineHeapsModel", "words", "[I", true)
  | 27 => ("NineHeapsModel", "held", "[I", true)
  | 28 => ("NineHeapsModel", "heldMany", "I", false)
  | 29 => ("NineHeapsModel", "opens", "I", false)
  | 30 => ("NineHeapsModel", "out", "I", false)
  | 31 => ("NineHeapsModel", "stack", "[I", true)
  | 32 => ("NineHeapsModel", "named", "[I", true)
  | 33 => ("NineHeapsModel", "order", "[I", true)
  | 34 => ("NineHeapsModel", "going", "I", false)
  | 35 => ("NineHeapsModel", "at0", "[I", true)
  | 36 => ("NineHeapsModel", "doing", "[I", true)
  | 37 => ("NineHeapsModel", "left", "[I", true)
  | 38 => ("NineHeapsModel", "has", "[I", true)
  | 39 => ("NineHeapsModel", "done", "[I", true)
  | 40 => ("NineHeapsModel", "waited", "[I", true)
  | 41 => ("NineHeapsModel", "sort0", "[I", true)
  | 42 => ("NineHeapsModel", "tall", "[I", true)
  | 43 => ("NineHeapsModel", "taken0", "[I", true)
  | 44 => ("NineHeapsModel", "ranOut", "[I", true)
  | 45 => ("NineHeapsModel", "missed", "I", false)
  | 46 => ("NineHeapsModel", "programme", "[I", true)
  | 47 => ("NineHeapsModel", "programmes", "I", false)
  | 48 => ("NineHeapsModel", "wanted", "I", false)
  | 49 => ("NineHeapsModel", "stretches", "[I", true)
  | 50 => ("NineHeapsModel", "bestStretch", "[I", true)
  | 51 => ("NineHeapsModel", "totalOf", "I", false)
  | _ => ("NineHeapsModel", "keptStick", "[I", true)
def tyX12 : Nat → FieldType := fun k => match k with
  | 0 => .array .int
  | 1 => .array .int
  | 2 => .int
  | 3 => .int
  | 4 => .array .int
  | 5 => .array .int
  | 6 => .array .int
  | 7 => .array .int
  | 8 => .int
  | 9 => .array .int
  | 10 => .array .int
  | 11 => .int
  | 12 => .int
  | 13 => .boolean
  | 14 => .int
  | 15 => .int
  | 16 => .int
  | 17 => .array .int
  | 18 => .array .int
  | 19 => .array .int
  | 20 => .array .int
  | 21 => .array .int
  | 22 => .int
  | 23 => .int
  | 24 => .int
  | 25 => .int
  | 26 => .array .int
  | 27 => .array .int
  | 28 => .int
  | 29 => .int
  | 30 => .int
  | 31 => .array .int
  | 32 => .array .int
  | 33 => .array .int
  | 34 => .int
  | 35 => .array .int
  | 36 => .array .int
  | 37 => .array .int
  | 38 => .array .int
  | 39 => .array .int
  | 40 => .array .int
  | 41 => .array .int
  | 42 => .array .int
  | 43 => .array .int
  | 44 => .array .int
  | 45 => .int
  | 46 => .array .int
  | 47 => .int
  | 48 => .int
  | 49 => .array .int
  | 50 => .array .int
  | 51 => .int
  | _ => .array .int
theorem nmX12 : ∀ a, a < 53 → ∀ b, b < 53 → a ≠ b → (TX12 a).2.1 ≠ (TX12 b).2.1 := by decide +kernel
theorem tyX12_ok : ∀ k, k < 53 → parseFieldDescriptor (TX12 k).2.2.1 = some (tyX12 k) := by decide +kernel
abbrev cX12_init : ByteArray := prog_14_method_1_code
def yX12_init : MethodName := ⟨RX12, "<init>", "()V"⟩
abbrev cX12_in : ByteArray := prog_14_method_3_code
def yX12_in : MethodName := ⟨RX12, "in", "(III)Z"⟩
abbrev cX12_within : ByteArray := prog_14_method_4_code
def yX12_within : MethodName := ⟨RX12, "within", "(III)I"⟩
abbrev cX12_isWalker : ByteArray := prog_14_method_5_code
def yX12_isWalker : MethodName := ⟨RX12, "isWalker", "(I)Z"⟩
abbrev cX12_isHeap : ByteArray := prog_14_method_6_code
def yX12_isHeap : MethodName := ⟨RX12, "isHeap", "(I)Z"⟩
abbrev cX12_areSeconds : ByteArray := prog_14_method_7_code
def yX12_areSeconds : MethodName := ⟨RX12, "areSeconds", "(I)Z"⟩
abbrev cX12_count : ByteArray := prog_14_method_8_code
def yX12_count : MethodName := ⟨RX12, "count", "(I)I"⟩
abbrev cX12_set : ByteArray := prog_14_method_9_code
def yX12_set : MethodName := ⟨RX12, "set", "(III)I"⟩
abbrev cX12_heap : ByteArray := prog_14_method_10_code
def yX12_heap : MethodName := ⟨RX12, "heap", "(II)I"⟩
abbrev cX12_isByte : ByteArray := prog_14_method_11_code
def yX12_isByte : MethodName := ⟨RX12, "isByte", "(I)Z"⟩
abbrev cX12_feed : ByteArray := prog_14_method_12_code
def yX12_feed : MethodName := ⟨RX12, "feed", "(IIIIII)I"⟩
abbrev cX12_wordFrom : ByteArray := prog_14_method_13_code
def yX12_wordFrom : MethodName := ⟨RX12, "wordFrom", "(II)I"⟩
abbrev cX12_next : ByteArray := prog_14_method_14_code
def yX12_next : MethodName := ⟨RX12, "next", "()V"⟩
abbrev cX12_rank : ByteArray := prog_14_method_15_code
def yX12_rank : MethodName := ⟨RX12, "rank", "(I)I"⟩
abbrev cX12_puts : ByteArray := prog_14_method_16_code
def yX12_puts : MethodName := ⟨RX12, "puts", "(I)V"⟩
abbrev cX12_unwinds : ByteArray := prog_14_method_17_code
def yX12_unwinds : MethodName := ⟨RX12, "unwinds", "(I)V"⟩
abbrev cX12_holds : ByteArray := prog_14_method_18_code
def yX12_holds : MethodName := ⟨RX12, "holds", "(I)V"⟩
abbrev cX12_opensOne : ByteArray := prog_14_method_19_code
def yX12_opensOne : MethodName := ⟨RX12, "opensOne", "(I)Z"⟩
abbrev cX12_between : ByteArray := prog_14_method_20_code
def yX12_between : MethodName := ⟨RX12, "between", "(I)Z"⟩
abbrev cX12_signOf : ByteArray := prog_14_method_21_code
def yX12_signOf : MethodName := ⟨RX12, "signOf", "()I"⟩
abbrev cX12_eRead : ByteArray := prog_14_method_22_code
def yX12_eRead : MethodName := ⟨RX12, "eRead", "()Z"⟩
abbrev cX12_text : ByteArray := prog_14_method_23_code
def yX12_text : MethodName := ⟨RX12, "text", "()I"⟩
abbrev cX12_two : ByteArray := prog_14_method_24_code
def yX12_two : MethodName := ⟨RX12, "two", "(III)I"⟩
abbrev cX12_says : ByteArray := prog_14_method_25_code
def yX12_says : MethodName := ⟨RX12, "says", "(I)I"⟩
abbrev cX12_force : ByteArray := prog_14_method_26_code
def yX12_force : MethodName := ⟨RX12, "force", "(I)I"⟩
abbrev cX12_asksOf : ByteArray := prog_14_method_27_code
def yX12_asksOf : MethodName := ⟨RX12, "asksOf", "(IIIII)I"⟩
abbrev cX12_asks : ByteArray := prog_14_method_28_code
def yX12_asks : MethodName := ⟨RX12, "asks", "(III)I"⟩
abbrev cX12_walker : ByteArray := prog_14_method_29_code
def yX12_walker : MethodName := ⟨RX12, "walker", "(III)I"⟩
abbrev cX12_begin : ByteArray := prog_14_method_30_code
def yX12_begin : MethodName := ⟨RX12, "begin", "(II)I"⟩
abbrev cX12_told : ByteArray := prog_14_method_31_code
def yX12_told : MethodName := ⟨RX12, "told", "(II)I"⟩
abbrev cX12_takesOf : ByteArray := prog_14_method_32_code
def yX12_takesOf : MethodName := ⟨RX12, "takesOf", "(IIII)I"⟩
abbrev cX12_stepsOf : ByteArray := prog_14_method_33_code
def yX12_stepsOf : MethodName := ⟨RX12, "stepsOf", "(IIII)I"⟩
abbrev cX12_begins : ByteArray := prog_14_method_34_code
def yX12_begins : MethodName := ⟨RX12, "begins", "()V"⟩
abbrev cX12_lifts : ByteArray := prog_14_method_35_code
def yX12_lifts : MethodName := ⟨RX12, "lifts", "(II)V"⟩
abbrev cX12_makes : ByteArray := prog_14_method_36_code
def yX12_makes : MethodName := ⟨RX12, "makes", "(II)V"⟩
abbrev cX12_mustWait : ByteArray := prog_14_method_37_code
def yX12_mustWait : MethodName := ⟨RX12, "mustWait", "(I)Z"⟩
abbrev cX12_takesOn : ByteArray := prog_14_method_38_code
def yX12_takesOn : MethodName := ⟨RX12, "takesOn", "(II)V"⟩
abbrev cX12_waitsOn : ByteArray := prog_14_method_39_code
def yX12_waitsOn : MethodName := ⟨RX12, "waitsOn", "(I)V"⟩
abbrev cX12_second : ByteArray := prog_14_method_40_code
def yX12_second : MethodName := ⟨RX12, "second", "(I)V"⟩
abbrev cX12_goesFor : ByteArray := prog_14_method_41_code
def yX12_goesFor : MethodName := ⟨RX12, "goesFor", "(I)V"⟩
abbrev cX12_orders : ByteArray := prog_14_method_42_code
def yX12_orders : MethodName := ⟨RX12, "orders", "(I)V"⟩
abbrev cX12_goesPlain : ByteArray := prog_14_method_43_code
def yX12_goesPlain : MethodName := ⟨RX12, "goesPlain", "(I)V"⟩
abbrev cX12_howMany : ByteArray := prog_14_method_44_code
def yX12_howMany : MethodName := ⟨RX12, "howMany", "(I)I"⟩
abbrev cX12_waitings : ByteArray := prog_14_method_45_code
def yX12_waitings : MethodName := ⟨RX12, "waitings", "()I"⟩
abbrev cX12_run : ByteArray := prog_14_method_46_code
def yX12_run : MethodName := ⟨RX12, "run", "(II)I"⟩
abbrev cX12_one : ByteArray := prog_14_method_47_code
def yX12_one : MethodName := ⟨RX12, "one", "(III)I"⟩
abbrev cX12_height : ByteArray := prog_14_method_48_code
def yX12_height : MethodName := ⟨RX12, "height", "(III)I"⟩
abbrev cX12_go : ByteArray := prog_14_method_49_code
def yX12_go : MethodName := ⟨RX12, "go", "(I)I"⟩
abbrev cX12_offNumber : ByteArray := prog_14_method_50_code
def yX12_offNumber : MethodName := ⟨RX12, "offNumber", "(I)I"⟩
abbrev cX12_off : ByteArray := prog_14_method_51_code
def yX12_off : MethodName := ⟨RX12, "off", "(I)I"⟩
abbrev cX12_lastOff : ByteArray := prog_14_method_52_code
def yX12_lastOff : MethodName := ⟨RX12, "lastOff", "()I"⟩
abbrev cX12_find : ByteArray := prog_14_method_53_code
def yX12_find : MethodName := ⟨RX12, "find", "(II)I"⟩
abbrev cX12_tells : ByteArray := prog_14_method_54_code
def yX12_tells : MethodName := ⟨RX12, "tells", "(I)Z"⟩
abbrev cX12_powerOf : ByteArray := prog_14_method_55_code
def yX12_powerOf : MethodName := ⟨RX12, "powerOf", "(I)I"⟩
abbrev cX12_digitsNow : ByteArray := prog_14_method_56_code
def yX12_digitsNow : MethodName := ⟨RX12, "digitsNow", "()I"⟩
abbrev cX12_best : ByteArray := prog_14_method_57_code
def yX12_best : MethodName := ⟨RX12, "best", "(I)I"⟩
abbrev cX12_start : ByteArray := prog_14_method_58_code
def yX12_start : MethodName := ⟨RX12, "start", "(II)I"⟩
abbrev cX12_without : ByteArray := prog_14_method_59_code
def yX12_without : MethodName := ⟨RX12, "without", "(I)I"⟩
abbrev cX12_sit : ByteArray := prog_14_method_60_code
def yX12_sit : MethodName := ⟨RX12, "sit", "(I)I"⟩
abbrev cX12_worth : ByteArray := prog_14_method_61_code
def yX12_worth : MethodName := ⟨RX12, "worth", "(I)I"⟩
abbrev cX12_more : ByteArray := prog_14_method_62_code
def yX12_more : MethodName := ⟨RX12, "more", "(I)I"⟩
abbrev cX12_secondsOf : ByteArray := prog_14_method_63_code
def yX12_secondsOf : MethodName := ⟨RX12, "secondsOf", "(III)I"⟩
abbrev cX12_mostSeconds : ByteArray := prog_14_method_64_code
def yX12_mostSeconds : MethodName := ⟨RX12, "mostSeconds", "()I"⟩
abbrev cX12_tellsStretches : ByteArray := prog_14_method_65_code
def yX12_tellsStretches : MethodName := ⟨RX12, "tellsStretches", "(I)Z"⟩
abbrev cX12_tens : ByteArray := prog_14_method_66_code
def yX12_tens : MethodName := ⟨RX12, "tens", "(I)I"⟩
abbrev cX12_findsStretches : ByteArray := prog_14_method_67_code
def yX12_findsStretches : MethodName := ⟨RX12, "findsStretches", "()I"⟩
abbrev cX12_stretch : ByteArray := prog_14_method_68_code
def yX12_stretch : MethodName := ⟨RX12, "stretch", "(I)I"⟩
abbrev cX12_slowest : ByteArray := prog_14_method_69_code
def yX12_slowest : MethodName := ⟨RX12, "slowest", "()I"⟩
abbrev cX12_sheetWrong : ByteArray := prog_14_method_70_code
def yX12_sheetWrong : MethodName := ⟨RX12, "sheetWrong", "(I)I"⟩
abbrev cX12_timeWrong : ByteArray := prog_14_method_71_code
def yX12_timeWrong : MethodName := ⟨RX12, "timeWrong", "(II)I"⟩
abbrev cX12_unlikeNow : ByteArray := prog_14_method_72_code
def yX12_unlikeNow : MethodName := ⟨RX12, "unlikeNow", "(I)I"⟩
abbrev cX12_unlike : ByteArray := prog_14_method_73_code
def yX12_unlike : MethodName := ⟨RX12, "unlike", "(II)I"⟩
abbrev cX12_judge : ByteArray := prog_14_method_74_code
def yX12_judge : MethodName := ⟨RX12, "judge", "(II)I"⟩
abbrev cX12_when : ByteArray := prog_14_method_75_code
def yX12_when : MethodName := ⟨RX12, "when", "(II)I"⟩
abbrev cX12_sticks : ByteArray := prog_14_method_76_code
def yX12_sticks : MethodName := ⟨RX12, "sticks", "(III)I"⟩
abbrev cX12_kinds : ByteArray := prog_14_method_77_code
def yX12_kinds : MethodName := ⟨RX12, "kinds", "(III)I"⟩
abbrev cX12_laws : ByteArray := prog_14_method_78_code
def yX12_laws : MethodName := ⟨RX12, "laws", "(II)I"⟩
abbrev cX12_film : ByteArray := prog_14_method_79_code
def yX12_film : MethodName := ⟨RX12, "film", "(II)I"⟩
abbrev cX12_goesBy : ByteArray := prog_14_method_80_code
def yX12_goesBy : MethodName := ⟨RX12, "goesBy", "(II)V"⟩
abbrev cX12_drawn : ByteArray := prog_14_method_81_code
def yX12_drawn : MethodName := ⟨RX12, "drawn", "(II)I"⟩
abbrev cX12_lowest : ByteArray := prog_14_method_82_code
def yX12_lowest : MethodName := ⟨RX12, "lowest", "(JJI)J"⟩
abbrev cX12_odds : ByteArray := prog_14_method_83_code
def yX12_odds : MethodName := ⟨RX12, "odds", "(IIII)J"⟩
abbrev cX12_image : ByteArray := prog_14_method_84_code
def yX12_image : MethodName := ⟨RX12, "image", "()I"⟩
abbrev cX12_back : ByteArray := prog_14_method_85_code
def yX12_back : MethodName := ⟨RX12, "back", "()I"⟩
abbrev cX12_sheet : ByteArray := prog_14_method_86_code
def yX12_sheet : MethodName := ⟨RX12, "sheet", "(III)I"⟩
abbrev cX12_cell : ByteArray := prog_14_method_87_code
def yX12_cell : MethodName := ⟨RX12, "cell", "(III)I"⟩
abbrev cX12_copy : ByteArray := prog_14_method_88_code
def yX12_copy : MethodName := ⟨RX12, "copy", "(IIIII)I"⟩
abbrev cX12_walkersBy : ByteArray := prog_14_method_89_code
def yX12_walkersBy : MethodName := ⟨RX12, "walkersBy", "(IIII)I"⟩
abbrev cX12_isUnder : ByteArray := prog_14_method_90_code
def yX12_isUnder : MethodName := ⟨RX12, "isUnder", "(II)Z"⟩
abbrev cX12_taken : ByteArray := prog_14_method_91_code
def yX12_taken : MethodName := ⟨RX12, "taken", "(II)I"⟩
def RJx145de : String := "java/io/Serializable"
def RJx9f9b0 : String := "java/lang/CharSequence"
def RJx8e188 : String := "java/lang/Cloneable"
def RJxb160c : String := "java/lang/Comparable"
def RJ9 : String := "java/lang/Math"
abbrev cJ9_floorDiv_7cf53 : ByteArray := prog_16_method_47_code
def yJ9_floorDiv_7cf53 : MethodName := ⟨RJ9, "floorDiv", "(II)I"⟩
abbrev cJ9_floorMod_7cf53 : ByteArray := prog_16_method_50_code
def yJ9_floorMod_7cf53 : MethodName := ⟨RJ9, "floorMod", "(II)I"⟩
abbrev cJ9_max_7cf53 : ByteArray := prog_16_method_65_code
def yJ9_max_7cf53 : MethodName := ⟨RJ9, "max", "(II)I"⟩
abbrev cJ9_min_7cf53 : ByteArray := prog_16_method_69_code
def yJ9_min_7cf53 : MethodName := ⟨RJ9, "min", "(II)I"⟩
def RJ0 : String := "java/lang/String"
abbrev cJ0_length_8abf5 : ByteArray := prog_17_method_54_code
def yJ0_length_8abf5 : MethodName := ⟨RJ0, "length", "()I"⟩
abbrev cJ0_charAt_5068e : ByteArray := prog_17_method_56_code
def yJ0_charAt_5068e : MethodName := ⟨RJ0, "charAt", "(I)C"⟩
abbrev cJ0_coder_7d493 : ByteArray := prog_17_method_152_code
def yJ0_coder_7d493 : MethodName := ⟨RJ0, "coder", "()B"⟩
abbrev cJ0_isLatin1_aae02 : ByteArray := prog_17_method_154_code
def yJ0_isLatin1_aae02 : MethodName := ⟨RJ0, "isLatin1", "()Z"⟩
abbrev cJ0_checkIndex_df160 : ByteArray := prog_17_method_155_code
def yJ0_checkIndex_df160 : MethodName := ⟨RJ0, "checkIndex", "(II)V"⟩
def RJ1 : String := "java/lang/StringLatin1"
abbrev cJ1_charAt_3b067 : ByteArray := prog_18_method_2_code
def yJ1_charAt_3b067 : MethodName := ⟨RJ1, "charAt", "([BI)C"⟩
def RJ2 : String := "java/lang/StringUTF16"
abbrev cJ2_getChar_3b067 : ByteArray := prog_19_method_5_code
def yJ2_getChar_3b067 : MethodName := ⟨RJ2, "getChar", "([BI)C"⟩
abbrev cJ2_length_9d52b : ByteArray := prog_19_method_6_code
def yJ2_length_9d52b : MethodName := ⟨RJ2, "length", "([B)I"⟩
abbrev cJ2_charAt_3b067 : ByteArray := prog_19_method_83_code
def yJ2_charAt_3b067 : MethodName := ⟨RJ2, "charAt", "([BI)C"⟩
abbrev cJ2_checkIndex_2214a : ByteArray := prog_19_method_91_code
def yJ2_checkIndex_2214a : MethodName := ⟨RJ2, "checkIndex", "(I[B)V"⟩
def RJ10 : String := "java/lang/System"
def RJxfd54e : String := "java/lang/constant/Constable"
def RJx3cf43 : String := "java/lang/constant/ConstantDesc"
def RJ7 : String := "java/util/Arrays"
abbrev cJ7_fill_53178 : ByteArray := prog_21_method_103_code
def yJ7_fill_53178 : MethodName := ⟨RJ7, "fill", "([II)V"⟩
abbrev cJ7_copyOf_59c91 : ByteArray := prog_21_method_123_code
def yJ7_copyOf_59c91 : MethodName := ⟨RJ7, "copyOf", "([II)[I"⟩
def RJ3 : String := "jdk/internal/util/Preconditions"
abbrev cJ3_checkIndex_8e157 : ByteArray := prog_22_method_11_code
def yJ3_checkIndex_8e157 : MethodName := ⟨RJ3, "checkIndex", "(IILjava/util/function/BiFunction;)I"⟩
def RL : String := "NineHeapsLaw"
abbrev cL_law : ByteArray := code
abbrev vwCl : List vw_C := [(RX0, TX0, 13), (RX1, TX1, 11), (RX2, TX2, 7), (RX3, TX3, 5), (RX4, TX4, 11), (RX5, TX5, 11), (RX6, TX6, 3), (RX7, TX7, 10), (RX8, TX8, 11), (RX9, TX9, 11), (RX10, TX10, 11), (RX11, TX11, 20), (RX12, TX12, 53)]
