-- ===== PART A: goes FIRST, ahead of the names: the tables' words, and 'selects' of the private methods out of them =====
/-- a private method of a class that the tables say can be made, by its rows of tables_1 -/
def lw_okq (q : MethodName × Nat) : Prop := (q.1.cls ≠ "java/lang/invoke/MethodHandle" ∧ q.1.cls ≠ "java/lang/invoke/VarHandle") ∧ Cond.instantiable q.1.cls q.2 ∈ tables_1 ∧ Cond.privateMethod q.1 ∈ tables_1 ∧ Cond.instanceMethod q.1 ∈ tables_1
theorem lw_p0 : lw_okq (⟨"BogBoards", "refused", "(II)I"⟩, 14) := ⟨⟨by decide +kernel, by decide +kernel⟩, List.mem_of_getElem? (i := 20) (by decide +kernel), List.mem_of_getElem? (i := 376) (by decide +kernel), List.mem_of_getElem? (i := 377) (by decide +kernel)⟩
theorem lw_p1 : lw_okq (⟨"BogBoards$TextReader", "nextToken", "()V"⟩, 6) := ⟨⟨by decide +kernel, by decide +kernel⟩, List.mem_of_getElem? (i := 101) (by decide +kernel), List.mem_of_getElem? (i := 400) (by decide +kernel), List.mem_of_getElem? (i := 401) (by decide +kernel)⟩
theorem lw_p2 : lw_okq (⟨"BogBoards$TextReader", "isLetter", "(I)Z"⟩, 6) := ⟨⟨by decide +kernel, by decide +kernel⟩, List.mem_of_getElem? (i := 101) (by decide +kernel), List.mem_of_getElem? (i := 408) (by decide +kernel), List.mem_of_getElem? (i := 409) (by decide +kernel)⟩
theorem lw_p3 : lw_okq (⟨"BogBoards$TextReader", "isFigure", "(I)Z"⟩, 6) := ⟨⟨by decide +kernel, by decide +kernel⟩, List.mem_of_getElem? (i := 101) (by decide +kernel), List.mem_of_getElem? (i := 412) (by decide +kernel), List.mem_of_getElem? (i := 413) (by decide +kernel)⟩
theorem lw_p4 : lw_okq (⟨"BogBoards$TextReader", "readFigures", "()V"⟩, 6) := ⟨⟨by decide +kernel, by decide +kernel⟩, List.mem_of_getElem? (i := 101) (by decide +kernel), List.mem_of_getElem? (i := 416) (by decide +kernel), List.mem_of_getElem? (i := 417) (by decide +kernel)⟩
theorem lw_p5 : lw_okq (⟨"BogBoards$TextReader", "readItem", "(LBogBoards$Bog;Z)V"⟩, 6) := ⟨⟨by decide +kernel, by decide +kernel⟩, List.mem_of_getElem? (i := 101) (by decide +kernel), List.mem_of_getElem? (i := 420) (by decide +kernel), List.mem_of_getElem? (i := 421) (by decide +kernel)⟩
theorem lw_p6 : lw_okq (⟨"BogBoards$TextReader", "isWord", "(Ljava/lang/String;)Z"⟩, 6) := ⟨⟨by decide +kernel, by decide +kernel⟩, List.mem_of_getElem? (i := 101) (by decide +kernel), List.mem_of_getElem? (i := 425) (by decide +kernel), List.mem_of_getElem? (i := 426) (by decide +kernel)⟩
theorem lw_p7 : lw_okq (⟨"BogBoards$TextReader", "breakHere", "()V"⟩, 6) := ⟨⟨by decide +kernel, by decide +kernel⟩, List.mem_of_getElem? (i := 101) (by decide +kernel), List.mem_of_getElem? (i := 477) (by decide +kernel), List.mem_of_getElem? (i := 478) (by decide +kernel)⟩
theorem lw_p8 : lw_okq (⟨"BogBoards$TextReader", "number", "(II)I"⟩, 6) := ⟨⟨by decide +kernel, by decide +kernel⟩, List.mem_of_getElem? (i := 101) (by decide +kernel), List.mem_of_getElem? (i := 481) (by decide +kernel), List.mem_of_getElem? (i := 482) (by decide +kernel)⟩
theorem lw_p9 : lw_okq (⟨"BogBoards$TextReader", "readBoard", "(LBogBoards$Bog;)V"⟩, 6) := ⟨⟨by decide +kernel, by decide +kernel⟩, List.mem_of_getElem? (i := 101) (by decide +kernel), List.mem_of_getElem? (i := 496) (by decide +kernel), List.mem_of_getElem? (i := 497) (by decide +kernel)⟩
theorem lw_p10 : lw_okq (⟨"BogBoards$Bog", "maskOf", "(II)I"⟩, 12) := ⟨⟨by decide +kernel, by decide +kernel⟩, List.mem_of_getElem? (i := 28) (by decide +kernel), List.mem_of_getElem? (i := 506) (by decide +kernel), List.mem_of_getElem? (i := 507) (by decide +kernel)⟩
theorem lw_p11 : lw_okq (⟨"BogBoards$Bog", "coverOf", "(II)I"⟩, 12) := ⟨⟨by decide +kernel, by decide +kernel⟩, List.mem_of_getElem? (i := 28) (by decide +kernel), List.mem_of_getElem? (i := 514) (by decide +kernel), List.mem_of_getElem? (i := 515) (by decide +kernel)⟩
theorem lw_p12 : lw_okq (⟨"BogBoards$TextReader", "expectStop", "()V"⟩, 6) := ⟨⟨by decide +kernel, by decide +kernel⟩, List.mem_of_getElem? (i := 101) (by decide +kernel), List.mem_of_getElem? (i := 528) (by decide +kernel), List.mem_of_getElem? (i := 529) (by decide +kernel)⟩
theorem lw_p13 : lw_okq (⟨"BogBoards$Bog", "groundMask", "()I"⟩, 12) := ⟨⟨by decide +kernel, by decide +kernel⟩, List.mem_of_getElem? (i := 28) (by decide +kernel), List.mem_of_getElem? (i := 536) (by decide +kernel), List.mem_of_getElem? (i := 537) (by decide +kernel)⟩
theorem lw_p14 : lw_okq (⟨"BogBoards$Bog", "weightOver", "(III)I"⟩, 12) := ⟨⟨by decide +kernel, by decide +kernel⟩, List.mem_of_getElem? (i := 28) (by decide +kernel), List.mem_of_getElem? (i := 544) (by decide +kernel), List.mem_of_getElem? (i := 545) (by decide +kernel)⟩
theorem lw_p15 : lw_okq (⟨"BogBoards$Bog", "standMask", "(I)I"⟩, 12) := ⟨⟨by decide +kernel, by decide +kernel⟩, List.mem_of_getElem? (i := 28) (by decide +kernel), List.mem_of_getElem? (i := 556) (by decide +kernel), List.mem_of_getElem? (i := 557) (by decide +kernel)⟩
def lw_privs_1 : List (MethodName × Nat) := [(⟨"BogBoards", "refused", "(II)I"⟩, 14), (⟨"BogBoards$TextReader", "nextToken", "()V"⟩, 6), (⟨"BogBoards$TextReader", "isLetter", "(I)Z"⟩, 6), (⟨"BogBoards$TextReader", "isFigure", "(I)Z"⟩, 6), (⟨"BogBoards$TextReader", "readFigures", "()V"⟩, 6), (⟨"BogBoards$TextReader", "readItem", "(LBogBoards$Bog;Z)V"⟩, 6), (⟨"BogBoards$TextReader", "isWord", "(Ljava/lang/String;)Z"⟩, 6), (⟨"BogBoards$TextReader", "breakHere", "()V"⟩, 6), (⟨"BogBoards$TextReader", "number", "(II)I"⟩, 6), (⟨"BogBoards$TextReader", "readBoard", "(LBogBoards$Bog;)V"⟩, 6), (⟨"BogBoards$Bog", "maskOf", "(II)I"⟩, 12), (⟨"BogBoards$Bog", "coverOf", "(II)I"⟩, 12), (⟨"BogBoards$TextReader", "expectStop", "()V"⟩, 6), (⟨"BogBoards$Bog", "groundMask", "()I"⟩, 12), (⟨"BogBoards$Bog", "weightOver", "(III)I"⟩, 12), (⟨"BogBoards$Bog", "standMask", "(I)I"⟩, 12)]
theorem lw_r1 : ∀ q ∈ lw_privs_1, lw_okq q := List.forall_mem_cons.mpr ⟨lw_p0, List.forall_mem_cons.mpr ⟨lw_p1, List.forall_mem_cons.mpr ⟨lw_p2, List.forall_mem_cons.mpr ⟨lw_p3, List.forall_mem_cons.mpr ⟨lw_p4, List.forall_mem_cons.mpr ⟨lw_p5, List.forall_mem_cons.mpr ⟨lw_p6, List.forall_mem_cons.mpr ⟨lw_p7, List.forall_mem_cons.mpr ⟨lw_p8, List.forall_mem_cons.mpr ⟨lw_p9, List.forall_mem_cons.mpr ⟨lw_p10, List.forall_mem_cons.mpr ⟨lw_p11, List.forall_mem_cons.mpr ⟨lw_p12, List.forall_mem_cons.mpr ⟨lw_p13, List.forall_mem_cons.mpr ⟨lw_p14, List.forall_mem_cons.mpr ⟨lw_p15, fun _ h => absurd h List.not_mem_nil⟩⟩⟩⟩⟩⟩⟩⟩⟩⟩⟩⟩⟩⟩⟩⟩
theorem lw_p16 : lw_okq (⟨"BogBoards$Bog", "isIn", "(II)Z"⟩, 12) := ⟨⟨by decide +kernel, by decide +kernel⟩, List.mem_of_getElem? (i := 28) (by decide +kernel), List.mem_of_getElem? (i := 592) (by decide +kernel), List.mem_of_getElem? (i := 593) (by decide +kernel)⟩
theorem lw_p17 : lw_okq (⟨"BogBoards", "outcomeNow", "(I)I"⟩, 14) := ⟨⟨by decide +kernel, by decide +kernel⟩, List.mem_of_getElem? (i := 20) (by decide +kernel), List.mem_of_getElem? (i := 633) (by decide +kernel), List.mem_of_getElem? (i := 634) (by decide +kernel)⟩
theorem lw_p18 : lw_okq (⟨"BogBoards$Bog", "walked", "(IIII)I"⟩, 12) := ⟨⟨by decide +kernel, by decide +kernel⟩, List.mem_of_getElem? (i := 28) (by decide +kernel), List.mem_of_getElem? (i := 645) (by decide +kernel), List.mem_of_getElem? (i := 646) (by decide +kernel)⟩
theorem lw_p19 : lw_okq (⟨"BogBoards$Bog", "laid", "(IIIII)I"⟩, 12) := ⟨⟨by decide +kernel, by decide +kernel⟩, List.mem_of_getElem? (i := 28) (by decide +kernel), List.mem_of_getElem? (i := 649) (by decide +kernel), List.mem_of_getElem? (i := 650) (by decide +kernel)⟩
theorem lw_p20 : lw_okq (⟨"BogBoards$Bog", "taken", "(III)I"⟩, 12) := ⟨⟨by decide +kernel, by decide +kernel⟩, List.mem_of_getElem? (i := 28) (by decide +kernel), List.mem_of_getElem? (i := 653) (by decide +kernel), List.mem_of_getElem? (i := 654) (by decide +kernel)⟩
theorem lw_p21 : lw_okq (⟨"BogBoards$Bog", "handed", "(IIII)I"⟩, 12) := ⟨⟨by decide +kernel, by decide +kernel⟩, List.mem_of_getElem? (i := 28) (by decide +kernel), List.mem_of_getElem? (i := 663) (by decide +kernel), List.mem_of_getElem? (i := 664) (by decide +kernel)⟩
theorem lw_p22 : lw_okq (⟨"BogBoards$Bog", "leapt", "(IIII)I"⟩, 12) := ⟨⟨by decide +kernel, by decide +kernel⟩, List.mem_of_getElem? (i := 28) (by decide +kernel), List.mem_of_getElem? (i := 667) (by decide +kernel), List.mem_of_getElem? (i := 668) (by decide +kernel)⟩
theorem lw_p23 : lw_okq (⟨"BogBoards", "moveTo", "(I)V"⟩, 14) := ⟨⟨by decide +kernel, by decide +kernel⟩, List.mem_of_getElem? (i := 20) (by decide +kernel), List.mem_of_getElem? (i := 681) (by decide +kernel), List.mem_of_getElem? (i := 682) (by decide +kernel)⟩
theorem lw_p24 : lw_okq (⟨"BogBoards$Search", "shortest", "(LBogBoards$Bog;I)I"⟩, 13) := ⟨⟨by decide +kernel, by decide +kernel⟩, List.mem_of_getElem? (i := 177) (by decide +kernel), List.mem_of_getElem? (i := 718) (by decide +kernel), List.mem_of_getElem? (i := 719) (by decide +kernel)⟩
theorem lw_p25 : lw_okq (⟨"BogBoards$Search", "begin", "(I)V"⟩, 13) := ⟨⟨by decide +kernel, by decide +kernel⟩, List.mem_of_getElem? (i := 177) (by decide +kernel), List.mem_of_getElem? (i := 722) (by decide +kernel), List.mem_of_getElem? (i := 723) (by decide +kernel)⟩
theorem lw_p26 : lw_okq (⟨"BogBoards$Search", "enter", "(I)Z"⟩, 13) := ⟨⟨by decide +kernel, by decide +kernel⟩, List.mem_of_getElem? (i := 177) (by decide +kernel), List.mem_of_getElem? (i := 726) (by decide +kernel), List.mem_of_getElem? (i := 727) (by decide +kernel)⟩
theorem lw_p27 : lw_okq (⟨"BogBoards$Search", "listActs", "(LBogBoards$Bog;II)V"⟩, 13) := ⟨⟨by decide +kernel, by decide +kernel⟩, List.mem_of_getElem? (i := 177) (by decide +kernel), List.mem_of_getElem? (i := 731) (by decide +kernel), List.mem_of_getElem? (i := 732) (by decide +kernel)⟩
theorem lw_p28 : lw_okq (⟨"BogBoards$Search", "goOn", "(LBogBoards$Bog;I)Z"⟩, 13) := ⟨⟨by decide +kernel, by decide +kernel⟩, List.mem_of_getElem? (i := 177) (by decide +kernel), List.mem_of_getElem? (i := 736) (by decide +kernel), List.mem_of_getElem? (i := 737) (by decide +kernel)⟩
theorem lw_p29 : lw_okq (⟨"BogBoards$Search", "cameFromAt", "(I)I"⟩, 13) := ⟨⟨by decide +kernel, by decide +kernel⟩, List.mem_of_getElem? (i := 177) (by decide +kernel), List.mem_of_getElem? (i := 749) (by decide +kernel), List.mem_of_getElem? (i := 750) (by decide +kernel)⟩
theorem lw_p30 : lw_okq (⟨"BogBoards$Search", "fewestLeaps", "(LBogBoards$Bog;I)I"⟩, 13) := ⟨⟨by decide +kernel, by decide +kernel⟩, List.mem_of_getElem? (i := 177) (by decide +kernel), List.mem_of_getElem? (i := 771) (by decide +kernel), List.mem_of_getElem? (i := 772) (by decide +kernel)⟩
theorem lw_p31 : lw_okq (⟨"BogBoards$Rule", "parseValue", "(I)V"⟩, 9) := ⟨⟨by decide +kernel, by decide +kernel⟩, List.mem_of_getElem? (i := 127) (by decide +kernel), List.mem_of_getElem? (i := 803) (by decide +kernel), List.mem_of_getElem? (i := 804) (by decide +kernel)⟩
def lw_privs_2 : List (MethodName × Nat) := [(⟨"BogBoards$Bog", "isIn", "(II)Z"⟩, 12), (⟨"BogBoards", "outcomeNow", "(I)I"⟩, 14), (⟨"BogBoards$Bog", "walked", "(IIII)I"⟩, 12), (⟨"BogBoards$Bog", "laid", "(IIIII)I"⟩, 12), (⟨"BogBoards$Bog", "taken", "(III)I"⟩, 12), (⟨"BogBoards$Bog", "handed", "(IIII)I"⟩, 12), (⟨"BogBoards$Bog", "leapt", "(IIII)I"⟩, 12), (⟨"BogBoards", "moveTo", "(I)V"⟩, 14), (⟨"BogBoards$Search", "shortest", "(LBogBoards$Bog;I)I"⟩, 13), (⟨"BogBoards$Search", "begin", "(I)V"⟩, 13), (⟨"BogBoards$Search", "enter", "(I)Z"⟩, 13), (⟨"BogBoards$Search", "listActs", "(LBogBoards$Bog;II)V"⟩, 13), (⟨"BogBoards$Search", "goOn", "(LBogBoards$Bog;I)Z"⟩, 13), (⟨"BogBoards$Search", "cameFromAt", "(I)I"⟩, 13), (⟨"BogBoards$Search", "fewestLeaps", "(LBogBoards$Bog;I)I"⟩, 13), (⟨"BogBoards$Rule", "parseValue", "(I)V"⟩, 9)]
theorem lw_r2 : ∀ q ∈ lw_privs_2, lw_okq q := List.forall_mem_cons.mpr ⟨lw_p16, List.forall_mem_cons.mpr ⟨lw_p17, List.forall_mem_cons.mpr ⟨lw_p18, List.forall_mem_cons.mpr ⟨lw_p19, List.forall_mem_cons.mpr ⟨lw_p20, List.forall_mem_cons.mpr ⟨lw_p21, List.forall_mem_cons.mpr ⟨lw_p22, List.forall_mem_cons.mpr ⟨lw_p23, List.forall_mem_cons.mpr ⟨lw_p24, List.forall_mem_cons.mpr ⟨lw_p25, List.forall_mem_cons.mpr ⟨lw_p26, List.forall_mem_cons.mpr ⟨lw_p27, List.forall_mem_cons.mpr ⟨lw_p28, List.forall_mem_cons.mpr ⟨lw_p29, List.forall_mem_cons.mpr ⟨lw_p30, List.forall_mem_cons.mpr ⟨lw_p31, fun _ h => absurd h List.not_mem_nil⟩⟩⟩⟩⟩⟩⟩⟩⟩⟩⟩⟩⟩⟩⟩⟩
theorem lw_p32 : lw_okq (⟨"BogBoards$Rule", "parseBoth", "(I)V"⟩, 9) := ⟨⟨by decide +kernel, by decide +kernel⟩, List.mem_of_getElem? (i := 127) (by decide +kernel), List.mem_of_getElem? (i := 807) (by decide +kernel), List.mem_of_getElem? (i := 808) (by decide +kernel)⟩
theorem lw_p33 : lw_okq (⟨"BogBoards$Rule", "parseHeld", "(I)V"⟩, 9) := ⟨⟨by decide +kernel, by decide +kernel⟩, List.mem_of_getElem? (i := 127) (by decide +kernel), List.mem_of_getElem? (i := 811) (by decide +kernel), List.mem_of_getElem? (i := 812) (by decide +kernel)⟩
theorem lw_p34 : lw_okq (⟨"BogBoards$Rule", "parseSum", "(I)V"⟩, 9) := ⟨⟨by decide +kernel, by decide +kernel⟩, List.mem_of_getElem? (i := 127) (by decide +kernel), List.mem_of_getElem? (i := 815) (by decide +kernel), List.mem_of_getElem? (i := 816) (by decide +kernel)⟩
theorem lw_p35 : lw_okq (⟨"BogBoards$Rule", "parseTerm", "(I)V"⟩, 9) := ⟨⟨by decide +kernel, by decide +kernel⟩, List.mem_of_getElem? (i := 127) (by decide +kernel), List.mem_of_getElem? (i := 819) (by decide +kernel), List.mem_of_getElem? (i := 820) (by decide +kernel)⟩
theorem lw_p36 : lw_okq (⟨"BogBoards$Rule", "parseUnit", "(I)V"⟩, 9) := ⟨⟨by decide +kernel, by decide +kernel⟩, List.mem_of_getElem? (i := 127) (by decide +kernel), List.mem_of_getElem? (i := 823) (by decide +kernel), List.mem_of_getElem? (i := 824) (by decide +kernel)⟩
theorem lw_p37 : lw_okq (⟨"BogBoards$Rule", "takes", "(I)Z"⟩, 9) := ⟨⟨by decide +kernel, by decide +kernel⟩, List.mem_of_getElem? (i := 127) (by decide +kernel), List.mem_of_getElem? (i := 827) (by decide +kernel), List.mem_of_getElem? (i := 828) (by decide +kernel)⟩
theorem lw_p38 : lw_okq (⟨"BogBoards$Rule", "next", "()I"⟩, 9) := ⟨⟨by decide +kernel, by decide +kernel⟩, List.mem_of_getElem? (i := 127) (by decide +kernel), List.mem_of_getElem? (i := 831) (by decide +kernel), List.mem_of_getElem? (i := 832) (by decide +kernel)⟩
theorem lw_p39 : lw_okq (⟨"BogBoards$Rule", "characterAt", "(I)I"⟩, 9) := ⟨⟨by decide +kernel, by decide +kernel⟩, List.mem_of_getElem? (i := 127) (by decide +kernel), List.mem_of_getElem? (i := 835) (by decide +kernel), List.mem_of_getElem? (i := 836) (by decide +kernel)⟩
theorem lw_p40 : lw_okq (⟨"BogBoards$Rule", "parseCore", "(I)V"⟩, 9) := ⟨⟨by decide +kernel, by decide +kernel⟩, List.mem_of_getElem? (i := 127) (by decide +kernel), List.mem_of_getElem? (i := 839) (by decide +kernel), List.mem_of_getElem? (i := 840) (by decide +kernel)⟩
theorem lw_p41 : lw_okq (⟨"BogBoards$Rule", "isDigit", "(I)Z"⟩, 9) := ⟨⟨by decide +kernel, by decide +kernel⟩, List.mem_of_getElem? (i := 127) (by decide +kernel), List.mem_of_getElem? (i := 843) (by decide +kernel), List.mem_of_getElem? (i := 844) (by decide +kernel)⟩
theorem lw_p42 : lw_okq (⟨"BogBoards$Rule", "parseNumber", "()V"⟩, 9) := ⟨⟨by decide +kernel, by decide +kernel⟩, List.mem_of_getElem? (i := 127) (by decide +kernel), List.mem_of_getElem? (i := 847) (by decide +kernel), List.mem_of_getElem? (i := 848) (by decide +kernel)⟩
theorem lw_p43 : lw_okq (⟨"BogBoards$Rule", "breakHere", "(I)V"⟩, 9) := ⟨⟨by decide +kernel, by decide +kernel⟩, List.mem_of_getElem? (i := 127) (by decide +kernel), List.mem_of_getElem? (i := 851) (by decide +kernel), List.mem_of_getElem? (i := 852) (by decide +kernel)⟩
theorem lw_p44 : lw_okq (⟨"BogBoards$Rule", "emit", "(I)V"⟩, 9) := ⟨⟨by decide +kernel, by decide +kernel⟩, List.mem_of_getElem? (i := 127) (by decide +kernel), List.mem_of_getElem? (i := 855) (by decide +kernel), List.mem_of_getElem? (i := 856) (by decide +kernel)⟩
theorem lw_p45 : lw_okq (⟨"BogBoards$Rule", "isSeen", "(I)Z"⟩, 9) := ⟨⟨by decide +kernel, by decide +kernel⟩, List.mem_of_getElem? (i := 127) (by decide +kernel), List.mem_of_getElem? (i := 859) (by decide +kernel), List.mem_of_getElem? (i := 860) (by decide +kernel)⟩
theorem lw_p46 : lw_okq (⟨"BogBoards$Mist", "step", "(LBogBoards$Bog;LBogBoards$Rule;II)V"⟩, 4) := ⟨⟨by decide +kernel, by decide +kernel⟩, List.mem_of_getElem? (i := 224) (by decide +kernel), List.mem_of_getElem? (i := 872) (by decide +kernel), List.mem_of_getElem? (i := 873) (by decide +kernel)⟩
theorem lw_p47 : lw_okq (⟨"BogBoards$Mist", "look", "(LBogBoards$Bog;II)V"⟩, 4) := ⟨⟨by decide +kernel, by decide +kernel⟩, List.mem_of_getElem? (i := 224) (by decide +kernel), List.mem_of_getElem? (i := 877) (by decide +kernel), List.mem_of_getElem? (i := 878) (by decide +kernel)⟩
def lw_privs_3 : List (MethodName × Nat) := [(⟨"BogBoards$Rule", "parseBoth", "(I)V"⟩, 9), (⟨"BogBoards$Rule", "parseHeld", "(I)V"⟩, 9), (⟨"BogBoards$Rule", "parseSum", "(I)V"⟩, 9), (⟨"BogBoards$Rule", "parseTerm", "(I)V"⟩, 9), (⟨"BogBoards$Rule", "parseUnit", "(I)V"⟩, 9), (⟨"BogBoards$Rule", "takes", "(I)Z"⟩, 9), (⟨"BogBoards$Rule", "next", "()I"⟩, 9), (⟨"BogBoards$Rule", "characterAt", "(I)I"⟩, 9), (⟨"BogBoards$Rule", "parseCore", "(I)V"⟩, 9), (⟨"BogBoards$Rule", "isDigit", "(I)Z"⟩, 9), (⟨"BogBoards$Rule", "parseNumber", "()V"⟩, 9), (⟨"BogBoards$Rule", "breakHere", "(I)V"⟩, 9), (⟨"BogBoards$Rule", "emit", "(I)V"⟩, 9), (⟨"BogBoards$Rule", "isSeen", "(I)Z"⟩, 9), (⟨"BogBoards$Mist", "step", "(LBogBoards$Bog;LBogBoards$Rule;II)V"⟩, 4), (⟨"BogBoards$Mist", "look", "(LBogBoards$Bog;II)V"⟩, 4)]
theorem lw_r3 : ∀ q ∈ lw_privs_3, lw_okq q := List.forall_mem_cons.mpr ⟨lw_p32, List.forall_mem_cons.mpr ⟨lw_p33, List.forall_mem_cons.mpr ⟨lw_p34, List.forall_mem_cons.mpr ⟨lw_p35, List.forall_mem_cons.mpr ⟨lw_p36, List.forall_mem_cons.mpr ⟨lw_p37, List.forall_mem_cons.mpr ⟨lw_p38, List.forall_mem_cons.mpr ⟨lw_p39, List.forall_mem_cons.mpr ⟨lw_p40, List.forall_mem_cons.mpr ⟨lw_p41, List.forall_mem_cons.mpr ⟨lw_p42, List.forall_mem_cons.mpr ⟨lw_p43, List.forall_mem_cons.mpr ⟨lw_p44, List.forall_mem_cons.mpr ⟨lw_p45, List.forall_mem_cons.mpr ⟨lw_p46, List.forall_mem_cons.mpr ⟨lw_p47, fun _ h => absurd h List.not_mem_nil⟩⟩⟩⟩⟩⟩⟩⟩⟩⟩⟩⟩⟩⟩⟩⟩
theorem lw_p48 : lw_okq (⟨"BogBoards$Mist", "actOf", "(LBogBoards$Bog;II)I"⟩, 4) := ⟨⟨by decide +kernel, by decide +kernel⟩, List.mem_of_getElem? (i := 224) (by decide +kernel), List.mem_of_getElem? (i := 885) (by decide +kernel), List.mem_of_getElem? (i := 886) (by decide +kernel)⟩
theorem lw_p49 : lw_okq (⟨"BogBoards$Rule", "push", "(J)V"⟩, 9) := ⟨⟨by decide +kernel, by decide +kernel⟩, List.mem_of_getElem? (i := 127) (by decide +kernel), List.mem_of_getElem? (i := 898) (by decide +kernel), List.mem_of_getElem? (i := 899) (by decide +kernel)⟩
theorem lw_p50 : lw_okq (⟨"BogBoards$Rule", "pop", "()J"⟩, 9) := ⟨⟨by decide +kernel, by decide +kernel⟩, List.mem_of_getElem? (i := 127) (by decide +kernel), List.mem_of_getElem? (i := 906) (by decide +kernel), List.mem_of_getElem? (i := 907) (by decide +kernel)⟩
theorem lw_p51 : lw_okq (⟨"BogBoards$Rule", "joined", "(IJJ)J"⟩, 9) := ⟨⟨by decide +kernel, by decide +kernel⟩, List.mem_of_getElem? (i := 127) (by decide +kernel), List.mem_of_getElem? (i := 910) (by decide +kernel), List.mem_of_getElem? (i := 911) (by decide +kernel)⟩
theorem lw_p52 : lw_okq (⟨"BogBoards$Fraction", "setTo", "([JJ)V"⟩, 5) := ⟨⟨by decide +kernel, by decide +kernel⟩, List.mem_of_getElem? (i := 277) (by decide +kernel), List.mem_of_getElem? (i := 927) (by decide +kernel), List.mem_of_getElem? (i := 928) (by decide +kernel)⟩
theorem lw_p53 : lw_okq (⟨"BogBoards$Fraction", "multiply", "([JJ)V"⟩, 5) := ⟨⟨by decide +kernel, by decide +kernel⟩, List.mem_of_getElem? (i := 277) (by decide +kernel), List.mem_of_getElem? (i := 932) (by decide +kernel), List.mem_of_getElem? (i := 933) (by decide +kernel)⟩
theorem lw_p54 : lw_okq (⟨"BogBoards$Fraction", "multiplyOften", "(II)V"⟩, 5) := ⟨⟨by decide +kernel, by decide +kernel⟩, List.mem_of_getElem? (i := 277) (by decide +kernel), List.mem_of_getElem? (i := 937) (by decide +kernel), List.mem_of_getElem? (i := 938) (by decide +kernel)⟩
theorem lw_p55 : lw_okq (⟨"BogBoards$Fraction", "addTerm", "()V"⟩, 5) := ⟨⟨by decide +kernel, by decide +kernel⟩, List.mem_of_getElem? (i := 277) (by decide +kernel), List.mem_of_getElem? (i := 941) (by decide +kernel), List.mem_of_getElem? (i := 942) (by decide +kernel)⟩
theorem lw_p56 : lw_okq (⟨"BogBoards$Fraction", "shorten", "(I)V"⟩, 5) := ⟨⟨by decide +kernel, by decide +kernel⟩, List.mem_of_getElem? (i := 277) (by decide +kernel), List.mem_of_getElem? (i := 945) (by decide +kernel), List.mem_of_getElem? (i := 946) (by decide +kernel)⟩
theorem lw_p57 : lw_okq (⟨"BogBoards$Fraction", "sizeOf", "([J)I"⟩, 5) := ⟨⟨by decide +kernel, by decide +kernel⟩, List.mem_of_getElem? (i := 277) (by decide +kernel), List.mem_of_getElem? (i := 949) (by decide +kernel), List.mem_of_getElem? (i := 950) (by decide +kernel)⟩
theorem lw_p58 : lw_okq (⟨"BogBoards$Fraction", "shortenBy", "(II)V"⟩, 5) := ⟨⟨by decide +kernel, by decide +kernel⟩, List.mem_of_getElem? (i := 277) (by decide +kernel), List.mem_of_getElem? (i := 953) (by decide +kernel), List.mem_of_getElem? (i := 954) (by decide +kernel)⟩
theorem lw_p59 : lw_okq (⟨"BogBoards$Fraction", "isMultiple", "([JI)Z"⟩, 5) := ⟨⟨by decide +kernel, by decide +kernel⟩, List.mem_of_getElem? (i := 277) (by decide +kernel), List.mem_of_getElem? (i := 957) (by decide +kernel), List.mem_of_getElem? (i := 958) (by decide +kernel)⟩
theorem lw_p60 : lw_okq (⟨"BogBoards$Fraction", "divide", "([JI)V"⟩, 5) := ⟨⟨by decide +kernel, by decide +kernel⟩, List.mem_of_getElem? (i := 277) (by decide +kernel), List.mem_of_getElem? (i := 961) (by decide +kernel), List.mem_of_getElem? (i := 962) (by decide +kernel)⟩
theorem lw_p61 : lw_okq (⟨"BogBoards", "imageOf", "(I)LBogBoards$Image;"⟩, 14) := ⟨⟨by decide +kernel, by decide +kernel⟩, List.mem_of_getElem? (i := 20) (by decide +kernel), List.mem_of_getElem? (i := 985) (by decide +kernel), List.mem_of_getElem? (i := 986) (by decide +kernel)⟩
theorem lw_p62 : lw_okq (⟨"BogBoards", "amount", "(I)I"⟩, 14) := ⟨⟨by decide +kernel, by decide +kernel⟩, List.mem_of_getElem? (i := 20) (by decide +kernel), List.mem_of_getElem? (i := 1010) (by decide +kernel), List.mem_of_getElem? (i := 1011) (by decide +kernel)⟩
theorem lw_p63 : lw_okq (⟨"BogBoardsModel", "set", "(IJ)V"⟩, 39) := ⟨⟨by decide +kernel, by decide +kernel⟩, List.mem_of_getElem? (i := 1038) (by decide +kernel), List.mem_of_getElem? (i := 1045) (by decide +kernel), List.mem_of_getElem? (i := 1046) (by decide +kernel)⟩
def lw_privs_4 : List (MethodName × Nat) := [(⟨"BogBoards$Mist", "actOf", "(LBogBoards$Bog;II)I"⟩, 4), (⟨"BogBoards$Rule", "push", "(J)V"⟩, 9), (⟨"BogBoards$Rule", "pop", "()J"⟩, 9), (⟨"BogBoards$Rule", "joined", "(IJJ)J"⟩, 9), (⟨"BogBoards$Fraction", "setTo", "([JJ)V"⟩, 5), (⟨"BogBoards$Fraction", "multiply", "([JJ)V"⟩, 5), (⟨"BogBoards$Fraction", "multiplyOften", "(II)V"⟩, 5), (⟨"BogBoards$Fraction", "addTerm", "()V"⟩, 5), (⟨"BogBoards$Fraction", "shorten", "(I)V"⟩, 5), (⟨"BogBoards$Fraction", "sizeOf", "([J)I"⟩, 5), (⟨"BogBoards$Fraction", "shortenBy", "(II)V"⟩, 5), (⟨"BogBoards$Fraction", "isMultiple", "([JI)Z"⟩, 5), (⟨"BogBoards$Fraction", "divide", "([JI)V"⟩, 5), (⟨"BogBoards", "imageOf", "(I)LBogBoards$Image;"⟩, 14), (⟨"BogBoards", "amount", "(I)I"⟩, 14), (⟨"BogBoardsModel", "set", "(IJ)V"⟩, 39)]
theorem lw_r4 : ∀ q ∈ lw_privs_4, lw_okq q := List.forall_mem_cons.mpr ⟨lw_p48, List.forall_mem_cons.mpr ⟨lw_p49, List.forall_mem_cons.mpr ⟨lw_p50, List.forall_mem_cons.mpr ⟨lw_p51, List.forall_mem_cons.mpr ⟨lw_p52, List.forall_mem_cons.mpr ⟨lw_p53, List.forall_mem_cons.mpr ⟨lw_p54, List.forall_mem_cons.mpr ⟨lw_p55, List.forall_mem_cons.mpr ⟨lw_p56, List.forall_mem_cons.mpr ⟨lw_p57, List.forall_mem_cons.mpr ⟨lw_p58, List.forall_mem_cons.mpr ⟨lw_p59, List.forall_mem_cons.mpr ⟨lw_p60, List.forall_mem_cons.mpr ⟨lw_p61, List.forall_mem_cons.mpr ⟨lw_p62, List.forall_mem_cons.mpr ⟨lw_p63, fun _ h => absurd h List.not_mem_nil⟩⟩⟩⟩⟩⟩⟩⟩⟩⟩⟩⟩⟩⟩⟩⟩
theorem lw_p64 : lw_okq (⟨"BogBoardsModel", "whyNow", "(I)I"⟩, 39) := ⟨⟨by decide +kernel, by decide +kernel⟩, List.mem_of_getElem? (i := 1038) (by decide +kernel), List.mem_of_getElem? (i := 1173) (by decide +kernel), List.mem_of_getElem? (i := 1174) (by decide +kernel)⟩
theorem lw_p65 : lw_okq (⟨"BogBoardsModel", "takeNow", "()V"⟩, 39) := ⟨⟨by decide +kernel, by decide +kernel⟩, List.mem_of_getElem? (i := 1038) (by decide +kernel), List.mem_of_getElem? (i := 1181) (by decide +kernel), List.mem_of_getElem? (i := 1182) (by decide +kernel)⟩
theorem lw_p66 : lw_okq (⟨"BogBoardsModel", "split", "(I)V"⟩, 39) := ⟨⟨by decide +kernel, by decide +kernel⟩, List.mem_of_getElem? (i := 1038) (by decide +kernel), List.mem_of_getElem? (i := 1185) (by decide +kernel), List.mem_of_getElem? (i := 1186) (by decide +kernel)⟩
theorem lw_p67 : lw_okq (⟨"BogBoardsModel", "tryAct", "()I"⟩, 39) := ⟨⟨by decide +kernel, by decide +kernel⟩, List.mem_of_getElem? (i := 1038) (by decide +kernel), List.mem_of_getElem? (i := 1189) (by decide +kernel), List.mem_of_getElem? (i := 1190) (by decide +kernel)⟩
theorem lw_p68 : lw_okq (⟨"BogBoardsModel", "isThere", "()Z"⟩, 39) := ⟨⟨by decide +kernel, by decide +kernel⟩, List.mem_of_getElem? (i := 1038) (by decide +kernel), List.mem_of_getElem? (i := 1193) (by decide +kernel), List.mem_of_getElem? (i := 1194) (by decide +kernel)⟩
theorem lw_p69 : lw_okq (⟨"BogBoardsModel", "isWalker", "(I)Z"⟩, 39) := ⟨⟨by decide +kernel, by decide +kernel⟩, List.mem_of_getElem? (i := 1038) (by decide +kernel), List.mem_of_getElem? (i := 1197) (by decide +kernel), List.mem_of_getElem? (i := 1198) (by decide +kernel)⟩
theorem lw_p70 : lw_okq (⟨"BogBoardsModel", "walkers", "()I"⟩, 39) := ⟨⟨by decide +kernel, by decide +kernel⟩, List.mem_of_getElem? (i := 1038) (by decide +kernel), List.mem_of_getElem? (i := 1201) (by decide +kernel), List.mem_of_getElem? (i := 1202) (by decide +kernel)⟩
theorem lw_p71 : lw_okq (⟨"BogBoardsModel", "isBoard", "(I)Z"⟩, 39) := ⟨⟨by decide +kernel, by decide +kernel⟩, List.mem_of_getElem? (i := 1038) (by decide +kernel), List.mem_of_getElem? (i := 1205) (by decide +kernel), List.mem_of_getElem? (i := 1206) (by decide +kernel)⟩
theorem lw_p72 : lw_okq (⟨"BogBoardsModel", "boards", "()I"⟩, 39) := ⟨⟨by decide +kernel, by decide +kernel⟩, List.mem_of_getElem? (i := 1038) (by decide +kernel), List.mem_of_getElem? (i := 1209) (by decide +kernel), List.mem_of_getElem? (i := 1210) (by decide +kernel)⟩
theorem lw_p73 : lw_okq (⟨"BogBoardsModel", "canBe", "()Z"⟩, 39) := ⟨⟨by decide +kernel, by decide +kernel⟩, List.mem_of_getElem? (i := 1038) (by decide +kernel), List.mem_of_getElem? (i := 1213) (by decide +kernel), List.mem_of_getElem? (i := 1214) (by decide +kernel)⟩
theorem lw_p74 : lw_okq (⟨"BogBoardsModel", "isFirm", "(I)Z"⟩, 39) := ⟨⟨by decide +kernel, by decide +kernel⟩, List.mem_of_getElem? (i := 1038) (by decide +kernel), List.mem_of_getElem? (i := 1220) (by decide +kernel), List.mem_of_getElem? (i := 1221) (by decide +kernel)⟩
theorem lw_p75 : lw_okq (⟨"BogBoardsModel", "last", "()I"⟩, 39) := ⟨⟨by decide +kernel, by decide +kernel⟩, List.mem_of_getElem? (i := 1038) (by decide +kernel), List.mem_of_getElem? (i := 1224) (by decide +kernel), List.mem_of_getElem? (i := 1225) (by decide +kernel)⟩
theorem lw_p76 : lw_okq (⟨"BogBoardsModel", "hasBoard", "(I)Z"⟩, 39) := ⟨⟨by decide +kernel, by decide +kernel⟩, List.mem_of_getElem? (i := 1038) (by decide +kernel), List.mem_of_getElem? (i := 1228) (by decide +kernel), List.mem_of_getElem? (i := 1229) (by decide +kernel)⟩
theorem lw_p77 : lw_okq (⟨"BogBoardsModel", "covers", "(II)Z"⟩, 39) := ⟨⟨by decide +kernel, by decide +kernel⟩, List.mem_of_getElem? (i := 1038) (by decide +kernel), List.mem_of_getElem? (i := 1232) (by decide +kernel), List.mem_of_getElem? (i := 1233) (by decide +kernel)⟩
theorem lw_p78 : lw_okq (⟨"BogBoardsModel", "isLaid", "(I)Z"⟩, 39) := ⟨⟨by decide +kernel, by decide +kernel⟩, List.mem_of_getElem? (i := 1038) (by decide +kernel), List.mem_of_getElem? (i := 1236) (by decide +kernel), List.mem_of_getElem? (i := 1237) (by decide +kernel)⟩
theorem lw_p79 : lw_okq (⟨"BogBoardsModel", "longOfBoard", "(I)I"⟩, 39) := ⟨⟨by decide +kernel, by decide +kernel⟩, List.mem_of_getElem? (i := 1038) (by decide +kernel), List.mem_of_getElem? (i := 1240) (by decide +kernel), List.mem_of_getElem? (i := 1241) (by decide +kernel)⟩
def lw_privs_5 : List (MethodName × Nat) := [(⟨"BogBoardsModel", "whyNow", "(I)I"⟩, 39), (⟨"BogBoardsModel", "takeNow", "()V"⟩, 39), (⟨"BogBoardsModel", "split", "(I)V"⟩, 39), (⟨"BogBoardsModel", "tryAct", "()I"⟩, 39), (⟨"BogBoardsModel", "isThere", "()Z"⟩, 39), (⟨"BogBoardsModel", "isWalker", "(I)Z"⟩, 39), (⟨"BogBoardsModel", "walkers", "()I"⟩, 39), (⟨"BogBoardsModel", "isBoard", "(I)Z"⟩, 39), (⟨"BogBoardsModel", "boards", "()I"⟩, 39), (⟨"BogBoardsModel", "canBe", "()Z"⟩, 39), (⟨"BogBoardsModel", "isFirm", "(I)Z"⟩, 39), (⟨"BogBoardsModel", "last", "()I"⟩, 39), (⟨"BogBoardsModel", "hasBoard", "(I)Z"⟩, 39), (⟨"BogBoardsModel", "covers", "(II)Z"⟩, 39), (⟨"BogBoardsModel", "isLaid", "(I)Z"⟩, 39), (⟨"BogBoardsModel", "longOfBoard", "(I)I"⟩, 39)]
theorem lw_r5 : ∀ q ∈ lw_privs_5, lw_okq q := List.forall_mem_cons.mpr ⟨lw_p64, List.forall_mem_cons.mpr ⟨lw_p65, List.forall_mem_cons.mpr ⟨lw_p66, List.forall_mem_cons.mpr ⟨lw_p67, List.forall_mem_cons.mpr ⟨lw_p68, List.forall_mem_cons.mpr ⟨lw_p69, List.forall_mem_cons.mpr ⟨lw_p70, List.forall_mem_cons.mpr ⟨lw_p71, List.forall_mem_cons.mpr ⟨lw_p72, List.forall_mem_cons.mpr ⟨lw_p73, List.forall_mem_cons.mpr ⟨lw_p74, List.forall_mem_cons.mpr ⟨lw_p75, List.forall_mem_cons.mpr ⟨lw_p76, List.forall_mem_cons.mpr ⟨lw_p77, List.forall_mem_cons.mpr ⟨lw_p78, List.forall_mem_cons.mpr ⟨lw_p79, fun _ h => absurd h List.not_mem_nil⟩⟩⟩⟩⟩⟩⟩⟩⟩⟩⟩⟩⟩⟩⟩⟩
theorem lw_p80 : lw_okq (⟨"BogBoardsModel", "mayLay", "(III)Z"⟩, 39) := ⟨⟨by decide +kernel, by decide +kernel⟩, List.mem_of_getElem? (i := 1038) (by decide +kernel), List.mem_of_getElem? (i := 1247) (by decide +kernel), List.mem_of_getElem? (i := 1248) (by decide +kernel)⟩
theorem lw_p81 : lw_okq (⟨"BogBoardsModel", "carries", "(I)I"⟩, 39) := ⟨⟨by decide +kernel, by decide +kernel⟩, List.mem_of_getElem? (i := 1038) (by decide +kernel), List.mem_of_getElem? (i := 1251) (by decide +kernel), List.mem_of_getElem? (i := 1252) (by decide +kernel)⟩
theorem lw_p82 : lw_okq (⟨"BogBoardsModel", "layFrom", "(III)I"⟩, 39) := ⟨⟨by decide +kernel, by decide +kernel⟩, List.mem_of_getElem? (i := 1038) (by decide +kernel), List.mem_of_getElem? (i := 1255) (by decide +kernel), List.mem_of_getElem? (i := 1256) (by decide +kernel)⟩
theorem lw_p83 : lw_okq (⟨"BogBoardsModel", "mayTake", "(II)Z"⟩, 39) := ⟨⟨by decide +kernel, by decide +kernel⟩, List.mem_of_getElem? (i := 1038) (by decide +kernel), List.mem_of_getElem? (i := 1259) (by decide +kernel), List.mem_of_getElem? (i := 1260) (by decide +kernel)⟩
theorem lw_p84 : lw_okq (⟨"BogBoardsModel", "isOnBoard", "(I)Z"⟩, 39) := ⟨⟨by decide +kernel, by decide +kernel⟩, List.mem_of_getElem? (i := 1038) (by decide +kernel), List.mem_of_getElem? (i := 1263) (by decide +kernel), List.mem_of_getElem? (i := 1264) (by decide +kernel)⟩
theorem lw_p85 : lw_okq (⟨"BogBoardsModel", "anotherAt", "(II)Z"⟩, 39) := ⟨⟨by decide +kernel, by decide +kernel⟩, List.mem_of_getElem? (i := 1038) (by decide +kernel), List.mem_of_getElem? (i := 1267) (by decide +kernel), List.mem_of_getElem? (i := 1268) (by decide +kernel)⟩
theorem lw_p86 : lw_okq (⟨"BogBoardsModel", "mayHand", "(III)Z"⟩, 39) := ⟨⟨by decide +kernel, by decide +kernel⟩, List.mem_of_getElem? (i := 1038) (by decide +kernel), List.mem_of_getElem? (i := 1271) (by decide +kernel), List.mem_of_getElem? (i := 1272) (by decide +kernel)⟩
theorem lw_p87 : lw_okq (⟨"BogBoardsModel", "remember", "()V"⟩, 39) := ⟨⟨by decide +kernel, by decide +kernel⟩, List.mem_of_getElem? (i := 1038) (by decide +kernel), List.mem_of_getElem? (i := 1276) (by decide +kernel), List.mem_of_getElem? (i := 1277) (by decide +kernel)⟩
theorem lw_p88 : lw_okq (⟨"BogBoardsModel", "doIt", "()V"⟩, 39) := ⟨⟨by decide +kernel, by decide +kernel⟩, List.mem_of_getElem? (i := 1038) (by decide +kernel), List.mem_of_getElem? (i := 1280) (by decide +kernel), List.mem_of_getElem? (i := 1281) (by decide +kernel)⟩
theorem lw_p89 : lw_okq (⟨"BogBoardsModel", "isWell", "()Z"⟩, 39) := ⟨⟨by decide +kernel, by decide +kernel⟩, List.mem_of_getElem? (i := 1038) (by decide +kernel), List.mem_of_getElem? (i := 1284) (by decide +kernel), List.mem_of_getElem? (i := 1285) (by decide +kernel)⟩
theorem lw_p90 : lw_okq (⟨"BogBoardsModel", "loadOn", "(I)I"⟩, 39) := ⟨⟨by decide +kernel, by decide +kernel⟩, List.mem_of_getElem? (i := 1038) (by decide +kernel), List.mem_of_getElem? (i := 1288) (by decide +kernel), List.mem_of_getElem? (i := 1289) (by decide +kernel)⟩
theorem lw_p91 : lw_okq (⟨"BogBoardsModel", "countsOf", "(I)I"⟩, 39) := ⟨⟨by decide +kernel, by decide +kernel⟩, List.mem_of_getElem? (i := 1038) (by decide +kernel), List.mem_of_getElem? (i := 1292) (by decide +kernel), List.mem_of_getElem? (i := 1293) (by decide +kernel)⟩
theorem lw_p92 : lw_okq (⟨"BogBoardsModel", "bears", "(I)I"⟩, 39) := ⟨⟨by decide +kernel, by decide +kernel⟩, List.mem_of_getElem? (i := 1038) (by decide +kernel), List.mem_of_getElem? (i := 1296) (by decide +kernel), List.mem_of_getElem? (i := 1297) (by decide +kernel)⟩
theorem lw_p93 : lw_okq (⟨"BogBoardsModel", "goBack", "()V"⟩, 39) := ⟨⟨by decide +kernel, by decide +kernel⟩, List.mem_of_getElem? (i := 1038) (by decide +kernel), List.mem_of_getElem? (i := 1300) (by decide +kernel), List.mem_of_getElem? (i := 1301) (by decide +kernel)⟩
theorem lw_p94 : lw_okq (⟨"BogBoardsModel", "no", "()I"⟩, 39) := ⟨⟨by decide +kernel, by decide +kernel⟩, List.mem_of_getElem? (i := 1038) (by decide +kernel), List.mem_of_getElem? (i := 1308) (by decide +kernel), List.mem_of_getElem? (i := 1309) (by decide +kernel)⟩
theorem lw_p95 : lw_okq (⟨"BogBoardsModel", "putNow", "()V"⟩, 39) := ⟨⟨by decide +kernel, by decide +kernel⟩, List.mem_of_getElem? (i := 1038) (by decide +kernel), List.mem_of_getElem? (i := 1312) (by decide +kernel), List.mem_of_getElem? (i := 1313) (by decide +kernel)⟩
def lw_privs_6 : List (MethodName × Nat) := [(⟨"BogBoardsModel", "mayLay", "(III)Z"⟩, 39), (⟨"BogBoardsModel", "carries", "(I)I"⟩, 39), (⟨"BogBoardsModel", "layFrom", "(III)I"⟩, 39), (⟨"BogBoardsModel", "mayTake", "(II)Z"⟩, 39), (⟨"BogBoardsModel", "isOnBoard", "(I)Z"⟩, 39), (⟨"BogBoardsModel", "anotherAt", "(II)Z"⟩, 39), (⟨"BogBoardsModel", "mayHand", "(III)Z"⟩, 39), (⟨"BogBoardsModel", "remember", "()V"⟩, 39), (⟨"BogBoardsModel", "doIt", "()V"⟩, 39), (⟨"BogBoardsModel", "isWell", "()Z"⟩, 39), (⟨"BogBoardsModel", "loadOn", "(I)I"⟩, 39), (⟨"BogBoardsModel", "countsOf", "(I)I"⟩, 39), (⟨"BogBoardsModel", "bears", "(I)I"⟩, 39), (⟨"BogBoardsModel", "goBack", "()V"⟩, 39), (⟨"BogBoardsModel", "no", "()I"⟩, 39), (⟨"BogBoardsModel", "putNow", "()V"⟩, 39)]
theorem lw_r6 : ∀ q ∈ lw_privs_6, lw_okq q := List.forall_mem_cons.mpr ⟨lw_p80, List.forall_mem_cons.mpr ⟨lw_p81, List.forall_mem_cons.mpr ⟨lw_p82, List.forall_mem_cons.mpr ⟨lw_p83, List.forall_mem_cons.mpr ⟨lw_p84, List.forall_mem_cons.mpr ⟨lw_p85, List.forall_mem_cons.mpr ⟨lw_p86, List.forall_mem_cons.mpr ⟨lw_p87, List.forall_mem_cons.mpr ⟨lw_p88, List.forall_mem_cons.mpr ⟨lw_p89, List.forall_mem_cons.mpr ⟨lw_p90, List.forall_mem_cons.mpr ⟨lw_p91, List.forall_mem_cons.mpr ⟨lw_p92, List.forall_mem_cons.mpr ⟨lw_p93, List.forall_mem_cons.mpr ⟨lw_p94, List.forall_mem_cons.mpr ⟨lw_p95, fun _ h => absurd h List.not_mem_nil⟩⟩⟩⟩⟩⟩⟩⟩⟩⟩⟩⟩⟩⟩⟩⟩
theorem lw_p96 : lw_okq (⟨"BogBoardsModel", "isOver", "()Z"⟩, 39) := ⟨⟨by decide +kernel, by decide +kernel⟩, List.mem_of_getElem? (i := 1038) (by decide +kernel), List.mem_of_getElem? (i := 1324) (by decide +kernel), List.mem_of_getElem? (i := 1325) (by decide +kernel)⟩
theorem lw_p97 : lw_okq (⟨"BogBoardsModel", "goalOf", "(I)I"⟩, 39) := ⟨⟨by decide +kernel, by decide +kernel⟩, List.mem_of_getElem? (i := 1038) (by decide +kernel), List.mem_of_getElem? (i := 1328) (by decide +kernel), List.mem_of_getElem? (i := 1329) (by decide +kernel)⟩
theorem lw_p98 : lw_okq (⟨"BogBoardsModel", "bad", "(I)I"⟩, 39) := ⟨⟨by decide +kernel, by decide +kernel⟩, List.mem_of_getElem? (i := 1038) (by decide +kernel), List.mem_of_getElem? (i := 1336) (by decide +kernel), List.mem_of_getElem? (i := 1337) (by decide +kernel)⟩
theorem lw_p99 : lw_okq (⟨"BogBoardsModel", "startOf", "()I"⟩, 39) := ⟨⟨by decide +kernel, by decide +kernel⟩, List.mem_of_getElem? (i := 1038) (by decide +kernel), List.mem_of_getElem? (i := 1344) (by decide +kernel), List.mem_of_getElem? (i := 1345) (by decide +kernel)⟩
theorem lw_p100 : lw_okq (⟨"BogBoardsModel", "stateNow", "()I"⟩, 39) := ⟨⟨by decide +kernel, by decide +kernel⟩, List.mem_of_getElem? (i := 1038) (by decide +kernel), List.mem_of_getElem? (i := 1348) (by decide +kernel), List.mem_of_getElem? (i := 1349) (by decide +kernel)⟩
theorem lw_p101 : lw_okq (⟨"BogBoardsModel", "findFewest", "(I)I"⟩, 39) := ⟨⟨by decide +kernel, by decide +kernel⟩, List.mem_of_getElem? (i := 1038) (by decide +kernel), List.mem_of_getElem? (i := 1352) (by decide +kernel), List.mem_of_getElem? (i := 1353) (by decide +kernel)⟩
theorem lw_p102 : lw_okq (⟨"BogBoardsModel", "begin", "(I)V"⟩, 39) := ⟨⟨by decide +kernel, by decide +kernel⟩, List.mem_of_getElem? (i := 1038) (by decide +kernel), List.mem_of_getElem? (i := 1356) (by decide +kernel), List.mem_of_getElem? (i := 1357) (by decide +kernel)⟩
theorem lw_p103 : lw_okq (⟨"BogBoardsModel", "takeState", "(I)V"⟩, 39) := ⟨⟨by decide +kernel, by decide +kernel⟩, List.mem_of_getElem? (i := 1038) (by decide +kernel), List.mem_of_getElem? (i := 1360) (by decide +kernel), List.mem_of_getElem? (i := 1361) (by decide +kernel)⟩
theorem lw_p104 : lw_okq (⟨"BogBoardsModel", "nextAct", "(I)I"⟩, 39) := ⟨⟨by decide +kernel, by decide +kernel⟩, List.mem_of_getElem? (i := 1038) (by decide +kernel), List.mem_of_getElem? (i := 1364) (by decide +kernel), List.mem_of_getElem? (i := 1365) (by decide +kernel)⟩
theorem lw_p105 : lw_okq (⟨"BogBoardsModel", "come", "(II)V"⟩, 39) := ⟨⟨by decide +kernel, by decide +kernel⟩, List.mem_of_getElem? (i := 1038) (by decide +kernel), List.mem_of_getElem? (i := 1368) (by decide +kernel), List.mem_of_getElem? (i := 1369) (by decide +kernel)⟩
theorem lw_p106 : lw_okq (⟨"BogBoardsModel", "findGood", "(I)V"⟩, 39) := ⟨⟨by decide +kernel, by decide +kernel⟩, List.mem_of_getElem? (i := 1038) (by decide +kernel), List.mem_of_getElem? (i := 1376) (by decide +kernel), List.mem_of_getElem? (i := 1377) (by decide +kernel)⟩
theorem lw_p107 : lw_okq (⟨"BogBoardsModel", "leadsOn", "(II)Z"⟩, 39) := ⟨⟨by decide +kernel, by decide +kernel⟩, List.mem_of_getElem? (i := 1038) (by decide +kernel), List.mem_of_getElem? (i := 1380) (by decide +kernel), List.mem_of_getElem? (i := 1381) (by decide +kernel)⟩
theorem lw_p108 : lw_okq (⟨"BogBoardsModel", "takeWithout", "(I)Z"⟩, 39) := ⟨⟨by decide +kernel, by decide +kernel⟩, List.mem_of_getElem? (i := 1038) (by decide +kernel), List.mem_of_getElem? (i := 1388) (by decide +kernel), List.mem_of_getElem? (i := 1389) (by decide +kernel)⟩
theorem lw_p109 : lw_okq (⟨"BogBoardsModel", "leapFrom", "(II)V"⟩, 39) := ⟨⟨by decide +kernel, by decide +kernel⟩, List.mem_of_getElem? (i := 1038) (by decide +kernel), List.mem_of_getElem? (i := 1396) (by decide +kernel), List.mem_of_getElem? (i := 1397) (by decide +kernel)⟩
theorem lw_p110 : lw_okq (⟨"BogBoardsModel", "full", "()I"⟩, 39) := ⟨⟨by decide +kernel, by decide +kernel⟩, List.mem_of_getElem? (i := 1038) (by decide +kernel), List.mem_of_getElem? (i := 1405) (by decide +kernel), List.mem_of_getElem? (i := 1406) (by decide +kernel)⟩
theorem lw_p111 : lw_okq (⟨"BogBoardsModel", "look", "(I)V"⟩, 39) := ⟨⟨by decide +kernel, by decide +kernel⟩, List.mem_of_getElem? (i := 1038) (by decide +kernel), List.mem_of_getElem? (i := 1418) (by decide +kernel), List.mem_of_getElem? (i := 1419) (by decide +kernel)⟩
def lw_privs_7 : List (MethodName × Nat) := [(⟨"BogBoardsModel", "isOver", "()Z"⟩, 39), (⟨"BogBoardsModel", "goalOf", "(I)I"⟩, 39), (⟨"BogBoardsModel", "bad", "(I)I"⟩, 39), (⟨"BogBoardsModel", "startOf", "()I"⟩, 39), (⟨"BogBoardsModel", "stateNow", "()I"⟩, 39), (⟨"BogBoardsModel", "findFewest", "(I)I"⟩, 39), (⟨"BogBoardsModel", "begin", "(I)V"⟩, 39), (⟨"BogBoardsModel", "takeState", "(I)V"⟩, 39), (⟨"BogBoardsModel", "nextAct", "(I)I"⟩, 39), (⟨"BogBoardsModel", "come", "(II)V"⟩, 39), (⟨"BogBoardsModel", "findGood", "(I)V"⟩, 39), (⟨"BogBoardsModel", "leadsOn", "(II)Z"⟩, 39), (⟨"BogBoardsModel", "takeWithout", "(I)Z"⟩, 39), (⟨"BogBoardsModel", "leapFrom", "(II)V"⟩, 39), (⟨"BogBoardsModel", "full", "()I"⟩, 39), (⟨"BogBoardsModel", "look", "(I)V"⟩, 39)]
theorem lw_r7 : ∀ q ∈ lw_privs_7, lw_okq q := List.forall_mem_cons.mpr ⟨lw_p96, List.forall_mem_cons.mpr ⟨lw_p97, List.forall_mem_cons.mpr ⟨lw_p98, List.forall_mem_cons.mpr ⟨lw_p99, List.forall_mem_cons.mpr ⟨lw_p100, List.forall_mem_cons.mpr ⟨lw_p101, List.forall_mem_cons.mpr ⟨lw_p102, List.forall_mem_cons.mpr ⟨lw_p103, List.forall_mem_cons.mpr ⟨lw_p104, List.forall_mem_cons.mpr ⟨lw_p105, List.forall_mem_cons.mpr ⟨lw_p106, List.forall_mem_cons.mpr ⟨lw_p107, List.forall_mem_cons.mpr ⟨lw_p108, List.forall_mem_cons.mpr ⟨lw_p109, List.forall_mem_cons.mpr ⟨lw_p110, List.forall_mem_cons.mpr ⟨lw_p111, fun _ h => absurd h List.not_mem_nil⟩⟩⟩⟩⟩⟩⟩⟩⟩⟩⟩⟩⟩⟩⟩⟩
theorem lw_p112 : lw_okq (⟨"BogBoardsModel", "readLast", "()Z"⟩, 39) := ⟨⟨by decide +kernel, by decide +kernel⟩, List.mem_of_getElem? (i := 1038) (by decide +kernel), List.mem_of_getElem? (i := 1432) (by decide +kernel), List.mem_of_getElem? (i := 1433) (by decide +kernel)⟩
theorem lw_p113 : lw_okq (⟨"BogBoardsModel", "isWord", "(IIIIII)Z"⟩, 39) := ⟨⟨by decide +kernel, by decide +kernel⟩, List.mem_of_getElem? (i := 1038) (by decide +kernel), List.mem_of_getElem? (i := 1436) (by decide +kernel), List.mem_of_getElem? (i := 1437) (by decide +kernel)⟩
theorem lw_p114 : lw_okq (⟨"BogBoardsModel", "goOn", "()V"⟩, 39) := ⟨⟨by decide +kernel, by decide +kernel⟩, List.mem_of_getElem? (i := 1038) (by decide +kernel), List.mem_of_getElem? (i := 1440) (by decide +kernel), List.mem_of_getElem? (i := 1441) (by decide +kernel)⟩
theorem lw_p115 : lw_okq (⟨"BogBoardsModel", "takes", "(II)Z"⟩, 39) := ⟨⟨by decide +kernel, by decide +kernel⟩, List.mem_of_getElem? (i := 1038) (by decide +kernel), List.mem_of_getElem? (i := 1444) (by decide +kernel), List.mem_of_getElem? (i := 1445) (by decide +kernel)⟩
theorem lw_p116 : lw_okq (⟨"BogBoardsModel", "readItem", "()Z"⟩, 39) := ⟨⟨by decide +kernel, by decide +kernel⟩, List.mem_of_getElem? (i := 1038) (by decide +kernel), List.mem_of_getElem? (i := 1448) (by decide +kernel), List.mem_of_getElem? (i := 1449) (by decide +kernel)⟩
theorem lw_p117 : lw_okq (⟨"BogBoardsModel", "readIsland", "()Z"⟩, 39) := ⟨⟨by decide +kernel, by decide +kernel⟩, List.mem_of_getElem? (i := 1038) (by decide +kernel), List.mem_of_getElem? (i := 1452) (by decide +kernel), List.mem_of_getElem? (i := 1453) (by decide +kernel)⟩
theorem lw_p118 : lw_okq (⟨"BogBoardsModel", "readWalker", "()Z"⟩, 39) := ⟨⟨by decide +kernel, by decide +kernel⟩, List.mem_of_getElem? (i := 1038) (by decide +kernel), List.mem_of_getElem? (i := 1456) (by decide +kernel), List.mem_of_getElem? (i := 1457) (by decide +kernel)⟩
theorem lw_p119 : lw_okq (⟨"BogBoardsModel", "readBoard", "()Z"⟩, 39) := ⟨⟨by decide +kernel, by decide +kernel⟩, List.mem_of_getElem? (i := 1038) (by decide +kernel), List.mem_of_getElem? (i := 1460) (by decide +kernel), List.mem_of_getElem? (i := 1461) (by decide +kernel)⟩
theorem lw_p120 : lw_okq (⟨"BogBoardsModel", "meetsBoard", "(II)Z"⟩, 39) := ⟨⟨by decide +kernel, by decide +kernel⟩, List.mem_of_getElem? (i := 1038) (by decide +kernel), List.mem_of_getElem? (i := 1464) (by decide +kernel), List.mem_of_getElem? (i := 1465) (by decide +kernel)⟩
theorem lw_p121 : lw_okq (⟨"BogBoardsModel", "putRead", "()Z"⟩, 39) := ⟨⟨by decide +kernel, by decide +kernel⟩, List.mem_of_getElem? (i := 1038) (by decide +kernel), List.mem_of_getElem? (i := 1468) (by decide +kernel), List.mem_of_getElem? (i := 1469) (by decide +kernel)⟩
theorem lw_p122 : lw_okq (⟨"BogBoardsModel", "reads", "()Z"⟩, 39) := ⟨⟨by decide +kernel, by decide +kernel⟩, List.mem_of_getElem? (i := 1038) (by decide +kernel), List.mem_of_getElem? (i := 1502) (by decide +kernel), List.mem_of_getElem? (i := 1503) (by decide +kernel)⟩
theorem lw_p123 : lw_okq (⟨"BogBoardsModel", "ahead", "()I"⟩, 39) := ⟨⟨by decide +kernel, by decide +kernel⟩, List.mem_of_getElem? (i := 1038) (by decide +kernel), List.mem_of_getElem? (i := 1506) (by decide +kernel), List.mem_of_getElem? (i := 1507) (by decide +kernel)⟩
theorem lw_p124 : lw_okq (⟨"BogBoardsModel", "textLong", "()I"⟩, 39) := ⟨⟨by decide +kernel, by decide +kernel⟩, List.mem_of_getElem? (i := 1038) (by decide +kernel), List.mem_of_getElem? (i := 1510) (by decide +kernel), List.mem_of_getElem? (i := 1511) (by decide +kernel)⟩
theorem lw_p125 : lw_okq (⟨"BogBoardsModel", "charAt", "(I)I"⟩, 39) := ⟨⟨by decide +kernel, by decide +kernel⟩, List.mem_of_getElem? (i := 1038) (by decide +kernel), List.mem_of_getElem? (i := 1514) (by decide +kernel), List.mem_of_getElem? (i := 1515) (by decide +kernel)⟩
theorem lw_p126 : lw_okq (⟨"BogBoardsModel", "digits", "()J"⟩, 39) := ⟨⟨by decide +kernel, by decide +kernel⟩, List.mem_of_getElem? (i := 1038) (by decide +kernel), List.mem_of_getElem? (i := 1521) (by decide +kernel), List.mem_of_getElem? (i := 1522) (by decide +kernel)⟩
theorem lw_p127 : lw_okq (⟨"BogBoardsModel", "stands", "(J)V"⟩, 39) := ⟨⟨by decide +kernel, by decide +kernel⟩, List.mem_of_getElem? (i := 1038) (by decide +kernel), List.mem_of_getElem? (i := 1526) (by decide +kernel), List.mem_of_getElem? (i := 1527) (by decide +kernel)⟩
def lw_privs_8 : List (MethodName × Nat) := [(⟨"BogBoardsModel", "readLast", "()Z"⟩, 39), (⟨"BogBoardsModel", "isWord", "(IIIIII)Z"⟩, 39), (⟨"BogBoardsModel", "goOn", "()V"⟩, 39), (⟨"BogBoardsModel", "takes", "(II)Z"⟩, 39), (⟨"BogBoardsModel", "readItem", "()Z"⟩, 39), (⟨"BogBoardsModel", "readIsland", "()Z"⟩, 39), (⟨"BogBoardsModel", "readWalker", "()Z"⟩, 39), (⟨"BogBoardsModel", "readBoard", "()Z"⟩, 39), (⟨"BogBoardsModel", "meetsBoard", "(II)Z"⟩, 39), (⟨"BogBoardsModel", "putRead", "()Z"⟩, 39), (⟨"BogBoardsModel", "reads", "()Z"⟩, 39), (⟨"BogBoardsModel", "ahead", "()I"⟩, 39), (⟨"BogBoardsModel", "textLong", "()I"⟩, 39), (⟨"BogBoardsModel", "charAt", "(I)I"⟩, 39), (⟨"BogBoardsModel", "digits", "()J"⟩, 39), (⟨"BogBoardsModel", "stands", "(J)V"⟩, 39)]
theorem lw_r8 : ∀ q ∈ lw_privs_8, lw_okq q := List.forall_mem_cons.mpr ⟨lw_p112, List.forall_mem_cons.mpr ⟨lw_p113, List.forall_mem_cons.mpr ⟨lw_p114, List.forall_mem_cons.mpr ⟨lw_p115, List.forall_mem_cons.mpr ⟨lw_p116, List.forall_mem_cons.mpr ⟨lw_p117, List.forall_mem_cons.mpr ⟨lw_p118, List.forall_mem_cons.mpr ⟨lw_p119, List.forall_mem_cons.mpr ⟨lw_p120, List.forall_mem_cons.mpr ⟨lw_p121, List.forall_mem_cons.mpr ⟨lw_p122, List.forall_mem_cons.mpr ⟨lw_p123, List.forall_mem_cons.mpr ⟨lw_p124, List.forall_mem_cons.mpr ⟨lw_p125, List.forall_mem_cons.mpr ⟨lw_p126, List.forall_mem_cons.mpr ⟨lw_p127, fun _ h => absurd h List.not_mem_nil⟩⟩⟩⟩⟩⟩⟩⟩⟩⟩⟩⟩⟩⟩⟩⟩
theorem lw_p128 : lw_okq (⟨"BogBoardsModel", "workDown", "(I)V"⟩, 39) := ⟨⟨by decide +kernel, by decide +kernel⟩, List.mem_of_getElem? (i := 1038) (by decide +kernel), List.mem_of_getElem? (i := 1533) (by decide +kernel), List.mem_of_getElem? (i := 1534) (by decide +kernel)⟩
theorem lw_p129 : lw_okq (⟨"BogBoardsModel", "workOut", "()V"⟩, 39) := ⟨⟨by decide +kernel, by decide +kernel⟩, List.mem_of_getElem? (i := 1038) (by decide +kernel), List.mem_of_getElem? (i := 1540) (by decide +kernel), List.mem_of_getElem? (i := 1541) (by decide +kernel)⟩
theorem lw_p130 : lw_okq (⟨"BogBoardsModel", "goMist", "(I)V"⟩, 39) := ⟨⟨by decide +kernel, by decide +kernel⟩, List.mem_of_getElem? (i := 1038) (by decide +kernel), List.mem_of_getElem? (i := 1550) (by decide +kernel), List.mem_of_getElem? (i := 1551) (by decide +kernel)⟩
theorem lw_p131 : lw_okq (⟨"BogBoardsModel", "goesLost", "(II)Z"⟩, 39) := ⟨⟨by decide +kernel, by decide +kernel⟩, List.mem_of_getElem? (i := 1038) (by decide +kernel), List.mem_of_getElem? (i := 1554) (by decide +kernel), List.mem_of_getElem? (i := 1555) (by decide +kernel)⟩
theorem lw_p132 : lw_okq (⟨"BogBoardsModel", "layLetters", "(III)V"⟩, 39) := ⟨⟨by decide +kernel, by decide +kernel⟩, List.mem_of_getElem? (i := 1038) (by decide +kernel), List.mem_of_getElem? (i := 1558) (by decide +kernel), List.mem_of_getElem? (i := 1559) (by decide +kernel)⟩
theorem lw_p133 : lw_okq (⟨"BogBoardsModel", "mayTakeOne", "(II)Z"⟩, 39) := ⟨⟨by decide +kernel, by decide +kernel⟩, List.mem_of_getElem? (i := 1038) (by decide +kernel), List.mem_of_getElem? (i := 1562) (by decide +kernel), List.mem_of_getElem? (i := 1563) (by decide +kernel)⟩
theorem lw_p134 : lw_okq (⟨"BogBoardsModel", "setAct", "(IIII)V"⟩, 39) := ⟨⟨by decide +kernel, by decide +kernel⟩, List.mem_of_getElem? (i := 1038) (by decide +kernel), List.mem_of_getElem? (i := 1566) (by decide +kernel), List.mem_of_getElem? (i := 1567) (by decide +kernel)⟩
theorem lw_p135 : lw_okq (⟨"BogBoardsModel", "boardBehind", "(II)I"⟩, 39) := ⟨⟨by decide +kernel, by decide +kernel⟩, List.mem_of_getElem? (i := 1038) (by decide +kernel), List.mem_of_getElem? (i := 1571) (by decide +kernel), List.mem_of_getElem? (i := 1572) (by decide +kernel)⟩
theorem lw_p136 : lw_okq (⟨"BogBoardsModel", "times", "(IJ)V"⟩, 39) := ⟨⟨by decide +kernel, by decide +kernel⟩, List.mem_of_getElem? (i := 1038) (by decide +kernel), List.mem_of_getElem? (i := 1580) (by decide +kernel), List.mem_of_getElem? (i := 1581) (by decide +kernel)⟩
theorem lw_p137 : lw_okq (⟨"BogBoardsModel", "trim", "(I)V"⟩, 39) := ⟨⟨by decide +kernel, by decide +kernel⟩, List.mem_of_getElem? (i := 1038) (by decide +kernel), List.mem_of_getElem? (i := 1584) (by decide +kernel), List.mem_of_getElem? (i := 1585) (by decide +kernel)⟩
theorem lw_p138 : lw_okq (⟨"BogBoardsModel", "add", "(II)V"⟩, 39) := ⟨⟨by decide +kernel, by decide +kernel⟩, List.mem_of_getElem? (i := 1038) (by decide +kernel), List.mem_of_getElem? (i := 1588) (by decide +kernel), List.mem_of_getElem? (i := 1589) (by decide +kernel)⟩
theorem lw_p139 : lw_okq (⟨"BogBoardsModel", "tell", "(IIZ)V"⟩, 39) := ⟨⟨by decide +kernel, by decide +kernel⟩, List.mem_of_getElem? (i := 1038) (by decide +kernel), List.mem_of_getElem? (i := 1592) (by decide +kernel), List.mem_of_getElem? (i := 1593) (by decide +kernel)⟩
theorem lw_p140 : lw_okq (⟨"BogBoardsModel", "findDivisor", "(II)V"⟩, 39) := ⟨⟨by decide +kernel, by decide +kernel⟩, List.mem_of_getElem? (i := 1038) (by decide +kernel), List.mem_of_getElem? (i := 1596) (by decide +kernel), List.mem_of_getElem? (i := 1597) (by decide +kernel)⟩
theorem lw_p141 : lw_okq (⟨"BogBoardsModel", "copy", "(II)V"⟩, 39) := ⟨⟨by decide +kernel, by decide +kernel⟩, List.mem_of_getElem? (i := 1038) (by decide +kernel), List.mem_of_getElem? (i := 1600) (by decide +kernel), List.mem_of_getElem? (i := 1601) (by decide +kernel)⟩
theorem lw_p142 : lw_okq (⟨"BogBoardsModel", "isEven", "(I)Z"⟩, 39) := ⟨⟨by decide +kernel, by decide +kernel⟩, List.mem_of_getElem? (i := 1038) (by decide +kernel), List.mem_of_getElem? (i := 1604) (by decide +kernel), List.mem_of_getElem? (i := 1605) (by decide +kernel)⟩
theorem lw_p143 : lw_okq (⟨"BogBoardsModel", "halve", "(I)V"⟩, 39) := ⟨⟨by decide +kernel, by decide +kernel⟩, List.mem_of_getElem? (i := 1038) (by decide +kernel), List.mem_of_getElem? (i := 1608) (by decide +kernel), List.mem_of_getElem? (i := 1609) (by decide +kernel)⟩
def lw_privs_9 : List (MethodName × Nat) := [(⟨"BogBoardsModel", "workDown", "(I)V"⟩, 39), (⟨"BogBoardsModel", "workOut", "()V"⟩, 39), (⟨"BogBoardsModel", "goMist", "(I)V"⟩, 39), (⟨"BogBoardsModel", "goesLost", "(II)Z"⟩, 39), (⟨"BogBoardsModel", "layLetters", "(III)V"⟩, 39), (⟨"BogBoardsModel", "mayTakeOne", "(II)Z"⟩, 39), (⟨"BogBoardsModel", "setAct", "(IIII)V"⟩, 39), (⟨"BogBoardsModel", "boardBehind", "(II)I"⟩, 39), (⟨"BogBoardsModel", "times", "(IJ)V"⟩, 39), (⟨"BogBoardsModel", "trim", "(I)V"⟩, 39), (⟨"BogBoardsModel", "add", "(II)V"⟩, 39), (⟨"BogBoardsModel", "tell", "(IIZ)V"⟩, 39), (⟨"BogBoardsModel", "findDivisor", "(II)V"⟩, 39), (⟨"BogBoardsModel", "copy", "(II)V"⟩, 39), (⟨"BogBoardsModel", "isEven", "(I)Z"⟩, 39), (⟨"BogBoardsModel", "halve", "(I)V"⟩, 39)]
theorem lw_r9 : ∀ q ∈ lw_privs_9, lw_okq q := List.forall_mem_cons.mpr ⟨lw_p128, List.forall_mem_cons.mpr ⟨lw_p129, List.forall_mem_cons.mpr ⟨lw_p130, List.forall_mem_cons.mpr ⟨lw_p131, List.forall_mem_cons.mpr ⟨lw_p132, List.forall_mem_cons.mpr ⟨lw_p133, List.forall_mem_cons.mpr ⟨lw_p134, List.forall_mem_cons.mpr ⟨lw_p135, List.forall_mem_cons.mpr ⟨lw_p136, List.forall_mem_cons.mpr ⟨lw_p137, List.forall_mem_cons.mpr ⟨lw_p138, List.forall_mem_cons.mpr ⟨lw_p139, List.forall_mem_cons.mpr ⟨lw_p140, List.forall_mem_cons.mpr ⟨lw_p141, List.forall_mem_cons.mpr ⟨lw_p142, List.forall_mem_cons.mpr ⟨lw_p143, fun _ h => absurd h List.not_mem_nil⟩⟩⟩⟩⟩⟩⟩⟩⟩⟩⟩⟩⟩⟩⟩⟩
theorem lw_p144 : lw_okq (⟨"BogBoardsModel", "compare", "(II)I"⟩, 39) := ⟨⟨by decide +kernel, by decide +kernel⟩, List.mem_of_getElem? (i := 1038) (by decide +kernel), List.mem_of_getElem? (i := 1612) (by decide +kernel), List.mem_of_getElem? (i := 1613) (by decide +kernel)⟩
theorem lw_p145 : lw_okq (⟨"BogBoardsModel", "take", "(II)V"⟩, 39) := ⟨⟨by decide +kernel, by decide +kernel⟩, List.mem_of_getElem? (i := 1038) (by decide +kernel), List.mem_of_getElem? (i := 1616) (by decide +kernel), List.mem_of_getElem? (i := 1617) (by decide +kernel)⟩
theorem lw_p146 : lw_okq (⟨"BogBoardsModel", "divide", "(I)V"⟩, 39) := ⟨⟨by decide +kernel, by decide +kernel⟩, List.mem_of_getElem? (i := 1038) (by decide +kernel), List.mem_of_getElem? (i := 1620) (by decide +kernel), List.mem_of_getElem? (i := 1621) (by decide +kernel)⟩
theorem lw_p147 : lw_okq (⟨"BogBoardsModel", "addOne", "()V"⟩, 39) := ⟨⟨by decide +kernel, by decide +kernel⟩, List.mem_of_getElem? (i := 1038) (by decide +kernel), List.mem_of_getElem? (i := 1624) (by decide +kernel), List.mem_of_getElem? (i := 1625) (by decide +kernel)⟩
theorem lw_p148 : lw_okq (⟨"BogBoardsModel", "counted", "(I)I"⟩, 39) := ⟨⟨by decide +kernel, by decide +kernel⟩, List.mem_of_getElem? (i := 1038) (by decide +kernel), List.mem_of_getElem? (i := 1653) (by decide +kernel), List.mem_of_getElem? (i := 1654) (by decide +kernel)⟩
theorem lw_p149 : lw_okq (⟨"BogBoardsModel", "sums", "(JII)J"⟩, 39) := ⟨⟨by decide +kernel, by decide +kernel⟩, List.mem_of_getElem? (i := 1038) (by decide +kernel), List.mem_of_getElem? (i := 1663) (by decide +kernel), List.mem_of_getElem? (i := 1664) (by decide +kernel)⟩
def lw_privs_10 : List (MethodName × Nat) := [(⟨"BogBoardsModel", "compare", "(II)I"⟩, 39), (⟨"BogBoardsModel", "take", "(II)V"⟩, 39), (⟨"BogBoardsModel", "divide", "(I)V"⟩, 39), (⟨"BogBoardsModel", "addOne", "()V"⟩, 39), (⟨"BogBoardsModel", "counted", "(I)I"⟩, 39), (⟨"BogBoardsModel", "sums", "(JII)J"⟩, 39)]
theorem lw_r10 : ∀ q ∈ lw_privs_10, lw_okq q := List.forall_mem_cons.mpr ⟨lw_p144, List.forall_mem_cons.mpr ⟨lw_p145, List.forall_mem_cons.mpr ⟨lw_p146, List.forall_mem_cons.mpr ⟨lw_p147, List.forall_mem_cons.mpr ⟨lw_p148, List.forall_mem_cons.mpr ⟨lw_p149, fun _ h => absurd h List.not_mem_nil⟩⟩⟩⟩⟩⟩
def lw_privs : List (MethodName × Nat) := lw_privs_1 ++ (lw_privs_2 ++ (lw_privs_3 ++ (lw_privs_4 ++ (lw_privs_5 ++ (lw_privs_6 ++ (lw_privs_7 ++ (lw_privs_8 ++ (lw_privs_9 ++ (lw_privs_10)))))))))
def lw_tbl : List Cond := k2_sels lw_privs ++ tables_1
theorem lw_privs_ok : ∀ q ∈ lw_privs, lw_okq q := by
  show ∀ q ∈ lw_privs_1 ++ (lw_privs_2 ++ (lw_privs_3 ++ (lw_privs_4 ++ (lw_privs_5 ++ (lw_privs_6 ++ (lw_privs_7 ++ (lw_privs_8 ++ (lw_privs_9 ++ (lw_privs_10))))))))), lw_okq q
  exact List.forall_mem_append.mpr ⟨lw_r1, List.forall_mem_append.mpr ⟨lw_r2, List.forall_mem_append.mpr ⟨lw_r3, List.forall_mem_append.mpr ⟨lw_r4, List.forall_mem_append.mpr ⟨lw_r5, List.forall_mem_append.mpr ⟨lw_r6, List.forall_mem_append.mpr ⟨lw_r7, List.forall_mem_append.mpr ⟨lw_r8, List.forall_mem_append.mpr ⟨lw_r9, lw_r10⟩⟩⟩⟩⟩⟩⟩⟩⟩

def RX0 : String := "BogBoards$Bog"
def TX0 : u_T := fun k => match k with
  | 0 => ("BogBoards$Bog", "last", "I", false)
  | 1 => ("BogBoards$Bog", "islands", "I", false)
  | 2 => ("BogBoards$Bog", "walkers", "I", false)
  | 3 => ("BogBoards$Bog", "boards", "I", false)
  | 4 => ("BogBoards$Bog", "now", "I", false)
  | 5 => ("BogBoards$Bog", "weights", "[I", true)
  | 6 => ("BogBoards$Bog", "goals", "[I", true)
  | 7 => ("BogBoards$Bog", "kinds", "[I", true)
  | 8 => ("BogBoards$Bog", "toldLengths", "[I", true)
  | 9 => ("BogBoards$Bog", "toldBears", "[I", true)
  | 10 => ("BogBoards$Bog", "spans", "[I", true)
  | _ => ("BogBoards$Bog", "strengths", "[I", true)
def tyX0 : Nat → FieldType := fun k => match k with
  | 0 => .int
  | 1 => .int
  | 2 => .int
  | 3 => .int
  | 4 => .int
  | 5 => .array .int
  | 6 => .array .int
  | 7 => .array .int
  | 8 => .array .int
  | 9 => .array .int
  | 10 => .array .int
  | _ => .array .int
theorem nmX0 : ∀ a, a < 12 → ∀ b, b < 12 → a ≠ b → (TX0 a).2.1 ≠ (TX0 b).2.1 := by decide +kernel
theorem tyX0_ok : ∀ k, k < 12 → parseFieldDescriptor (TX0 k).2.2.1 = some (tyX0 k) := by decide +kernel
abbrev cX0_init : ByteArray := prog_2_method_1_code
def yX0_init : MethodName := ⟨RX0, "<init>", "()V"⟩
abbrev cX0_restart : ByteArray := prog_2_method_2_code
def yX0_restart : MethodName := ⟨RX0, "restart", "(I)V"⟩
abbrev cX0_copyOf : ByteArray := prog_2_method_3_code
def yX0_copyOf : MethodName := ⟨RX0, "copyOf", "(LBogBoards$Bog;)V"⟩
abbrev cX0_addWalker : ByteArray := prog_2_method_4_code
def yX0_addWalker : MethodName := ⟨RX0, "addWalker", "(III)V"⟩
abbrev cX0_addBoard : ByteArray := prog_2_method_5_code
def yX0_addBoard : MethodName := ⟨RX0, "addBoard", "(IIII)Z"⟩
abbrev cX0_hasPlace : ByteArray := prog_2_method_6_code
def yX0_hasPlace : MethodName := ⟨RX0, "hasPlace", "(I)Z"⟩
abbrev cX0_hasBoard : ByteArray := prog_2_method_7_code
def yX0_hasBoard : MethodName := ⟨RX0, "hasBoard", "(I)Z"⟩
abbrev cX0_groundAt : ByteArray := prog_2_method_8_code
def yX0_groundAt : MethodName := ⟨RX0, "groundAt", "(I)I"⟩
abbrev cX0_walkerAt : ByteArray := prog_2_method_9_code
def yX0_walkerAt : MethodName := ⟨RX0, "walkerAt", "(II)I"⟩
abbrev cX0_boardAt : ByteArray := prog_2_method_10_code
def yX0_boardAt : MethodName := ⟨RX0, "boardAt", "(II)I"⟩
abbrev cX0_isLying : ByteArray := prog_2_method_11_code
def yX0_isLying : MethodName := ⟨RX0, "isLying", "(II)Z"⟩
abbrev cX0_withWalker : ByteArray := prog_2_method_12_code
def yX0_withWalker : MethodName := ⟨RX0, "withWalker", "(III)I"⟩
abbrev cX0_withBoard : ByteArray := prog_2_method_13_code
def yX0_withBoard : MethodName := ⟨RX0, "withBoard", "(III)I"⟩
abbrev cX0_goalPlace : ByteArray := prog_2_method_14_code
def yX0_goalPlace : MethodName := ⟨RX0, "goalPlace", "(I)I"⟩
abbrev cX0_isAtGoal : ByteArray := prog_2_method_15_code
def yX0_isAtGoal : MethodName := ⟨RX0, "isAtGoal", "(II)Z"⟩
abbrev cX0_arrived : ByteArray := prog_2_method_16_code
def yX0_arrived : MethodName := ⟨RX0, "arrived", "(I)I"⟩
abbrev cX0_isOver : ByteArray := prog_2_method_17_code
def yX0_isOver : MethodName := ⟨RX0, "isOver", "(I)Z"⟩
abbrev cX0_carriedBy : ByteArray := prog_2_method_18_code
def yX0_carriedBy : MethodName := ⟨RX0, "carriedBy", "(II)I"⟩
abbrev cX0_ladenMask : ByteArray := prog_2_method_19_code
def yX0_ladenMask : MethodName := ⟨RX0, "ladenMask", "(I)I"⟩
abbrev cX0_counts : ByteArray := prog_2_method_20_code
def yX0_counts : MethodName := ⟨RX0, "counts", "(II)I"⟩
abbrev cX0_maskOf : ByteArray := prog_2_method_21_code
def yX0_maskOf : MethodName := ⟨RX0, "maskOf", "(II)I"⟩
abbrev cX0_coverOf : ByteArray := prog_2_method_22_code
def yX0_coverOf : MethodName := ⟨RX0, "coverOf", "(II)I"⟩
abbrev cX0_boardMask : ByteArray := prog_2_method_23_code
def yX0_boardMask : MethodName := ⟨RX0, "boardMask", "(I)I"⟩
abbrev cX0_isIn : ByteArray := prog_2_method_24_code
def yX0_isIn : MethodName := ⟨RX0, "isIn", "(II)Z"⟩
abbrev cX0_groundMask : ByteArray := prog_2_method_25_code
def yX0_groundMask : MethodName := ⟨RX0, "groundMask", "()I"⟩
abbrev cX0_standMask : ByteArray := prog_2_method_26_code
def yX0_standMask : MethodName := ⟨RX0, "standMask", "(I)I"⟩
abbrev cX0_isFirm : ByteArray := prog_2_method_27_code
def yX0_isFirm : MethodName := ⟨RX0, "isFirm", "(II)Z"⟩
abbrev cX0_boardOver : ByteArray := prog_2_method_28_code
def yX0_boardOver : MethodName := ⟨RX0, "boardOver", "(II)I"⟩
abbrev cX0_standingAt : ByteArray := prog_2_method_29_code
def yX0_standingAt : MethodName := ⟨RX0, "standingAt", "(II)I"⟩
abbrev cX0_loadOn : ByteArray := prog_2_method_30_code
def yX0_loadOn : MethodName := ⟨RX0, "loadOn", "(II)I"⟩
abbrev cX0_weightOver : ByteArray := prog_2_method_31_code
def yX0_weightOver : MethodName := ⟨RX0, "weightOver", "(III)I"⟩
abbrev cX0_isWell : ByteArray := prog_2_method_32_code
def yX0_isWell : MethodName := ⟨RX0, "isWell", "(I)Z"⟩
abbrev cX0_isSuch : ByteArray := prog_2_method_33_code
def yX0_isSuch : MethodName := ⟨RX0, "isSuch", "(I)Z"⟩
abbrev cX0_outcome : ByteArray := prog_2_method_34_code
def yX0_outcome : MethodName := ⟨RX0, "outcome", "(II)I"⟩
abbrev cX0_walked : ByteArray := prog_2_method_35_code
def yX0_walked : MethodName := ⟨RX0, "walked", "(IIII)I"⟩
abbrev cX0_leapt : ByteArray := prog_2_method_36_code
def yX0_leapt : MethodName := ⟨RX0, "leapt", "(IIII)I"⟩
abbrev cX0_laid : ByteArray := prog_2_method_37_code
def yX0_laid : MethodName := ⟨RX0, "laid", "(IIIII)I"⟩
abbrev cX0_taken : ByteArray := prog_2_method_38_code
def yX0_taken : MethodName := ⟨RX0, "taken", "(III)I"⟩
abbrev cX0_handed : ByteArray := prog_2_method_39_code
def yX0_handed : MethodName := ⟨RX0, "handed", "(IIII)I"⟩
abbrev cX0_digestOn : ByteArray := prog_2_method_40_code
def yX0_digestOn : MethodName := ⟨RX0, "digestOn", "(J)J"⟩
def RX1 : String := "BogBoards$Fraction"
def TX1 : u_T := fun k => match k with
  | 0 => ("BogBoards$Fraction", "above", "[J", true)
  | 1 => ("BogBoards$Fraction", "below", "[J", true)
  | 2 => ("BogBoards$Fraction", "term", "[J", true)
  | 3 => ("BogBoards$Fraction", "aboveSize", "I", false)
  | _ => ("BogBoards$Fraction", "belowSize", "I", false)
def tyX1 : Nat → FieldType := fun k => match k with
  | 0 => .array .long
  | 1 => .array .long
  | 2 => .array .long
  | 3 => .int
  | _ => .int
theorem nmX1 : ∀ a, a < 5 → ∀ b, b < 5 → a ≠ b → (TX1 a).2.1 ≠ (TX1 b).2.1 := by decide +kernel
theorem tyX1_ok : ∀ k, k < 5 → parseFieldDescriptor (TX1 k).2.2.1 = some (tyX1 k) := by decide +kernel
abbrev cX1_init : ByteArray := prog_3_method_1_code
def yX1_init : MethodName := ⟨RX1, "<init>", "()V"⟩
abbrev cX1_chanceOfAtLeast : ByteArray := prog_3_method_2_code
def yX1_chanceOfAtLeast : MethodName := ⟨RX1, "chanceOfAtLeast", "(III)V"⟩
abbrev cX1_setTo : ByteArray := prog_3_method_3_code
def yX1_setTo : MethodName := ⟨RX1, "setTo", "([JJ)V"⟩
abbrev cX1_multiply : ByteArray := prog_3_method_4_code
def yX1_multiply : MethodName := ⟨RX1, "multiply", "([JJ)V"⟩
abbrev cX1_multiplyOften : ByteArray := prog_3_method_5_code
def yX1_multiplyOften : MethodName := ⟨RX1, "multiplyOften", "(II)V"⟩
abbrev cX1_addTerm : ByteArray := prog_3_method_6_code
def yX1_addTerm : MethodName := ⟨RX1, "addTerm", "()V"⟩
abbrev cX1_shorten : ByteArray := prog_3_method_7_code
def yX1_shorten : MethodName := ⟨RX1, "shorten", "(I)V"⟩
abbrev cX1_shortenBy : ByteArray := prog_3_method_8_code
def yX1_shortenBy : MethodName := ⟨RX1, "shortenBy", "(II)V"⟩
abbrev cX1_isMultiple : ByteArray := prog_3_method_9_code
def yX1_isMultiple : MethodName := ⟨RX1, "isMultiple", "([JI)Z"⟩
abbrev cX1_divide : ByteArray := prog_3_method_10_code
def yX1_divide : MethodName := ⟨RX1, "divide", "([JI)V"⟩
abbrev cX1_sizeOf : ByteArray := prog_3_method_11_code
def yX1_sizeOf : MethodName := ⟨RX1, "sizeOf", "([J)I"⟩
abbrev cX1_aboveLimb : ByteArray := prog_3_method_12_code
def yX1_aboveLimb : MethodName := ⟨RX1, "aboveLimb", "(I)I"⟩
abbrev cX1_belowLimb : ByteArray := prog_3_method_13_code
def yX1_belowLimb : MethodName := ⟨RX1, "belowLimb", "(I)I"⟩
abbrev cX1_digestOn : ByteArray := prog_3_method_14_code
def yX1_digestOn : MethodName := ⟨RX1, "digestOn", "(J)J"⟩
def RX2 : String := "BogBoards$Image"
def TX2 : u_T := fun k => match k with
  | 0 => ("BogBoards$Image", "isKept", "Z", false)
  | 1 => ("BogBoards$Image", "bog", "LBogBoards$Bog;", true)
  | 2 => ("BogBoards$Image", "rule", "LBogBoards$Rule;", true)
  | _ => ("BogBoards$Image", "past", "LBogBoards$Past;", true)
def tyX2 : Nat → FieldType := fun k => match k with
  | 0 => .boolean
  | 1 => .object "BogBoards$Bog"
  | 2 => .object "BogBoards$Rule"
  | _ => .object "BogBoards$Past"
theorem nmX2 : ∀ a, a < 4 → ∀ b, b < 4 → a ≠ b → (TX2 a).2.1 ≠ (TX2 b).2.1 := by decide +kernel
theorem tyX2_ok : ∀ k, k < 4 → parseFieldDescriptor (TX2 k).2.2.1 = some (tyX2 k) := by decide +kernel
abbrev cX2_init : ByteArray := prog_4_method_1_code
def yX2_init : MethodName := ⟨RX2, "<init>", "()V"⟩
def RX3 : String := "BogBoards$Mist"
def TX3 : u_T := fun k => match k with
  | 0 => ("BogBoards$Mist", "sight", "LBogBoards$Sight;", true)
  | 1 => ("BogBoards$Mist", "code", "I", false)
  | 2 => ("BogBoards$Mist", "loser", "I", false)
  | _ => ("BogBoards$Mist", "gone", "I", false)
def tyX3 : Nat → FieldType := fun k => match k with
  | 0 => .object "BogBoards$Sight"
  | 1 => .int
  | 2 => .int
  | _ => .int
theorem nmX3 : ∀ a, a < 4 → ∀ b, b < 4 → a ≠ b → (TX3 a).2.1 ≠ (TX3 b).2.1 := by decide +kernel
theorem tyX3_ok : ∀ k, k < 4 → parseFieldDescriptor (TX3 k).2.2.1 = some (tyX3 k) := by decide +kernel
abbrev cX3_init : ByteArray := prog_5_method_1_code
def yX3_init : MethodName := ⟨RX3, "<init>", "()V"⟩
abbrev cX3_run : ByteArray := prog_5_method_2_code
def yX3_run : MethodName := ⟨RX3, "run", "(LBogBoards$Bog;LBogBoards$Rule;I)V"⟩
abbrev cX3_step : ByteArray := prog_5_method_3_code
def yX3_step : MethodName := ⟨RX3, "step", "(LBogBoards$Bog;LBogBoards$Rule;II)V"⟩
abbrev cX3_look : ByteArray := prog_5_method_4_code
def yX3_look : MethodName := ⟨RX3, "look", "(LBogBoards$Bog;II)V"⟩
abbrev cX3_actOf : ByteArray := prog_5_method_5_code
def yX3_actOf : MethodName := ⟨RX3, "actOf", "(LBogBoards$Bog;II)I"⟩
def RX4 : String := "BogBoards$Past"
def TX4 : u_T := fun k => match k with
  | 0 => ("BogBoards$Past", "codes", "[I", true)
  | _ => ("BogBoards$Past", "size", "I", false)
def tyX4 : Nat → FieldType := fun k => match k with
  | 0 => .array .int
  | _ => .int
theorem nmX4 : ∀ a, a < 2 → ∀ b, b < 2 → a ≠ b → (TX4 a).2.1 ≠ (TX4 b).2.1 := by decide +kernel
theorem tyX4_ok : ∀ k, k < 2 → parseFieldDescriptor (TX4 k).2.2.1 = some (tyX4 k) := by decide +kernel
abbrev cX4_init : ByteArray := prog_6_method_1_code
def yX4_init : MethodName := ⟨RX4, "<init>", "()V"⟩
abbrev cX4_remember : ByteArray := prog_6_method_2_code
def yX4_remember : MethodName := ⟨RX4, "remember", "(I)V"⟩
abbrev cX4_takeLatest : ByteArray := prog_6_method_3_code
def yX4_takeLatest : MethodName := ⟨RX4, "takeLatest", "()I"⟩
abbrev cX4_copyOf : ByteArray := prog_6_method_4_code
def yX4_copyOf : MethodName := ⟨RX4, "copyOf", "(LBogBoards$Past;)V"⟩
def RX5 : String := "BogBoards$Rule"
def TX5 : u_T := fun k => match k with
  | 0 => ("BogBoards$Rule", "characters", "[I", true)
  | 1 => ("BogBoards$Rule", "size", "I", false)
  | 2 => ("BogBoards$Rule", "steps", "[I", true)
  | 3 => ("BogBoards$Rule", "stepCount", "I", false)
  | 4 => ("BogBoards$Rule", "stack", "[J", true)
  | 5 => ("BogBoards$Rule", "stacked", "I", false)
  | 6 => ("BogBoards$Rule", "isWorkedOut", "Z", false)
  | 7 => ("BogBoards$Rule", "at", "I", false)
  | _ => ("BogBoards$Rule", "broken", "I", false)
def tyX5 : Nat → FieldType := fun k => match k with
  | 0 => .array .int
  | 1 => .int
  | 2 => .array .int
  | 3 => .int
  | 4 => .array .long
  | 5 => .int
  | 6 => .boolean
  | 7 => .int
  | _ => .int
theorem nmX5 : ∀ a, a < 9 → ∀ b, b < 9 → a ≠ b → (TX5 a).2.1 ≠ (TX5 b).2.1 := by decide +kernel
theorem tyX5_ok : ∀ k, k < 9 → parseFieldDescriptor (TX5 k).2.2.1 = some (tyX5 k) := by decide +kernel
abbrev cX5_init : ByteArray := prog_7_method_1_code
def yX5_init : MethodName := ⟨RX5, "<init>", "()V"⟩
abbrev cX5_append : ByteArray := prog_7_method_2_code
def yX5_append : MethodName := ⟨RX5, "append", "(I)V"⟩
abbrev cX5_empty : ByteArray := prog_7_method_3_code
def yX5_empty : MethodName := ⟨RX5, "empty", "()V"⟩
abbrev cX5_copyOf : ByteArray := prog_7_method_4_code
def yX5_copyOf : MethodName := ⟨RX5, "copyOf", "(LBogBoards$Rule;)V"⟩
abbrev cX5_faultCode : ByteArray := prog_7_method_5_code
def yX5_faultCode : MethodName := ⟨RX5, "faultCode", "()I"⟩
abbrev cX5_parseValue : ByteArray := prog_7_method_6_code
def yX5_parseValue : MethodName := ⟨RX5, "parseValue", "(I)V"⟩
abbrev cX5_parseBoth : ByteArray := prog_7_method_7_code
def yX5_parseBoth : MethodName := ⟨RX5, "parseBoth", "(I)V"⟩
abbrev cX5_parseHeld : ByteArray := prog_7_method_8_code
def yX5_parseHeld : MethodName := ⟨RX5, "parseHeld", "(I)V"⟩
abbrev cX5_parseSum : ByteArray := prog_7_method_9_code
def yX5_parseSum : MethodName := ⟨RX5, "parseSum", "(I)V"⟩
abbrev cX5_parseTerm : ByteArray := prog_7_method_10_code
def yX5_parseTerm : MethodName := ⟨RX5, "parseTerm", "(I)V"⟩
abbrev cX5_parseUnit : ByteArray := prog_7_method_11_code
def yX5_parseUnit : MethodName := ⟨RX5, "parseUnit", "(I)V"⟩
abbrev cX5_parseCore : ByteArray := prog_7_method_12_code
def yX5_parseCore : MethodName := ⟨RX5, "parseCore", "(I)V"⟩
abbrev cX5_parseNumber : ByteArray := prog_7_method_13_code
def yX5_parseNumber : MethodName := ⟨RX5, "parseNumber", "()V"⟩
abbrev cX5_characterAt : ByteArray := prog_7_method_14_code
def yX5_characterAt : MethodName := ⟨RX5, "characterAt", "(I)I"⟩
abbrev cX5_next : ByteArray := prog_7_method_15_code
def yX5_next : MethodName := ⟨RX5, "next", "()I"⟩
abbrev cX5_takes : ByteArray := prog_7_method_16_code
def yX5_takes : MethodName := ⟨RX5, "takes", "(I)Z"⟩
abbrev cX5_breakHere : ByteArray := prog_7_method_17_code
def yX5_breakHere : MethodName := ⟨RX5, "breakHere", "(I)V"⟩
abbrev cX5_emit : ByteArray := prog_7_method_18_code
def yX5_emit : MethodName := ⟨RX5, "emit", "(I)V"⟩
abbrev cX5_isDigit : ByteArray := prog_7_method_19_code
def yX5_isDigit : MethodName := ⟨RX5, "isDigit", "(I)Z"⟩
abbrev cX5_isSeen : ByteArray := prog_7_method_20_code
def yX5_isSeen : MethodName := ⟨RX5, "isSeen", "(I)Z"⟩
abbrev cX5_worked : ByteArray := prog_7_method_21_code
def yX5_worked : MethodName := ⟨RX5, "worked", "(LBogBoards$Sight;)J"⟩
abbrev cX5_push : ByteArray := prog_7_method_22_code
def yX5_push : MethodName := ⟨RX5, "push", "(J)V"⟩
abbrev cX5_pop : ByteArray := prog_7_method_23_code
def yX5_pop : MethodName := ⟨RX5, "pop", "()J"⟩
abbrev cX5_joined : ByteArray := prog_7_method_24_code
def yX5_joined : MethodName := ⟨RX5, "joined", "(IJJ)J"⟩
abbrev cX5_digestOn : ByteArray := prog_7_method_25_code
def yX5_digestOn : MethodName := ⟨RX5, "digestOn", "(J)J"⟩
def RX6 : String := "BogBoards$Search"
def TX6 : u_T := fun k => match k with
  | 0 => ("BogBoards$Search", "marks", "[I", true)
  | 1 => ("BogBoards$Search", "queue", "[I", true)
  | 2 => ("BogBoards$Search", "cameFrom", "[I", true)
  | 3 => ("BogBoards$Search", "acts", "[I", true)
  | 4 => ("BogBoards$Search", "actCount", "I", false)
  | 5 => ("BogBoards$Search", "mark", "I", false)
  | 6 => ("BogBoards$Search", "queued", "I", false)
  | 7 => ("BogBoards$Search", "keepsRow", "Z", false)
  | 8 => ("BogBoards$Search", "reached", "I", false)
  | 9 => ("BogBoards$Search", "rowEnd", "I", false)
  | 10 => ("BogBoards$Search", "knownRow", "I", false)
  | 11 => ("BogBoards$Search", "knownLengths", "[I", true)
  | _ => ("BogBoards$Search", "knownLeaps", "[I", true)
def tyX6 : Nat → FieldType := fun k => match k with
  | 0 => .array .int
  | 1 => .array .int
  | 2 => .array .int
  | 3 => .array .int
  | 4 => .int
  | 5 => .int
  | 6 => .int
  | 7 => .boolean
  | 8 => .int
  | 9 => .int
  | 10 => .int
  | 11 => .array .int
  | _ => .array .int
theorem nmX6 : ∀ a, a < 13 → ∀ b, b < 13 → a ≠ b → (TX6 a).2.1 ≠ (TX6 b).2.1 := by decide +kernel
theorem tyX6_ok : ∀ k, k < 13 → parseFieldDescriptor (TX6 k).2.2.1 = some (tyX6 k) := by decide +kernel
abbrev cX6_init : ByteArray := prog_8_method_1_code
def yX6_init : MethodName := ⟨RX6, "<init>", "()V"⟩
abbrev cX6_forget : ByteArray := prog_8_method_2_code
def yX6_forget : MethodName := ⟨RX6, "forget", "()V"⟩
abbrev cX6_rowLength : ByteArray := prog_8_method_3_code
def yX6_rowLength : MethodName := ⟨RX6, "rowLength", "(LBogBoards$Bog;)I"⟩
abbrev cX6_rowAct : ByteArray := prog_8_method_4_code
def yX6_rowAct : MethodName := ⟨RX6, "rowAct", "(I)I"⟩
abbrev cX6_cameFromAt : ByteArray := prog_8_method_5_code
def yX6_cameFromAt : MethodName := ⟨RX6, "cameFromAt", "(I)I"⟩
abbrev cX6_lengthWithout : ByteArray := prog_8_method_6_code
def yX6_lengthWithout : MethodName := ⟨RX6, "lengthWithout", "(LBogBoards$Bog;I)I"⟩
abbrev cX6_leapsWithout : ByteArray := prog_8_method_7_code
def yX6_leapsWithout : MethodName := ⟨RX6, "leapsWithout", "(LBogBoards$Bog;I)I"⟩
abbrev cX6_shortest : ByteArray := prog_8_method_8_code
def yX6_shortest : MethodName := ⟨RX6, "shortest", "(LBogBoards$Bog;I)I"⟩
abbrev cX6_fewestLeaps : ByteArray := prog_8_method_9_code
def yX6_fewestLeaps : MethodName := ⟨RX6, "fewestLeaps", "(LBogBoards$Bog;I)I"⟩
abbrev cX6_begin : ByteArray := prog_8_method_10_code
def yX6_begin : MethodName := ⟨RX6, "begin", "(I)V"⟩
abbrev cX6_listActs : ByteArray := prog_8_method_11_code
def yX6_listActs : MethodName := ⟨RX6, "listActs", "(LBogBoards$Bog;II)V"⟩
abbrev cX6_goOn : ByteArray := prog_8_method_12_code
def yX6_goOn : MethodName := ⟨RX6, "goOn", "(LBogBoards$Bog;I)Z"⟩
abbrev cX6_enter : ByteArray := prog_8_method_13_code
def yX6_enter : MethodName := ⟨RX6, "enter", "(I)Z"⟩
def RX7 : String := "BogBoards$Sight"
def TX7 : u_T := fun k => match k with
  | 0 => ("BogBoards$Sight", "ahead", "I", false)
  | 1 => ("BogBoards$Sight", "standing", "I", false)
  | 2 => ("BogBoards$Sight", "carrying", "I", false)
  | 3 => ("BogBoards$Sight", "takeable", "I", false)
  | 4 => ("BogBoards$Sight", "number", "I", false)
  | _ => ("BogBoards$Sight", "round", "I", false)
def tyX7 : Nat → FieldType := fun k => match k with
  | 0 => .int
  | 1 => .int
  | 2 => .int
  | 3 => .int
  | 4 => .int
  | _ => .int
theorem nmX7 : ∀ a, a < 6 → ∀ b, b < 6 → a ≠ b → (TX7 a).2.1 ≠ (TX7 b).2.1 := by decide +kernel
theorem tyX7_ok : ∀ k, k < 6 → parseFieldDescriptor (TX7 k).2.2.1 = some (tyX7 k) := by decide +kernel
abbrev cX7_init : ByteArray := prog_9_method_1_code
def yX7_init : MethodName := ⟨RX7, "<init>", "()V"⟩
abbrev cX7_valueOf : ByteArray := prog_9_method_2_code
def yX7_valueOf : MethodName := ⟨RX7, "valueOf", "(I)I"⟩
def RX8 : String := "BogBoards$Text"
def TX8 : u_T := fun k => match k with
  | 0 => ("BogBoards$Text", "bytes", "[I", true)
  | _ => ("BogBoards$Text", "size", "I", false)
def tyX8 : Nat → FieldType := fun k => match k with
  | 0 => .array .int
  | _ => .int
theorem nmX8 : ∀ a, a < 2 → ∀ b, b < 2 → a ≠ b → (TX8 a).2.1 ≠ (TX8 b).2.1 := by decide +kernel
theorem tyX8_ok : ∀ k, k < 2 → parseFieldDescriptor (TX8 k).2.2.1 = some (tyX8 k) := by decide +kernel
abbrev cX8_init : ByteArray := prog_10_method_1_code
def yX8_init : MethodName := ⟨RX8, "<init>", "()V"⟩
abbrev cX8_append : ByteArray := prog_10_method_2_code
def yX8_append : MethodName := ⟨RX8, "append", "(I)V"⟩
abbrev cX8_byteAt : ByteArray := prog_10_method_3_code
def yX8_byteAt : MethodName := ⟨RX8, "byteAt", "(I)I"⟩
def RX9 : String := "BogBoards$TextReader"
def TX9 : u_T := fun k => match k with
  | 0 => ("BogBoards$TextReader", "source", "LBogBoards$Text;", true)
  | 1 => ("BogBoards$TextReader", "at", "I", false)
  | 2 => ("BogBoards$TextReader", "token", "I", false)
  | 3 => ("BogBoards$TextReader", "tokenStart", "I", false)
  | 4 => ("BogBoards$TextReader", "value", "I", false)
  | _ => ("BogBoards$TextReader", "broken", "I", false)
def tyX9 : Nat → FieldType := fun k => match k with
  | 0 => .object "BogBoards$Text"
  | 1 => .int
  | 2 => .int
  | 3 => .int
  | 4 => .int
  | _ => .int
theorem nmX9 : ∀ a, a < 6 → ∀ b, b < 6 → a ≠ b → (TX9 a).2.1 ≠ (TX9 b).2.1 := by decide +kernel
theorem tyX9_ok : ∀ k, k < 6 → parseFieldDescriptor (TX9 k).2.2.1 = some (tyX9 k) := by decide +kernel
abbrev cX9_init : ByteArray := prog_11_method_1_code
def yX9_init : MethodName := ⟨RX9, "<init>", "(LBogBoards$Text;)V"⟩
abbrev cX9_readInto : ByteArray := prog_11_method_2_code
def yX9_readInto : MethodName := ⟨RX9, "readInto", "(LBogBoards$Bog;)I"⟩
abbrev cX9_readItem : ByteArray := prog_11_method_3_code
def yX9_readItem : MethodName := ⟨RX9, "readItem", "(LBogBoards$Bog;Z)V"⟩
abbrev cX9_readBoard : ByteArray := prog_11_method_4_code
def yX9_readBoard : MethodName := ⟨RX9, "readBoard", "(LBogBoards$Bog;)V"⟩
abbrev cX9_number : ByteArray := prog_11_method_5_code
def yX9_number : MethodName := ⟨RX9, "number", "(II)I"⟩
abbrev cX9_expectStop : ByteArray := prog_11_method_6_code
def yX9_expectStop : MethodName := ⟨RX9, "expectStop", "()V"⟩
abbrev cX9_breakHere : ByteArray := prog_11_method_7_code
def yX9_breakHere : MethodName := ⟨RX9, "breakHere", "()V"⟩
abbrev cX9_nextToken : ByteArray := prog_11_method_8_code
def yX9_nextToken : MethodName := ⟨RX9, "nextToken", "()V"⟩
abbrev cX9_readFigures : ByteArray := prog_11_method_9_code
def yX9_readFigures : MethodName := ⟨RX9, "readFigures", "()V"⟩
abbrev cX9_isWord : ByteArray := prog_11_method_10_code
def yX9_isWord : MethodName := ⟨RX9, "isWord", "(Ljava/lang/String;)Z"⟩
abbrev cX9_isLetter : ByteArray := prog_11_method_11_code
def yX9_isLetter : MethodName := ⟨RX9, "isLetter", "(I)Z"⟩
abbrev cX9_isFigure : ByteArray := prog_11_method_12_code
def yX9_isFigure : MethodName := ⟨RX9, "isFigure", "(I)Z"⟩
def RX10 : String := "BogBoards"
def TX10 : u_T := fun k => match k with
  | 0 => ("BogBoards", "bog", "LBogBoards$Bog;", true)
  | 1 => ("BogBoards", "draft", "LBogBoards$Bog;", true)
  | 2 => ("BogBoards", "text", "LBogBoards$Text;", true)
  | 3 => ("BogBoards", "reader", "LBogBoards$TextReader;", true)
  | 4 => ("BogBoards", "rule", "LBogBoards$Rule;", true)
  | 5 => ("BogBoards", "past", "LBogBoards$Past;", true)
  | 6 => ("BogBoards", "search", "LBogBoards$Search;", true)
  | 7 => ("BogBoards", "fog", "LBogBoards$Mist;", true)
  | 8 => ("BogBoards", "fraction", "LBogBoards$Fraction;", true)
  | 9 => ("BogBoards", "firstImage", "LBogBoards$Image;", true)
  | 10 => ("BogBoards", "secondImage", "LBogBoards$Image;", true)
  | 11 => ("BogBoards", "badCalls", "I", false)
  | 12 => ("BogBoards", "noCalls", "I", false)
  | _ => ("BogBoards", "fullCalls", "I", false)
def tyX10 : Nat → FieldType := fun k => match k with
  | 0 => .object "BogBoards$Bog"
  | 1 => .object "BogBoards$Bog"
  | 2 => .object "BogBoards$Text"
  | 3 => .object "BogBoards$TextReader"
  | 4 => .object "BogBoards$Rule"
  | 5 => .object "BogBoards$Past"
  | 6 => .object "BogBoards$Search"
  | 7 => .object "BogBoards$Mist"
  | 8 => .object "BogBoards$Fraction"
  | 9 => .object "BogBoards$Image"
  | 10 => .object "BogBoards$Image"
  | 11 => .int
  | 12 => .int
  | _ => .int
theorem nmX10 : ∀ a, a < 14 → ∀ b, b < 14 → a ≠ b → (TX10 a).2.1 ≠ (TX10 b).2.1 := by decide +kernel
theorem tyX10_ok : ∀ k, k < 14 → parseFieldDescriptor (TX10 k).2.2.1 = some (tyX10 k) := by decide +kernel
abbrev cX10_init : ByteArray := prog_1_method_1_code
def yX10_init : MethodName := ⟨RX10, "<init>", "()V"⟩
abbrev cX10_type : ByteArray := prog_1_method_2_code
def yX10_type : MethodName := ⟨RX10, "type", "(JI)I"⟩
abbrev cX10_clear : ByteArray := prog_1_method_3_code
def yX10_clear : MethodName := ⟨RX10, "clear", "()I"⟩
abbrev cX10_read : ByteArray := prog_1_method_4_code
def yX10_read : MethodName := ⟨RX10, "read", "()I"⟩
abbrev cX10_place : ByteArray := prog_1_method_5_code
def yX10_place : MethodName := ⟨RX10, "place", "(I)I"⟩
abbrev cX10_firm : ByteArray := prog_1_method_6_code
def yX10_firm : MethodName := ⟨RX10, "firm", "(I)I"⟩
abbrev cX10_walker : ByteArray := prog_1_method_7_code
def yX10_walker : MethodName := ⟨RX10, "walker", "(II)I"⟩
abbrev cX10_board : ByteArray := prog_1_method_8_code
def yX10_board : MethodName := ⟨RX10, "board", "(II)I"⟩
abbrev cX10_why : ByteArray := prog_1_method_9_code
def yX10_why : MethodName := ⟨RX10, "why", "(I)I"⟩
abbrev cX10_act : ByteArray := prog_1_method_10_code
def yX10_act : MethodName := ⟨RX10, "act", "(I)I"⟩
abbrev cX10_undo : ByteArray := prog_1_method_11_code
def yX10_undo : MethodName := ⟨RX10, "undo", "()I"⟩
abbrev cX10_over : ByteArray := prog_1_method_12_code
def yX10_over : MethodName := ⟨RX10, "over", "()I"⟩
abbrev cX10_fewest : ByteArray := prog_1_method_13_code
def yX10_fewest : MethodName := ⟨RX10, "fewest", "()I"⟩
abbrev cX10_row : ByteArray := prog_1_method_14_code
def yX10_row : MethodName := ⟨RX10, "row", "(I)I"⟩
abbrev cX10_lost : ByteArray := prog_1_method_15_code
def yX10_lost : MethodName := ⟨RX10, "lost", "(I)I"⟩
abbrev cX10_leaps : ByteArray := prog_1_method_16_code
def yX10_leaps : MethodName := ⟨RX10, "leaps", "(I)I"⟩
abbrev cX10_wrong : ByteArray := prog_1_method_17_code
def yX10_wrong : MethodName := ⟨RX10, "wrong", "(I)I"⟩
abbrev cX10_write : ByteArray := prog_1_method_18_code
def yX10_write : MethodName := ⟨RX10, "write", "(I)I"⟩
abbrev cX10_erase : ByteArray := prog_1_method_19_code
def yX10_erase : MethodName := ⟨RX10, "erase", "()I"⟩
abbrev cX10_fault : ByteArray := prog_1_method_20_code
def yX10_fault : MethodName := ⟨RX10, "fault", "()I"⟩
abbrev cX10_mist : ByteArray := prog_1_method_21_code
def yX10_mist : MethodName := ⟨RX10, "mist", "(II)I"⟩
abbrev cX10_years : ByteArray := prog_1_method_22_code
def yX10_years : MethodName := ⟨RX10, "years", "(III)I"⟩
abbrev cX10_sign : ByteArray := prog_1_method_23_code
def yX10_sign : MethodName := ⟨RX10, "sign", "(I)I"⟩
abbrev cX10_limb : ByteArray := prog_1_method_24_code
def yX10_limb : MethodName := ⟨RX10, "limb", "(II)I"⟩
abbrev cX10_image : ByteArray := prog_1_method_25_code
def yX10_image : MethodName := ⟨RX10, "image", "(I)I"⟩
abbrev cX10_from : ByteArray := prog_1_method_26_code
def yX10_from : MethodName := ⟨RX10, "from", "(I)I"⟩
abbrev cX10_status : ByteArray := prog_1_method_27_code
def yX10_status : MethodName := ⟨RX10, "status", "(I)I"⟩
abbrev cX10_count : ByteArray := prog_1_method_28_code
def yX10_count : MethodName := ⟨RX10, "count", "(I)I"⟩
abbrev cX10_digest : ByteArray := prog_1_method_29_code
def yX10_digest : MethodName := ⟨RX10, "digest", "()J"⟩
abbrev cX10_amount : ByteArray := prog_1_method_30_code
def yX10_amount : MethodName := ⟨RX10, "amount", "(I)I"⟩
abbrev cX10_refused : ByteArray := prog_1_method_31_code
def yX10_refused : MethodName := ⟨RX10, "refused", "(II)I"⟩
abbrev cX10_outcomeNow : ByteArray := prog_1_method_32_code
def yX10_outcomeNow : MethodName := ⟨RX10, "outcomeNow", "(I)I"⟩
abbrev cX10_moveTo : ByteArray := prog_1_method_33_code
def yX10_moveTo : MethodName := ⟨RX10, "moveTo", "(I)V"⟩
abbrev cX10_imageOf : ByteArray := prog_1_method_34_code
def yX10_imageOf : MethodName := ⟨RX10, "imageOf", "(I)LBogBoards$Image;"⟩
def RX11 : String := "BogBoardsModel"
def TX11 : u_T := fun k => match k with
  | 0 => ("BogBoardsModel", "now", "[I", true)
  | 1 => ("BogBoardsModel", "kept", "[I", true)
  | 2 => ("BogBoardsModel", "isKept", "[Z", true)
  | 3 => ("BogBoardsModel", "refused", "[I", true)
  | 4 => ("BogBoardsModel", "limbs", "[J", true)
  | 5 => ("BogBoardsModel", "sizes", "[I", true)
  | 6 => ("BogBoardsModel", "sign", "I", false)
  | 7 => ("BogBoardsModel", "stands", "[I", true)
  | 8 => ("BogBoardsModel", "lies", "[I", true)
  | 9 => ("BogBoardsModel", "actKind", "I", false)
  | 10 => ("BogBoardsModel", "actWalker", "I", false)
  | 11 => ("BogBoardsModel", "actX", "I", false)
  | 12 => ("BogBoardsModel", "actY", "I", false)
  | 13 => ("BogBoardsModel", "stood", "[I", true)
  | 14 => ("BogBoardsModel", "lay", "[I", true)
  | 15 => ("BogBoardsModel", "farOf", "[I", true)
  | 16 => ("BogBoardsModel", "queue", "[I", true)
  | 17 => ("BogBoardsModel", "isGood", "[Z", true)
  | 18 => ("BogBoardsModel", "queued", "I", false)
  | 19 => ("BogBoardsModel", "bytes", "[I", true)
  | 20 => ("BogBoardsModel", "bytesLong", "I", false)
  | 21 => ("BogBoardsModel", "tokenAt", "I", false)
  | 22 => ("BogBoardsModel", "tokenLong", "I", false)
  | 23 => ("BogBoardsModel", "token", "I", false)
  | 24 => ("BogBoardsModel", "value", "I", false)
  | 25 => ("BogBoardsModel", "next", "[I", true)
  | 26 => ("BogBoardsModel", "nextWalkers", "I", false)
  | 27 => ("BogBoardsModel", "nextBoards", "I", false)
  | 28 => ("BogBoardsModel", "taken", "I", false)
  | 29 => ("BogBoardsModel", "place", "I", false)
  | 30 => ("BogBoardsModel", "fault", "I", false)
  | 31 => ("BogBoardsModel", "values", "[J", true)
  | 32 => ("BogBoardsModel", "valueMany", "I", false)
  | 33 => ("BogBoardsModel", "signs", "[I", true)
  | 34 => ("BogBoardsModel", "signMany", "I", false)
  | 35 => ("BogBoardsModel", "letters", "[J", true)
  | 36 => ("BogBoardsModel", "told", "J", false)
  | 37 => ("BogBoardsModel", "lostOne", "I", false)
  | _ => ("BogBoardsModel", "rounds", "I", false)
def tyX11 : Nat → FieldType := fun k => match k with
  | 0 => .array .int
  | 1 => .array .int
  | 2 => .array .boolean
  | 3 => .array .int
  | 4 => .array .long
  | 5 => .array .int
  | 6 => .int
  | 7 => .array .int
  | 8 => .array .int
  | 9 => .int
  | 10 => .int
  | 11 => .int
  | 12 => .int
  | 13 => .array .int
  | 14 => .array .int
  | 15 => .array .int
  | 16 => .array .int
  | 17 => .array .boolean
  | 18 => .int
  | 19 => .array .int
  | 20 => .int
  | 21 => .int
  | 22 => .int
  | 23 => .int
  | 24 => .int
  | 25 => .array .int
  | 26 => .int
  | 27 => .int
  | 28 => .int
  | 29 => .int
  | 30 => .int
  | 31 => .array .long
  | 32 => .int
  | 33 => .array .int
  | 34 => .int
  | 35 => .array .long
  | 36 => .long
  | 37 => .int
  | _ => .int
theorem nmX11 : ∀ a, a < 39 → ∀ b, b < 39 → a ≠ b → (TX11 a).2.1 ≠ (TX11 b).2.1 := by decide +kernel
theorem tyX11_ok : ∀ k, k < 39 → parseFieldDescriptor (TX11 k).2.2.1 = some (tyX11 k) := by decide +kernel
abbrev cX11_init : ByteArray := prog_13_method_1_code
def yX11_init : MethodName := ⟨RX11, "<init>", "()V"⟩
abbrev cX11_in : ByteArray := prog_13_method_3_code
def yX11_in : MethodName := ⟨RX11, "in", "(JJJ)Z"⟩
abbrev cX11_bad : ByteArray := prog_13_method_4_code
def yX11_bad : MethodName := ⟨RX11, "bad", "(I)I"⟩
abbrev cX11_no : ByteArray := prog_13_method_5_code
def yX11_no : MethodName := ⟨RX11, "no", "()I"⟩
abbrev cX11_full : ByteArray := prog_13_method_6_code
def yX11_full : MethodName := ⟨RX11, "full", "()I"⟩
abbrev cX11_set : ByteArray := prog_13_method_7_code
def yX11_set : MethodName := ⟨RX11, "set", "(IJ)V"⟩
abbrev cX11_copy : ByteArray := prog_13_method_8_code
def yX11_copy : MethodName := ⟨RX11, "copy", "(II)V"⟩
abbrev cX11_trim : ByteArray := prog_13_method_9_code
def yX11_trim : MethodName := ⟨RX11, "trim", "(I)V"⟩
abbrev cX11_times : ByteArray := prog_13_method_10_code
def yX11_times : MethodName := ⟨RX11, "times", "(IJ)V"⟩
abbrev cX11_compare : ByteArray := prog_13_method_11_code
def yX11_compare : MethodName := ⟨RX11, "compare", "(II)I"⟩
abbrev cX11_add : ByteArray := prog_13_method_12_code
def yX11_add : MethodName := ⟨RX11, "add", "(II)V"⟩
abbrev cX11_take : ByteArray := prog_13_method_13_code
def yX11_take : MethodName := ⟨RX11, "take", "(II)V"⟩
abbrev cX11_halve : ByteArray := prog_13_method_14_code
def yX11_halve : MethodName := ⟨RX11, "halve", "(I)V"⟩
abbrev cX11_isEven : ByteArray := prog_13_method_15_code
def yX11_isEven : MethodName := ⟨RX11, "isEven", "(I)Z"⟩
abbrev cX11_findDivisor : ByteArray := prog_13_method_16_code
def yX11_findDivisor : MethodName := ⟨RX11, "findDivisor", "(II)V"⟩
abbrev cX11_divide : ByteArray := prog_13_method_17_code
def yX11_divide : MethodName := ⟨RX11, "divide", "(I)V"⟩
abbrev cX11_addOne : ByteArray := prog_13_method_18_code
def yX11_addOne : MethodName := ⟨RX11, "addOne", "()V"⟩
abbrev cX11_tell : ByteArray := prog_13_method_19_code
def yX11_tell : MethodName := ⟨RX11, "tell", "(IIZ)V"⟩
abbrev cX11_walkers : ByteArray := prog_13_method_21_code
def yX11_walkers : MethodName := ⟨RX11, "walkers", "()I"⟩
abbrev cX11_boards : ByteArray := prog_13_method_22_code
def yX11_boards : MethodName := ⟨RX11, "boards", "()I"⟩
abbrev cX11_isWalker : ByteArray := prog_13_method_23_code
def yX11_isWalker : MethodName := ⟨RX11, "isWalker", "(I)Z"⟩
abbrev cX11_isBoard : ByteArray := prog_13_method_24_code
def yX11_isBoard : MethodName := ⟨RX11, "isBoard", "(I)Z"⟩
abbrev cX11_last : ByteArray := prog_13_method_25_code
def yX11_last : MethodName := ⟨RX11, "last", "()I"⟩
abbrev cX11_takeNow : ByteArray := prog_13_method_26_code
def yX11_takeNow : MethodName := ⟨RX11, "takeNow", "()V"⟩
abbrev cX11_putNow : ByteArray := prog_13_method_27_code
def yX11_putNow : MethodName := ⟨RX11, "putNow", "()V"⟩
abbrev cX11_longOf : ByteArray := prog_13_method_28_code
def yX11_longOf : MethodName := ⟨RX11, "longOf", "(II)I"⟩
abbrev cX11_longOfBoard : ByteArray := prog_13_method_29_code
def yX11_longOfBoard : MethodName := ⟨RX11, "longOfBoard", "(I)I"⟩
abbrev cX11_bears : ByteArray := prog_13_method_30_code
def yX11_bears : MethodName := ⟨RX11, "bears", "(I)I"⟩
abbrev cX11_isLaid : ByteArray := prog_13_method_31_code
def yX11_isLaid : MethodName := ⟨RX11, "isLaid", "(I)Z"⟩
abbrev cX11_covers : ByteArray := prog_13_method_32_code
def yX11_covers : MethodName := ⟨RX11, "covers", "(II)Z"⟩
abbrev cX11_hasBoard : ByteArray := prog_13_method_33_code
def yX11_hasBoard : MethodName := ⟨RX11, "hasBoard", "(I)Z"⟩
abbrev cX11_isFirm : ByteArray := prog_13_method_34_code
def yX11_isFirm : MethodName := ⟨RX11, "isFirm", "(I)Z"⟩
abbrev cX11_carries : ByteArray := prog_13_method_35_code
def yX11_carries : MethodName := ⟨RX11, "carries", "(I)I"⟩
abbrev cX11_countsOf : ByteArray := prog_13_method_36_code
def yX11_countsOf : MethodName := ⟨RX11, "countsOf", "(I)I"⟩
abbrev cX11_loadOn : ByteArray := prog_13_method_37_code
def yX11_loadOn : MethodName := ⟨RX11, "loadOn", "(I)I"⟩
abbrev cX11_isWell : ByteArray := prog_13_method_38_code
def yX11_isWell : MethodName := ⟨RX11, "isWell", "()Z"⟩
abbrev cX11_goalOf : ByteArray := prog_13_method_39_code
def yX11_goalOf : MethodName := ⟨RX11, "goalOf", "(I)I"⟩
abbrev cX11_isOver : ByteArray := prog_13_method_40_code
def yX11_isOver : MethodName := ⟨RX11, "isOver", "()Z"⟩
abbrev cX11_aheadBy : ByteArray := prog_13_method_41_code
def yX11_aheadBy : MethodName := ⟨RX11, "aheadBy", "(I)I"⟩
abbrev cX11_isThere : ByteArray := prog_13_method_42_code
def yX11_isThere : MethodName := ⟨RX11, "isThere", "()Z"⟩
abbrev cX11_isOnBoard : ByteArray := prog_13_method_43_code
def yX11_isOnBoard : MethodName := ⟨RX11, "isOnBoard", "(I)Z"⟩
abbrev cX11_anotherAt : ByteArray := prog_13_method_44_code
def yX11_anotherAt : MethodName := ⟨RX11, "anotherAt", "(II)Z"⟩
abbrev cX11_mayTake : ByteArray := prog_13_method_45_code
def yX11_mayTake : MethodName := ⟨RX11, "mayTake", "(II)Z"⟩
abbrev cX11_layFrom : ByteArray := prog_13_method_46_code
def yX11_layFrom : MethodName := ⟨RX11, "layFrom", "(III)I"⟩
abbrev cX11_mayLay : ByteArray := prog_13_method_47_code
def yX11_mayLay : MethodName := ⟨RX11, "mayLay", "(III)Z"⟩
abbrev cX11_mayHand : ByteArray := prog_13_method_48_code
def yX11_mayHand : MethodName := ⟨RX11, "mayHand", "(III)Z"⟩
abbrev cX11_canBe : ByteArray := prog_13_method_49_code
def yX11_canBe : MethodName := ⟨RX11, "canBe", "()Z"⟩
abbrev cX11_doIt : ByteArray := prog_13_method_50_code
def yX11_doIt : MethodName := ⟨RX11, "doIt", "()V"⟩
abbrev cX11_split : ByteArray := prog_13_method_51_code
def yX11_split : MethodName := ⟨RX11, "split", "(I)V"⟩
abbrev cX11_remember : ByteArray := prog_13_method_52_code
def yX11_remember : MethodName := ⟨RX11, "remember", "()V"⟩
abbrev cX11_goBack : ByteArray := prog_13_method_53_code
def yX11_goBack : MethodName := ⟨RX11, "goBack", "()V"⟩
abbrev cX11_tryAct : ByteArray := prog_13_method_54_code
def yX11_tryAct : MethodName := ⟨RX11, "tryAct", "()I"⟩
abbrev cX11_whyNow : ByteArray := prog_13_method_55_code
def yX11_whyNow : MethodName := ⟨RX11, "whyNow", "(I)I"⟩
abbrev cX11_why : ByteArray := prog_13_method_56_code
def yX11_why : MethodName := ⟨RX11, "why", "(I)I"⟩
abbrev cX11_act : ByteArray := prog_13_method_57_code
def yX11_act : MethodName := ⟨RX11, "act", "(I)I"⟩
abbrev cX11_undo : ByteArray := prog_13_method_58_code
def yX11_undo : MethodName := ⟨RX11, "undo", "()I"⟩
abbrev cX11_over : ByteArray := prog_13_method_59_code
def yX11_over : MethodName := ⟨RX11, "over", "()I"⟩
abbrev cX11_wrong : ByteArray := prog_13_method_60_code
def yX11_wrong : MethodName := ⟨RX11, "wrong", "(I)I"⟩
abbrev cX11_stateNow : ByteArray := prog_13_method_61_code
def yX11_stateNow : MethodName := ⟨RX11, "stateNow", "()I"⟩
abbrev cX11_takeState : ByteArray := prog_13_method_62_code
def yX11_takeState : MethodName := ⟨RX11, "takeState", "(I)V"⟩
abbrev cX11_nextAct : ByteArray := prog_13_method_63_code
def yX11_nextAct : MethodName := ⟨RX11, "nextAct", "(I)I"⟩
abbrev cX11_begin : ByteArray := prog_13_method_64_code
def yX11_begin : MethodName := ⟨RX11, "begin", "(I)V"⟩
abbrev cX11_findFewest : ByteArray := prog_13_method_65_code
def yX11_findFewest : MethodName := ⟨RX11, "findFewest", "(I)I"⟩
abbrev cX11_come : ByteArray := prog_13_method_66_code
def yX11_come : MethodName := ⟨RX11, "come", "(II)V"⟩
abbrev cX11_startOf : ByteArray := prog_13_method_67_code
def yX11_startOf : MethodName := ⟨RX11, "startOf", "()I"⟩
abbrev cX11_fewest : ByteArray := prog_13_method_68_code
def yX11_fewest : MethodName := ⟨RX11, "fewest", "()I"⟩
abbrev cX11_findGood : ByteArray := prog_13_method_69_code
def yX11_findGood : MethodName := ⟨RX11, "findGood", "(I)V"⟩
abbrev cX11_leadsOn : ByteArray := prog_13_method_70_code
def yX11_leadsOn : MethodName := ⟨RX11, "leadsOn", "(II)Z"⟩
abbrev cX11_row : ByteArray := prog_13_method_71_code
def yX11_row : MethodName := ⟨RX11, "row", "(I)I"⟩
abbrev cX11_takeWithout : ByteArray := prog_13_method_72_code
def yX11_takeWithout : MethodName := ⟨RX11, "takeWithout", "(I)Z"⟩
abbrev cX11_lost : ByteArray := prog_13_method_73_code
def yX11_lost : MethodName := ⟨RX11, "lost", "(I)I"⟩
abbrev cX11_leaps : ByteArray := prog_13_method_74_code
def yX11_leaps : MethodName := ⟨RX11, "leaps", "(I)I"⟩
abbrev cX11_leapFrom : ByteArray := prog_13_method_75_code
def yX11_leapFrom : MethodName := ⟨RX11, "leapFrom", "(II)V"⟩
abbrev cX11_type : ByteArray := prog_13_method_76_code
def yX11_type : MethodName := ⟨RX11, "type", "(JI)I"⟩
abbrev cX11_clear : ByteArray := prog_13_method_77_code
def yX11_clear : MethodName := ⟨RX11, "clear", "()I"⟩
abbrev cX11_isSmall : ByteArray := prog_13_method_78_code
def yX11_isSmall : MethodName := ⟨RX11, "isSmall", "(I)Z"⟩
abbrev cX11_isTen : ByteArray := prog_13_method_79_code
def yX11_isTen : MethodName := ⟨RX11, "isTen", "(I)Z"⟩
abbrev cX11_look : ByteArray := prog_13_method_80_code
def yX11_look : MethodName := ⟨RX11, "look", "(I)V"⟩
abbrev cX11_goOn : ByteArray := prog_13_method_81_code
def yX11_goOn : MethodName := ⟨RX11, "goOn", "()V"⟩
abbrev cX11_isWord : ByteArray := prog_13_method_82_code
def yX11_isWord : MethodName := ⟨RX11, "isWord", "(IIIIII)Z"⟩
abbrev cX11_takes : ByteArray := prog_13_method_83_code
def yX11_takes : MethodName := ⟨RX11, "takes", "(II)Z"⟩
abbrev cX11_readLast : ByteArray := prog_13_method_84_code
def yX11_readLast : MethodName := ⟨RX11, "readLast", "()Z"⟩
abbrev cX11_readIsland : ByteArray := prog_13_method_85_code
def yX11_readIsland : MethodName := ⟨RX11, "readIsland", "()Z"⟩
abbrev cX11_readWalker : ByteArray := prog_13_method_86_code
def yX11_readWalker : MethodName := ⟨RX11, "readWalker", "()Z"⟩
abbrev cX11_readBoard : ByteArray := prog_13_method_87_code
def yX11_readBoard : MethodName := ⟨RX11, "readBoard", "()Z"⟩
abbrev cX11_meetsBoard : ByteArray := prog_13_method_88_code
def yX11_meetsBoard : MethodName := ⟨RX11, "meetsBoard", "(II)Z"⟩
abbrev cX11_readItem : ByteArray := prog_13_method_89_code
def yX11_readItem : MethodName := ⟨RX11, "readItem", "()Z"⟩
abbrev cX11_read : ByteArray := prog_13_method_90_code
def yX11_read : MethodName := ⟨RX11, "read", "()I"⟩
abbrev cX11_putRead : ByteArray := prog_13_method_91_code
def yX11_putRead : MethodName := ⟨RX11, "putRead", "()Z"⟩
abbrev cX11_place : ByteArray := prog_13_method_92_code
def yX11_place : MethodName := ⟨RX11, "place", "(I)I"⟩
abbrev cX11_firm : ByteArray := prog_13_method_93_code
def yX11_firm : MethodName := ⟨RX11, "firm", "(I)I"⟩
abbrev cX11_walker : ByteArray := prog_13_method_94_code
def yX11_walker : MethodName := ⟨RX11, "walker", "(II)I"⟩
abbrev cX11_board : ByteArray := prog_13_method_95_code
def yX11_board : MethodName := ⟨RX11, "board", "(II)I"⟩
abbrev cX11_write : ByteArray := prog_13_method_96_code
def yX11_write : MethodName := ⟨RX11, "write", "(I)I"⟩
abbrev cX11_erase : ByteArray := prog_13_method_97_code
def yX11_erase : MethodName := ⟨RX11, "erase", "()I"⟩
abbrev cX11_textLong : ByteArray := prog_13_method_98_code
def yX11_textLong : MethodName := ⟨RX11, "textLong", "()I"⟩
abbrev cX11_charAt : ByteArray := prog_13_method_99_code
def yX11_charAt : MethodName := ⟨RX11, "charAt", "(I)I"⟩
abbrev cX11_ahead : ByteArray := prog_13_method_100_code
def yX11_ahead : MethodName := ⟨RX11, "ahead", "()I"⟩
abbrev cX11_rank : ByteArray := prog_13_method_101_code
def yX11_rank : MethodName := ⟨RX11, "rank", "(I)I"⟩
abbrev cX11_workOut : ByteArray := prog_13_method_102_code
def yX11_workOut : MethodName := ⟨RX11, "workOut", "()V"⟩
abbrev cX11_workDown : ByteArray := prog_13_method_103_code
def yX11_workDown : MethodName := ⟨RX11, "workDown", "(I)V"⟩
abbrev cX11_stands : ByteArray := prog_13_method_104_code
def yX11_stands : MethodName := ⟨RX11, "stands", "(J)V"⟩
abbrev cX11_letterOf : ByteArray := prog_13_method_105_code
def yX11_letterOf : MethodName := ⟨RX11, "letterOf", "(I)I"⟩
abbrev cX11_isFigure : ByteArray := prog_13_method_106_code
def yX11_isFigure : MethodName := ⟨RX11, "isFigure", "(I)Z"⟩
abbrev cX11_digits : ByteArray := prog_13_method_107_code
def yX11_digits : MethodName := ⟨RX11, "digits", "()J"⟩
abbrev cX11_reads : ByteArray := prog_13_method_108_code
def yX11_reads : MethodName := ⟨RX11, "reads", "()Z"⟩
abbrev cX11_fault : ByteArray := prog_13_method_109_code
def yX11_fault : MethodName := ⟨RX11, "fault", "()I"⟩
abbrev cX11_boardBehind : ByteArray := prog_13_method_110_code
def yX11_boardBehind : MethodName := ⟨RX11, "boardBehind", "(II)I"⟩
abbrev cX11_mayTakeOne : ByteArray := prog_13_method_111_code
def yX11_mayTakeOne : MethodName := ⟨RX11, "mayTakeOne", "(II)Z"⟩
abbrev cX11_setAct : ByteArray := prog_13_method_112_code
def yX11_setAct : MethodName := ⟨RX11, "setAct", "(IIII)V"⟩
abbrev cX11_layLetters : ByteArray := prog_13_method_113_code
def yX11_layLetters : MethodName := ⟨RX11, "layLetters", "(III)V"⟩
abbrev cX11_goesLost : ByteArray := prog_13_method_114_code
def yX11_goesLost : MethodName := ⟨RX11, "goesLost", "(II)Z"⟩
abbrev cX11_goMist : ByteArray := prog_13_method_115_code
def yX11_goMist : MethodName := ⟨RX11, "goMist", "(I)V"⟩
abbrev cX11_mist : ByteArray := prog_13_method_116_code
def yX11_mist : MethodName := ⟨RX11, "mist", "(II)I"⟩
abbrev cX11_years : ByteArray := prog_13_method_117_code
def yX11_years : MethodName := ⟨RX11, "years", "(III)I"⟩
abbrev cX11_sign : ByteArray := prog_13_method_118_code
def yX11_sign : MethodName := ⟨RX11, "sign", "(I)I"⟩
abbrev cX11_limb : ByteArray := prog_13_method_119_code
def yX11_limb : MethodName := ⟨RX11, "limb", "(II)I"⟩
abbrev cX11_image : ByteArray := prog_13_method_120_code
def yX11_image : MethodName := ⟨RX11, "image", "(I)I"⟩
abbrev cX11_from : ByteArray := prog_13_method_121_code
def yX11_from : MethodName := ⟨RX11, "from", "(I)I"⟩
abbrev cX11_status : ByteArray := prog_13_method_122_code
def yX11_status : MethodName := ⟨RX11, "status", "(I)I"⟩
abbrev cX11_counted : ByteArray := prog_13_method_123_code
def yX11_counted : MethodName := ⟨RX11, "counted", "(I)I"⟩
abbrev cX11_count : ByteArray := prog_13_method_124_code
def yX11_count : MethodName := ⟨RX11, "count", "(I)I"⟩
abbrev cX11_sums : ByteArray := prog_13_method_125_code
def yX11_sums : MethodName := ⟨RX11, "sums", "(JII)J"⟩
abbrev cX11_digest : ByteArray := prog_13_method_126_code
def yX11_digest : MethodName := ⟨RX11, "digest", "()J"⟩
def RJ9 : String := "java/lang/Math"
abbrev cJ9_floorMod_f86c9 : ByteArray := prog_14_method_52_code
def yJ9_floorMod_f86c9 : MethodName := ⟨RJ9, "floorMod", "(JJ)J"⟩
def RJ0 : String := "java/lang/String"
abbrev cJ0_length_8abf5 : ByteArray := prog_15_method_54_code
def yJ0_length_8abf5 : MethodName := ⟨RJ0, "length", "()I"⟩
abbrev cJ0_charAt_5068e : ByteArray := prog_15_method_56_code
def yJ0_charAt_5068e : MethodName := ⟨RJ0, "charAt", "(I)C"⟩
abbrev cJ0_coder_7d493 : ByteArray := prog_15_method_152_code
def yJ0_coder_7d493 : MethodName := ⟨RJ0, "coder", "()B"⟩
abbrev cJ0_isLatin1_aae02 : ByteArray := prog_15_method_154_code
def yJ0_isLatin1_aae02 : MethodName := ⟨RJ0, "isLatin1", "()Z"⟩
abbrev cJ0_checkIndex_df160 : ByteArray := prog_15_method_155_code
def yJ0_checkIndex_df160 : MethodName := ⟨RJ0, "checkIndex", "(II)V"⟩
def RJ1 : String := "java/lang/StringLatin1"
abbrev cJ1_charAt_3b067 : ByteArray := prog_16_method_2_code
def yJ1_charAt_3b067 : MethodName := ⟨RJ1, "charAt", "([BI)C"⟩
def RJ2 : String := "java/lang/StringUTF16"
abbrev cJ2_getChar_3b067 : ByteArray := prog_17_method_5_code
def yJ2_getChar_3b067 : MethodName := ⟨RJ2, "getChar", "([BI)C"⟩
abbrev cJ2_length_9d52b : ByteArray := prog_17_method_6_code
def yJ2_length_9d52b : MethodName := ⟨RJ2, "length", "([B)I"⟩
abbrev cJ2_charAt_3b067 : ByteArray := prog_17_method_83_code
def yJ2_charAt_3b067 : MethodName := ⟨RJ2, "charAt", "([BI)C"⟩
abbrev cJ2_checkIndex_2214a : ByteArray := prog_17_method_91_code
def yJ2_checkIndex_2214a : MethodName := ⟨RJ2, "checkIndex", "(I[B)V"⟩
def RJ10 : String := "java/lang/System"
def RJ3 : String := "jdk/internal/util/Preconditions"
abbrev cJ3_checkIndex_8e157 : ByteArray := prog_19_method_11_code
def yJ3_checkIndex_8e157 : MethodName := ⟨RJ3, "checkIndex", "(IILjava/util/function/BiFunction;)I"⟩
def RL : String := "BogBoardsLaw"
abbrev cL_law : ByteArray := code
def yL_law : MethodName := ⟨RL, "law", "([I)Z"⟩
abbrev vwCl : List vw_C := [(RX0, TX0, 12), (RX1, TX1, 5), (RX2, TX2, 4), (RX3, TX3, 4), (RX4, TX4, 2), (RX5, TX5, 9), (RX6, TX6, 13), (RX7, TX7, 6), (RX8, TX8, 2), (RX9, TX9, 6), (RX10, TX10, 14), (RX11, TX11, 39)]
