-- ===== PART A: goes FIRST, ahead of the names: the tables' words, and 'selects' of the private methods out of them =====
/-- a private method of a class that the tables say can be made, by its rows of tables_1 -/
def lw_okq (q : MethodName × Nat) : Prop := (q.1.cls ≠ "java/lang/invoke/MethodHandle" ∧ q.1.cls ≠ "java/lang/invoke/VarHandle") ∧ Cond.instantiable q.1.cls q.2 ∈ tables_1 ∧ Cond.privateMethod q.1 ∈ tables_1 ∧ Cond.instanceMethod q.1 ∈ tables_1
theorem lw_p0 : lw_okq (⟨"java/util/ArrayList", "add", "(Ljava/lang/Object;[Ljava/lang/Object;I)V"⟩, 3) := ⟨⟨by decide +kernel, by decide +kernel⟩, List.mem_of_getElem? (i := 48) (by decide +kernel), List.mem_of_getElem? (i := 443) (by decide +kernel), List.mem_of_getElem? (i := 444) (by decide +kernel)⟩
theorem lw_p1 : lw_okq (⟨"java/util/ArrayList", "grow", "()[Ljava/lang/Object;"⟩, 3) := ⟨⟨by decide +kernel, by decide +kernel⟩, List.mem_of_getElem? (i := 48) (by decide +kernel), List.mem_of_getElem? (i := 447) (by decide +kernel), List.mem_of_getElem? (i := 448) (by decide +kernel)⟩
theorem lw_p2 : lw_okq (⟨"java/util/ArrayList", "grow", "(I)[Ljava/lang/Object;"⟩, 3) := ⟨⟨by decide +kernel, by decide +kernel⟩, List.mem_of_getElem? (i := 48) (by decide +kernel), List.mem_of_getElem? (i := 451) (by decide +kernel), List.mem_of_getElem? (i := 452) (by decide +kernel)⟩
theorem lw_p3 : lw_okq (⟨"UnlikeBoats$Tape", "readClause", "()V"⟩, 10) := ⟨⟨by decide +kernel, by decide +kernel⟩, List.mem_of_getElem? (i := 141) (by decide +kernel), List.mem_of_getElem? (i := 553) (by decide +kernel), List.mem_of_getElem? (i := 554) (by decide +kernel)⟩
theorem lw_p4 : lw_okq (⟨"UnlikeBoats$Tape", "next", "()I"⟩, 10) := ⟨⟨by decide +kernel, by decide +kernel⟩, List.mem_of_getElem? (i := 141) (by decide +kernel), List.mem_of_getElem? (i := 557) (by decide +kernel), List.mem_of_getElem? (i := 558) (by decide +kernel)⟩
theorem lw_p5 : lw_okq (⟨"UnlikeBoats$Tape", "fail", "()V"⟩, 10) := ⟨⟨by decide +kernel, by decide +kernel⟩, List.mem_of_getElem? (i := 141) (by decide +kernel), List.mem_of_getElem? (i := 638) (by decide +kernel), List.mem_of_getElem? (i := 639) (by decide +kernel)⟩
theorem lw_p6 : lw_okq (⟨"UnlikeBoats$Tape", "take", "(I)V"⟩, 10) := ⟨⟨by decide +kernel, by decide +kernel⟩, List.mem_of_getElem? (i := 141) (by decide +kernel), List.mem_of_getElem? (i := 642) (by decide +kernel), List.mem_of_getElem? (i := 643) (by decide +kernel)⟩
theorem lw_p7 : lw_okq (⟨"UnlikeBoats$Tape", "readSum", "(I)V"⟩, 10) := ⟨⟨by decide +kernel, by decide +kernel⟩, List.mem_of_getElem? (i := 141) (by decide +kernel), List.mem_of_getElem? (i := 647) (by decide +kernel), List.mem_of_getElem? (i := 648) (by decide +kernel)⟩
theorem lw_p8 : lw_okq (⟨"UnlikeBoats$Tape", "readTerm", "(I)V"⟩, 10) := ⟨⟨by decide +kernel, by decide +kernel⟩, List.mem_of_getElem? (i := 141) (by decide +kernel), List.mem_of_getElem? (i := 651) (by decide +kernel), List.mem_of_getElem? (i := 652) (by decide +kernel)⟩
theorem lw_p9 : lw_okq (⟨"UnlikeBoats$Tape", "readAtom", "(I)V"⟩, 10) := ⟨⟨by decide +kernel, by decide +kernel⟩, List.mem_of_getElem? (i := 141) (by decide +kernel), List.mem_of_getElem? (i := 655) (by decide +kernel), List.mem_of_getElem? (i := 656) (by decide +kernel)⟩
theorem lw_p10 : lw_okq (⟨"UnlikeBoats$Tape", "readNumber", "()V"⟩, 10) := ⟨⟨by decide +kernel, by decide +kernel⟩, List.mem_of_getElem? (i := 141) (by decide +kernel), List.mem_of_getElem? (i := 662) (by decide +kernel), List.mem_of_getElem? (i := 663) (by decide +kernel)⟩
theorem lw_p11 : lw_okq (⟨"UnlikeBoats$Tape", "add", "(I)V"⟩, 10) := ⟨⟨by decide +kernel, by decide +kernel⟩, List.mem_of_getElem? (i := 141) (by decide +kernel), List.mem_of_getElem? (i := 666) (by decide +kernel), List.mem_of_getElem? (i := 667) (by decide +kernel)⟩
theorem lw_p12 : lw_okq (⟨"UnlikeBoats$Tape", "goDeeper", "(I)Z"⟩, 10) := ⟨⟨by decide +kernel, by decide +kernel⟩, List.mem_of_getElem? (i := 141) (by decide +kernel), List.mem_of_getElem? (i := 675) (by decide +kernel), List.mem_of_getElem? (i := 676) (by decide +kernel)⟩
theorem lw_p13 : lw_okq (⟨"UnlikeBoats$Tape", "readCondition", "(IZ)V"⟩, 10) := ⟨⟨by decide +kernel, by decide +kernel⟩, List.mem_of_getElem? (i := 141) (by decide +kernel), List.mem_of_getElem? (i := 685) (by decide +kernel), List.mem_of_getElem? (i := 686) (by decide +kernel)⟩
theorem lw_p14 : lw_okq (⟨"UnlikeBoats$Tape", "readPart", "(IZ)V"⟩, 10) := ⟨⟨by decide +kernel, by decide +kernel⟩, List.mem_of_getElem? (i := 141) (by decide +kernel), List.mem_of_getElem? (i := 689) (by decide +kernel), List.mem_of_getElem? (i := 690) (by decide +kernel)⟩
theorem lw_p15 : lw_okq (⟨"UnlikeBoats$Tape", "readUnit", "(IZ)V"⟩, 10) := ⟨⟨by decide +kernel, by decide +kernel⟩, List.mem_of_getElem? (i := 141) (by decide +kernel), List.mem_of_getElem? (i := 693) (by decide +kernel), List.mem_of_getElem? (i := 694) (by decide +kernel)⟩
def lw_privs_1 : List (MethodName × Nat) := [(⟨"java/util/ArrayList", "add", "(Ljava/lang/Object;[Ljava/lang/Object;I)V"⟩, 3), (⟨"java/util/ArrayList", "grow", "()[Ljava/lang/Object;"⟩, 3), (⟨"java/util/ArrayList", "grow", "(I)[Ljava/lang/Object;"⟩, 3), (⟨"UnlikeBoats$Tape", "readClause", "()V"⟩, 10), (⟨"UnlikeBoats$Tape", "next", "()I"⟩, 10), (⟨"UnlikeBoats$Tape", "fail", "()V"⟩, 10), (⟨"UnlikeBoats$Tape", "take", "(I)V"⟩, 10), (⟨"UnlikeBoats$Tape", "readSum", "(I)V"⟩, 10), (⟨"UnlikeBoats$Tape", "readTerm", "(I)V"⟩, 10), (⟨"UnlikeBoats$Tape", "readAtom", "(I)V"⟩, 10), (⟨"UnlikeBoats$Tape", "readNumber", "()V"⟩, 10), (⟨"UnlikeBoats$Tape", "add", "(I)V"⟩, 10), (⟨"UnlikeBoats$Tape", "goDeeper", "(I)Z"⟩, 10), (⟨"UnlikeBoats$Tape", "readCondition", "(IZ)V"⟩, 10), (⟨"UnlikeBoats$Tape", "readPart", "(IZ)V"⟩, 10), (⟨"UnlikeBoats$Tape", "readUnit", "(IZ)V"⟩, 10)]
theorem lw_r1 : ∀ q ∈ lw_privs_1, lw_okq q := List.forall_mem_cons.mpr ⟨lw_p0, List.forall_mem_cons.mpr ⟨lw_p1, List.forall_mem_cons.mpr ⟨lw_p2, List.forall_mem_cons.mpr ⟨lw_p3, List.forall_mem_cons.mpr ⟨lw_p4, List.forall_mem_cons.mpr ⟨lw_p5, List.forall_mem_cons.mpr ⟨lw_p6, List.forall_mem_cons.mpr ⟨lw_p7, List.forall_mem_cons.mpr ⟨lw_p8, List.forall_mem_cons.mpr ⟨lw_p9, List.forall_mem_cons.mpr ⟨lw_p10, List.forall_mem_cons.mpr ⟨lw_p11, List.forall_mem_cons.mpr ⟨lw_p12, List.forall_mem_cons.mpr ⟨lw_p13, List.forall_mem_cons.mpr ⟨lw_p14, List.forall_mem_cons.mpr ⟨lw_p15, fun _ h => absurd h List.not_mem_nil⟩⟩⟩⟩⟩⟩⟩⟩⟩⟩⟩⟩⟩⟩⟩⟩
theorem lw_p16 : lw_okq (⟨"UnlikeBoats$Tape", "readComparison", "(I)V"⟩, 10) := ⟨⟨by decide +kernel, by decide +kernel⟩, List.mem_of_getElem? (i := 141) (by decide +kernel), List.mem_of_getElem? (i := 697) (by decide +kernel), List.mem_of_getElem? (i := 698) (by decide +kernel)⟩
theorem lw_p17 : lw_okq (⟨"UnlikeBoats$Rules", "run", "(II[I[I)I"⟩, 6) := ⟨⟨by decide +kernel, by decide +kernel⟩, List.mem_of_getElem? (i := 709) (by decide +kernel), List.mem_of_getElem? (i := 776) (by decide +kernel), List.mem_of_getElem? (i := 777) (by decide +kernel)⟩
theorem lw_p18 : lw_okq (⟨"UnlikeBoats$Sheet", "placeOf", "(I)I"⟩, 9) := ⟨⟨by decide +kernel, by decide +kernel⟩, List.mem_of_getElem? (i := 179) (by decide +kernel), List.mem_of_getElem? (i := 964) (by decide +kernel), List.mem_of_getElem? (i := 965) (by decide +kernel)⟩
theorem lw_p19 : lw_okq (⟨"UnlikeBoats$Scores", "meanBeside", "(III)I"⟩, 10) := ⟨⟨by decide +kernel, by decide +kernel⟩, List.mem_of_getElem? (i := 221) (by decide +kernel), List.mem_of_getElem? (i := 1008) (by decide +kernel), List.mem_of_getElem? (i := 1009) (by decide +kernel)⟩
theorem lw_p20 : lw_okq (⟨"UnlikeBoats$Scores", "throwOutsIn", "(I)I"⟩, 10) := ⟨⟨by decide +kernel, by decide +kernel⟩, List.mem_of_getElem? (i := 221) (by decide +kernel), List.mem_of_getElem? (i := 1020) (by decide +kernel), List.mem_of_getElem? (i := 1021) (by decide +kernel)⟩
theorem lw_p21 : lw_okq (⟨"UnlikeBoats$Scores", "throwOut", "(II)V"⟩, 10) := ⟨⟨by decide +kernel, by decide +kernel⟩, List.mem_of_getElem? (i := 221) (by decide +kernel), List.mem_of_getElem? (i := 1029) (by decide +kernel), List.mem_of_getElem? (i := 1030) (by decide +kernel)⟩
theorem lw_p22 : lw_okq (⟨"UnlikeBoats$Scores", "worstOf", "(I)I"⟩, 10) := ⟨⟨by decide +kernel, by decide +kernel⟩, List.mem_of_getElem? (i := 221) (by decide +kernel), List.mem_of_getElem? (i := 1033) (by decide +kernel), List.mem_of_getElem? (i := 1034) (by decide +kernel)⟩
theorem lw_p23 : lw_okq (⟨"UnlikeBoats$Scores", "isBetter", "(II)Z"⟩, 10) := ⟨⟨by decide +kernel, by decide +kernel⟩, List.mem_of_getElem? (i := 221) (by decide +kernel), List.mem_of_getElem? (i := 1050) (by decide +kernel), List.mem_of_getElem? (i := 1051) (by decide +kernel)⟩
theorem lw_p24 : lw_okq (⟨"UnlikeBoats$Scores", "sortKept", "(I[I)I"⟩, 10) := ⟨⟨by decide +kernel, by decide +kernel⟩, List.mem_of_getElem? (i := 221) (by decide +kernel), List.mem_of_getElem? (i := 1054) (by decide +kernel), List.mem_of_getElem? (i := 1055) (by decide +kernel)⟩
theorem lw_p25 : lw_okq (⟨"UnlikeBoats$Hearing", "narrow", "(ILUnlikeBoats$Word;I)V"⟩, 10) := ⟨⟨by decide +kernel, by decide +kernel⟩, List.mem_of_getElem? (i := 262) (by decide +kernel), List.mem_of_getElem? (i := 1182) (by decide +kernel), List.mem_of_getElem? (i := 1183) (by decide +kernel)⟩
theorem lw_p26 : lw_okq (⟨"UnlikeBoats$Hearing", "gatherTacks", "()V"⟩, 10) := ⟨⟨by decide +kernel, by decide +kernel⟩, List.mem_of_getElem? (i := 262) (by decide +kernel), List.mem_of_getElem? (i := 1204) (by decide +kernel), List.mem_of_getElem? (i := 1205) (by decide +kernel)⟩
theorem lw_p27 : lw_okq (⟨"UnlikeBoats$Hearing", "starboard", "(I)I"⟩, 10) := ⟨⟨by decide +kernel, by decide +kernel⟩, List.mem_of_getElem? (i := 262) (by decide +kernel), List.mem_of_getElem? (i := 1208) (by decide +kernel), List.mem_of_getElem? (i := 1209) (by decide +kernel)⟩
theorem lw_p28 : lw_okq (⟨"UnlikeBoats$Hearing", "faultsFrom", "(II)I"⟩, 10) := ⟨⟨by decide +kernel, by decide +kernel⟩, List.mem_of_getElem? (i := 262) (by decide +kernel), List.mem_of_getElem? (i := 1212) (by decide +kernel), List.mem_of_getElem? (i := 1213) (by decide +kernel)⟩
theorem lw_p29 : lw_okq (⟨"UnlikeBoats$Hearing", "faultsOnTacks", "()I"⟩, 10) := ⟨⟨by decide +kernel, by decide +kernel⟩, List.mem_of_getElem? (i := 262) (by decide +kernel), List.mem_of_getElem? (i := 1224) (by decide +kernel), List.mem_of_getElem? (i := 1225) (by decide +kernel)⟩
theorem lw_p30 : lw_okq (⟨"UnlikeBoats$Office", "gatherChanged", "(I)V"⟩, 18) := ⟨⟨by decide +kernel, by decide +kernel⟩, List.mem_of_getElem? (i := 299) (by decide +kernel), List.mem_of_getElem? (i := 1269) (by decide +kernel), List.mem_of_getElem? (i := 1270) (by decide +kernel)⟩
theorem lw_p31 : lw_okq (⟨"UnlikeBoats$Office", "spreadTried", "(I)I"⟩, 18) := ⟨⟨by decide +kernel, by decide +kernel⟩, List.mem_of_getElem? (i := 299) (by decide +kernel), List.mem_of_getElem? (i := 1281) (by decide +kernel), List.mem_of_getElem? (i := 1282) (by decide +kernel)⟩
def lw_privs_2 : List (MethodName × Nat) := [(⟨"UnlikeBoats$Tape", "readComparison", "(I)V"⟩, 10), (⟨"UnlikeBoats$Rules", "run", "(II[I[I)I"⟩, 6), (⟨"UnlikeBoats$Sheet", "placeOf", "(I)I"⟩, 9), (⟨"UnlikeBoats$Scores", "meanBeside", "(III)I"⟩, 10), (⟨"UnlikeBoats$Scores", "throwOutsIn", "(I)I"⟩, 10), (⟨"UnlikeBoats$Scores", "throwOut", "(II)V"⟩, 10), (⟨"UnlikeBoats$Scores", "worstOf", "(I)I"⟩, 10), (⟨"UnlikeBoats$Scores", "isBetter", "(II)Z"⟩, 10), (⟨"UnlikeBoats$Scores", "sortKept", "(I[I)I"⟩, 10), (⟨"UnlikeBoats$Hearing", "narrow", "(ILUnlikeBoats$Word;I)V"⟩, 10), (⟨"UnlikeBoats$Hearing", "gatherTacks", "()V"⟩, 10), (⟨"UnlikeBoats$Hearing", "starboard", "(I)I"⟩, 10), (⟨"UnlikeBoats$Hearing", "faultsFrom", "(II)I"⟩, 10), (⟨"UnlikeBoats$Hearing", "faultsOnTacks", "()I"⟩, 10), (⟨"UnlikeBoats$Office", "gatherChanged", "(I)V"⟩, 18), (⟨"UnlikeBoats$Office", "spreadTried", "(I)I"⟩, 18)]
theorem lw_r2 : ∀ q ∈ lw_privs_2, lw_okq q := List.forall_mem_cons.mpr ⟨lw_p16, List.forall_mem_cons.mpr ⟨lw_p17, List.forall_mem_cons.mpr ⟨lw_p18, List.forall_mem_cons.mpr ⟨lw_p19, List.forall_mem_cons.mpr ⟨lw_p20, List.forall_mem_cons.mpr ⟨lw_p21, List.forall_mem_cons.mpr ⟨lw_p22, List.forall_mem_cons.mpr ⟨lw_p23, List.forall_mem_cons.mpr ⟨lw_p24, List.forall_mem_cons.mpr ⟨lw_p25, List.forall_mem_cons.mpr ⟨lw_p26, List.forall_mem_cons.mpr ⟨lw_p27, List.forall_mem_cons.mpr ⟨lw_p28, List.forall_mem_cons.mpr ⟨lw_p29, List.forall_mem_cons.mpr ⟨lw_p30, List.forall_mem_cons.mpr ⟨lw_p31, fun _ h => absurd h List.not_mem_nil⟩⟩⟩⟩⟩⟩⟩⟩⟩⟩⟩⟩⟩⟩⟩⟩
theorem lw_p32 : lw_okq (⟨"UnlikeBoats$Office", "gather", "(I)I"⟩, 18) := ⟨⟨by decide +kernel, by decide +kernel⟩, List.mem_of_getElem? (i := 299) (by decide +kernel), List.mem_of_getElem? (i := 1313) (by decide +kernel), List.mem_of_getElem? (i := 1314) (by decide +kernel)⟩
theorem lw_p33 : lw_okq (⟨"UnlikeBoats$Office", "jumpAt", "(II)I"⟩, 18) := ⟨⟨by decide +kernel, by decide +kernel⟩, List.mem_of_getElem? (i := 299) (by decide +kernel), List.mem_of_getElem? (i := 1326) (by decide +kernel), List.mem_of_getElem? (i := 1327) (by decide +kernel)⟩
theorem lw_p34 : lw_okq (⟨"UnlikeBoats$Office", "meanOf", "(II)I"⟩, 18) := ⟨⟨by decide +kernel, by decide +kernel⟩, List.mem_of_getElem? (i := 299) (by decide +kernel), List.mem_of_getElem? (i := 1330) (by decide +kernel), List.mem_of_getElem? (i := 1331) (by decide +kernel)⟩
theorem lw_p35 : lw_okq (⟨"UnlikeBoats$Office", "boatWithin", "(I)I"⟩, 18) := ⟨⟨by decide +kernel, by decide +kernel⟩, List.mem_of_getElem? (i := 299) (by decide +kernel), List.mem_of_getElem? (i := 1374) (by decide +kernel), List.mem_of_getElem? (i := 1375) (by decide +kernel)⟩
theorem lw_p36 : lw_okq (⟨"java/lang/Throwable", "fillInStackTrace", "(I)Ljava/lang/Throwable;"⟩, 6) := ⟨⟨by decide +kernel, by decide +kernel⟩, List.mem_of_getElem? (i := 1431) (by decide +kernel), List.mem_of_getElem? (i := 1429) (by decide +kernel), List.mem_of_getElem? (i := 1430) (by decide +kernel)⟩
theorem lw_p37 : lw_okq (⟨"UnlikeBoatsModel", "isBoat", "(I)Z"⟩, 97) := ⟨⟨by decide +kernel, by decide +kernel⟩, List.mem_of_getElem? (i := 1463) (by decide +kernel), List.mem_of_getElem? (i := 1780) (by decide +kernel), List.mem_of_getElem? (i := 1781) (by decide +kernel)⟩
theorem lw_p38 : lw_okq (⟨"UnlikeBoatsModel", "isKnown", "(I)Z"⟩, 97) := ⟨⟨by decide +kernel, by decide +kernel⟩, List.mem_of_getElem? (i := 1463) (by decide +kernel), List.mem_of_getElem? (i := 1791) (by decide +kernel), List.mem_of_getElem? (i := 1792) (by decide +kernel)⟩
theorem lw_p39 : lw_okq (⟨"UnlikeBoatsModel", "certOn", "(III)I"⟩, 97) := ⟨⟨by decide +kernel, by decide +kernel⟩, List.mem_of_getElem? (i := 1463) (by decide +kernel), List.mem_of_getElem? (i := 1795) (by decide +kernel), List.mem_of_getElem? (i := 1796) (by decide +kernel)⟩
theorem lw_p40 : lw_okq (⟨"UnlikeBoatsModel", "put", "(I)V"⟩, 97) := ⟨⟨by decide +kernel, by decide +kernel⟩, List.mem_of_getElem? (i := 1463) (by decide +kernel), List.mem_of_getElem? (i := 1806) (by decide +kernel), List.mem_of_getElem? (i := 1807) (by decide +kernel)⟩
theorem lw_p41 : lw_okq (⟨"UnlikeBoatsModel", "goThrough", "([BIII)V"⟩, 97) := ⟨⟨by decide +kernel, by decide +kernel⟩, List.mem_of_getElem? (i := 1463) (by decide +kernel), List.mem_of_getElem? (i := 1818) (by decide +kernel), List.mem_of_getElem? (i := 1819) (by decide +kernel)⟩
theorem lw_p42 : lw_okq (⟨"UnlikeBoatsModel", "clause", "()V"⟩, 97) := ⟨⟨by decide +kernel, by decide +kernel⟩, List.mem_of_getElem? (i := 1463) (by decide +kernel), List.mem_of_getElem? (i := 1822) (by decide +kernel), List.mem_of_getElem? (i := 1823) (by decide +kernel)⟩
theorem lw_p43 : lw_okq (⟨"UnlikeBoatsModel", "look", "()I"⟩, 97) := ⟨⟨by decide +kernel, by decide +kernel⟩, List.mem_of_getElem? (i := 1463) (by decide +kernel), List.mem_of_getElem? (i := 1826) (by decide +kernel), List.mem_of_getElem? (i := 1827) (by decide +kernel)⟩
theorem lw_p44 : lw_okq (⟨"UnlikeBoatsModel", "stop", "()Z"⟩, 97) := ⟨⟨by decide +kernel, by decide +kernel⟩, List.mem_of_getElem? (i := 1463) (by decide +kernel), List.mem_of_getElem? (i := 1832) (by decide +kernel), List.mem_of_getElem? (i := 1833) (by decide +kernel)⟩
theorem lw_p45 : lw_okq (⟨"UnlikeBoatsModel", "takes", "(I)Z"⟩, 97) := ⟨⟨by decide +kernel, by decide +kernel⟩, List.mem_of_getElem? (i := 1463) (by decide +kernel), List.mem_of_getElem? (i := 1836) (by decide +kernel), List.mem_of_getElem? (i := 1837) (by decide +kernel)⟩
theorem lw_p46 : lw_okq (⟨"UnlikeBoatsModel", "condition", "(ZI)Z"⟩, 97) := ⟨⟨by decide +kernel, by decide +kernel⟩, List.mem_of_getElem? (i := 1463) (by decide +kernel), List.mem_of_getElem? (i := 1840) (by decide +kernel), List.mem_of_getElem? (i := 1841) (by decide +kernel)⟩
theorem lw_p47 : lw_okq (⟨"UnlikeBoatsModel", "part", "(ZI)Z"⟩, 97) := ⟨⟨by decide +kernel, by decide +kernel⟩, List.mem_of_getElem? (i := 1463) (by decide +kernel), List.mem_of_getElem? (i := 1844) (by decide +kernel), List.mem_of_getElem? (i := 1845) (by decide +kernel)⟩
def lw_privs_3 : List (MethodName × Nat) := [(⟨"UnlikeBoats$Office", "gather", "(I)I"⟩, 18), (⟨"UnlikeBoats$Office", "jumpAt", "(II)I"⟩, 18), (⟨"UnlikeBoats$Office", "meanOf", "(II)I"⟩, 18), (⟨"UnlikeBoats$Office", "boatWithin", "(I)I"⟩, 18), (⟨"java/lang/Throwable", "fillInStackTrace", "(I)Ljava/lang/Throwable;"⟩, 6), (⟨"UnlikeBoatsModel", "isBoat", "(I)Z"⟩, 97), (⟨"UnlikeBoatsModel", "isKnown", "(I)Z"⟩, 97), (⟨"UnlikeBoatsModel", "certOn", "(III)I"⟩, 97), (⟨"UnlikeBoatsModel", "put", "(I)V"⟩, 97), (⟨"UnlikeBoatsModel", "goThrough", "([BIII)V"⟩, 97), (⟨"UnlikeBoatsModel", "clause", "()V"⟩, 97), (⟨"UnlikeBoatsModel", "look", "()I"⟩, 97), (⟨"UnlikeBoatsModel", "stop", "()Z"⟩, 97), (⟨"UnlikeBoatsModel", "takes", "(I)Z"⟩, 97), (⟨"UnlikeBoatsModel", "condition", "(ZI)Z"⟩, 97), (⟨"UnlikeBoatsModel", "part", "(ZI)Z"⟩, 97)]
theorem lw_r3 : ∀ q ∈ lw_privs_3, lw_okq q := List.forall_mem_cons.mpr ⟨lw_p32, List.forall_mem_cons.mpr ⟨lw_p33, List.forall_mem_cons.mpr ⟨lw_p34, List.forall_mem_cons.mpr ⟨lw_p35, List.forall_mem_cons.mpr ⟨lw_p36, List.forall_mem_cons.mpr ⟨lw_p37, List.forall_mem_cons.mpr ⟨lw_p38, List.forall_mem_cons.mpr ⟨lw_p39, List.forall_mem_cons.mpr ⟨lw_p40, List.forall_mem_cons.mpr ⟨lw_p41, List.forall_mem_cons.mpr ⟨lw_p42, List.forall_mem_cons.mpr ⟨lw_p43, List.forall_mem_cons.mpr ⟨lw_p44, List.forall_mem_cons.mpr ⟨lw_p45, List.forall_mem_cons.mpr ⟨lw_p46, List.forall_mem_cons.mpr ⟨lw_p47, fun _ h => absurd h List.not_mem_nil⟩⟩⟩⟩⟩⟩⟩⟩⟩⟩⟩⟩⟩⟩⟩⟩
theorem lw_p48 : lw_okq (⟨"UnlikeBoatsModel", "compares", "(ZI)Z"⟩, 97) := ⟨⟨by decide +kernel, by decide +kernel⟩, List.mem_of_getElem? (i := 1463) (by decide +kernel), List.mem_of_getElem? (i := 1848) (by decide +kernel), List.mem_of_getElem? (i := 1849) (by decide +kernel)⟩
theorem lw_p49 : lw_okq (⟨"UnlikeBoatsModel", "sum", "()I"⟩, 97) := ⟨⟨by decide +kernel, by decide +kernel⟩, List.mem_of_getElem? (i := 1463) (by decide +kernel), List.mem_of_getElem? (i := 1852) (by decide +kernel), List.mem_of_getElem? (i := 1853) (by decide +kernel)⟩
theorem lw_p50 : lw_okq (⟨"UnlikeBoatsModel", "term", "()I"⟩, 97) := ⟨⟨by decide +kernel, by decide +kernel⟩, List.mem_of_getElem? (i := 1463) (by decide +kernel), List.mem_of_getElem? (i := 1856) (by decide +kernel), List.mem_of_getElem? (i := 1857) (by decide +kernel)⟩
theorem lw_p51 : lw_okq (⟨"UnlikeBoatsModel", "atom", "()I"⟩, 97) := ⟨⟨by decide +kernel, by decide +kernel⟩, List.mem_of_getElem? (i := 1463) (by decide +kernel), List.mem_of_getElem? (i := 1860) (by decide +kernel), List.mem_of_getElem? (i := 1861) (by decide +kernel)⟩
theorem lw_p52 : lw_okq (⟨"UnlikeBoatsModel", "goesIn", "()Z"⟩, 97) := ⟨⟨by decide +kernel, by decide +kernel⟩, List.mem_of_getElem? (i := 1463) (by decide +kernel), List.mem_of_getElem? (i := 1865) (by decide +kernel), List.mem_of_getElem? (i := 1866) (by decide +kernel)⟩
theorem lw_p53 : lw_okq (⟨"UnlikeBoatsModel", "isDigit", "()Z"⟩, 97) := ⟨⟨by decide +kernel, by decide +kernel⟩, List.mem_of_getElem? (i := 1463) (by decide +kernel), List.mem_of_getElem? (i := 1869) (by decide +kernel), List.mem_of_getElem? (i := 1870) (by decide +kernel)⟩
theorem lw_p54 : lw_okq (⟨"UnlikeBoatsModel", "unit", "()Z"⟩, 97) := ⟨⟨by decide +kernel, by decide +kernel⟩, List.mem_of_getElem? (i := 1463) (by decide +kernel), List.mem_of_getElem? (i := 1887) (by decide +kernel), List.mem_of_getElem? (i := 1888) (by decide +kernel)⟩
theorem lw_p55 : lw_okq (⟨"UnlikeBoatsModel", "rulesOn", "(II)I"⟩, 97) := ⟨⟨by decide +kernel, by decide +kernel⟩, List.mem_of_getElem? (i := 1463) (by decide +kernel), List.mem_of_getElem? (i := 1899) (by decide +kernel), List.mem_of_getElem? (i := 1900) (by decide +kernel)⟩
theorem lw_p56 : lw_okq (⟨"UnlikeBoatsModel", "numberOf", "(III)I"⟩, 97) := ⟨⟨by decide +kernel, by decide +kernel⟩, List.mem_of_getElem? (i := 1463) (by decide +kernel), List.mem_of_getElem? (i := 1907) (by decide +kernel), List.mem_of_getElem? (i := 1908) (by decide +kernel)⟩
theorem lw_p57 : lw_okq (⟨"UnlikeBoatsModel", "clear", "()V"⟩, 97) := ⟨⟨by decide +kernel, by decide +kernel⟩, List.mem_of_getElem? (i := 1463) (by decide +kernel), List.mem_of_getElem? (i := 1911) (by decide +kernel), List.mem_of_getElem? (i := 1912) (by decide +kernel)⟩
theorem lw_p58 : lw_okq (⟨"UnlikeBoatsModel", "worth", "(III)I"⟩, 97) := ⟨⟨by decide +kernel, by decide +kernel⟩, List.mem_of_getElem? (i := 1463) (by decide +kernel), List.mem_of_getElem? (i := 1915) (by decide +kernel), List.mem_of_getElem? (i := 1916) (by decide +kernel)⟩
theorem lw_p59 : lw_okq (⟨"UnlikeBoatsModel", "isRace", "(I)Z"⟩, 97) := ⟨⟨by decide +kernel, by decide +kernel⟩, List.mem_of_getElem? (i := 1463) (by decide +kernel), List.mem_of_getElem? (i := 1929) (by decide +kernel), List.mem_of_getElem? (i := 1930) (by decide +kernel)⟩
theorem lw_p60 : lw_okq (⟨"UnlikeBoatsModel", "isEntered", "(III)Z"⟩, 97) := ⟨⟨by decide +kernel, by decide +kernel⟩, List.mem_of_getElem? (i := 1463) (by decide +kernel), List.mem_of_getElem? (i := 1937) (by decide +kernel), List.mem_of_getElem? (i := 1938) (by decide +kernel)⟩
theorem lw_p61 : lw_okq (⟨"UnlikeBoatsModel", "isEntry", "(II)Z"⟩, 97) := ⟨⟨by decide +kernel, by decide +kernel⟩, List.mem_of_getElem? (i := 1463) (by decide +kernel), List.mem_of_getElem? (i := 1945) (by decide +kernel), List.mem_of_getElem? (i := 1946) (by decide +kernel)⟩
theorem lw_p62 : lw_okq (⟨"UnlikeBoatsModel", "asksEntry", "(III)Z"⟩, 97) := ⟨⟨by decide +kernel, by decide +kernel⟩, List.mem_of_getElem? (i := 1463) (by decide +kernel), List.mem_of_getElem? (i := 1954) (by decide +kernel), List.mem_of_getElem? (i := 1955) (by decide +kernel)⟩
theorem lw_p63 : lw_okq (⟨"UnlikeBoatsModel", "asks", "(III)Z"⟩, 97) := ⟨⟨by decide +kernel, by decide +kernel⟩, List.mem_of_getElem? (i := 1463) (by decide +kernel), List.mem_of_getElem? (i := 1958) (by decide +kernel), List.mem_of_getElem? (i := 1959) (by decide +kernel)⟩
def lw_privs_4 : List (MethodName × Nat) := [(⟨"UnlikeBoatsModel", "compares", "(ZI)Z"⟩, 97), (⟨"UnlikeBoatsModel", "sum", "()I"⟩, 97), (⟨"UnlikeBoatsModel", "term", "()I"⟩, 97), (⟨"UnlikeBoatsModel", "atom", "()I"⟩, 97), (⟨"UnlikeBoatsModel", "goesIn", "()Z"⟩, 97), (⟨"UnlikeBoatsModel", "isDigit", "()Z"⟩, 97), (⟨"UnlikeBoatsModel", "unit", "()Z"⟩, 97), (⟨"UnlikeBoatsModel", "rulesOn", "(II)I"⟩, 97), (⟨"UnlikeBoatsModel", "numberOf", "(III)I"⟩, 97), (⟨"UnlikeBoatsModel", "clear", "()V"⟩, 97), (⟨"UnlikeBoatsModel", "worth", "(III)I"⟩, 97), (⟨"UnlikeBoatsModel", "isRace", "(I)Z"⟩, 97), (⟨"UnlikeBoatsModel", "isEntered", "(III)Z"⟩, 97), (⟨"UnlikeBoatsModel", "isEntry", "(II)Z"⟩, 97), (⟨"UnlikeBoatsModel", "asksEntry", "(III)Z"⟩, 97), (⟨"UnlikeBoatsModel", "asks", "(III)Z"⟩, 97)]
theorem lw_r4 : ∀ q ∈ lw_privs_4, lw_okq q := List.forall_mem_cons.mpr ⟨lw_p48, List.forall_mem_cons.mpr ⟨lw_p49, List.forall_mem_cons.mpr ⟨lw_p50, List.forall_mem_cons.mpr ⟨lw_p51, List.forall_mem_cons.mpr ⟨lw_p52, List.forall_mem_cons.mpr ⟨lw_p53, List.forall_mem_cons.mpr ⟨lw_p54, List.forall_mem_cons.mpr ⟨lw_p55, List.forall_mem_cons.mpr ⟨lw_p56, List.forall_mem_cons.mpr ⟨lw_p57, List.forall_mem_cons.mpr ⟨lw_p58, List.forall_mem_cons.mpr ⟨lw_p59, List.forall_mem_cons.mpr ⟨lw_p60, List.forall_mem_cons.mpr ⟨lw_p61, List.forall_mem_cons.mpr ⟨lw_p62, List.forall_mem_cons.mpr ⟨lw_p63, fun _ h => absurd h List.not_mem_nil⟩⟩⟩⟩⟩⟩⟩⟩⟩⟩⟩⟩⟩⟩⟩⟩
theorem lw_p64 : lw_okq (⟨"UnlikeBoatsModel", "codeOf", "(III)I"⟩, 97) := ⟨⟨by decide +kernel, by decide +kernel⟩, List.mem_of_getElem? (i := 1463) (by decide +kernel), List.mem_of_getElem? (i := 1962) (by decide +kernel), List.mem_of_getElem? (i := 1963) (by decide +kernel)⟩
theorem lw_p65 : lw_okq (⟨"UnlikeBoatsModel", "isOut", "(III)Z"⟩, 97) := ⟨⟨by decide +kernel, by decide +kernel⟩, List.mem_of_getElem? (i := 1463) (by decide +kernel), List.mem_of_getElem? (i := 1966) (by decide +kernel), List.mem_of_getElem? (i := 1967) (by decide +kernel)⟩
theorem lw_p66 : lw_okq (⟨"UnlikeBoatsModel", "resultOf", "(III)I"⟩, 97) := ⟨⟨by decide +kernel, by decide +kernel⟩, List.mem_of_getElem? (i := 1463) (by decide +kernel), List.mem_of_getElem? (i := 1970) (by decide +kernel), List.mem_of_getElem? (i := 1971) (by decide +kernel)⟩
theorem lw_p67 : lw_okq (⟨"UnlikeBoatsModel", "correctedOf", "(III)I"⟩, 97) := ⟨⟨by decide +kernel, by decide +kernel⟩, List.mem_of_getElem? (i := 1463) (by decide +kernel), List.mem_of_getElem? (i := 1978) (by decide +kernel), List.mem_of_getElem? (i := 1979) (by decide +kernel)⟩
theorem lw_p68 : lw_okq (⟨"UnlikeBoatsModel", "secondsOf", "(III)I"⟩, 97) := ⟨⟨by decide +kernel, by decide +kernel⟩, List.mem_of_getElem? (i := 1463) (by decide +kernel), List.mem_of_getElem? (i := 1982) (by decide +kernel), List.mem_of_getElem? (i := 1983) (by decide +kernel)⟩
theorem lw_p69 : lw_okq (⟨"UnlikeBoatsModel", "correct", "(III)I"⟩, 97) := ⟨⟨by decide +kernel, by decide +kernel⟩, List.mem_of_getElem? (i := 1463) (by decide +kernel), List.mem_of_getElem? (i := 1986) (by decide +kernel), List.mem_of_getElem? (i := 1987) (by decide +kernel)⟩
theorem lw_p70 : lw_okq (⟨"UnlikeBoatsModel", "placeOf", "(III)I"⟩, 97) := ⟨⟨by decide +kernel, by decide +kernel⟩, List.mem_of_getElem? (i := 1463) (by decide +kernel), List.mem_of_getElem? (i := 1995) (by decide +kernel), List.mem_of_getElem? (i := 1996) (by decide +kernel)⟩
theorem lw_p71 : lw_okq (⟨"UnlikeBoatsModel", "hasRedress", "(III)Z"⟩, 97) := ⟨⟨by decide +kernel, by decide +kernel⟩, List.mem_of_getElem? (i := 1463) (by decide +kernel), List.mem_of_getElem? (i := 2003) (by decide +kernel), List.mem_of_getElem? (i := 2004) (by decide +kernel)⟩
theorem lw_p72 : lw_okq (⟨"UnlikeBoatsModel", "pointsOf", "(III)I"⟩, 97) := ⟨⟨by decide +kernel, by decide +kernel⟩, List.mem_of_getElem? (i := 1463) (by decide +kernel), List.mem_of_getElem? (i := 2011) (by decide +kernel), List.mem_of_getElem? (i := 2012) (by decide +kernel)⟩
theorem lw_p73 : lw_okq (⟨"UnlikeBoatsModel", "pointsByText", "(III)I"⟩, 97) := ⟨⟨by decide +kernel, by decide +kernel⟩, List.mem_of_getElem? (i := 1463) (by decide +kernel), List.mem_of_getElem? (i := 2015) (by decide +kernel), List.mem_of_getElem? (i := 2016) (by decide +kernel)⟩
theorem lw_p74 : lw_okq (⟨"UnlikeBoatsModel", "score", "(I)Z"⟩, 97) := ⟨⟨by decide +kernel, by decide +kernel⟩, List.mem_of_getElem? (i := 1463) (by decide +kernel), List.mem_of_getElem? (i := 2023) (by decide +kernel), List.mem_of_getElem? (i := 2024) (by decide +kernel)⟩
theorem lw_p75 : lw_okq (⟨"UnlikeBoatsModel", "isBetter", "(II)Z"⟩, 97) := ⟨⟨by decide +kernel, by decide +kernel⟩, List.mem_of_getElem? (i := 1463) (by decide +kernel), List.mem_of_getElem? (i := 2035) (by decide +kernel), List.mem_of_getElem? (i := 2036) (by decide +kernel)⟩
theorem lw_p76 : lw_okq (⟨"UnlikeBoatsModel", "sorted", "(I[I)I"⟩, 97) := ⟨⟨by decide +kernel, by decide +kernel⟩, List.mem_of_getElem? (i := 1463) (by decide +kernel), List.mem_of_getElem? (i := 2039) (by decide +kernel), List.mem_of_getElem? (i := 2040) (by decide +kernel)⟩
theorem lw_p77 : lw_okq (⟨"UnlikeBoatsModel", "asksProtest", "(III)Z"⟩, 97) := ⟨⟨by decide +kernel, by decide +kernel⟩, List.mem_of_getElem? (i := 1463) (by decide +kernel), List.mem_of_getElem? (i := 2056) (by decide +kernel), List.mem_of_getElem? (i := 2057) (by decide +kernel)⟩
theorem lw_p78 : lw_okq (⟨"UnlikeBoatsModel", "findStates", "(IIIII)V"⟩, 97) := ⟨⟨by decide +kernel, by decide +kernel⟩, List.mem_of_getElem? (i := 1463) (by decide +kernel), List.mem_of_getElem? (i := 2060) (by decide +kernel), List.mem_of_getElem? (i := 2061) (by decide +kernel)⟩
theorem lw_p79 : lw_okq (⟨"UnlikeBoatsModel", "farFrom", "(III)I"⟩, 97) := ⟨⟨by decide +kernel, by decide +kernel⟩, List.mem_of_getElem? (i := 1463) (by decide +kernel), List.mem_of_getElem? (i := 2064) (by decide +kernel), List.mem_of_getElem? (i := 2065) (by decide +kernel)⟩
def lw_privs_5 : List (MethodName × Nat) := [(⟨"UnlikeBoatsModel", "codeOf", "(III)I"⟩, 97), (⟨"UnlikeBoatsModel", "isOut", "(III)Z"⟩, 97), (⟨"UnlikeBoatsModel", "resultOf", "(III)I"⟩, 97), (⟨"UnlikeBoatsModel", "correctedOf", "(III)I"⟩, 97), (⟨"UnlikeBoatsModel", "secondsOf", "(III)I"⟩, 97), (⟨"UnlikeBoatsModel", "correct", "(III)I"⟩, 97), (⟨"UnlikeBoatsModel", "placeOf", "(III)I"⟩, 97), (⟨"UnlikeBoatsModel", "hasRedress", "(III)Z"⟩, 97), (⟨"UnlikeBoatsModel", "pointsOf", "(III)I"⟩, 97), (⟨"UnlikeBoatsModel", "pointsByText", "(III)I"⟩, 97), (⟨"UnlikeBoatsModel", "score", "(I)Z"⟩, 97), (⟨"UnlikeBoatsModel", "isBetter", "(II)Z"⟩, 97), (⟨"UnlikeBoatsModel", "sorted", "(I[I)I"⟩, 97), (⟨"UnlikeBoatsModel", "asksProtest", "(III)Z"⟩, 97), (⟨"UnlikeBoatsModel", "findStates", "(IIIII)V"⟩, 97), (⟨"UnlikeBoatsModel", "farFrom", "(III)I"⟩, 97)]
theorem lw_r5 : ∀ q ∈ lw_privs_5, lw_okq q := List.forall_mem_cons.mpr ⟨lw_p64, List.forall_mem_cons.mpr ⟨lw_p65, List.forall_mem_cons.mpr ⟨lw_p66, List.forall_mem_cons.mpr ⟨lw_p67, List.forall_mem_cons.mpr ⟨lw_p68, List.forall_mem_cons.mpr ⟨lw_p69, List.forall_mem_cons.mpr ⟨lw_p70, List.forall_mem_cons.mpr ⟨lw_p71, List.forall_mem_cons.mpr ⟨lw_p72, List.forall_mem_cons.mpr ⟨lw_p73, List.forall_mem_cons.mpr ⟨lw_p74, List.forall_mem_cons.mpr ⟨lw_p75, List.forall_mem_cons.mpr ⟨lw_p76, List.forall_mem_cons.mpr ⟨lw_p77, List.forall_mem_cons.mpr ⟨lw_p78, List.forall_mem_cons.mpr ⟨lw_p79, fun _ h => absurd h List.not_mem_nil⟩⟩⟩⟩⟩⟩⟩⟩⟩⟩⟩⟩⟩⟩⟩⟩
theorem lw_p80 : lw_okq (⟨"UnlikeBoatsModel", "canBe", "(IIIIII)Z"⟩, 97) := ⟨⟨by decide +kernel, by decide +kernel⟩, List.mem_of_getElem? (i := 1463) (by decide +kernel), List.mem_of_getElem? (i := 2068) (by decide +kernel), List.mem_of_getElem? (i := 2069) (by decide +kernel)⟩
theorem lw_p81 : lw_okq (⟨"UnlikeBoatsModel", "findingOf", "(III)I"⟩, 97) := ⟨⟨by decide +kernel, by decide +kernel⟩, List.mem_of_getElem? (i := 1463) (by decide +kernel), List.mem_of_getElem? (i := 2077) (by decide +kernel), List.mem_of_getElem? (i := 2078) (by decide +kernel)⟩
theorem lw_p82 : lw_okq (⟨"UnlikeBoatsModel", "findEven", "(I)Z"⟩, 97) := ⟨⟨by decide +kernel, by decide +kernel⟩, List.mem_of_getElem? (i := 1463) (by decide +kernel), List.mem_of_getElem? (i := 2108) (by decide +kernel), List.mem_of_getElem? (i := 2109) (by decide +kernel)⟩
theorem lw_p83 : lw_okq (⟨"UnlikeBoatsModel", "tryChanges", "(I)V"⟩, 97) := ⟨⟨by decide +kernel, by decide +kernel⟩, List.mem_of_getElem? (i := 1463) (by decide +kernel), List.mem_of_getElem? (i := 2113) (by decide +kernel), List.mem_of_getElem? (i := 2114) (by decide +kernel)⟩
theorem lw_p84 : lw_okq (⟨"UnlikeBoatsModel", "middleOf", "(II)I"⟩, 97) := ⟨⟨by decide +kernel, by decide +kernel⟩, List.mem_of_getElem? (i := 1463) (by decide +kernel), List.mem_of_getElem? (i := 2127) (by decide +kernel), List.mem_of_getElem? (i := 2128) (by decide +kernel)⟩
theorem lw_p85 : lw_okq (⟨"UnlikeBoatsModel", "fitOf", "(I)I"⟩, 97) := ⟨⟨by decide +kernel, by decide +kernel⟩, List.mem_of_getElem? (i := 1463) (by decide +kernel), List.mem_of_getElem? (i := 2135) (by decide +kernel), List.mem_of_getElem? (i := 2136) (by decide +kernel)⟩
theorem lw_p86 : lw_okq (⟨"UnlikeBoatsModel", "suspected", "(I)I"⟩, 97) := ⟨⟨by decide +kernel, by decide +kernel⟩, List.mem_of_getElem? (i := 1463) (by decide +kernel), List.mem_of_getElem? (i := 2143) (by decide +kernel), List.mem_of_getElem? (i := 2144) (by decide +kernel)⟩
def lw_privs_6 : List (MethodName × Nat) := [(⟨"UnlikeBoatsModel", "canBe", "(IIIIII)Z"⟩, 97), (⟨"UnlikeBoatsModel", "findingOf", "(III)I"⟩, 97), (⟨"UnlikeBoatsModel", "findEven", "(I)Z"⟩, 97), (⟨"UnlikeBoatsModel", "tryChanges", "(I)V"⟩, 97), (⟨"UnlikeBoatsModel", "middleOf", "(II)I"⟩, 97), (⟨"UnlikeBoatsModel", "fitOf", "(I)I"⟩, 97), (⟨"UnlikeBoatsModel", "suspected", "(I)I"⟩, 97)]
theorem lw_r6 : ∀ q ∈ lw_privs_6, lw_okq q := List.forall_mem_cons.mpr ⟨lw_p80, List.forall_mem_cons.mpr ⟨lw_p81, List.forall_mem_cons.mpr ⟨lw_p82, List.forall_mem_cons.mpr ⟨lw_p83, List.forall_mem_cons.mpr ⟨lw_p84, List.forall_mem_cons.mpr ⟨lw_p85, List.forall_mem_cons.mpr ⟨lw_p86, fun _ h => absurd h List.not_mem_nil⟩⟩⟩⟩⟩⟩⟩
def lw_privs : List (MethodName × Nat) := lw_privs_1 ++ (lw_privs_2 ++ (lw_privs_3 ++ (lw_privs_4 ++ (lw_privs_5 ++ (lw_privs_6)))))
def lw_tbl : List Cond := k2_sels lw_privs ++ tables_1
theorem lw_privs_ok : ∀ q ∈ lw_privs, lw_okq q := by
  show ∀ q ∈ lw_privs_1 ++ (lw_privs_2 ++ (lw_privs_3 ++ (lw_privs_4 ++ (lw_privs_5 ++ (lw_privs_6))))), lw_okq q
  exact List.forall_mem_append.mpr ⟨lw_r1, List.forall_mem_append.mpr ⟨lw_r2, List.forall_mem_append.mpr ⟨lw_r3, List.forall_mem_append.mpr ⟨lw_r4, List.forall_mem_append.mpr ⟨lw_r5, lw_r6⟩⟩⟩⟩⟩
-- ===== end of PART A; then your names; then what follows =====
/-! ===== BEGIN words of one list among another's, by their places ===== -/
theorem goodIn_r {big : List Cond} (ws : List Cond) (ps : List Nat) (hp : ws = ps.filterMap (fun i => big[i]?)) (h : ws.all goodWord = true) : GoodIn big ws := by
  intro w hw
  have h1 := List.all_eq_true.mp h w hw
  rw [hp] at hw
  obtain ⟨i, -, hi⟩ := List.mem_filterMap.mp hw
  have hm : w ∈ big := by first | exact List.mem_of_getElem? hi | exact List.getElem?_mem hi
  exact ⟨hm, good_of_word h1⟩
theorem goodIn_app {big a b : List Cond} (ha : GoodIn big a) (hb : GoodIn big b) : GoodIn big (a ++ b) := fun w h => (List.mem_append.mp h).elim (ha w) (hb w)
theorem goodIn_ca {big a b : List Cond} {c : Cond} (ha : GoodIn big (c :: a)) (hb : GoodIn big b) : GoodIn big (c :: (a ++ b)) := fun w h => (List.mem_cons.mp h).elim (fun e => ha w (List.mem_cons.mpr (Or.inl e))) (fun h => (List.mem_append.mp h).elim (fun h => ha w (List.mem_cons.mpr (Or.inr h))) (hb w))
theorem goodIn_sub {big ws : List Cond} (hm : ∀ w ∈ ws, w ∈ big) (h : ws.all goodWord = true) : GoodIn big ws := fun w hw => ⟨hm w hw, good_of_word (List.all_eq_true.mp h w hw)⟩
/-! ===== END ===== -/

/-! ===== BEGIN exceptions that leave a method, and their catching by the caller (launches without stack traces) ===== -/
section VXA
/-! The laws vx_back, vx_callV, vx_callS, vx_callSW, vx_throw0, vx_throwS follow proofs of the library, with one case more: JvmDerived/Free/Laws.lean (Back.of_free), Shelf42/LK1.lean (callV, callS), Shelf/KitTraced.lean (throwNew0V, throwNewS). -/
/-- where a method has thrown q: the class by its name, the cell, what was written, the world -/
def vx_T (XC : String → State → State → Prop) (st : State) (q : Addr) (t : State) (mc ms : Nat) (free : Addr → Prop) : Prop :=
  ∃ (E : String) (ce : Cell) (L : List Loc), XC E st t ∧ t.heap[q]? = some ce ∧ ce.vm = .none ∧ st.vm.findClass E = some ce.cls ∧ st.WarmedH t.vm ∧ st.sameButNew ({ t with vm := st.vm } : State) L mc ms ∧ ∀ z ∈ L, free z.base
def vx_Q (Qc : Array Value → State → Outcome → State → Prop) (XC : String → State → State → Prop) (mc ms : Nat) (free : Addr → Prop) : Array Value → State → Outcome → State → Prop := fun a st o t =>
  (Qc a st o t ∧ ∃ L, FrameEnd st o t L mc ms ∧ ∀ q ∈ L, free q.base) ∨ ∃ q, o = .threw q ∧ vx_T XC st q t mc ms free
/-- a callee that returns or throws -/
def vx_Met (l : Launch) (y : MethodName) (ws : List Cond) (rm : Room) (Pc : Array Value → State → Prop) (Qc : Array Value → State → Outcome → State → Prop) (XC : String → State → State → Prop) (mc ms : Nat) (free : Addr → Prop) : Prop :=
  MetFree l y (headSpec ws rm) Pc (fun _ _ _ _ _ => True) (vx_Q Qc XC mc ms free)
def vx_Post (XC : String → State → State → Prop) (mc ms : Nat) (free : Addr → Prop) : Pt → Array Value → Addr → Pt → Prop := fun A a q B =>
  ∃ (g : JFrame) (mk : MethodId) (t : State) (L : List Loc) (E : String) (ce : Cell), B.U.heap = t.heap ∧ B.U.vm = t.vm ∧ XC E (A.U.calling g mk a) t ∧ t.heap[q]? = some ce ∧ ce.vm = .none ∧ A.U.vm.findClass E = some ce.cls ∧ B.locs = A.locs ++ L ∧ (∀ z ∈ L, free z.base) ∧ B.cells = A.cells + mc ∧ B.slots = A.slots + ms
def vx_Back (l : Launch) (R : Room) (p : Program) (e : Env) (below : List Frame) (s : State) (sargs : Array Value) (y : MethodName) (len W9 : Nat)
    (Pre : Pt → Array Value → Prop) (Post : Pt → Array Value → Option Value → Pt → Prop) (PostX : Pt → Array Value → Addr → Pt → Prop) : Prop :=
  ∀ (m : MethodId) (meth : Method) (c : Code) (A : Pt) (g : JFrame) (ig : Instr) (mk : MethodId) (a : Array Value),
    Stand p l e R s m sargs below meth c A.U A.locs A.cells A.slots → g.method = m → g.locals.size = c.maxLocals → decode c.code g.pc = .ok (ig, len) →
    2 * g.monitorRoom + (g.stack.map fun v => v.category).sum ≤ W9 → A.U.methodNamed? y = some mk → Pre A a →
    (∃ (v : Option Value) (B : Pt), Stand p l e R s m sargs below meth c B.U B.locs B.cells B.slots ∧ Post A a v B ∧
      Steps p.tables e below (doInvoke e (A.U.setTop g) [] mk a).1 (B.U.setTop { g with pc := g.pc + len, stack := v.toList ++ g.stack })) ∨
    (∃ (q : Addr) (B : Pt), Stand p l e R s m sargs below meth c B.U B.locs B.cells B.slots ∧ PostX A a q B ∧
      Steps p.tables e below (doInvoke e (A.U.setTop g) [] mk a).1 ((B.U.setTop g).pushFrame (.throwing q)))
section Payer
variable {l : Launch} {R : Room} {p : Program} {e : Env} {below : List Frame} {s : State} {sargs : Array Value} {y : MethodName} {len W9 : Nat}
theorem vx_back {ws : List Cond} {rm : Room} {Pc : Array Value → State → Prop} {Qc : Array Value → State → Outcome → State → Prop} {XC : String → State → State → Prop} {mc ms : Nat} {free : Addr → Prop} {bytes : ByteArray} {maxL : Nat} {ret : Option FieldType}
    (hM : vx_Met l y ws rm Pc Qc XC mc ms free) (hblind : FrameBlind Pc) (hrc : rm.cells = mc) (hrs : rm.slots = ms)
    (hframes : rm.frames + 1 ≤ R.frames) (hlocals : W9 + (maxL + 11) + rm.locals ≤ R.locals)
    (hws : ∀ w ∈ ws, ∀ a' U, s.WarmedH U.vm → w.before a' U = true) (hcode : Cond.code y bytes maxL ret ∈ ws) (hinit : ∀ a' U, s.WarmedH U.vm → (Cond.initialized y.cls).before a' U = true) :
    vx_Back l R p e below s sargs y len W9 (PreOf R mc ms Pc) (PostOf Qc mc ms free) (vx_Post XC mc ms free) := by
  intro m meth c A g ig mk a X hg hsize hdg hW hn hp
  have h1 : (headSpec ws rm).pre.before a A.U = true := atoms_intro fun w hw => hws w hw _ _ X.warmed
  have h2 : (Cond.code y bytes maxL ret).before a A.U = true := hws _ hcode _ _ X.warmed
  have h3 : (Cond.initialized y.cls).before a A.U = true := hinit _ _ X.warmed
  have h4 : A.cells + (headSpec ws rm).room.cells ≤ R.cells := by rw [show (headSpec ws rm).room.cells = mc from hrc]; exact hp.1
  have h5 : A.slots + (headSpec ws rm).room.slots ≤ R.slots := by rw [show (headSpec ws rm).room.slots = ms from hrs]; exact hp.2.1
  have hPc : Pc a (A.U.calling g mk a) := hblind _ _ _ _ hp.2.2
  obtain ⟨U, Ls, c0, s0⟩ := A
  dsimp only [Pt.U, Pt.locs, Pt.cells, Pt.slots] at h1 h2 h3 h4 h5 X hn hPc ⊢
  obtain ⟨methY, cY, hmY, hcY, -, hlY, -, -, -, -⟩ := Cond.code_spec hn h2
  obtain ⟨kY, hkY, -⟩ := className_of_methodNamed hn
  have hinitY : kY.init = .initialized := Cond.initialized_spec (findClass_of_methodNamed hn) hkY h3
  have h : At U g.method c below := by rw [hg]; exact X.here
  have hlocals9 : W9 + (maxL + 11) + (headSpec ws rm).room.locals ≤ R.locals := hlocals
  have happ : (headSpec ws rm).appliesLoose y e.platform (U.calling g mk a) = true :=
    Spec.appliesLoose_calling (g := g) h hdg hn hkY hinitY
      (X.room_calling (g := g) (R' := (headSpec ws rm).room) hsize hmY hcY hframes (by rw [hlY]; omega) h4 h5) h1
  obtain ⟨mid, hmid⟩ := h.above
  have hfr : (U.setTop g).frames = (.java g :: mid) ++ below := by rw [State.frames_setTop' g h.top, hmid]; rfl
  obtain ⟨o, s₂, hsteps, -, hend, hq⟩ := Steps.callFree hM p X.admits X.cas X.clock (acts := []) hfr happ hPc trivial
  have hq' : vx_Q Qc XC mc ms free a (U.calling g mk a) o s₂ := hq
  rw [State.frames_setTop' g h.top] at hend
  obtain ⟨g₀, hg0⟩ := Option.isSome_iff_exists.mp h.top
  obtain ⟨r, hr⟩ := State.topJava?_eq_some.mp hg0
  have hr' : (({ U with heap := s₂.heap, slotsUsed := s₂.slotsUsed } : State).setVm s₂.vm).frames = .java g₀ :: r := hr
  rcases hq' with ⟨hqc, L, hfe, hL⟩ | ⟨q, rfl, E, ce, L, hx, hce, hcv, hcl, hW₂, hsm, hL⟩
  · obtain ⟨⟨v, rfl⟩, hW₂, e2, q2, q3, q4, q5, q6⟩ := id hfe
    have e3 : s₂ = ({ (U.calling g mk a).setFrames s₂.frames with heap := s₂.heap, slotsUsed := s₂.slotsUsed } : State).setVm s₂.vm := by
      have : s₂ = ({ s₂ with vm := (U.calling g mk a).vm } : State).setVm s₂.vm := rfl
      rw [e2] at this
      exact this
    obtain ⟨c₂, i₂, len₂, hc₂, hd₂, hf₂⟩ := hend
    have hW' : U.WarmedH s₂.vm := hW₂
    have hcc : c₂ = c := by
      have h1 : s₂.code? g.method = U.code? g.method := by
        rw [State.code?_eq, State.code?_eq, hW'.alike.method?]
      exact Option.some.inj (hc₂.symm.trans (h1.trans h.code))
    subst hcc
    have hlen : len₂ = len := by rw [hdg] at hd₂; cases hd₂; rfl
    subst hlen
    have hs₂ : s₂ = (({ U with heap := s₂.heap, slotsUsed := s₂.slotsUsed } : State).setVm s₂.vm).setTop { g with pc := g.pc + len₂, stack := v.toList ++ g.stack } := by
      refine e3.trans ?_
      rw [hf₂, State.calling_eq h.top, State.setFrames_setFrames, State.setTop_of_frames _ hr', hr]
      rfl
    have hsame : U.sameButNew ({ U with heap := s₂.heap, slotsUsed := s₂.slotsUsed } : State) L mc ms := by
      refine ⟨?_, q2, q3, q4, q5, q6⟩
      obtain ⟨t, ht, -⟩ := State.frames_cons hr
      show ({ U with heap := s₂.heap, slotsUsed := s₂.slotsUsed } : State) = { U.setFrames U.frames with heap := s₂.heap, slotsUsed := s₂.slotsUsed }
      rw [State.setFrames_self ht]
    subst hg
    refine Or.inl ⟨v, ⟨(({ U with heap := s₂.heap, slotsUsed := s₂.slotsUsed } : State).setVm s₂.vm), Ls ++ L, c0 + mc, s0 + ms⟩,
      ⟨X.admits, X.cas, X.clock, X.frames, X.room, X.hears, X.method, X.code, (X.here.setHeapUsed s₂.heap s₂.slotsUsed).setVm hW'.alike, X.tail, State.WarmedH.trans X.warmed hW', X.limits, X.bytes, X.same.trans (hsame.setVm s.vm)⟩,
      ⟨g, mk, s₂, L, rfl, rfl, hqc, rfl, hL, rfl, rfl⟩, ?_⟩
    show Steps p.tables e below _ ((({ U with heap := s₂.heap, slotsUsed := s₂.slotsUsed } : State).setVm s₂.vm).setTop { g with pc := g.pc + len₂, stack := v.toList ++ g.stack })
    rw [← hs₂]
    exact hsteps
  · obtain ⟨e2, q2, q3, q4, q5, q6⟩ := id hsm
    have e3 : s₂ = ({ (U.calling g mk a).setFrames s₂.frames with heap := s₂.heap, slotsUsed := s₂.slotsUsed } : State).setVm s₂.vm := by
      have : s₂ = ({ s₂ with vm := (U.calling g mk a).vm } : State).setVm s₂.vm := rfl
      rw [e2] at this
      exact this
    have hf₂ : s₂.frames = .throwing q :: .java g :: U.frames.tail := hend
    have hW' : U.WarmedH s₂.vm := hW₂
    have hs₂ : s₂ = ((({ U with heap := s₂.heap, slotsUsed := s₂.slotsUsed } : State).setVm s₂.vm).setTop g).pushFrame (.throwing q) := by
      refine e3.trans ?_
      rw [hf₂, State.calling_eq h.top, State.setFrames_setFrames, State.pushFrame, State.frames_setTop _ hr', State.setTop_of_frames _ hr', State.setFrames_setFrames, hr]
      rfl
    have hsame : U.sameButNew ({ U with heap := s₂.heap, slotsUsed := s₂.slotsUsed } : State) L mc ms := by
      refine ⟨?_, q2, q3, q4, q5, q6⟩
      obtain ⟨t, ht, -⟩ := State.frames_cons hr
      show ({ U with heap := s₂.heap, slotsUsed := s₂.slotsUsed } : State) = { U.setFrames U.frames with heap := s₂.heap, slotsUsed := s₂.slotsUsed }
      rw [State.setFrames_self ht]
    subst hg
    refine Or.inr ⟨q, ⟨(({ U with heap := s₂.heap, slotsUsed := s₂.slotsUsed } : State).setVm s₂.vm), Ls ++ L, c0 + mc, s0 + ms⟩,
      ⟨X.admits, X.cas, X.clock, X.frames, X.room, X.hears, X.method, X.code, (X.here.setHeapUsed s₂.heap s₂.slotsUsed).setVm hW'.alike, X.tail, State.WarmedH.trans X.warmed hW', X.limits, X.bytes, X.same.trans (hsame.setVm s.vm)⟩,
      ⟨g, mk, s₂, L, E, ce, rfl, rfl, hx, hce, hcv, hcl, rfl, hL, rfl, rfl⟩, ?_⟩
    show Steps p.tables e below _ (((({ U with heap := s₂.heap, slotsUsed := s₂.slotsUsed } : State).setVm s₂.vm).setTop g).pushFrame (.throwing q))
    rw [← hs₂]
    exact hsteps
end Payer
section Calls
variable {p : Program} {l : Launch} {e : Env} {R : Room} {s : State} {m : MethodId} {args : Array Value} {below : List Frame} {meth : Method} {c : Code} {T : State} {locs : List Loc} {cells slots : Nat}
theorem vx_callV (X : Stand p l e R s m args below meth c T locs cells slots) (hexec : p.tables.exec = Jvm.exec) {own C : String} {index : Nat} {y : MethodName} {bytes : ByteArray} {maxL : Nat} {ret : Option FieldType}
    (hown : s.vm.findClass own = some m.cls) (hlink : (Cond.methodLink own index y).before args s = true) (hinst : (Cond.instanceMethod y).before args s = true) (hsel : (Cond.selects C y y).before args s = true)
    (hcode : (Cond.code y bytes maxL ret).before args s = true) (hy : y.cls ≠ "java/lang/invoke/MethodHandle" ∧ y.cls ≠ "java/lang/invoke/VarHandle")
    {W9 : Nat} {Pre : Pt → Array Value → Prop} {Post : Pt → Array Value → Option Value → Pt → Prop} {PostX : Pt → Array Value → Addr → Pt → Prop} (hK : vx_Back l R p e below s args y 3 W9 Pre Post PostX)
    {b : Addr} {cellB : Cell} (hcell : T.heap[b]? = some cellB) (hobj : cellB.vm.isStatics = false) (hcls : s.vm.findClass C = some cellB.cls)
    {g : JFrame} (hg : g.method = m) (hsize : g.locals.size = c.maxLocals) {argsL rest : List Value} (hlen : ∀ sig, parseMethodDescriptor y.desc = some sig → argsL.length = sig.parameters.length)
    (hstack : g.stack = argsL.reverse ++ .ref b :: rest) (hW : 2 * g.monitorRoom + (rest.map fun v => v.category).sum ≤ W9) (hdg : decode c.code g.pc = .ok (.invokevirtual index, 3))
    (hpre : ∀ vm₁, s.WarmedH vm₁ → Pre ⟨T.setVm vm₁, locs, cells, slots⟩ (Value.ref b :: argsL).toArray) :
    (∃ (v : Option Value) (vm₁ : Vm) (B : Pt), s.WarmedH vm₁ ∧ Stand p l e R s m args below meth c B.U B.locs B.cells B.slots ∧ Post ⟨T.setVm vm₁, locs, cells, slots⟩ (Value.ref b :: argsL).toArray v B ∧
      ∀ target, Steps p.tables e below (B.U.setTop { g with pc := g.pc + 3, stack := v.toList ++ rest }) target → Steps p.tables e below (T.setTop g) target) ∨
    (∃ (q : Addr) (vm₁ : Vm) (B : Pt), s.WarmedH vm₁ ∧ Stand p l e R s m args below meth c B.U B.locs B.cells B.slots ∧ PostX ⟨T.setVm vm₁, locs, cells, slots⟩ (Value.ref b :: argsL).toArray q B ∧
      Steps p.tables e below (T.setTop g) ((B.U.setTop { g with stack := rest }).pushFrame (.throwing q))) := by
  obtain ⟨mk, methM, hnamed, hmethM, hstM, habM⟩ := Cond.instanceMethod_spec hinst
  obtain ⟨methM', cM, hmethM', -, -, -, -, -, -, hsigM⟩ := Cond.code_spec hnamed hcode
  cases hmethM.symm.trans hmethM'
  obtain ⟨c2, r2, m2, q1, q2, q3, q4, kP, hkP, hkPi⟩ := Cond.selects_spec hsel
  cases hcls.symm.trans q1
  cases (State.methodFound?_of_named hnamed hy).symm.trans q2
  cases hnamed.symm.trans q3
  have hselP : selectMethod e.platform s.vm cellB.cls mk = .method mk := by rw [Launch.admits_selectMethod X.admits]; exact q4
  obtain ⟨vm₁, X₁, hstep₁⟩ := X.invokevirtual hexec hown hlink hnamed hmethM hstM hkP hkPi hy (a := b) (cell := cellB) hcell
    (fun z h => by rw [h] at hobj; cases hobj) hselP hmethM habM hkP hkPi (g := g) hg (argsL := argsL) (rest := rest) (hlen _ hsigM) hstack hdg
  rcases hK m meth c ⟨T.setVm vm₁, locs, cells, slots⟩ { g with stack := rest } (.invokevirtual index) mk (Value.ref b :: argsL).toArray X₁ hg hsize hdg hW (X₁.named hnamed) (hpre vm₁ X₁.warmed) with ⟨v, B, X', hpost, hsteps⟩ | ⟨q, B, X', hpost, hsteps⟩
  · exact Or.inl ⟨v, vm₁, B, X₁.warmed, X', hpost, fun target h => hstep₁ _ fun acts => by rw [doInvoke_state]; exact hsteps.trans h⟩
  · exact Or.inr ⟨q, vm₁, B, X₁.warmed, X', hpost, hstep₁ _ fun acts => by rw [doInvoke_state]; exact hsteps⟩
theorem vx_callS (X : Stand p l e R s m args below meth c T locs cells slots) (hexec : p.tables.exec = Jvm.exec) {own : String} {index : Nat} {y : MethodName} {bytes : ByteArray} {maxL : Nat} {ret : Option FieldType}
    (hown : s.vm.findClass own = some m.cls) (hlink : (Cond.methodLink own index y).before args s = true) (hstat : (Cond.static y).before args s = true) (hinit : (Cond.initialized y.cls).before args s = true)
    (hcode : (Cond.code y bytes maxL ret).before args s = true) (hy : y.cls ≠ "java/lang/invoke/MethodHandle" ∧ y.cls ≠ "java/lang/invoke/VarHandle")
    {W9 : Nat} {Pre : Pt → Array Value → Prop} {Post : Pt → Array Value → Option Value → Pt → Prop} {PostX : Pt → Array Value → Addr → Pt → Prop} (hK : vx_Back l R p e below s args y 3 W9 Pre Post PostX)
    {g : JFrame} (hg : g.method = m) (hsize : g.locals.size = c.maxLocals) {argsL rest : List Value} (hlen : ∀ sig, parseMethodDescriptor y.desc = some sig → argsL.length = sig.parameters.length)
    (hstack : g.stack = argsL.reverse ++ rest) (hW : 2 * g.monitorRoom + (rest.map fun v => v.category).sum ≤ W9) (hdg : decode c.code g.pc = .ok (.invokestatic index, 3))
    (hpre : ∀ vm₁, s.WarmedH vm₁ → Pre ⟨T.setVm vm₁, locs, cells, slots⟩ argsL.toArray) :
    (∃ (v : Option Value) (vm₁ : Vm) (B : Pt), s.WarmedH vm₁ ∧ Stand p l e R s m args below meth c B.U B.locs B.cells B.slots ∧ Post ⟨T.setVm vm₁, locs, cells, slots⟩ argsL.toArray v B ∧
      ∀ target, Steps p.tables e below (B.U.setTop { g with pc := g.pc + 3, stack := v.toList ++ rest }) target → Steps p.tables e below (T.setTop g) target) ∨
    (∃ (q : Addr) (vm₁ : Vm) (B : Pt), s.WarmedH vm₁ ∧ Stand p l e R s m args below meth c B.U B.locs B.cells B.slots ∧ PostX ⟨T.setVm vm₁, locs, cells, slots⟩ argsL.toArray q B ∧
      Steps p.tables e below (T.setTop g) ((B.U.setTop { g with stack := rest }).pushFrame (.throwing q))) := by
  obtain ⟨mk, hnamed⟩ := Cond.code_named hcode
  obtain ⟨methM, cM, hmethM, -, -, -, -, -, -, hsigM⟩ := Cond.code_spec hnamed hcode
  have hstatic : methM.isStatic = true := Cond.static_spec hnamed hmethM hstat
  obtain ⟨kP, hkP, -⟩ := className_of_methodNamed hnamed
  have hinitP : kP.init = .initialized := Cond.initialized_spec (findClass_of_methodNamed hnamed) hkP hinit
  obtain ⟨vm₁, X₁, hstep₁⟩ := X.invokestatic hexec hown hlink hnamed hmethM hstatic hkP hinitP hy (g := g) hg (argsL := argsL) (rest := rest) (hlen _ hsigM) hstack hdg
  rcases hK m meth c ⟨T.setVm vm₁, locs, cells, slots⟩ { g with stack := rest } (.invokestatic index) mk argsL.toArray X₁ hg hsize hdg hW (X₁.named hnamed) (hpre vm₁ X₁.warmed) with ⟨v, B, X', hpost, hsteps⟩ | ⟨q, B, X', hpost, hsteps⟩
  · exact Or.inl ⟨v, vm₁, B, X₁.warmed, X', hpost, fun target h => hstep₁ _ fun acts => by rw [doInvoke_state]; exact hsteps.trans h⟩
  · exact Or.inr ⟨q, vm₁, B, X₁.warmed, X', hpost, hstep₁ _ fun acts => by rw [doInvoke_state]; exact hsteps⟩
end Calls
theorem vx_cls {s : State} {T : State} {vm₁ : Vm} {E : String} {k : ClassId} (hW : s.WarmedH vm₁) (h : (T.setVm vm₁).vm.findClass E = some k) : s.vm.findClass E = some k := by
  have h1 : vm₁.findClass E = some k := h
  rw [hW.alike.findClass] at h1
  exact h1
/-- the method's frame g, with q thrown over it -/
def vx_W (p : Program) (l : Launch) (e : Env) (R : Room) (s : State) (m : MethodId) (args : Array Value) (below : List Frame) (meth : Method) (c : Code) (H : Heap) (locs : List Loc) (cells slots : Nat) (Q : State → Prop) (g : JFrame) (q : Addr) : Prop :=
  ∀ T : State, T.heap = H → Stand p l e R s m args below meth c T locs cells slots → ∃ t, Steps p.tables e below ((T.setTop g).pushFrame (.throwing q)) t ∧ Q t
def vx_Run (p : Program) (l : Launch) (e : Env) (R : Room) (s : State) (m : MethodId) (args : Array Value) (below : List Frame) (meth : Method) (c : Code) (H : Heap) (locs : List Loc) (cells slots mc ms : Nat) (g : JFrame) (rest : List Value) (Qa : State → Outcome → State → Prop) (XC : String → State → State → Prop) (free : Addr → Prop) : Prop :=
  ∀ T : State, T.heap = H → Stand p l e R s m args below meth c T locs cells slots →
    (∃ (v : Option Value) (st₀ t T' : State) (L : List Loc), st₀.heap = H ∧ Stand p l e R s m args below meth c T' (locs ++ L) (cells + mc) (slots + ms) ∧ (∀ q ∈ L, free q.base) ∧ T'.heap = t.heap ∧ T'.vm = t.vm ∧ Qa st₀ (.returned v) t ∧
      Goes p e below T g T' { g with pc := g.pc + 3, stack := v.toList ++ rest }) ∨
    (∃ (q : Addr) (st₀ t T' : State) (L : List Loc) (E : String) (ce : Cell), st₀.heap = H ∧ Stand p l e R s m args below meth c T' (locs ++ L) (cells + mc) (slots + ms) ∧ (∀ z ∈ L, free z.base) ∧ T'.heap = t.heap ∧ T'.vm = t.vm ∧ XC E st₀ t ∧ t.heap[q]? = some ce ∧ ce.vm = .none ∧ s.vm.findClass E = some ce.cls ∧
      Steps p.tables e below (T.setTop g) ((T'.setTop { g with stack := rest }).pushFrame (.throwing q)))
def vx_X {S : Type} (px : S → Prop) (B : String → S → State → Prop) (A : Nat → Prop) : String → State → State → Prop := fun E st t => ∃ u : S, px u ∧ B E u t ∧ va_F A st t
section Runs
variable {p : Program} {l : Launch} {e : Env} {R : Room} {s : State} {m : MethodId} {args : Array Value} {below : List Frame} {meth : Method} {c : Code} {H : Heap} {locs : List Loc} {cells slots : Nat}
variable {y : MethodName} {bytes cc : ByteArray} {maxL nL mc ms n index : Nat} {ret : Option FieldType} {ws : List Cond} {rm : Room} {Pc : Array Value → State → Prop} {Qc : Array Value → State → Outcome → State → Prop} {XC : String → State → State → Prop} {free : Addr → Prop} {Ts : List Cond} {own C : String} {b : Addr} {As rest : List Value} {g : JFrame}
theorem vx_callBack (cb : CallB R s args own index y bytes maxL ret ws rm mc ms n) (hM : vx_Met l y ws rm Pc Qc XC mc ms free) (hbl : FrameBlind Pc) : vx_Back l R p e below s args y 3 8 (PreOf R mc ms Pc) (PostOf Qc mc ms free) (vx_Post XC mc ms free) := by
  obtain ⟨hrc, hrs, hfr, hlo, hws, hcw, -, hini, -⟩ := cb
  exact vx_back (bytes := bytes) (maxL := maxL) (ret := ret) hM hbl hrc hrs hfr hlo hws hcw (fun a' U hW => word_at hW (Or.inl (by first | rfl | simp [Cond.onTables, Cond.keeps, Cond.steady])) hini)
theorem vx_runV (S : CallFix p m c cc nL s args Ts own) (hM : vx_Met l y ws rm Pc Qc XC mc ms free) (cw : CallW R s args own C index y bytes maxL ret ws rm mc ms n) (hp : PreV s H C b Pc As)
    (hg : g.method = m) (hn : As.length = n) (hsize : g.locals.size = nL) (hstack : g.stack = As.reverse ++ .ref b :: rest) (hW : 2 * g.monitorRoom + (rest.map fun v => v.category).sum ≤ 8) (hdg : decode cc g.pc = .ok (.invokevirtual index, 3)) (hf : cells + mc ≤ R.cells ∧ slots + ms ≤ R.slots) :
    vx_Run p l e R s m args below meth c H locs cells slots mc ms g rest (Qc (Value.ref b :: As).toArray) XC free := by
  have hK : vx_Back l R p e below s args y 3 8 (PreOf R mc ms Pc) (PostOf Qc mc ms free) (vx_Post XC mc ms free) := vx_callBack cw.1 hM hp.1
  obtain ⟨⟨-, -, -, -, -, -, hcode, -, hy, hlen, hl⟩, hin, hse⟩ := cw
  obtain ⟨hx, hb, hml, ho, -⟩ := S
  obtain ⟨-, ⟨cellB, hcB, hoB, hclB⟩, hPc⟩ := hp
  intro T hT X
  rcases vx_callV X hx (C := C) (bytes := bytes) (maxL := maxL) (ret := ret) ho hl hin hse hcode hy hK (by rw [hT]; exact hcB) hoB hclB hg (hsize.trans hml.symm) (argsL := As) (rest := rest) (fun sig h => hn.trans (hlen sig h)) hstack hW (by rw [hb]; exact hdg)
    (fun vm₁ hW₁ => ⟨hf.1, hf.2, hPc (T.setVm vm₁) hT hW₁⟩) with ⟨v, vm₁, ⟨U', l2, c2, s2⟩, hW₁, X', ⟨g', mk, t, L, e1, e2, hq, h1, hL, h2, h3⟩, st⟩ | ⟨q, vm₁, ⟨U', l2, c2, s2⟩, hW₁, X', ⟨g', mk, t, L, E, ce, e1, e2, hq, hce, hcv, hcl, h1, hL, h2, h3⟩, st⟩
  · dsimp only [Pt.U, Pt.locs, Pt.cells, Pt.slots] at X' e1 e2 h1 h2 h3 st
    subst h1; subst h2; subst h3
    exact Or.inl ⟨v, (T.setVm vm₁).calling g' mk (Value.ref b :: As).toArray, t, U', L, hT, X', hL, e1, e2, hq, st⟩
  · dsimp only [Pt.U, Pt.locs, Pt.cells, Pt.slots] at X' e1 e2 h1 h2 h3 st hcl
    subst h1; subst h2; subst h3
    exact Or.inr ⟨q, (T.setVm vm₁).calling g' mk (Value.ref b :: As).toArray, t, U', L, E, ce, hT, X', hL, e1, e2, hq, hce, hcv, vx_cls hW₁ hcl, st⟩
theorem vx_runS (S : CallFix p m c cc nL s args Ts own) (hM : vx_Met l y ws rm Pc Qc XC mc ms free) (cw : CallB R s args own index y bytes maxL ret ws rm mc ms n ∧ (Cond.static y).before args s = true) (hp : PreS s H Pc As)
    (hg : g.method = m) (hn : As.length = n) (hsize : g.locals.size = nL) (hstack : g.stack = As.reverse ++ rest) (hW : 2 * g.monitorRoom + (rest.map fun v => v.category).sum ≤ 8) (hdg : decode cc g.pc = .ok (.invokestatic index, 3)) (hf : cells + mc ≤ R.cells ∧ slots + ms ≤ R.slots) :
    vx_Run p l e R s m args below meth c H locs cells slots mc ms g rest (Qc As.toArray) XC free := by
  have hK : vx_Back l R p e below s args y 3 8 (PreOf R mc ms Pc) (PostOf Qc mc ms free) (vx_Post XC mc ms free) := vx_callBack cw.1 hM hp.1
  obtain ⟨⟨-, -, -, -, -, -, hcode, hini, hy, hlen, hl⟩, hstt⟩ := cw
  obtain ⟨hx, hb, hml, ho, -⟩ := S
  intro T hT X
  rcases vx_callS X hx (bytes := bytes) (maxL := maxL) (ret := ret) ho hl hstt hini hcode hy hK hg (hsize.trans hml.symm) (argsL := As) (rest := rest) (fun sig h => hn.trans (hlen sig h)) hstack hW (by rw [hb]; exact hdg)
    (fun vm₁ hW₁ => ⟨hf.1, hf.2, hp.2 (T.setVm vm₁) hT hW₁⟩) with ⟨v, vm₁, ⟨U', l2, c2, s2⟩, hW₁, X', ⟨g', mk, t, L, e1, e2, hq, h1, hL, h2, h3⟩, st⟩ | ⟨q, vm₁, ⟨U', l2, c2, s2⟩, hW₁, X', ⟨g', mk, t, L, E, ce, e1, e2, hq, hce, hcv, hcl, h1, hL, h2, h3⟩, st⟩
  · dsimp only [Pt.U, Pt.locs, Pt.cells, Pt.slots] at X' e1 e2 h1 h2 h3 st
    subst h1; subst h2; subst h3
    exact Or.inl ⟨v, (T.setVm vm₁).calling g' mk As.toArray, t, U', L, hT, X', hL, e1, e2, hq, st⟩
  · dsimp only [Pt.U, Pt.locs, Pt.cells, Pt.slots] at X' e1 e2 h1 h2 h3 st hcl
    subst h1; subst h2; subst h3
    exact Or.inr ⟨q, (T.setVm vm₁).calling g' mk As.toArray, t, U', L, E, ce, hT, X', hL, e1, e2, hq, hce, hcv, vx_cls hW₁ hcl, st⟩
end Runs
section Rows
variable {p : Program} {l : Launch} {e : Env} {R : Room} {s : State} {m : MethodId} {args : Array Value} {below : List Frame} {meth : Method} {c : Code} {H : Heap} {locs : List Loc} {cells slots : Nat} {Q : State → Prop}
variable {mc ms : Nat} {free : Addr → Prop} {A0 A1 : Nat → Prop} {H0 : Heap} {a : Array Value} {pc : Nat} {ls : Array Slot} {st0 rest : List Value}
theorem vx_keep {st₀ t T' : State} {L : List Loc} (h0 : st₀.heap = H) (e1 : T'.heap = t.heap) (hS : va_S A0 H0 H locs) (hA : ∀ q, q < H.size → A1 q → A0 q) (hf : ∀ q, free q → A0 q) (hL : ∀ q ∈ L, free q.base) (hF : va_F A1 st₀ t) :
    H.size ≤ T'.heap.size ∧ (∀ q : Nat, q < H.size → ¬ A1 q → T'.heap[q]? = H[q]?) ∧ va_S A0 H0 T'.heap (locs ++ L) := by
  obtain ⟨hz, hk⟩ := hF
  rw [h0] at hz hk
  exact ⟨by rw [e1]; exact hz, fun q h1 h2 => by rw [e1]; exact hk q h1 h2,
    ⟨Nat.le_trans hS.1 (by rw [e1]; exact hz), fun q h1 h2 => by rw [e1, hk q (Nat.lt_of_lt_of_le h1 hS.1) (fun z => h2 (hA q (Nat.lt_of_lt_of_le h1 hS.1) z))]; exact hS.2.1 q h1 h2, fun q hq => by
      rcases List.mem_append.mp hq with h | h
      · exact hS.2.2 q h
      · exact hf _ (hL q h)⟩⟩
theorem vx_calli {S SX : Type} {post : Int32 → S → Prop} {px : SX → Prop} {B : S → State → Prop} {BX : String → SX → State → Prop} {AX : Nat → Prop} (hr : vx_Run p l e R s m args below meth c H locs cells slots mc ms (F0 m pc ls st0) rest (va_Qi post B A1 a) (vx_X px BX AX) free) (hS : va_S A0 H0 H locs) (hA : ∀ q, q < H.size → A1 q → A0 q) (hf : ∀ q, free q → A0 q) (hAX : ∀ q, q < H.size → AX q → A0 q)
    (kx : ∀ (E : String) (ce : Cell) (q9 : Addr) (u : SX) (t : State) (H1 : Heap) (locs1 : List Loc), t.heap = H1 → s.vm.Alike t.vm → px u → BX E u t → H.size ≤ H1.size → (∀ q : Nat, q < H.size → ¬ AX q → H1[q]? = H[q]?) → va_S A0 H0 H1 locs1 → H1[q9]? = some ce → ce.vm = .none → s.vm.findClass E = some ce.cls → vx_W p l e R s m args below meth c H1 locs1 (cells + mc) (slots + ms) Q (F0 m pc ls rest) q9)
    (kk : ∀ (r : Int32) (u : S) (t : State) (H1 : Heap) (locs1 : List Loc), t.heap = H1 → s.vm.Alike t.vm → post r u → B u t → H.size ≤ H1.size → (∀ q : Nat, q < H.size → ¬ A1 q → H1[q]? = H[q]?) → va_S A0 H0 H1 locs1 → W p l e R s m args below meth c H1 locs1 (cells + mc) (slots + ms) Q (F0 m (pc + 3) ls (.int r :: rest))) : W p l e R s m args below meth c H locs cells slots Q (F0 m pc ls st0) := by
  intro T hT X
  rcases hr T hT X with ⟨v, st₀, t, T', L, h0, X', hL, e1, e2, ⟨⟨r, u, hv, hp, hb⟩, hF⟩, st⟩ | ⟨q, st₀, t, T', L, E, ce, h0, X', hL, e1, e2, ⟨u, hp, hb, hF⟩, hce, hcv, hcl, st⟩
  · cases hv
    obtain ⟨k1, k2, k3⟩ := vx_keep h0 e1 hS hA hf hL hF
    obtain ⟨t2, a1, b1⟩ := kk r u t T'.heap (locs ++ L) e1.symm (by rw [← e2]; exact X'.warmed.alike) hp hb k1 k2 k3 T' rfl X'
    exact ⟨t2, st t2 a1, b1⟩
  · obtain ⟨k1, k2, k3⟩ := vx_keep h0 e1 hS hAX hf hL hF
    obtain ⟨t2, a1, b1⟩ := kx E ce q u t T'.heap (locs ++ L) e1.symm (by rw [← e2]; exact X'.warmed.alike) hp hb k1 k2 k3 (by rw [e1]; exact hce) hcv hcl T' rfl X'
    exact ⟨t2, st.trans a1, b1⟩
theorem vx_calll {S SX : Type} {post : Int64 → S → Prop} {px : SX → Prop} {B : S → State → Prop} {BX : String → SX → State → Prop} {AX : Nat → Prop} (hr : vx_Run p l e R s m args below meth c H locs cells slots mc ms (F0 m pc ls st0) rest (va_Ql post B A1 a) (vx_X px BX AX) free) (hS : va_S A0 H0 H locs) (hA : ∀ q, q < H.size → A1 q → A0 q) (hf : ∀ q, free q → A0 q) (hAX : ∀ q, q < H.size → AX q → A0 q)
    (kx : ∀ (E : String) (ce : Cell) (q9 : Addr) (u : SX) (t : State) (H1 : Heap) (locs1 : List Loc), t.heap = H1 → s.vm.Alike t.vm → px u → BX E u t → H.size ≤ H1.size → (∀ q : Nat, q < H.size → ¬ AX q → H1[q]? = H[q]?) → va_S A0 H0 H1 locs1 → H1[q9]? = some ce → ce.vm = .none → s.vm.findClass E = some ce.cls → vx_W p l e R s m args below meth c H1 locs1 (cells + mc) (slots + ms) Q (F0 m pc ls rest) q9)
    (kk : ∀ (r : Int64) (u : S) (t : State) (H1 : Heap) (locs1 : List Loc), t.heap = H1 → s.vm.Alike t.vm → post r u → B u t → H.size ≤ H1.size → (∀ q : Nat, q < H.size → ¬ A1 q → H1[q]? = H[q]?) → va_S A0 H0 H1 locs1 → W p l e R s m args below meth c H1 locs1 (cells + mc) (slots + ms) Q (F0 m (pc + 3) ls (.long r :: rest))) : W p l e R s m args below meth c H locs cells slots Q (F0 m pc ls st0) := by
  intro T hT X
  rcases hr T hT X with ⟨v, st₀, t, T', L, h0, X', hL, e1, e2, ⟨⟨r, u, hv, hp, hb⟩, hF⟩, st⟩ | ⟨q, st₀, t, T', L, E, ce, h0, X', hL, e1, e2, ⟨u, hp, hb, hF⟩, hce, hcv, hcl, st⟩
  · cases hv
    obtain ⟨k1, k2, k3⟩ := vx_keep h0 e1 hS hA hf hL hF
    obtain ⟨t2, a1, b1⟩ := kk r u t T'.heap (locs ++ L) e1.symm (by rw [← e2]; exact X'.warmed.alike) hp hb k1 k2 k3 T' rfl X'
    exact ⟨t2, st t2 a1, b1⟩
  · obtain ⟨k1, k2, k3⟩ := vx_keep h0 e1 hS hAX hf hL hF
    obtain ⟨t2, a1, b1⟩ := kx E ce q u t T'.heap (locs ++ L) e1.symm (by rw [← e2]; exact X'.warmed.alike) hp hb k1 k2 k3 (by rw [e1]; exact hce) hcv hcl T' rfl X'
    exact ⟨t2, st.trans a1, b1⟩
theorem vx_callf {S SX : Type} {post : UInt32 → S → Prop} {px : SX → Prop} {B : S → State → Prop} {BX : String → SX → State → Prop} {AX : Nat → Prop} (hr : vx_Run p l e R s m args below meth c H locs cells slots mc ms (F0 m pc ls st0) rest (va_Qf post B A1 a) (vx_X px BX AX) free) (hS : va_S A0 H0 H locs) (hA : ∀ q, q < H.size → A1 q → A0 q) (hf : ∀ q, free q → A0 q) (hAX : ∀ q, q < H.size → AX q → A0 q)
    (kx : ∀ (E : String) (ce : Cell) (q9 : Addr) (u : SX) (t : State) (H1 : Heap) (locs1 : List Loc), t.heap = H1 → s.vm.Alike t.vm → px u → BX E u t → H.size ≤ H1.size → (∀ q : Nat, q < H.size → ¬ AX q → H1[q]? = H[q]?) → va_S A0 H0 H1 locs1 → H1[q9]? = some ce → ce.vm = .none → s.vm.findClass E = some ce.cls → vx_W p l e R s m args below meth c H1 locs1 (cells + mc) (slots + ms) Q (F0 m pc ls rest) q9)
    (kk : ∀ (r : UInt32) (u : S) (t : State) (H1 : Heap) (locs1 : List Loc), t.heap = H1 → s.vm.Alike t.vm → post r u → B u t → H.size ≤ H1.size → (∀ q : Nat, q < H.size → ¬ A1 q → H1[q]? = H[q]?) → va_S A0 H0 H1 locs1 → W p l e R s m args below meth c H1 locs1 (cells + mc) (slots + ms) Q (F0 m (pc + 3) ls (.float r :: rest))) : W p l e R s m args below meth c H locs cells slots Q (F0 m pc ls st0) := by
  intro T hT X
  rcases hr T hT X with ⟨v, st₀, t, T', L, h0, X', hL, e1, e2, ⟨⟨r, u, hv, hp, hb⟩, hF⟩, st⟩ | ⟨q, st₀, t, T', L, E, ce, h0, X', hL, e1, e2, ⟨u, hp, hb, hF⟩, hce, hcv, hcl, st⟩
  · cases hv
    obtain ⟨k1, k2, k3⟩ := vx_keep h0 e1 hS hA hf hL hF
    obtain ⟨t2, a1, b1⟩ := kk r u t T'.heap (locs ++ L) e1.symm (by rw [← e2]; exact X'.warmed.alike) hp hb k1 k2 k3 T' rfl X'
    exact ⟨t2, st t2 a1, b1⟩
  · obtain ⟨k1, k2, k3⟩ := vx_keep h0 e1 hS hAX hf hL hF
    obtain ⟨t2, a1, b1⟩ := kx E ce q u t T'.heap (locs ++ L) e1.symm (by rw [← e2]; exact X'.warmed.alike) hp hb k1 k2 k3 (by rw [e1]; exact hce) hcv hcl T' rfl X'
    exact ⟨t2, st.trans a1, b1⟩
theorem vx_calld {S SX : Type} {post : UInt64 → S → Prop} {px : SX → Prop} {B : S → State → Prop} {BX : String → SX → State → Prop} {AX : Nat → Prop} (hr : vx_Run p l e R s m args below meth c H locs cells slots mc ms (F0 m pc ls st0) rest (va_Qd post B A1 a) (vx_X px BX AX) free) (hS : va_S A0 H0 H locs) (hA : ∀ q, q < H.size → A1 q → A0 q) (hf : ∀ q, free q → A0 q) (hAX : ∀ q, q < H.size → AX q → A0 q)
    (kx : ∀ (E : String) (ce : Cell) (q9 : Addr) (u : SX) (t : State) (H1 : Heap) (locs1 : List Loc), t.heap = H1 → s.vm.Alike t.vm → px u → BX E u t → H.size ≤ H1.size → (∀ q : Nat, q < H.size → ¬ AX q → H1[q]? = H[q]?) → va_S A0 H0 H1 locs1 → H1[q9]? = some ce → ce.vm = .none → s.vm.findClass E = some ce.cls → vx_W p l e R s m args below meth c H1 locs1 (cells + mc) (slots + ms) Q (F0 m pc ls rest) q9)
    (kk : ∀ (r : UInt64) (u : S) (t : State) (H1 : Heap) (locs1 : List Loc), t.heap = H1 → s.vm.Alike t.vm → post r u → B u t → H.size ≤ H1.size → (∀ q : Nat, q < H.size → ¬ A1 q → H1[q]? = H[q]?) → va_S A0 H0 H1 locs1 → W p l e R s m args below meth c H1 locs1 (cells + mc) (slots + ms) Q (F0 m (pc + 3) ls (.double r :: rest))) : W p l e R s m args below meth c H locs cells slots Q (F0 m pc ls st0) := by
  intro T hT X
  rcases hr T hT X with ⟨v, st₀, t, T', L, h0, X', hL, e1, e2, ⟨⟨r, u, hv, hp, hb⟩, hF⟩, st⟩ | ⟨q, st₀, t, T', L, E, ce, h0, X', hL, e1, e2, ⟨u, hp, hb, hF⟩, hce, hcv, hcl, st⟩
  · cases hv
    obtain ⟨k1, k2, k3⟩ := vx_keep h0 e1 hS hA hf hL hF
    obtain ⟨t2, a1, b1⟩ := kk r u t T'.heap (locs ++ L) e1.symm (by rw [← e2]; exact X'.warmed.alike) hp hb k1 k2 k3 T' rfl X'
    exact ⟨t2, st t2 a1, b1⟩
  · obtain ⟨k1, k2, k3⟩ := vx_keep h0 e1 hS hAX hf hL hF
    obtain ⟨t2, a1, b1⟩ := kx E ce q u t T'.heap (locs ++ L) e1.symm (by rw [← e2]; exact X'.warmed.alike) hp hb k1 k2 k3 (by rw [e1]; exact hce) hcv hcl T' rfl X'
    exact ⟨t2, st.trans a1, b1⟩
theorem vx_callv {S SX : Type} {post : S → Prop} {px : SX → Prop} {B : S → State → Prop} {BX : String → SX → State → Prop} {AX : Nat → Prop} (hr : vx_Run p l e R s m args below meth c H locs cells slots mc ms (F0 m pc ls st0) rest (va_Qv post B A1 a) (vx_X px BX AX) free) (hS : va_S A0 H0 H locs) (hA : ∀ q, q < H.size → A1 q → A0 q) (hf : ∀ q, free q → A0 q) (hAX : ∀ q, q < H.size → AX q → A0 q)
    (kx : ∀ (E : String) (ce : Cell) (q9 : Addr) (u : SX) (t : State) (H1 : Heap) (locs1 : List Loc), t.heap = H1 → s.vm.Alike t.vm → px u → BX E u t → H.size ≤ H1.size → (∀ q : Nat, q < H.size → ¬ AX q → H1[q]? = H[q]?) → va_S A0 H0 H1 locs1 → H1[q9]? = some ce → ce.vm = .none → s.vm.findClass E = some ce.cls → vx_W p l e R s m args below meth c H1 locs1 (cells + mc) (slots + ms) Q (F0 m pc ls rest) q9)
    (kk : ∀ (u : S) (t : State) (H1 : Heap) (locs1 : List Loc), t.heap = H1 → s.vm.Alike t.vm → post u → B u t → H.size ≤ H1.size → (∀ q : Nat, q < H.size → ¬ A1 q → H1[q]? = H[q]?) → va_S A0 H0 H1 locs1 → W p l e R s m args below meth c H1 locs1 (cells + mc) (slots + ms) Q (F0 m (pc + 3) ls (rest))) : W p l e R s m args below meth c H locs cells slots Q (F0 m pc ls st0) := by
  intro T hT X
  rcases hr T hT X with ⟨v, st₀, t, T', L, h0, X', hL, e1, e2, ⟨⟨u, hv, hp, hb⟩, hF⟩, st⟩ | ⟨q, st₀, t, T', L, E, ce, h0, X', hL, e1, e2, ⟨u, hp, hb, hF⟩, hce, hcv, hcl, st⟩
  · cases hv
    obtain ⟨k1, k2, k3⟩ := vx_keep h0 e1 hS hA hf hL hF
    obtain ⟨t2, a1, b1⟩ := kk u t T'.heap (locs ++ L) e1.symm (by rw [← e2]; exact X'.warmed.alike) hp hb k1 k2 k3 T' rfl X'
    exact ⟨t2, st t2 a1, b1⟩
  · obtain ⟨k1, k2, k3⟩ := vx_keep h0 e1 hS hAX hf hL hF
    obtain ⟨t2, a1, b1⟩ := kx E ce q u t T'.heap (locs ++ L) e1.symm (by rw [← e2]; exact X'.warmed.alike) hp hb k1 k2 k3 (by rw [e1]; exact hce) hcv hcl T' rfl X'
    exact ⟨t2, st.trans a1, b1⟩
/-- caught by the row x of this method's table; the rows ahead don't take it -/
theorem vx_catch {own name : String} {E : String} {ce : Cell} {q : Addr} (hown : s.vm.findClass own = some m.cls) (pre : List ExceptionTableEntry) (x : ExceptionTableEntry) (suf : List ExceptionTableEntry) (hsplit : c.exceptionTable.toList = pre ++ x :: suf)
    (hpass : ∀ z ∈ pre, covers z pc = false ∨ (z.catchType ≠ 0 ∧ ∃ nm : String, (Cond.classLink own z.catchType nm).before args s = true ∧ va_Nc E nm s)) (hx : covers x pc = true) (h0 : x.catchType ≠ 0)
    (hlink : (Cond.classLink own x.catchType name).before args s = true) (hcast : (Cond.castable E name).before args s = true) (hcell : H[q]? = some ce) (hv : ce.vm = .none) (hcl : s.vm.findClass E = some ce.cls)
    (kk : W p l e R s m args below meth c H locs cells slots Q (F0 m x.handlerPc ls [.ref q])) : vx_W p l e R s m args below meth c H locs cells slots Q (F0 m pc ls rest) q := by
  intro T hT X
  have hpl : e.platform.magicAccessors = ({} : Platform).magicAccessors := by rw [X.admits.platform]
  obtain ⟨c3, c4, hc3, hc4, hasg⟩ := Cond.castable_spec hcast
  cases Option.some.inj (hc3.symm.trans hcl)
  obtain ⟨c5, hc5, hcl5⟩ := Cond.classLink_spec hown hlink e.platform hpl
  cases Option.some.inj (hc4.symm.trans hc5)
  obtain ⟨vm', X', st⟩ := X.thenCaughtThrough q (g := F0 m pc ls rest) rfl (Steps.refl _) (by rw [hT]; exact hcell) (by rw [hv]; rfl) (by obtain ⟨k9, h9, -⟩ := Vm.findClass_spec hcl; exact ⟨k9, h9⟩) pre x suf hsplit
    (fun z hz => by
      rcases hpass z hz with h | ⟨hz0, nm, hl1, hn1⟩
      · exact Or.inl h
      · obtain ⟨c6, hc6, hcl6⟩ := Cond.classLink_spec hown hl1 e.platform hpl
        obtain ⟨a8, b8, h1, h2, h3⟩ := hn1
        cases Option.some.inj (h1.symm.trans hcl)
        cases Option.some.inj (h2.symm.trans hc6)
        exact Or.inr ⟨hz0, _, hcl6, h3⟩) hx (Or.inr ⟨h0, c4, hcl5, hasg⟩)
  obtain ⟨t, a1, b1⟩ := kk (T.setVm vm') hT X'
  exact ⟨t, st.trans a1, b1⟩
end Rows
section Ends
variable {p : Program} {l : Launch} {e : Env} {R : Room} {s : State} {m : MethodId} {args : Array Value} {below : List Frame} {meth : Method} {c : Code} {H : Heap} {locs : List Loc} {cells slots : Nat} {Q : State → Prop}
variable {mc ms : Nat} {free : Addr → Prop} {A0 A1 : Nat → Prop} {H0 : Heap} {a : Array Value} {ls : Array Slot} {st0 rest : List Value}
variable {Qc : Array Value → State → Outcome → State → Prop} {XC : String → State → State → Prop}
/-- what a body that may throw owes at its end -/
def vx_MQ (below : List Frame) (Qc : Array Value → State → Outcome → State → Prop) (XC : String → State → State → Prop) (a : Array Value) (s : State) (mc ms : Nat) (free : Addr → Prop) : State → Prop := fun t =>
  ∃ o, t.status = .running ∧ Ended t below o ∧ vx_Q Qc XC mc ms free a s o t
theorem vx_ret {g : JFrame} {mc ms : Nat} (k : W p l e R s m args below meth c H locs cells slots (MQ below Qc args s mc ms free) g) : W p l e R s m args below meth c H locs cells slots (vx_MQ below Qc XC args s mc ms free) g := by
  intro T hT X
  obtain ⟨t, a1, o, b1, b2, b3, b4⟩ := k T hT X
  exact ⟨t, a1, o, b1, b2, Or.inl ⟨b3, b4⟩⟩
/-- not caught here: it goes on to the caller -/
theorem vx_widen {g : JFrame} {q : Addr} {k n : Nat} (h1 : cells ≤ k) (h2 : slots ≤ n) (kk : vx_W p l e R s m args below meth c H locs k n Q g q) : vx_W p l e R s m args below meth c H locs cells slots Q g q := fun T hT X => kk T hT (stand_widen X h1 h2)
theorem vx_out {pc : Nat} {E : String} {ce : Cell} {q : Addr} {mc ms : Nat} (hout : ∀ x ∈ c.exceptionTable.toList, covers x pc = false) (hlocks : meth.locks = false) (hcell : H[q]? = some ce) (hv : ce.vm = .none) (hcl : s.vm.findClass E = some ce.cls)
    (hx : ∀ t : State, t.heap = H → s.vm.Alike t.vm → XC E s t) (hf : ∀ z ∈ locs, free z.base) (hc : cells ≤ mc) (hs : slots ≤ ms) :
    vx_W p l e R s m args below meth c H locs cells slots (vx_MQ below Qc XC args s mc ms free) (F0 m pc ls rest) q := by
  intro T hT X
  obtain ⟨st1, hrun, hend, hW, hsm⟩ := X.leaveThrown q (g := F0 m pc ls rest) rfl rfl rfl hout hlocks
  have hcell9 : (T.setFrames (.throwing q :: below)).heap[q]? = some ce := by
    show T.heap[q]? = some ce
    rw [hT]; exact hcell
  exact ⟨_, st1, .threw q, hrun, hend, Or.inr ⟨q, rfl, E, ce, locs, hx _ hT hW.alike, hcell9, hv, hcl, hW, hsm.mono hc hs, hf⟩⟩
theorem vx_frame {U : State} {k n : Nat} (h : s.sameButNew ({ U with vm := s.vm } : State) locs k n) : s.heap.size ≤ U.heap.size ∧ ∀ q : Nat, q < s.heap.size → (∀ z ∈ locs, z.base ≠ q) → U.heap[q]? = s.heap[q]? := by
  obtain ⟨-, h2, -, -, -, h6⟩ := h
  refine ⟨h2, fun q hq hz => ?_⟩
  obtain ⟨c9, e1, e2, e3, e4⟩ := h6 q _ (Array.getElem?_eq_getElem hq)
  have hs : c9.slots = (s.heap[q]).slots := Array.ext_getElem? fun i => e4 i fun hm => hz _ hm rfl
  have h9 : c9 = s.heap[q] := by
    rw [hs] at e2
    exact e2
  have e5 : U.heap[q]? = some c9 := e1
  rw [e5, h9, Array.getElem?_eq_getElem hq]
/-- the words of a throw but the four that speak of the heap -/
def vx_no (w : Cond) : Bool := decide (w ≠ .isRef (.static Bundle.tN "UNASSIGNED_STACK" Bundle.steD)) && decide (w ≠ .isRef (.static Bundle.tN "SUPPRESSED_SENTINEL" Bundle.listD)) && decide (w ≠ .laysStatic Bundle.tN "UNASSIGNED_STACK" Bundle.steD) && decide (w ≠ .laysStatic Bundle.tN "SUPPRESSED_SENTINEL" Bundle.listD)
def vx_at0 (own : String) (ic : Nat) (X : String) (names : List String) : List Cond := (Bundle.ownAtoms0 own ic X names).filter vx_no
def vx_atS (own : String) (ic : Nat) (X : String) (names : List String) : List Cond := (Bundle.ownAtoms own ic X names).filter vx_no
/-- a word that the tables alone decide, or a good one -/
def vx_ot (w : Cond) : Bool := w.onTables || goodWord w
theorem vx_ot_at {args a' : Array Value} {s U : State} {w : Cond} (hW : s.WarmedH U.vm) (hvm : s.vm = U.vm) (hg : vx_ot w = true) (h : w.before args s = true) : w.before a' U = true := by
  simp only [vx_ot, Bool.or_eq_true] at hg
  rcases hg with hg | hg
  · exact va_tabs hg hvm h
  · exact word_at hW (good_of_word hg) h
/-- a list's words: the good ones out of the method's own list, the others by premises of their own -/
theorem vx_hat {args : Array Value} {s : State} {L B : List Cond} (h1 : ∀ w ∈ L.filter goodWord, w.before args s = true) (h2 : ∀ w ∈ L.filter (fun w => !goodWord w), w ∈ B) (h3 : ∀ w ∈ B, w.before args s = true) : ∀ w ∈ L, w.before args s = true := by
  intro w hw
  by_cases g : goodWord w = true
  · exact h1 w (List.mem_filter.mpr ⟨hw, g⟩)
  · refine h3 w (h2 w (List.mem_filter.mpr ⟨hw, ?_⟩))
    show (!goodWord w) = true
    cases hgw : goodWord w
    · rfl
    · exact absurd hgw g
theorem vx_c {args : Array Value} {s : State} {w : Cond} {B : List Cond} (h : w.before args s = true) (t : ∀ w ∈ B, w.before args s = true) : ∀ w' ∈ w :: B, w'.before args s = true := fun w' h' => (List.mem_cons.mp h').elim (fun e => by rw [e]; exact h) (t w')
theorem vx_n {args : Array Value} {s : State} : ∀ w ∈ ([] : List Cond), w.before args s = true := fun _ h => nomatch h
theorem vx_own {args : Array Value} {s : State} {L : List Cond} (h1 : ∀ w ∈ L.filter vx_no, w.before args s = true)
    (hU : (Cond.isRef (.static Bundle.tN "UNASSIGNED_STACK" Bundle.steD)).before args s = true) (hN : (Cond.isRef (.static Bundle.tN "SUPPRESSED_SENTINEL" Bundle.listD)).before args s = true)
    (lU : (Cond.laysStatic Bundle.tN "UNASSIGNED_STACK" Bundle.steD).before args s = true) (lN : (Cond.laysStatic Bundle.tN "SUPPRESSED_SENTINEL" Bundle.listD).before args s = true) : ∀ w ∈ L, w.before args s = true := by
  intro w hw
  by_cases e1 : w = .isRef (.static Bundle.tN "UNASSIGNED_STACK" Bundle.steD)
  · rw [e1]; exact hU
  · by_cases e2 : w = .isRef (.static Bundle.tN "SUPPRESSED_SENTINEL" Bundle.listD)
    · rw [e2]; exact hN
    · by_cases e3 : w = .laysStatic Bundle.tN "UNASSIGNED_STACK" Bundle.steD
      · rw [e3]; exact lU
      · by_cases e4 : w = .laysStatic Bundle.tN "SUPPRESSED_SENTINEL" Bundle.listD
        · rw [e4]; exact lN
        · exact h1 w (List.mem_filter.mpr ⟨hw, by unfold vx_no; rw [decide_eq_true e1, decide_eq_true e2, decide_eq_true e3, decide_eq_true e4]; rfl⟩)
/-- where a static field lies, its class's statics cell in H -/
def vx_L (C n d : String) (A : Nat → Prop) (U : State) (H : Heap) : Prop := ∃ (c : ClassId) (k : Class) (i : Nat) (f : Field) (a : Nat) (cell : Cell), U.vm.findClass C = some c ∧ U.fieldFound? C n d = some (c, k, i, f) ∧ f.isStatic = true ∧ k.statics = some a ∧ H[a]? = some cell ∧ cell.vm.isStatics = true ∧ cell.cls = c ∧ f.slot < cell.slots.size ∧ k.staticTypes[f.slot]? = some f.type ∧ ¬ A a
theorem vx_L.moved {C n d : String} {A : Nat → Prop} {u U : State} {H : Heap} (hvm : u.vm.Alike U.vm) (h : vx_L C n d A u H) : vx_L C n d A U H := by
  obtain ⟨c, k, i, f, a, cell, h1, h2, h3, h4, h5, h6, h7, h8, h9, h10⟩ := h
  obtain ⟨k', hi', he⟩ := State.fieldFound?_setVm hvm h2
  exact ⟨c, k', i, f, a, cell, by rw [hvm.findClass]; exact h1, hi', h3, by rw [he]; exact h4, h5, h6, h7, h8, by rw [he]; exact h9, h10⟩
theorem vx_L.kept {C n d : String} {A : Nat → Prop} {U : State} {H H1 : Heap} (h : vx_L C n d A U H) (hq : ∀ a : Nat, a < H.size → ¬ A a → H1[a]? = H[a]?) : vx_L C n d A U H1 := by
  obtain ⟨c, k, i, f, a, cell, h1, h2, h3, h4, h5, h6, h7, h8, h9, h10⟩ := h
  exact ⟨c, k, i, f, a, cell, h1, h2, h3, h4, by rw [hq a (Array.getElem?_eq_some_iff.mp h5).1 h10]; exact h5, h6, h7, h8, h9, h10⟩
theorem vx_L.narrow {C n d : String} {A B : Nat → Prop} {U : State} {H : Heap} (h : vx_L C n d A U H) (hAB : ∀ q, B q → A q) : vx_L C n d B U H := by
  obtain ⟨c, k, i, f, a, cell, h1, h2, h3, h4, h5, h6, h7, h8, h9, h10⟩ := h
  exact ⟨c, k, i, f, a, cell, h1, h2, h3, h4, h5, h6, h7, h8, h9, fun z => h10 (hAB _ z)⟩
theorem vx_L.word {C n d : String} {A : Nat → Prop} {s : State} {args : Array Value} (h : vx_L C n d A s s.heap) : (Cond.laysStatic C n d).before args s = true := by
  obtain ⟨c, k, i, f, a, cell, h1, h2, h3, h4, h5, h6, h7, h8, h9, -⟩ := h
  show (Cond.laysStatic C n d).holds args s none s [] = true
  exact Cond.laysStatic_of h1 h2 h3 h4 h5 h6 h7 h8 h9
/-- .. and what it holds: null or some reference -/
def vx_Zq (C n d : String) (A : Nat → Prop) (U : State) (H : Heap) : Prop := va_Zq C n d A U H ∧ vx_L C n d A U H
theorem vx_Zq.moved {C n d : String} {A : Nat → Prop} {u U : State} {H : Heap} (hvm : u.vm.Alike U.vm) (h : vx_Zq C n d A u H) : vx_Zq C n d A U H := ⟨va_Zq.moved hvm h.1, vx_L.moved hvm h.2⟩
theorem vx_Zq.kept {C n d : String} {A : Nat → Prop} {U : State} {H H1 : Heap} (h : vx_Zq C n d A U H) (hq : ∀ a : Nat, a < H.size → ¬ A a → H1[a]? = H[a]?) : vx_Zq C n d A U H1 := ⟨va_Zq.kept h.1 hq, vx_L.kept h.2 hq⟩
theorem vx_Zq.narrow {C n d : String} {A B : Nat → Prop} {U : State} {H : Heap} (h : vx_Zq C n d A U H) (hAB : ∀ q, B q → A q) : vx_Zq C n d B U H := ⟨va_Zq.narrow h.1 hAB, vx_L.narrow h.2 hAB⟩
theorem vx_Zqof {args : Array Value} {s : State} {C n d : String} {A : Nat → Prop} (hl : (Cond.laysStatic C n d).before args s = true) (hini : (Cond.initialized C).before args s = true) (h : (Cond.isRef (.static C n d)).before args s = true) (hA : ∀ a : Nat, a < s.heap.size → ¬ A a) : vx_Zq C n d A s s.heap := by
  refine ⟨va_Zqof hl hini h hA, ?_⟩
  obtain ⟨c, k, i, f, a, cell, h1, h2, h3, h4, h5, h6, h7, h8, h9⟩ := Cond.laysStatic_spec hl
  exact ⟨c, k, i, f, a, cell, h1, h2, h3, h4, h5, h6, h7, h8, h9, hA a (Array.getElem?_eq_some_iff.mp h5).1⟩
theorem vx_isRef {C n d : String} {v : Value} {A : Nat → Prop} {s : State} {args : Array Value} (h : va_Z C n d v A s s.heap) (hv : v.isRef = true) : (Cond.isRef (.static C n d)).before args s = true := by
  obtain ⟨cf, kf, fi, f, a, cell, h1, h2, h3, h4, h5, h6, h7, -⟩ := h
  have he : (Term.static C n d).eval args s none [] s = some v := by
    simp [Term.eval, State.fieldNamed?, h1, h2, h4, h5, h6, h7]
  simp only [Cond.before, Cond.holds, Cond.value, he]
  cases v <;> simp_all [Value.isRef]
theorem vx_isRefq {C n d : String} {A : Nat → Prop} {s : State} {args : Array Value} (h : va_Zq C n d A s s.heap) : (Cond.isRef (.static C n d)).before args s = true := by
  rcases h with h | ⟨t, h⟩
  · exact vx_isRef h rfl
  · exact vx_isRef h rfl
/-- the same frame, seen from here: as if the method were called anew in this heap -/
theorem vx_rebase {T : State} (X : Stand p l e R s m args below meth c T locs cells slots) {R' : Room} (hf : R'.frames ≤ R.frames) (hl : R'.locals ≤ R.locals) (hc : cells + R'.cells ≤ R.cells) (hs : slots + R'.slots ≤ R.slots) :
    Stand p l e R' ((T.setVm s.vm).setFrames (.invoking m args :: below)) m args below meth c T [] 0 0 := by
  have htop : (T.setVm s.vm).topJava?.isSome := X.here.top
  have hF : ((T.setVm s.vm).setFrames (.invoking m args :: below)).frames = .invoking m args :: below := State.frames_setFrames _ (State.cur_lt_of_top htop)
  obtain ⟨g₀, hg0⟩ := Option.isSome_iff_exists.mp htop
  obtain ⟨r, hr⟩ := State.topJava?_eq_some.mp hg0
  have hl9 : e.platform.stackLimits (T.setVm s.vm).me = e.platform.stackLimits s.me := X.limits
  have hb9 : (T.setVm s.vm).me.stackBytes = s.me.stackBytes := X.bytes
  refine ⟨X.admits, X.cas, X.clock, hF, ?_, X.hears, X.method, X.code, X.here, X.tail, X.warmed, ?_, ?_, ?_⟩
  · have h := X.room
    have hU : ((T.setVm s.vm).setFrames (.invoking m args :: below)).localsInUse = s.localsInUse := by
      rw [State.localsInUse_invoking hF (meth := meth) (c := c) X.method X.code, State.localsInUse_invoking X.frames X.method X.code]
    simp only [State.hasRoom, Bool.and_eq_true, decide_eq_true_eq] at h ⊢
    obtain ⟨⟨⟨⟨h1, h2, h3, h4, h5, h6⟩, h7⟩, h8⟩, h9⟩ := h
    rw [X.frames, List.length_cons] at h2 h3
    have q1 := X.heapSize
    have q2 := X.used
    simp only [hF, hU, List.length_cons, State.stackLimits_setFrames, State.stackBytes_setFrames, hl9, hb9]
    refine ⟨⟨⟨⟨by omega, by omega, by omega, by omega, by omega, h6⟩, ?_⟩, ?_⟩, X.book⟩
    · show T.heap.size + R'.cells ≤ e.platform.maxCells
      omega
    · show T.slotsUsed + R'.slots ≤ e.platform.maxSlots
      omega
  · rw [State.stackLimits_setFrames]; rfl
  · rw [State.stackBytes_setFrames]; rfl
  · refine ⟨?_, Nat.le_refl _, Nat.le_refl _, ?_, ?_, fun a c9 h9 => ⟨c9, h9, rfl, rfl, fun _ _ => rfl⟩⟩
    · obtain ⟨t, ht, -⟩ := State.frames_cons hr
      show T.setVm s.vm = { ((T.setVm s.vm).setFrames (.invoking m args :: below)).setFrames (T.setVm s.vm).frames with heap := T.heap, slotsUsed := T.slotsUsed }
      rw [State.setFrames_setFrames, State.setFrames_self ht]
      rfl
    · show T.slotsUsed = T.slotsUsed + ((T.heap.toList.drop T.heap.size).map (·.slots.size)).sum
      rw [List.drop_eq_nil_of_le (Nat.le_of_eq Array.length_toList)]
      rfl
    · show ((T.heap.toList.drop T.heap.size).map (·.slots.size)).sum ≤ 0
      rw [List.drop_eq_nil_of_le (Nat.le_of_eq Array.length_toList)]
      exact Nat.le_refl _
/-- 'throw new E()': new; dup; invokespecial; athrow -/
theorem vx_throw0 {cc : ByteArray} {pc : Nat} (hexec : p.tables.exec = Jvm.exec) (hb : c.code = cc) (hl : l.stackTraces = false) {own cls : String} {names : List String} {ik ic mc ms : Nat} {A : Nat → Prop}
    (hown : s.vm.findClass own = some m.cls) (hcls : Bundle.fit cls = true) (hnames : ∀ n ∈ names, Bundle.fit n = true)
    (hk : (Cond.classLink own ik cls).before args s = true) (hini : (Cond.initialized cls).before args s = true) (hat : ∀ w ∈ vx_at0 own ic cls names, w.before args s = true)
    (hgood : ∀ w ∈ Cond.classLink own ik cls :: Cond.initialized cls :: vx_at0 own ic cls names, vx_ot w = true)
    (hU : vx_Zq Bundle.tN "UNASSIGNED_STACK" Bundle.steD A s s.heap) (hN : vx_Zq Bundle.tN "SUPPRESSED_SENTINEL" Bundle.listD A s s.heap) (hS : va_S A s.heap H locs) (hsize : ls.size = c.maxLocals)
    (d0 : decode cc pc = .ok (.new ik, 3)) (d3 : decode cc (pc + 3) = .ok (.dup, 1)) (d4 : decode cc (pc + 4) = .ok (.invokespecial ic, 3)) (d7 : decode cc (pc + 7) = .ok (.athrow, 1))
    (hout : ∀ x ∈ c.exceptionTable.toList, covers x (pc + 7) = false)
    (hRframes : names.length + 3 < R.frames) (hRlocals : (rest.map fun v => v.category).sum + (13 * (names.length + 1) + 42) ≤ R.locals) (hRcells : cells + 1 ≤ R.cells) (hRslots : slots + 6 ≤ R.slots) (hlocks : meth.locks = false)
    (hx : ∀ t : State, s.vm.Alike t.vm → H.size ≤ t.heap.size → (∀ q : Nat, q < H.size → t.heap[q]? = H[q]?) → XC cls s t)
    (hf : ∀ z ∈ locs, free z.base) (hc : cells + 1 ≤ mc) (hs : slots + 6 ≤ ms) :
    W p l e R s m args below meth c H locs cells slots (vx_MQ below Qc XC args s mc ms free) (F0 m pc ls rest) := by
  intro T hT X
  have htr : e.platform.stackTraces = false := (show e.platform.stackTraces = l.stackTraces by rw [X.admits.platform]).trans hl
  have Y := vx_rebase X (R' := { frames := R.frames, locals := R.locals, cells := 1, slots := 6 }) (Nat.le_refl _) (Nat.le_refl _) hRcells hRslots
  obtain ⟨s', hA⟩ : ∃ z, z = (T.setVm s.vm).setFrames (.invoking m args :: below) := ⟨_, rfl⟩
  rw [← hA] at Y
  have hvm : s'.vm = s.vm := by rw [hA]; rfl
  have hhp : s'.heap = H := by rw [hA]; exact hT
  have hW0 : s.WarmedH s'.vm := by rw [hvm]; exact State.WarmedH.refl s
  have hat' : ∀ w ∈ vx_at0 own ic cls names, w.before args s' = true := fun w hw => vx_ot_at hW0 hvm.symm (hgood w (List.mem_cons_of_mem _ (List.mem_cons_of_mem _ hw))) (hat w hw)
  have hk' : (Cond.classLink own ik cls).before args s' = true := vx_ot_at hW0 hvm.symm (hgood _ List.mem_cons_self) hk
  have hini' : (Cond.initialized cls).before args s' = true := vx_ot_at hW0 hvm.symm (hgood _ (List.mem_cons_of_mem _ List.mem_cons_self)) hini
  have hU' : vx_Zq Bundle.tN "UNASSIGNED_STACK" Bundle.steD A s' s'.heap := by rw [hhp]; exact vx_Zq.moved hW0.alike (hU.kept hS.2.1)
  have hN' : vx_Zq Bundle.tN "SUPPRESSED_SENTINEL" Bundle.listD A s' s'.heap := by rw [hhp]; exact vx_Zq.moved hW0.alike (hN.kept hS.2.1)
  have h : ∀ w ∈ Bundle.ownAtoms0 own ic cls names, w.before args s' = true := vx_own hat' (vx_isRefq hU'.1) (vx_isRefq hN'.1) hU'.2.word hN'.2.word
  have hown' : s'.vm.findClass own = some m.cls := by rw [hvm]; exact hown
  have hins : (Cond.instantiable cls 6).before args s' = true := h _ (by simp [Bundle.ownAtoms0])
  obtain ⟨vm₁, cX, kX, hfX, hkX, -, -, X₁, st1⟩ := Y.newCold hexec (own := own) (C := cls) (index := ik) (n := 6) hown' hk' hins hini'
    (g := F0 m pc ls rest) rfl (by rw [hb]; exact d0) (Nat.le_refl _) (Nat.le_refl _)
  generalize hT1 : (T.setVm vm₁).pushCell { cls := cX, slots := kX.instanceTypes.map defaultValue, vm := .none } = T1 at X₁ st1
  have hcat : (Value.ref T.heap.size).category = 1 := rfl
  have hcellA : T1.heap[T.heap.size]? = some (freshCell cX kX) := by rw [← hT1]; exact State.heap_pushCell_size _ _
  have d3' : decode c.code (pc + 3) = .ok (.dup, 1) := by rw [hb]; exact d3
  obtain ⟨U, hsteps, hrun, hend, hW, hsame, ce, hce, hO⟩ := X₁.ctorThrow0 hexec htr (own := own) (cls := cls) (names := names) (ic := ic) hown' hcls hnames h (fun x hx => nomatch hx) hfX hkX hcellA (by rw [hhp, hT]; exact Nat.le_refl _)
    (g := { method := m, pc := pc + 4, locals := ls, stack := .ref T.heap.size :: .ref T.heap.size :: rest, locked := none }) rfl hsize rfl rfl (rest := rest) rfl
    (by rw [hb]; exact d4) (by rw [hb]; exact d7) hout hRframes (by simp only [List.map_cons, List.sum_cons, hcat]; omega) hlocks
  obtain ⟨f1, f2⟩ := vx_frame hsame
  rw [hhp] at f1 f2
  have hWs : s.WarmedH U.vm := State.WarmedH.trans hW0 hW
  have hcl : s.vm.findClass cls = some ce.cls := by
    have h9 := hO.cls
    rw [hvm] at h9
    exact h9
  have hall : s.sameButNew ({ U with vm := s.vm } : State) locs mc ms := by
    subst hA
    obtain ⟨e1, e2⟩ := hsame
    rw [State.setFrames_setFrames] at e1
    have h2 : (T.setVm s.vm).sameButNew ({ U with vm := s.vm } : State) [] (0 + 1) (0 + 6) := ⟨e1, e2⟩
    have h3 := X.same.trans h2
    rw [List.append_nil] at h3
    exact h3.mono hc hs
  refine ⟨U, ?_, .threw T.heap.size, hrun, hend, Or.inr ⟨T.heap.size, rfl, cls, ce, locs, hx U hWs.alike f1 (fun q hq => f2 q hq (fun z hz => nomatch hz)), hce, hO.vm, hcl, hWs, hall, hf⟩⟩
  refine st1 _ ?_
  show Steps p.tables e below (T1.setTop { method := m, pc := pc + 3, locals := ls, stack := .ref T.heap.size :: rest, locked := none }) _
  jvm_step X₁.here [X₁.here.top, hexec, d3', Value.category]
  exact hsteps
/-- 'throw new E("text")': new; dup; ldc; invokespecial; athrow -/
theorem vx_throwS {cc : ByteArray} {pc : Nat} (hexec : p.tables.exec = Jvm.exec) (hb : c.code = cc) (hl : l.stackTraces = false) {own cls text : String} {names : List String} {ik is ic mc ms sa : Nat} {A : Nat → Prop}
    (hown : s.vm.findClass own = some m.cls) (hcls : Bundle.fit cls = true) (hnames : ∀ n ∈ names, Bundle.fit n = true)
    (hk : (Cond.classLink own ik cls).before args s = true) (hini : (Cond.initialized cls).before args s = true) (hstr : vk_R own is text sa s) (hat : ∀ w ∈ vx_atS own ic cls names, w.before args s = true)
    (hgood : ∀ w ∈ Cond.classLink own ik cls :: Cond.initialized cls :: vx_atS own ic cls names, vx_ot w = true)
    (hU : vx_Zq Bundle.tN "UNASSIGNED_STACK" Bundle.steD A s s.heap) (hN : vx_Zq Bundle.tN "SUPPRESSED_SENTINEL" Bundle.listD A s s.heap) (hS : va_S A s.heap H locs) (hsize : ls.size = c.maxLocals)
    (d0 : decode cc pc = .ok (.new ik, 3)) (d3 : decode cc (pc + 3) = .ok (.dup, 1)) (d4 : decode cc (pc + 4) = .ok (.ldc is, 2)) (d6 : decode cc (pc + 6) = .ok (.invokespecial ic, 3)) (d9 : decode cc (pc + 9) = .ok (.athrow, 1))
    (hout : ∀ x ∈ c.exceptionTable.toList, covers x (pc + 9) = false)
    (hRframes : names.length + 3 < R.frames) (hRlocals : (rest.map fun v => v.category).sum + (13 * (names.length + 1) + 43) ≤ R.locals) (hRcells : cells + 1 ≤ R.cells) (hRslots : slots + 6 ≤ R.slots) (hlocks : meth.locks = false)
    (hx : ∀ t : State, s.vm.Alike t.vm → H.size ≤ t.heap.size → (∀ q : Nat, q < H.size → t.heap[q]? = H[q]?) → XC cls s t)
    (hf : ∀ z ∈ locs, free z.base) (hc : cells + 1 ≤ mc) (hs : slots + 6 ≤ ms) :
    W p l e R s m args below meth c H locs cells slots (vx_MQ below Qc XC args s mc ms free) (F0 m pc ls rest) := by
  intro T hT X
  have htr : e.platform.stackTraces = false := (show e.platform.stackTraces = l.stackTraces by rw [X.admits.platform]).trans hl
  have Y := vx_rebase X (R' := { frames := R.frames, locals := R.locals, cells := 1, slots := 6 }) (Nat.le_refl _) (Nat.le_refl _) hRcells hRslots
  obtain ⟨s', hA⟩ : ∃ z, z = (T.setVm s.vm).setFrames (.invoking m args :: below) := ⟨_, rfl⟩
  rw [← hA] at Y
  have hvm : s'.vm = s.vm := by rw [hA]; rfl
  have hhp : s'.heap = H := by rw [hA]; exact hT
  have hW0 : s.WarmedH s'.vm := by rw [hvm]; exact State.WarmedH.refl s
  have hat' : ∀ w ∈ vx_atS own ic cls names, w.before args s' = true := fun w hw => vx_ot_at hW0 hvm.symm (hgood w (List.mem_cons_of_mem _ (List.mem_cons_of_mem _ hw))) (hat w hw)
  have hk' : (Cond.classLink own ik cls).before args s' = true := vx_ot_at hW0 hvm.symm (hgood _ List.mem_cons_self) hk
  have hini' : (Cond.initialized cls).before args s' = true := vx_ot_at hW0 hvm.symm (hgood _ (List.mem_cons_of_mem _ List.mem_cons_self)) hini
  have hU' : vx_Zq Bundle.tN "UNASSIGNED_STACK" Bundle.steD A s' s'.heap := by rw [hhp]; exact vx_Zq.moved hW0.alike (hU.kept hS.2.1)
  have hN' : vx_Zq Bundle.tN "SUPPRESSED_SENTINEL" Bundle.listD A s' s'.heap := by rw [hhp]; exact vx_Zq.moved hW0.alike (hN.kept hS.2.1)
  have h : ∀ w ∈ Bundle.ownAtoms own ic cls names, w.before args s' = true := vx_own hat' (vx_isRefq hU'.1) (vx_isRefq hN'.1) hU'.2.word hN'.2.word
  have hown' : s'.vm.findClass own = some m.cls := by rw [hvm]; exact hown
  have hins : (Cond.instantiable cls 6).before args s' = true := h _ (by simp [Bundle.ownAtoms])
  obtain ⟨vm₁, cX, kX, hfX, hkX, -, -, X₁, st1⟩ := Y.newCold hexec (own := own) (C := cls) (index := ik) (n := 6) hown' hk' hins hini'
    (g := F0 m pc ls rest) rfl (by rw [hb]; exact d0) (Nat.le_refl _) (Nat.le_refl _)
  generalize hT1 : (T.setVm vm₁).pushCell { cls := cX, slots := kX.instanceTypes.map defaultValue, vm := .none } = T1 at X₁ st1
  have hcat : (Value.ref T.heap.size).category = 1 := rfl
  have hcellA : T1.heap[T.heap.size]? = some (freshCell cX kX) := by rw [← hT1]; exact State.heap_pushCell_size _ _
  have d3' : decode c.code (pc + 3) = .ok (.dup, 1) := by rw [hb]; exact d3
  have d4' : decode c.code (pc + 4) = .ok (.ldc is, 2) := by rw [hb]; exact d4
  have hstr' : vk_R own is text sa s' := vk_R.warm hW0 hstr
  obtain ⟨U, hsteps, hrun, hend, hW, hsame, ce, hce, hO⟩ := X₁.ctorThrowS hexec htr (own := own) (cls := cls) (names := names) (ic := ic) hown' hcls hnames h (fun x hx => nomatch hx) hfX hkX hcellA (by rw [hhp, hT]; exact Nat.le_refl _) (msg := .ref sa) rfl
    (g := { method := m, pc := pc + 6, locals := ls, stack := .ref sa :: .ref T.heap.size :: .ref T.heap.size :: rest, locked := none }) rfl hsize rfl rfl (rest := rest) rfl
    (by rw [hb]; exact d6) (by rw [hb]; exact d9) hout hRframes (by simp only [List.map_cons, List.sum_cons, hcat]; omega) hlocks
  obtain ⟨f1, f2⟩ := vx_frame hsame
  rw [hhp] at f1 f2
  have hWs : s.WarmedH U.vm := State.WarmedH.trans hW0 hW
  have hcl : s.vm.findClass cls = some ce.cls := by
    have h9 := hO.cls
    rw [hvm] at h9
    exact h9
  have hall : s.sameButNew ({ U with vm := s.vm } : State) locs mc ms := by
    subst hA
    obtain ⟨e1, e2⟩ := hsame
    rw [State.setFrames_setFrames] at e1
    have h2 : (T.setVm s.vm).sameButNew ({ U with vm := s.vm } : State) [] (0 + 1) (0 + 6) := ⟨e1, e2⟩
    have h3 := X.same.trans h2
    rw [List.append_nil] at h3
    exact h3.mono hc hs
  refine ⟨U, ?_, .threw T.heap.size, hrun, hend, Or.inr ⟨T.heap.size, rfl, cls, ce, locs, hx U hWs.alike f1 (fun q hq => f2 q hq (fun z hz => nomatch hz)), hce, hO.vm, hcl, hWs, hall, hf⟩⟩
  refine st1 _ ?_
  show Steps p.tables e below (T1.setTop { method := m, pc := pc + 3, locals := ls, stack := .ref T.heap.size :: rest, locked := none }) _
  jvm_step X₁.here [X₁.here.top, hexec, d3', Value.category]
  exact X₁.ldcString hexec (own := own) (text := text) (index := is) (a := sa) hown' hstr'.1 hstr'.2
    (g := { method := m, pc := pc + 4, locals := ls, stack := .ref T.heap.size :: .ref T.heap.size :: rest, locked := none }) rfl d4' _ hsteps
/-- 'throw new E("text")', the text by a wide index -/
theorem vx_throwSW {cc : ByteArray} {pc : Nat} (hexec : p.tables.exec = Jvm.exec) (hb : c.code = cc) (hl : l.stackTraces = false) {own cls text : String} {names : List String} {ik is ic mc ms sa : Nat} {A : Nat → Prop}
    (hown : s.vm.findClass own = some m.cls) (hcls : Bundle.fit cls = true) (hnames : ∀ n ∈ names, Bundle.fit n = true)
    (hk : (Cond.classLink own ik cls).before args s = true) (hini : (Cond.initialized cls).before args s = true) (hstr : vk_R own is text sa s) (hat : ∀ w ∈ vx_atS own ic cls names, w.before args s = true)
    (hgood : ∀ w ∈ Cond.classLink own ik cls :: Cond.initialized cls :: vx_atS own ic cls names, vx_ot w = true)
    (hU : vx_Zq Bundle.tN "UNASSIGNED_STACK" Bundle.steD A s s.heap) (hN : vx_Zq Bundle.tN "SUPPRESSED_SENTINEL" Bundle.listD A s s.heap) (hS : va_S A s.heap H locs) (hsize : ls.size = c.maxLocals)
    (d0 : decode cc pc = .ok (.new ik, 3)) (d3 : decode cc (pc + 3) = .ok (.dup, 1)) (d4 : decode cc (pc + 4) = .ok (.ldc_w is, 3)) (d7 : decode cc (pc + 7) = .ok (.invokespecial ic, 3)) (d10 : decode cc (pc + 10) = .ok (.athrow, 1))
    (hout : ∀ x ∈ c.exceptionTable.toList, covers x (pc + 10) = false)
    (hRframes : names.length + 3 < R.frames) (hRlocals : (rest.map fun v => v.category).sum + (13 * (names.length + 1) + 43) ≤ R.locals) (hRcells : cells + 1 ≤ R.cells) (hRslots : slots + 6 ≤ R.slots) (hlocks : meth.locks = false)
    (hx : ∀ t : State, s.vm.Alike t.vm → H.size ≤ t.heap.size → (∀ q : Nat, q < H.size → t.heap[q]? = H[q]?) → XC cls s t)
    (hf : ∀ z ∈ locs, free z.base) (hc : cells + 1 ≤ mc) (hs : slots + 6 ≤ ms) :
    W p l e R s m args below meth c H locs cells slots (vx_MQ below Qc XC args s mc ms free) (F0 m pc ls rest) := by
  intro T hT X
  have htr : e.platform.stackTraces = false := (show e.platform.stackTraces = l.stackTraces by rw [X.admits.platform]).trans hl
  have Y := vx_rebase X (R' := { frames := R.frames, locals := R.locals, cells := 1, slots := 6 }) (Nat.le_refl _) (Nat.le_refl _) hRcells hRslots
  obtain ⟨s', hA⟩ : ∃ z, z = (T.setVm s.vm).setFrames (.invoking m args :: below) := ⟨_, rfl⟩
  rw [← hA] at Y
  have hvm : s'.vm = s.vm := by rw [hA]; rfl
  have hhp : s'.heap = H := by rw [hA]; exact hT
  have hW0 : s.WarmedH s'.vm := by rw [hvm]; exact State.WarmedH.refl s
  have hat' : ∀ w ∈ vx_atS own ic cls names, w.before args s' = true := fun w hw => vx_ot_at hW0 hvm.symm (hgood w (List.mem_cons_of_mem _ (List.mem_cons_of_mem _ hw))) (hat w hw)
  have hk' : (Cond.classLink own ik cls).before args s' = true := vx_ot_at hW0 hvm.symm (hgood _ List.mem_cons_self) hk
  have hini' : (Cond.initialized cls).before args s' = true := vx_ot_at hW0 hvm.symm (hgood _ (List.mem_cons_of_mem _ List.mem_cons_self)) hini
  have hU' : vx_Zq Bundle.tN "UNASSIGNED_STACK" Bundle.steD A s' s'.heap := by rw [hhp]; exact vx_Zq.moved hW0.alike (hU.kept hS.2.1)
  have hN' : vx_Zq Bundle.tN "SUPPRESSED_SENTINEL" Bundle.listD A s' s'.heap := by rw [hhp]; exact vx_Zq.moved hW0.alike (hN.kept hS.2.1)
  have h : ∀ w ∈ Bundle.ownAtoms own ic cls names, w.before args s' = true := vx_own hat' (vx_isRefq hU'.1) (vx_isRefq hN'.1) hU'.2.word hN'.2.word
  have hown' : s'.vm.findClass own = some m.cls := by rw [hvm]; exact hown
  have hins : (Cond.instantiable cls 6).before args s' = true := h _ (by simp [Bundle.ownAtoms])
  obtain ⟨vm₁, cX, kX, hfX, hkX, -, -, X₁, st1⟩ := Y.newCold hexec (own := own) (C := cls) (index := ik) (n := 6) hown' hk' hins hini'
    (g := F0 m pc ls rest) rfl (by rw [hb]; exact d0) (Nat.le_refl _) (Nat.le_refl _)
  generalize hT1 : (T.setVm vm₁).pushCell { cls := cX, slots := kX.instanceTypes.map defaultValue, vm := .none } = T1 at X₁ st1
  have hcat : (Value.ref T.heap.size).category = 1 := rfl
  have hcellA : T1.heap[T.heap.size]? = some (freshCell cX kX) := by rw [← hT1]; exact State.heap_pushCell_size _ _
  have d3' : decode c.code (pc + 3) = .ok (.dup, 1) := by rw [hb]; exact d3
  have d4' : decode c.code (pc + 4) = .ok (.ldc_w is, 3) := by rw [hb]; exact d4
  have hstr' : vk_R own is text sa s' := vk_R.warm hW0 hstr
  obtain ⟨U, hsteps, hrun, hend, hW, hsame, ce, hce, hO⟩ := X₁.ctorThrowS hexec htr (own := own) (cls := cls) (names := names) (ic := ic) hown' hcls hnames h (fun x hx => nomatch hx) hfX hkX hcellA (by rw [hhp, hT]; exact Nat.le_refl _) (msg := .ref sa) rfl
    (g := { method := m, pc := pc + 7, locals := ls, stack := .ref sa :: .ref T.heap.size :: .ref T.heap.size :: rest, locked := none }) rfl hsize rfl rfl (rest := rest) rfl
    (by rw [hb]; exact d7) (by rw [hb]; exact d10) hout hRframes (by simp only [List.map_cons, List.sum_cons, hcat]; omega) hlocks
  obtain ⟨f1, f2⟩ := vx_frame hsame
  rw [hhp] at f1 f2
  have hWs : s.WarmedH U.vm := State.WarmedH.trans hW0 hW
  have hcl : s.vm.findClass cls = some ce.cls := by
    have h9 := hO.cls
    rw [hvm] at h9
    exact h9
  have hall : s.sameButNew ({ U with vm := s.vm } : State) locs mc ms := by
    subst hA
    obtain ⟨e1, e2⟩ := hsame
    rw [State.setFrames_setFrames] at e1
    have h2 : (T.setVm s.vm).sameButNew ({ U with vm := s.vm } : State) [] (0 + 1) (0 + 6) := ⟨e1, e2⟩
    have h3 := X.same.trans h2
    rw [List.append_nil] at h3
    exact h3.mono hc hs
  refine ⟨U, ?_, .threw T.heap.size, hrun, hend, Or.inr ⟨T.heap.size, rfl, cls, ce, locs, hx U hWs.alike f1 (fun q hq => f2 q hq (fun z hz => nomatch hz)), hce, hO.vm, hcl, hWs, hall, hf⟩⟩
  refine st1 _ ?_
  show Steps p.tables e below (T1.setTop { method := m, pc := pc + 3, locals := ls, stack := .ref T.heap.size :: rest, locked := none }) _
  jvm_step X₁.here [X₁.here.top, hexec, d3', Value.category]
  exact X₁.ldcStringW hexec (own := own) (text := text) (index := is) (a := sa) hown' hstr'.1 hstr'.2
    (g := { method := m, pc := pc + 4, locals := ls, stack := .ref T.heap.size :: .ref T.heap.size :: rest, locked := none }) rfl d4' _ hsteps
end Ends
section Bodies
variable {l : Launch}
theorem vx_ofW {y : MethodName} {ws ws' : List Cond} {rm : Room} {Pc : Array Value → State → Prop} {Qc : Array Value → State → Outcome → State → Prop} {XC : String → State → State → Prop} {mc ms : Nat} {free : Addr → Prop} {cc : ByteArray} {maxL : Nat} {ret : Option FieldType}
    (hy : plainName y.cls = true) (hw : ws = Cond.code y cc maxL ret :: ws')
    (body : ∀ p e s m args below meth c s₁, BodyLoose p l y (headSpec ws rm) cc maxL ret e s m args below meth c s₁ → c.maxLocals = maxL → (∀ x ∈ c.exceptionTable.toList, False) → Pc args s →
      W p l e (headSpec ws rm).room s m args below meth c s.heap [] 0 0 (vx_MQ below Qc XC args s mc ms free) (entryFrame m args maxL)) : vx_Met l y ws rm Pc Qc XC mc ms free := by
  refine MetFree.of_bodyS (code := cc) (maxLocals := maxL) (ret := ret) hy ?_ ?_
  · intro args s m h hn
    obtain ⟨meth, c, h1, h2, h3, h4, h5, h6, -, -⟩ := Cond.code_spec hn (atoms_spec (ws := ws) h _ (by rw [hw]; exact List.mem_cons_self))
    exact ⟨meth, c, h1, h2, h3, h4, h5, h6⟩
  · intro p e s m args below meth c s₁ B hml hP _
    have hh0 : s₁.heap = s.heap := by rw [B.state]; rfl
    have ht : ∀ x ∈ c.exceptionTable.toList, False := by
      obtain ⟨meth9, c9, h1, h2, -, -, -, -, h7, -⟩ := Cond.code_spec B.named (atoms_spec (ws := ws) B.pre _ (by rw [hw]; exact List.mem_cons_self))
      cases Option.some.inj (h1.symm.trans B.method)
      cases Option.some.inj (h2.symm.trans (Stand.of_body B).code)
      intro x hx
      rw [Array.isEmpty_iff.mp h7] at hx
      cases hx
    obtain ⟨t, a1, o, b1, b2, b3⟩ := body p e s m args below meth c s₁ B hml ht hP s₁ hh0 (Stand.of_body B)
    exact ⟨t, o, a1, b1, b2, b3⟩
/-- the table of a body with handlers -/
theorem vx_table {p : Program} {x y : MethodName} {S : Spec} {cc bytes : ByteArray} {maxL maxL' : Nat} {ret ret' : Option FieldType} {e : Env} {s s₁ : State} {m : MethodId} {args : Array Value} {below : List Frame} {meth : Method} {c : Code} {hh : List (Nat × Nat × Nat × Nat)}
    (B : BodyLoose p l y S cc maxL ret e s m args below meth c s₁) (h : (Cond.codeWith y bytes maxL' ret' hh).before args s = true) : c.exceptionTable.toList = tableOf hh := by
  obtain ⟨m9, meth9, c9, hn9, h1, h2, -, -, h6, -⟩ := Cond.codeWith_spec h
  cases Option.some.inj (hn9.symm.trans B.named)
  cases Option.some.inj (h1.symm.trans B.method)
  cases Option.some.inj (h2.symm.trans (Stand.of_body B).code)
  rw [← h6, table_eq]
end Bodies
end VXA
/-! ===== END ===== -/
/-! ===== BEGIN a static call of a method with an exception table ===== -/
section VXS
variable {p : Program} {l : Launch} {e : Env} {R : Room} {s : State} {m : MethodId} {args : Array Value} {below : List Frame} {meth : Method} {c : Code} {T : State} {H : Heap} {locs : List Loc} {cells slots : Nat}
abbrev vx_CSW (R : Room) (s : State) (args : Array Value) (own : String) (index : Nat) (y : MethodName) (bytes : ByteArray) (maxL : Nat) (ret : Option FieldType) (hh : List (Nat × Nat × Nat × Nat)) (ws : List Cond) (rm : Room) (mc ms n : Nat) : Prop :=
  (rm.cells = mc ∧ rm.slots = ms ∧ rm.frames + 1 ≤ R.frames ∧ 8 + (maxL + 11) + rm.locals ≤ R.locals ∧ (∀ w ∈ ws, ∀ (a' : Array Value) (U : State), s.WarmedH U.vm → w.before a' U = true) ∧ Cond.codeWith y bytes maxL ret hh ∈ ws) ∧
  (Cond.codeWith y bytes maxL ret hh).before args s = true ∧ (Cond.initialized y.cls).before args s = true ∧ (y.cls ≠ "java/lang/invoke/MethodHandle" ∧ y.cls ≠ "java/lang/invoke/VarHandle") ∧
  (∀ sig, parseMethodDescriptor y.desc = some sig → n = sig.parameters.length) ∧ (Cond.methodLink own index y).before args s = true ∧ (Cond.static y).before args s = true
theorem vx_cwSW {own : String} {index maxL mc ms : Nat} {y : MethodName} {bytes : ByteArray} {ret : Option FieldType} {hh : List (Nat × Nat × Nat × Nat)} {Ts ws ws' : List Cond} {rm : Room} (n : Nat) (ht : ∀ w ∈ Ts, w.before args s = true) (hT : GoodIn Ts (va_wsS own index y ws)) (hw : ws = Cond.codeWith y bytes maxL ret hh :: ws') (hrc : rm.cells = mc) (hrs : rm.slots = ms)
    (hd : y.cls ≠ "java/lang/invoke/MethodHandle" ∧ y.cls ≠ "java/lang/invoke/VarHandle" ∧ (parseMethodDescriptor y.desc).map (fun d => d.parameters.length) = some n) (hR : rm.frames + 1 ≤ R.frames ∧ 8 + (maxL + 11) + rm.locals ≤ R.locals) :
    vx_CSW R s args own index y bytes maxL ret hh ws rm mc ms n := by
  have ok : ∀ w ∈ va_wsS own index y ws, w.before args s = true := fun w h => ht w (hT w h).1
  have hG : GoodIn Ts ws := fun w h => hT w (by unfold va_wsS; exact List.mem_append_right _ h)
  have hc : Cond.codeWith y bytes maxL ret hh ∈ ws := by rw [hw]; exact List.mem_cons_self
  refine ⟨⟨hrc, hrs, hR.1, hR.2, pay_in ht hG, hc⟩, ht _ (hG _ hc).1, ok _ (by simp [va_wsS]), ⟨hd.1, hd.2.1⟩, fun sig h => ?_, ok _ (by simp [va_wsS]), ok _ (by simp [va_wsS])⟩
  have h2 := hd.2.2
  rw [h] at h2
  exact (Option.some.inj h2).symm
theorem vx_callSW (X : Stand p l e R s m args below meth c T locs cells slots) (hexec : p.tables.exec = Jvm.exec) {own : String} {index : Nat} {y : MethodName} {bytes : ByteArray} {maxL : Nat} {ret : Option FieldType} {hh : List (Nat × Nat × Nat × Nat)}
    (hown : s.vm.findClass own = some m.cls) (hlink : (Cond.methodLink own index y).before args s = true) (hstat : (Cond.static y).before args s = true) (hinit : (Cond.initialized y.cls).before args s = true)
    (hcode : (Cond.codeWith y bytes maxL ret hh).before args s = true) (hy : y.cls ≠ "java/lang/invoke/MethodHandle" ∧ y.cls ≠ "java/lang/invoke/VarHandle")
    {W9 : Nat} {Pre : Pt → Array Value → Prop} {Post : Pt → Array Value → Option Value → Pt → Prop} (hK : Back l R p e below s args y 3 W9 Pre Post)
    {g : JFrame} (hg : g.method = m) (hsize : g.locals.size = c.maxLocals) {argsL rest : List Value} (hlen : ∀ sig, parseMethodDescriptor y.desc = some sig → argsL.length = sig.parameters.length)
    (hstack : g.stack = argsL.reverse ++ rest) (hW : 2 * g.monitorRoom + (rest.map fun v => v.category).sum ≤ W9) (hdg : decode c.code g.pc = .ok (.invokestatic index, 3))
    (hpre : ∀ vm₁, s.WarmedH vm₁ → Pre ⟨T.setVm vm₁, locs, cells, slots⟩ argsL.toArray) :
    ∃ (v : Option Value) (vm₁ : Vm) (B : Pt), s.WarmedH vm₁ ∧ Stand p l e R s m args below meth c B.U B.locs B.cells B.slots ∧ Post ⟨T.setVm vm₁, locs, cells, slots⟩ argsL.toArray v B ∧
      ∀ target, Steps p.tables e below (B.U.setTop { g with pc := g.pc + 3, stack := v.toList ++ rest }) target → Steps p.tables e below (T.setTop g) target := by
  obtain ⟨mk, methM, cM, hnamed, hmethM, -, -, -, -, -, -, hsigM⟩ := Cond.codeWith_spec hcode
  have hstatic : methM.isStatic = true := Cond.static_spec hnamed hmethM hstat
  obtain ⟨kP, hkP, -⟩ := className_of_methodNamed hnamed
  have hinitP : kP.init = .initialized := Cond.initialized_spec (findClass_of_methodNamed hnamed) hkP hinit
  obtain ⟨vm₁, X₁, hstep₁⟩ := X.invokestatic hexec hown hlink hnamed hmethM hstatic hkP hinitP hy (g := g) hg (argsL := argsL) (rest := rest) (hlen _ hsigM) hstack hdg
  obtain ⟨v, B, X', hpost, hsteps⟩ := hK m meth c ⟨T.setVm vm₁, locs, cells, slots⟩ { g with stack := rest } (.invokestatic index) mk argsL.toArray X₁ hg hsize hdg hW (X₁.named hnamed) (hpre vm₁ X₁.warmed)
  exact ⟨v, vm₁, B, X₁.warmed, X', hpost, fun target h => hstep₁ _ fun acts => by rw [doInvoke_state]; exact hsteps.trans h⟩
theorem vx_runSW {y : MethodName} {bytes cc : ByteArray} {maxL nL mc ms n index : Nat} {ret : Option FieldType} {hh : List (Nat × Nat × Nat × Nat)} {ws : List Cond} {rm : Room} {Pc : Array Value → State → Prop} {Qc : Array Value → State → Outcome → State → Prop} {free : Addr → Prop} {Ts : List Cond} {own : String} {As rest : List Value} {g : JFrame}
    (S : CallFix p m c cc nL s args Ts own) (hM : Met l y ws rm Pc Qc mc ms free) (cw : vx_CSW R s args own index y bytes maxL ret hh ws rm mc ms n) (hp : PreS s H Pc As)
    (hg : g.method = m) (hn : As.length = n) (hsize : g.locals.size = nL) (hstack : g.stack = As.reverse ++ rest) (hW : 2 * g.monitorRoom + (rest.map fun v => v.category).sum ≤ 8) (hdg : decode cc g.pc = .ok (.invokestatic index, 3)) (hf : cells + mc ≤ R.cells ∧ slots + ms ≤ R.slots) :
    va_Run p l e R s m args below meth c H locs cells slots mc ms g rest (Qc As.toArray) (free) := by
  obtain ⟨⟨hrc, hrs, hfr, hlo, hws, hcw⟩, hcode, hini, hy, hlen, hl, hstt⟩ := cw
  have hK : Back l R p e below s args y 3 8 (PreOf R mc ms Pc) (PostOf Qc mc ms free) := va_backW (hh := hh) (bytes := bytes) (maxL := maxL) (ret := ret) hM hp.1 hrc hrs hfr hlo hws hcw (fun a' U hW => word_at hW (Or.inl (by first | rfl | simp [Cond.onTables, Cond.keeps, Cond.steady])) hini)
  obtain ⟨hx, hb, hml, ho, -⟩ := S
  intro T hT X
  obtain ⟨v, vm₁, ⟨U', l2, c2, s2⟩, hW₁, X', ⟨g', mk, t, L, e1, e2, hq, h1, hL, h2, h3⟩, st⟩ := vx_callSW X hx (hh := hh) (bytes := bytes) (maxL := maxL) (ret := ret) ho hl hstt hini hcode hy hK hg (hsize.trans hml.symm) (argsL := As) (rest := rest) (fun sig h => hn.trans (hlen sig h)) hstack hW (by rw [hb]; exact hdg)
    (fun vm₁ hW₁ => ⟨hf.1, hf.2, hp.2 (T.setVm vm₁) hT hW₁⟩)
  dsimp only [Pt.U, Pt.locs, Pt.cells, Pt.slots] at X' e1 e2 h1 h2 h3 st
  subst h1; subst h2; subst h3
  exact ⟨v, (T.setVm vm₁).calling g' mk As.toArray, t, U', L, hT, X', hL, e1, e2, hq, st⟩
/-- not caught here, past rows that name other classes: it goes on to the caller -/
theorem vx_outP {p : Program} {l : Launch} {e : Env} {R : Room} {s : State} {m : MethodId} {args : Array Value} {below : List Frame} {meth : Method} {c : Code} {H : Heap} {locs : List Loc} {cells slots : Nat} {free : Addr → Prop} {ls : Array Slot} {rest : List Value} {Qc : Array Value → State → Outcome → State → Prop} {XC : String → State → State → Prop}
    {pc : Nat} {own E : String} {ce : Cell} {q : Addr} {mc ms : Nat} (hown : s.vm.findClass own = some m.cls) (hlocks : meth.locks = false)
    (hpass : ∀ z ∈ c.exceptionTable.toList, covers z pc = false ∨ (z.catchType ≠ 0 ∧ ∃ nm : String, (Cond.classLink own z.catchType nm).before args s = true ∧ va_Nc E nm s)) (hcell : H[q]? = some ce) (hv : ce.vm = .none) (hcl : s.vm.findClass E = some ce.cls)
    (hx : ∀ t : State, t.heap = H → s.vm.Alike t.vm → XC E s t) (hf : ∀ z ∈ locs, free z.base) (hc : cells ≤ mc) (hs : slots ≤ ms) :
    vx_W p l e R s m args below meth c H locs cells slots (vx_MQ below Qc XC args s mc ms free) (F0 m pc ls rest) q := by
  intro T hT X
  have hpl : e.platform.magicAccessors = ({} : Platform).magicAccessors := by rw [X.admits.platform]
  obtain ⟨vm', hW', X', st⟩ := X.outThrough hlocks q (g := F0 m pc ls rest) rfl rfl rfl (cell := ce) (by rw [hT]; exact hcell) (by rw [hv]; rfl)
    (by obtain ⟨k9, h9, -⟩ := Vm.findClass_spec hcl; exact ⟨k9, h9⟩) (fun z hz => by
      rcases hpass z hz with h | ⟨hz0, nm, hl1, hn1⟩
      · exact Or.inl h
      · obtain ⟨c6, hc6, hcl6⟩ := Cond.classLink_spec hown hl1 e.platform hpl
        obtain ⟨a8, b8, h1, h2, h3⟩ := hn1
        cases Option.some.inj (h1.symm.trans hcl)
        cases Option.some.inj (h2.symm.trans hc6)
        exact Or.inr ⟨hz0, _, hcl6, h3⟩)
  obtain ⟨g₀, hfr⟩ := X'.frames_eq
  have hcell9 : ((T.setVm vm').setFrames (.throwing q :: below)).heap[q]? = some ce := by
    show T.heap[q]? = some ce
    rw [hT]; exact hcell
  have hend : Ended ((T.setVm vm').setFrames (.throwing q :: below)) below (.threw q) := State.frames_setFrames _ (State.cur_lt_of_frames hfr)
  refine ⟨(T.setVm vm').setFrames (.throwing q :: below), ?_, .threw q, X'.here.running, hend, Or.inr ⟨q, rfl, E, ce, locs, hx _ hT (X'.ends _).1.alike, hcell9, hv, hcl, (X'.ends _).1, (X'.ends _).2.mono hc hs, hf⟩⟩
  rw [X.pushThrowing_eq]
  exact st
/-- a thing of a world lies in the heap -/
theorem vx_lt {D : va_G} {cl : List vw_C} {ws : va_W} {H1 : Heap} (h : va_P D cl ws H1) {k : Nat} {q : Nat × va_E} (hk : ws[k]? = some q) : q.1 < H1.size := (h k q hk).lt
end VXS
/-! ===== END ===== -/
/-! ===== BEGIN methods with a table of their own: called by a name, returning or throwing ===== -/
section VXH
/-! vx_backW, vx_callVX, vx_callSX, vx_callVW, vx_runVW, vx_runVX, vx_runSX, vx_ofWH follow the same proofs as their sisters above (Free/Laws.lean, Shelf42/LK1.lean); vx_outP calls Shelf42/NT130.lean (outThrough). -/
section
variable {l : Launch} {R : Room} {p : Program} {e : Env} {below : List Frame} {s : State} {sargs : Array Value} {y : MethodName} {len W9 : Nat}
theorem vx_backW {ws : List Cond} {rm : Room} {Pc : Array Value → State → Prop} {Qc : Array Value → State → Outcome → State → Prop} {XC : String → State → State → Prop} {mc ms : Nat} {free : Addr → Prop} {bytes : ByteArray} {maxL : Nat} {ret : Option FieldType} {hh : List (Nat × Nat × Nat × Nat)}
    (hM : vx_Met l y ws rm Pc Qc XC mc ms free) (hblind : FrameBlind Pc) (hrc : rm.cells = mc) (hrs : rm.slots = ms)
    (hframes : rm.frames + 1 ≤ R.frames) (hlocals : W9 + (maxL + 11) + rm.locals ≤ R.locals)
    (hws : ∀ w ∈ ws, ∀ a' U, s.WarmedH U.vm → w.before a' U = true) (hcode : Cond.codeWith y bytes maxL ret hh ∈ ws) (hinit : ∀ a' U, s.WarmedH U.vm → (Cond.initialized y.cls).before a' U = true) :
    vx_Back l R p e below s sargs y len W9 (PreOf R mc ms Pc) (PostOf Qc mc ms free) (vx_Post XC mc ms free) := by
  intro m meth c A g ig mk a X hg hsize hdg hW hn hp
  have h1 : (headSpec ws rm).pre.before a A.U = true := atoms_intro fun w hw => hws w hw _ _ X.warmed
  have h2 : (Cond.codeWith y bytes maxL ret hh).before a A.U = true := hws _ hcode _ _ X.warmed
  have h3 : (Cond.initialized y.cls).before a A.U = true := hinit _ _ X.warmed
  have h4 : A.cells + (headSpec ws rm).room.cells ≤ R.cells := by rw [show (headSpec ws rm).room.cells = mc from hrc]; exact hp.1
  have h5 : A.slots + (headSpec ws rm).room.slots ≤ R.slots := by rw [show (headSpec ws rm).room.slots = ms from hrs]; exact hp.2.1
  have hPc : Pc a (A.U.calling g mk a) := hblind _ _ _ _ hp.2.2
  obtain ⟨U, Ls, c0, s0⟩ := A
  dsimp only [Pt.U, Pt.locs, Pt.cells, Pt.slots] at h1 h2 h3 h4 h5 X hn hPc ⊢
  obtain ⟨m9, methY, cY, hn9, hmY, hcY, -, hlY, -⟩ := Cond.codeWith_spec h2
  cases Option.some.inj (hn9.symm.trans hn)
  obtain ⟨kY, hkY, -⟩ := className_of_methodNamed hn
  have hinitY : kY.init = .initialized := Cond.initialized_spec (findClass_of_methodNamed hn) hkY h3
  have h : At U g.method c below := by rw [hg]; exact X.here
  have hlocals9 : W9 + (maxL + 11) + (headSpec ws rm).room.locals ≤ R.locals := hlocals
  have happ : (headSpec ws rm).appliesLoose y e.platform (U.calling g mk a) = true :=
    Spec.appliesLoose_calling (g := g) h hdg hn hkY hinitY
      (X.room_calling (g := g) (R' := (headSpec ws rm).room) hsize hmY hcY hframes (by rw [hlY]; omega) h4 h5) h1
  obtain ⟨mid, hmid⟩ := h.above
  have hfr : (U.setTop g).frames = (.java g :: mid) ++ below := by rw [State.frames_setTop' g h.top, hmid]; rfl
  obtain ⟨o, s₂, hsteps, -, hend, hq⟩ := Steps.callFree hM p X.admits X.cas X.clock (acts := []) hfr happ hPc trivial
  have hq' : vx_Q Qc XC mc ms free a (U.calling g mk a) o s₂ := hq
  rw [State.frames_setTop' g h.top] at hend
  obtain ⟨g₀, hg0⟩ := Option.isSome_iff_exists.mp h.top
  obtain ⟨r, hr⟩ := State.topJava?_eq_some.mp hg0
  have hr' : (({ U with heap := s₂.heap, slotsUsed := s₂.slotsUsed } : State).setVm s₂.vm).frames = .java g₀ :: r := hr
  rcases hq' with ⟨hqc, L, hfe, hL⟩ | ⟨q, rfl, E, ce, L, hx, hce, hcv, hcl, hW₂, hsm, hL⟩
  · obtain ⟨⟨v, rfl⟩, hW₂, e2, q2, q3, q4, q5, q6⟩ := id hfe
    have e3 : s₂ = ({ (U.calling g mk a).setFrames s₂.frames with heap := s₂.heap, slotsUsed := s₂.slotsUsed } : State).setVm s₂.vm := by
      have : s₂ = ({ s₂ with vm := (U.calling g mk a).vm } : State).setVm s₂.vm := rfl
      rw [e2] at this
      exact this
    obtain ⟨c₂, i₂, len₂, hc₂, hd₂, hf₂⟩ := hend
    have hW' : U.WarmedH s₂.vm := hW₂
    have hcc : c₂ = c := by
      have h1 : s₂.code? g.method = U.code? g.method := by
        rw [State.code?_eq, State.code?_eq, hW'.alike.method?]
      exact Option.some.inj (hc₂.symm.trans (h1.trans h.code))
    subst hcc
    have hlen : len₂ = len := by rw [hdg] at hd₂; cases hd₂; rfl
    subst hlen
    have hs₂ : s₂ = (({ U with heap := s₂.heap, slotsUsed := s₂.slotsUsed } : State).setVm s₂.vm).setTop { g with pc := g.pc + len₂, stack := v.toList ++ g.stack } := by
      refine e3.trans ?_
      rw [hf₂, State.calling_eq h.top, State.setFrames_setFrames, State.setTop_of_frames _ hr', hr]
      rfl
    have hsame : U.sameButNew ({ U with heap := s₂.heap, slotsUsed := s₂.slotsUsed } : State) L mc ms := by
      refine ⟨?_, q2, q3, q4, q5, q6⟩
      obtain ⟨t, ht, -⟩ := State.frames_cons hr
      show ({ U with heap := s₂.heap, slotsUsed := s₂.slotsUsed } : State) = { U.setFrames U.frames with heap := s₂.heap, slotsUsed := s₂.slotsUsed }
      rw [State.setFrames_self ht]
    subst hg
    refine Or.inl ⟨v, ⟨(({ U with heap := s₂.heap, slotsUsed := s₂.slotsUsed } : State).setVm s₂.vm), Ls ++ L, c0 + mc, s0 + ms⟩,
      ⟨X.admits, X.cas, X.clock, X.frames, X.room, X.hears, X.method, X.code, (X.here.setHeapUsed s₂.heap s₂.slotsUsed).setVm hW'.alike, X.tail, State.WarmedH.trans X.warmed hW', X.limits, X.bytes, X.same.trans (hsame.setVm s.vm)⟩,
      ⟨g, mk, s₂, L, rfl, rfl, hqc, rfl, hL, rfl, rfl⟩, ?_⟩
    show Steps p.tables e below _ ((({ U with heap := s₂.heap, slotsUsed := s₂.slotsUsed } : State).setVm s₂.vm).setTop { g with pc := g.pc + len₂, stack := v.toList ++ g.stack })
    rw [← hs₂]
    exact hsteps
  · obtain ⟨e2, q2, q3, q4, q5, q6⟩ := id hsm
    have e3 : s₂ = ({ (U.calling g mk a).setFrames s₂.frames with heap := s₂.heap, slotsUsed := s₂.slotsUsed } : State).setVm s₂.vm := by
      have : s₂ = ({ s₂ with vm := (U.calling g mk a).vm } : State).setVm s₂.vm := rfl
      rw [e2] at this
      exact this
    have hf₂ : s₂.frames = .throwing q :: .java g :: U.frames.tail := hend
    have hW' : U.WarmedH s₂.vm := hW₂
    have hs₂ : s₂ = ((({ U with heap := s₂.heap, slotsUsed := s₂.slotsUsed } : State).setVm s₂.vm).setTop g).pushFrame (.throwing q) := by
      refine e3.trans ?_
      rw [hf₂, State.calling_eq h.top, State.setFrames_setFrames, State.pushFrame, State.frames_setTop _ hr', State.setTop_of_frames _ hr', State.setFrames_setFrames, hr]
      rfl
    have hsame : U.sameButNew ({ U with heap := s₂.heap, slotsUsed := s₂.slotsUsed } : State) L mc ms := by
      refine ⟨?_, q2, q3, q4, q5, q6⟩
      obtain ⟨t, ht, -⟩ := State.frames_cons hr
      show ({ U with heap := s₂.heap, slotsUsed := s₂.slotsUsed } : State) = { U.setFrames U.frames with heap := s₂.heap, slotsUsed := s₂.slotsUsed }
      rw [State.setFrames_self ht]
    subst hg
    refine Or.inr ⟨q, ⟨(({ U with heap := s₂.heap, slotsUsed := s₂.slotsUsed } : State).setVm s₂.vm), Ls ++ L, c0 + mc, s0 + ms⟩,
      ⟨X.admits, X.cas, X.clock, X.frames, X.room, X.hears, X.method, X.code, (X.here.setHeapUsed s₂.heap s₂.slotsUsed).setVm hW'.alike, X.tail, State.WarmedH.trans X.warmed hW', X.limits, X.bytes, X.same.trans (hsame.setVm s.vm)⟩,
      ⟨g, mk, s₂, L, E, ce, rfl, rfl, hx, hce, hcv, hcl, rfl, hL, rfl, rfl⟩, ?_⟩
    show Steps p.tables e below _ (((({ U with heap := s₂.heap, slotsUsed := s₂.slotsUsed } : State).setVm s₂.vm).setTop g).pushFrame (.throwing q))
    rw [← hs₂]
    exact hsteps
end
variable {p : Program} {l : Launch} {e : Env} {R : Room} {s : State} {m : MethodId} {args : Array Value} {below : List Frame} {meth : Method} {c : Code} {T : State} {H : Heap} {locs : List Loc} {cells slots : Nat}
theorem vx_callVX (X : Stand p l e R s m args below meth c T locs cells slots) (hexec : p.tables.exec = Jvm.exec) {own C : String} {index : Nat} {y : MethodName} {bytes : ByteArray} {maxL : Nat} {ret : Option FieldType} {hh : List (Nat × Nat × Nat × Nat)}
    (hown : s.vm.findClass own = some m.cls) (hlink : (Cond.methodLink own index y).before args s = true) (hinst : (Cond.instanceMethod y).before args s = true) (hsel : (Cond.selects C y y).before args s = true)
    (hcode : (Cond.codeWith y bytes maxL ret hh).before args s = true) (hy : y.cls ≠ "java/lang/invoke/MethodHandle" ∧ y.cls ≠ "java/lang/invoke/VarHandle")
    {W9 : Nat} {Pre : Pt → Array Value → Prop} {Post : Pt → Array Value → Option Value → Pt → Prop} {PostX : Pt → Array Value → Addr → Pt → Prop} (hK : vx_Back l R p e below s args y 3 W9 Pre Post PostX)
    {b : Addr} {cellB : Cell} (hcell : T.heap[b]? = some cellB) (hobj : cellB.vm.isStatics = false) (hcls : s.vm.findClass C = some cellB.cls)
    {g : JFrame} (hg : g.method = m) (hsize : g.locals.size = c.maxLocals) {argsL rest : List Value} (hlen : ∀ sig, parseMethodDescriptor y.desc = some sig → argsL.length = sig.parameters.length)
    (hstack : g.stack = argsL.reverse ++ .ref b :: rest) (hW : 2 * g.monitorRoom + (rest.map fun v => v.category).sum ≤ W9) (hdg : decode c.code g.pc = .ok (.invokevirtual index, 3))
    (hpre : ∀ vm₁, s.WarmedH vm₁ → Pre ⟨T.setVm vm₁, locs, cells, slots⟩ (Value.ref b :: argsL).toArray) :
    (∃ (v : Option Value) (vm₁ : Vm) (B : Pt), s.WarmedH vm₁ ∧ Stand p l e R s m args below meth c B.U B.locs B.cells B.slots ∧ Post ⟨T.setVm vm₁, locs, cells, slots⟩ (Value.ref b :: argsL).toArray v B ∧
      ∀ target, Steps p.tables e below (B.U.setTop { g with pc := g.pc + 3, stack := v.toList ++ rest }) target → Steps p.tables e below (T.setTop g) target) ∨
    (∃ (q : Addr) (vm₁ : Vm) (B : Pt), s.WarmedH vm₁ ∧ Stand p l e R s m args below meth c B.U B.locs B.cells B.slots ∧ PostX ⟨T.setVm vm₁, locs, cells, slots⟩ (Value.ref b :: argsL).toArray q B ∧
      Steps p.tables e below (T.setTop g) ((B.U.setTop { g with stack := rest }).pushFrame (.throwing q))) := by
  obtain ⟨mk, methM, hnamed, hmethM, hstM, habM⟩ := Cond.instanceMethod_spec hinst
  obtain ⟨m8, methM', cM, hn8, hmethM', -, -, -, -, -, -, hsigM⟩ := Cond.codeWith_spec hcode
  cases Option.some.inj (hn8.symm.trans hnamed)
  cases hmethM.symm.trans hmethM'
  obtain ⟨c2, r2, m2, q1, q2, q3, q4, kP, hkP, hkPi⟩ := Cond.selects_spec hsel
  cases hcls.symm.trans q1
  cases (State.methodFound?_of_named hnamed hy).symm.trans q2
  cases hnamed.symm.trans q3
  have hselP : selectMethod e.platform s.vm cellB.cls mk = .method mk := by rw [Launch.admits_selectMethod X.admits]; exact q4
  obtain ⟨vm₁, X₁, hstep₁⟩ := X.invokevirtual hexec hown hlink hnamed hmethM hstM hkP hkPi hy (a := b) (cell := cellB) hcell
    (fun z h => by rw [h] at hobj; cases hobj) hselP hmethM habM hkP hkPi (g := g) hg (argsL := argsL) (rest := rest) (hlen _ hsigM) hstack hdg
  rcases hK m meth c ⟨T.setVm vm₁, locs, cells, slots⟩ { g with stack := rest } (.invokevirtual index) mk (Value.ref b :: argsL).toArray X₁ hg hsize hdg hW (X₁.named hnamed) (hpre vm₁ X₁.warmed) with ⟨v, B, X', hpost, hsteps⟩ | ⟨q, B, X', hpost, hsteps⟩
  · exact Or.inl ⟨v, vm₁, B, X₁.warmed, X', hpost, fun target h => hstep₁ _ fun acts => by rw [doInvoke_state]; exact hsteps.trans h⟩
  · exact Or.inr ⟨q, vm₁, B, X₁.warmed, X', hpost, hstep₁ _ fun acts => by rw [doInvoke_state]; exact hsteps⟩
theorem vx_callSX (X : Stand p l e R s m args below meth c T locs cells slots) (hexec : p.tables.exec = Jvm.exec) {own : String} {index : Nat} {y : MethodName} {bytes : ByteArray} {maxL : Nat} {ret : Option FieldType} {hh : List (Nat × Nat × Nat × Nat)}
    (hown : s.vm.findClass own = some m.cls) (hlink : (Cond.methodLink own index y).before args s = true) (hstat : (Cond.static y).before args s = true) (hinit : (Cond.initialized y.cls).before args s = true)
    (hcode : (Cond.codeWith y bytes maxL ret hh).before args s = true) (hy : y.cls ≠ "java/lang/invoke/MethodHandle" ∧ y.cls ≠ "java/lang/invoke/VarHandle")
    {W9 : Nat} {Pre : Pt → Array Value → Prop} {Post : Pt → Array Value → Option Value → Pt → Prop} {PostX : Pt → Array Value → Addr → Pt → Prop} (hK : vx_Back l R p e below s args y 3 W9 Pre Post PostX)
    {g : JFrame} (hg : g.method = m) (hsize : g.locals.size = c.maxLocals) {argsL rest : List Value} (hlen : ∀ sig, parseMethodDescriptor y.desc = some sig → argsL.length = sig.parameters.length)
    (hstack : g.stack = argsL.reverse ++ rest) (hW : 2 * g.monitorRoom + (rest.map fun v => v.category).sum ≤ W9) (hdg : decode c.code g.pc = .ok (.invokestatic index, 3))
    (hpre : ∀ vm₁, s.WarmedH vm₁ → Pre ⟨T.setVm vm₁, locs, cells, slots⟩ argsL.toArray) :
    (∃ (v : Option Value) (vm₁ : Vm) (B : Pt), s.WarmedH vm₁ ∧ Stand p l e R s m args below meth c B.U B.locs B.cells B.slots ∧ Post ⟨T.setVm vm₁, locs, cells, slots⟩ argsL.toArray v B ∧
      ∀ target, Steps p.tables e below (B.U.setTop { g with pc := g.pc + 3, stack := v.toList ++ rest }) target → Steps p.tables e below (T.setTop g) target) ∨
    (∃ (q : Addr) (vm₁ : Vm) (B : Pt), s.WarmedH vm₁ ∧ Stand p l e R s m args below meth c B.U B.locs B.cells B.slots ∧ PostX ⟨T.setVm vm₁, locs, cells, slots⟩ argsL.toArray q B ∧
      Steps p.tables e below (T.setTop g) ((B.U.setTop { g with stack := rest }).pushFrame (.throwing q))) := by
  obtain ⟨mk, methM, cM, hnamed, hmethM, -, -, -, -, -, -, hsigM⟩ := Cond.codeWith_spec hcode
  have hstatic : methM.isStatic = true := Cond.static_spec hnamed hmethM hstat
  obtain ⟨kP, hkP, -⟩ := className_of_methodNamed hnamed
  have hinitP : kP.init = .initialized := Cond.initialized_spec (findClass_of_methodNamed hnamed) hkP hinit
  obtain ⟨vm₁, X₁, hstep₁⟩ := X.invokestatic hexec hown hlink hnamed hmethM hstatic hkP hinitP hy (g := g) hg (argsL := argsL) (rest := rest) (hlen _ hsigM) hstack hdg
  rcases hK m meth c ⟨T.setVm vm₁, locs, cells, slots⟩ { g with stack := rest } (.invokestatic index) mk argsL.toArray X₁ hg hsize hdg hW (X₁.named hnamed) (hpre vm₁ X₁.warmed) with ⟨v, B, X', hpost, hsteps⟩ | ⟨q, B, X', hpost, hsteps⟩
  · exact Or.inl ⟨v, vm₁, B, X₁.warmed, X', hpost, fun target h => hstep₁ _ fun acts => by rw [doInvoke_state]; exact hsteps.trans h⟩
  · exact Or.inr ⟨q, vm₁, B, X₁.warmed, X', hpost, hstep₁ _ fun acts => by rw [doInvoke_state]; exact hsteps⟩
theorem vx_callVW (X : Stand p l e R s m args below meth c T locs cells slots) (hexec : p.tables.exec = Jvm.exec) {own C : String} {index : Nat} {y : MethodName} {bytes : ByteArray} {maxL : Nat} {ret : Option FieldType} {hh : List (Nat × Nat × Nat × Nat)}
    (hown : s.vm.findClass own = some m.cls) (hlink : (Cond.methodLink own index y).before args s = true) (hinst : (Cond.instanceMethod y).before args s = true) (hsel : (Cond.selects C y y).before args s = true)
    (hcode : (Cond.codeWith y bytes maxL ret hh).before args s = true) (hy : y.cls ≠ "java/lang/invoke/MethodHandle" ∧ y.cls ≠ "java/lang/invoke/VarHandle")
    {W9 : Nat} {Pre : Pt → Array Value → Prop} {Post : Pt → Array Value → Option Value → Pt → Prop} (hK : Back l R p e below s args y 3 W9 Pre Post)
    {b : Addr} {cellB : Cell} (hcell : T.heap[b]? = some cellB) (hobj : cellB.vm.isStatics = false) (hcls : s.vm.findClass C = some cellB.cls)
    {g : JFrame} (hg : g.method = m) (hsize : g.locals.size = c.maxLocals) {argsL rest : List Value} (hlen : ∀ sig, parseMethodDescriptor y.desc = some sig → argsL.length = sig.parameters.length)
    (hstack : g.stack = argsL.reverse ++ .ref b :: rest) (hW : 2 * g.monitorRoom + (rest.map fun v => v.category).sum ≤ W9) (hdg : decode c.code g.pc = .ok (.invokevirtual index, 3))
    (hpre : ∀ vm₁, s.WarmedH vm₁ → Pre ⟨T.setVm vm₁, locs, cells, slots⟩ (Value.ref b :: argsL).toArray) :
    ∃ (v : Option Value) (vm₁ : Vm) (B : Pt), s.WarmedH vm₁ ∧ Stand p l e R s m args below meth c B.U B.locs B.cells B.slots ∧ Post ⟨T.setVm vm₁, locs, cells, slots⟩ (Value.ref b :: argsL).toArray v B ∧
      ∀ target, Steps p.tables e below (B.U.setTop { g with pc := g.pc + 3, stack := v.toList ++ rest }) target → Steps p.tables e below (T.setTop g) target := by
  obtain ⟨mk, methM, hnamed, hmethM, hstM, habM⟩ := Cond.instanceMethod_spec hinst
  obtain ⟨m8, methM', cM, hn8, hmethM', -, -, -, -, -, -, hsigM⟩ := Cond.codeWith_spec hcode
  cases Option.some.inj (hn8.symm.trans hnamed)
  cases hmethM.symm.trans hmethM'
  obtain ⟨c2, r2, m2, q1, q2, q3, q4, kP, hkP, hkPi⟩ := Cond.selects_spec hsel
  cases hcls.symm.trans q1
  cases (State.methodFound?_of_named hnamed hy).symm.trans q2
  cases hnamed.symm.trans q3
  have hselP : selectMethod e.platform s.vm cellB.cls mk = .method mk := by rw [Launch.admits_selectMethod X.admits]; exact q4
  obtain ⟨vm₁, X₁, hstep₁⟩ := X.invokevirtual hexec hown hlink hnamed hmethM hstM hkP hkPi hy (a := b) (cell := cellB) hcell
    (fun z h => by rw [h] at hobj; cases hobj) hselP hmethM habM hkP hkPi (g := g) hg (argsL := argsL) (rest := rest) (hlen _ hsigM) hstack hdg
  obtain ⟨v, B, X', hpost, hsteps⟩ := hK m meth c ⟨T.setVm vm₁, locs, cells, slots⟩ { g with stack := rest } (.invokevirtual index) mk (Value.ref b :: argsL).toArray X₁ hg hsize hdg hW (X₁.named hnamed) (hpre vm₁ X₁.warmed)
  exact ⟨v, vm₁, B, X₁.warmed, X', hpost, fun target h => hstep₁ _ fun acts => by rw [doInvoke_state]; exact hsteps.trans h⟩
abbrev vx_CVW (R : Room) (s : State) (args : Array Value) (own C : String) (index : Nat) (y : MethodName) (bytes : ByteArray) (maxL : Nat) (ret : Option FieldType) (hh : List (Nat × Nat × Nat × Nat)) (ws : List Cond) (rm : Room) (mc ms n : Nat) : Prop :=
  (rm.cells = mc ∧ rm.slots = ms ∧ rm.frames + 1 ≤ R.frames ∧ 8 + (maxL + 11) + rm.locals ≤ R.locals ∧ (∀ w ∈ ws, ∀ (a' : Array Value) (U : State), s.WarmedH U.vm → w.before a' U = true) ∧ Cond.codeWith y bytes maxL ret hh ∈ ws) ∧
  (Cond.codeWith y bytes maxL ret hh).before args s = true ∧ (Cond.initialized y.cls).before args s = true ∧ (y.cls ≠ "java/lang/invoke/MethodHandle" ∧ y.cls ≠ "java/lang/invoke/VarHandle") ∧
  (∀ sig, parseMethodDescriptor y.desc = some sig → n = sig.parameters.length) ∧ (Cond.methodLink own index y).before args s = true ∧ (Cond.instanceMethod y).before args s = true ∧ (Cond.selects C y y).before args s = true
theorem vx_cwVW {own C : String} {index maxL mc ms : Nat} {y : MethodName} {bytes : ByteArray} {ret : Option FieldType} {hh : List (Nat × Nat × Nat × Nat)} {Ts ws ws' : List Cond} {rm : Room} (n : Nat) (ht : ∀ w ∈ Ts, w.before args s = true) (hT : GoodIn Ts (wsV own index C y ws)) (hw : ws = Cond.codeWith y bytes maxL ret hh :: ws') (hrc : rm.cells = mc) (hrs : rm.slots = ms)
    (hd : y.cls = C ∧ y.cls ≠ "java/lang/invoke/MethodHandle" ∧ y.cls ≠ "java/lang/invoke/VarHandle" ∧ (parseMethodDescriptor y.desc).map (fun d => d.parameters.length) = some n) (hR : rm.frames + 1 ≤ R.frames ∧ 8 + (maxL + 11) + rm.locals ≤ R.locals) :
    vx_CVW R s args own C index y bytes maxL ret hh ws rm mc ms n := by
  obtain ⟨hC, hd⟩ := hd
  subst hC
  have ok : ∀ w ∈ wsV own index y.cls y ws, w.before args s = true := fun w h => ht w (hT w h).1
  have hG : GoodIn Ts ws := fun w h => hT w (by unfold wsV; exact List.mem_append_right _ h)
  have hc : Cond.codeWith y bytes maxL ret hh ∈ ws := by rw [hw]; exact List.mem_cons_self
  refine ⟨⟨hrc, hrs, hR.1, hR.2, pay_in ht hG, hc⟩, ht _ (hG _ hc).1, ok _ (by simp [wsV]), ⟨hd.1, hd.2.1⟩, fun sig h => ?_, ok _ (by simp [wsV]), ok _ (by simp [wsV]), ok _ (by simp [wsV])⟩
  have h2 := hd.2.2
  rw [h] at h2
  exact (Option.some.inj h2).symm
theorem vx_runVW {y : MethodName} {bytes cc : ByteArray} {maxL nL mc ms n index : Nat} {ret : Option FieldType} {hh : List (Nat × Nat × Nat × Nat)} {ws : List Cond} {rm : Room} {Pc : Array Value → State → Prop} {Qc : Array Value → State → Outcome → State → Prop} {free : Addr → Prop} {Ts : List Cond} {own C : String} {b : Addr} {As rest : List Value} {g : JFrame}
    (S : CallFix p m c cc nL s args Ts own) (hM : Met l y ws rm Pc Qc mc ms free) (cw : vx_CVW R s args own C index y bytes maxL ret hh ws rm mc ms n) (hp : PreV s H C b Pc As)
    (hg : g.method = m) (hn : As.length = n) (hsize : g.locals.size = nL) (hstack : g.stack = As.reverse ++ .ref b :: rest) (hW : 2 * g.monitorRoom + (rest.map fun v => v.category).sum ≤ 8) (hdg : decode cc g.pc = .ok (.invokevirtual index, 3)) (hf : cells + mc ≤ R.cells ∧ slots + ms ≤ R.slots) :
    va_Run p l e R s m args below meth c H locs cells slots mc ms g rest (Qc (Value.ref b :: As).toArray) free := by
  obtain ⟨⟨hrc, hrs, hfr, hlo, hws, hcw⟩, hcode, hini, hy, hlen, hl, hin, hse⟩ := cw
  have hK : Back l R p e below s args y 3 8 (PreOf R mc ms Pc) (PostOf Qc mc ms free) := va_backW (hh := hh) (bytes := bytes) (maxL := maxL) (ret := ret) hM hp.1 hrc hrs hfr hlo hws hcw (fun a' U hW => word_at hW (Or.inl (by first | rfl | simp [Cond.onTables, Cond.keeps, Cond.steady])) hini)
  obtain ⟨hx, hb, hml, ho, -⟩ := S
  obtain ⟨-, ⟨cellB, hcB, hoB, hclB⟩, hPc⟩ := hp
  intro T hT X
  obtain ⟨v, vm₁, ⟨U', l2, c2, s2⟩, hW₁, X', ⟨g', mk, t, L, e1, e2, hq, h1, hL, h2, h3⟩, st⟩ := vx_callVW X hx (C := C) (hh := hh) (bytes := bytes) (maxL := maxL) (ret := ret) ho hl hin hse hcode hy hK (by rw [hT]; exact hcB) hoB hclB hg (hsize.trans hml.symm) (argsL := As) (rest := rest) (fun sig h => hn.trans (hlen sig h)) hstack hW (by rw [hb]; exact hdg)
    (fun vm₁ hW₁ => ⟨hf.1, hf.2, hPc (T.setVm vm₁) hT hW₁⟩)
  dsimp only [Pt.U, Pt.locs, Pt.cells, Pt.slots] at X' e1 e2 h1 h2 h3 st
  subst h1; subst h2; subst h3
  exact ⟨v, (T.setVm vm₁).calling g' mk (Value.ref b :: As).toArray, t, U', L, hT, X', hL, e1, e2, hq, st⟩
section
variable {y : MethodName} {bytes cc : ByteArray} {maxL nL mc ms n index : Nat} {ret : Option FieldType} {ws : List Cond} {rm : Room} {Pc : Array Value → State → Prop} {Qc : Array Value → State → Outcome → State → Prop} {XC : String → State → State → Prop} {free : Addr → Prop} {Ts : List Cond} {own C : String} {b : Addr} {As rest : List Value} {g : JFrame}
theorem vx_runVX {hh : List (Nat × Nat × Nat × Nat)} (S : CallFix p m c cc nL s args Ts own) (hM : vx_Met l y ws rm Pc Qc XC mc ms free) (cw : vx_CVW R s args own C index y bytes maxL ret hh ws rm mc ms n) (hp : PreV s H C b Pc As)
    (hg : g.method = m) (hn : As.length = n) (hsize : g.locals.size = nL) (hstack : g.stack = As.reverse ++ .ref b :: rest) (hW : 2 * g.monitorRoom + (rest.map fun v => v.category).sum ≤ 8) (hdg : decode cc g.pc = .ok (.invokevirtual index, 3)) (hf : cells + mc ≤ R.cells ∧ slots + ms ≤ R.slots) :
    vx_Run p l e R s m args below meth c H locs cells slots mc ms g rest (Qc (Value.ref b :: As).toArray) XC free := by
  obtain ⟨⟨hrc, hrs, hfr, hlo, hws, hcw⟩, hcode, hini, hy, hlen, hl, hin, hse⟩ := cw
  have hK : vx_Back l R p e below s args y 3 8 (PreOf R mc ms Pc) (PostOf Qc mc ms free) (vx_Post XC mc ms free) := vx_backW (hh := hh) (bytes := bytes) (maxL := maxL) (ret := ret) hM hp.1 hrc hrs hfr hlo hws hcw (fun a' U hW => word_at hW (Or.inl (by first | rfl | simp [Cond.onTables, Cond.keeps, Cond.steady])) hini)
  obtain ⟨hx, hb, hml, ho, -⟩ := S
  obtain ⟨-, ⟨cellB, hcB, hoB, hclB⟩, hPc⟩ := hp
  intro T hT X
  rcases vx_callVX X hx (C := C) (hh := hh) (bytes := bytes) (maxL := maxL) (ret := ret) ho hl hin hse hcode hy hK (by rw [hT]; exact hcB) hoB hclB hg (hsize.trans hml.symm) (argsL := As) (rest := rest) (fun sig h => hn.trans (hlen sig h)) hstack hW (by rw [hb]; exact hdg)
    (fun vm₁ hW₁ => ⟨hf.1, hf.2, hPc (T.setVm vm₁) hT hW₁⟩) with ⟨v, vm₁, ⟨U', l2, c2, s2⟩, hW₁, X', ⟨g', mk, t, L, e1, e2, hq, h1, hL, h2, h3⟩, st⟩ | ⟨q, vm₁, ⟨U', l2, c2, s2⟩, hW₁, X', ⟨g', mk, t, L, E, ce, e1, e2, hq, hce, hcv, hcl, h1, hL, h2, h3⟩, st⟩
  · dsimp only [Pt.U, Pt.locs, Pt.cells, Pt.slots] at X' e1 e2 h1 h2 h3 st
    subst h1; subst h2; subst h3
    exact Or.inl ⟨v, (T.setVm vm₁).calling g' mk (Value.ref b :: As).toArray, t, U', L, hT, X', hL, e1, e2, hq, st⟩
  · dsimp only [Pt.U, Pt.locs, Pt.cells, Pt.slots] at X' e1 e2 h1 h2 h3 st hcl
    subst h1; subst h2; subst h3
    exact Or.inr ⟨q, (T.setVm vm₁).calling g' mk (Value.ref b :: As).toArray, t, U', L, E, ce, hT, X', hL, e1, e2, hq, hce, hcv, vx_cls hW₁ hcl, st⟩
theorem vx_runSX {hh : List (Nat × Nat × Nat × Nat)} (S : CallFix p m c cc nL s args Ts own) (hM : vx_Met l y ws rm Pc Qc XC mc ms free) (cw : vx_CSW R s args own index y bytes maxL ret hh ws rm mc ms n) (hp : PreS s H Pc As)
    (hg : g.method = m) (hn : As.length = n) (hsize : g.locals.size = nL) (hstack : g.stack = As.reverse ++ rest) (hW : 2 * g.monitorRoom + (rest.map fun v => v.category).sum ≤ 8) (hdg : decode cc g.pc = .ok (.invokestatic index, 3)) (hf : cells + mc ≤ R.cells ∧ slots + ms ≤ R.slots) :
    vx_Run p l e R s m args below meth c H locs cells slots mc ms g rest (Qc As.toArray) XC free := by
  obtain ⟨⟨hrc, hrs, hfr, hlo, hws, hcw⟩, hcode, hini, hy, hlen, hl, hstt⟩ := cw
  have hK : vx_Back l R p e below s args y 3 8 (PreOf R mc ms Pc) (PostOf Qc mc ms free) (vx_Post XC mc ms free) := vx_backW (hh := hh) (bytes := bytes) (maxL := maxL) (ret := ret) hM hp.1 hrc hrs hfr hlo hws hcw (fun a' U hW => word_at hW (Or.inl (by first | rfl | simp [Cond.onTables, Cond.keeps, Cond.steady])) hini)
  obtain ⟨hx, hb, hml, ho, -⟩ := S
  intro T hT X
  rcases vx_callSX X hx (hh := hh) (bytes := bytes) (maxL := maxL) (ret := ret) ho hl hstt hini hcode hy hK hg (hsize.trans hml.symm) (argsL := As) (rest := rest) (fun sig h => hn.trans (hlen sig h)) hstack hW (by rw [hb]; exact hdg)
    (fun vm₁ hW₁ => ⟨hf.1, hf.2, hp.2 (T.setVm vm₁) hT hW₁⟩) with ⟨v, vm₁, ⟨U', l2, c2, s2⟩, hW₁, X', ⟨g', mk, t, L, e1, e2, hq, h1, hL, h2, h3⟩, st⟩ | ⟨q, vm₁, ⟨U', l2, c2, s2⟩, hW₁, X', ⟨g', mk, t, L, E, ce, e1, e2, hq, hce, hcv, hcl, h1, hL, h2, h3⟩, st⟩
  · dsimp only [Pt.U, Pt.locs, Pt.cells, Pt.slots] at X' e1 e2 h1 h2 h3 st
    subst h1; subst h2; subst h3
    exact Or.inl ⟨v, (T.setVm vm₁).calling g' mk As.toArray, t, U', L, hT, X', hL, e1, e2, hq, st⟩
  · dsimp only [Pt.U, Pt.locs, Pt.cells, Pt.slots] at X' e1 e2 h1 h2 h3 st hcl
    subst h1; subst h2; subst h3
    exact Or.inr ⟨q, (T.setVm vm₁).calling g' mk As.toArray, t, U', L, E, ce, hT, X', hL, e1, e2, hq, hce, hcv, vx_cls hW₁ hcl, st⟩
end
end VXH
theorem vx_ofWH {l : Launch} {y : MethodName} {ws ws' : List Cond} {rm : Room} {Pc : Array Value → State → Prop} {Qc : Array Value → State → Outcome → State → Prop} {XC : String → State → State → Prop} {mc ms : Nat} {free : Addr → Prop} {cc : ByteArray} {maxL : Nat} {ret : Option FieldType} {hh : List (Nat × Nat × Nat × Nat)}
    (hy : plainName y.cls = true) (hw : ws = Cond.codeWith y cc maxL ret hh :: ws')
    (body : ∀ p e s m args below meth c s₁, BodyLoose p l y (headSpec ws rm) cc maxL ret e s m args below meth c s₁ → c.maxLocals = maxL → Pc args s →
      W p l e (headSpec ws rm).room s m args below meth c s.heap [] 0 0 (vx_MQ below Qc XC args s mc ms free) (entryFrame m args maxL)) : vx_Met l y ws rm Pc Qc XC mc ms free := by
  refine MetFree.of_bodyS (code := cc) (maxLocals := maxL) (ret := ret) hy ?_ ?_
  · intro args s m h hn
    obtain ⟨m9, meth, c, hn9, h1, h2, h3, h4, -, h5, h6, -⟩ := Cond.codeWith_spec (atoms_spec (ws := ws) h _ (by rw [hw]; exact List.mem_cons_self))
    cases hn.symm.trans hn9
    exact ⟨meth, c, h1, h2, h3, h4, h5, h6⟩
  · intro p e s m args below meth c s₁ B hml hP _
    have hh0 : s₁.heap = s.heap := by rw [B.state]; rfl
    obtain ⟨t, a1, o, b1, b2, b3⟩ := body p e s m args below meth c s₁ B hml hP s₁ hh0 (Stand.of_body B)
    exact ⟨t, o, a1, b1, b2, b3⟩
/-! ===== END ===== -/

def RX0 : String := "UnlikeBoats$Book"
def TX0 : u_T := fun k => match k with
  | 0 => ("UnlikeBoats$Book", "now", "I", false)
  | 1 => ("UnlikeBoats$Book", "boats", "I", false)
  | 2 => ("UnlikeBoats$Book", "redresses", "I", false)
  | 3 => ("UnlikeBoats$Book", "certificates", "Ljava/util/ArrayList;", true)
  | 4 => ("UnlikeBoats$Book", "rules", "Ljava/util/ArrayList;", true)
  | 5 => ("UnlikeBoats$Book", "races", "Ljava/util/ArrayList;", true)
  | 6 => ("UnlikeBoats$Book", "results", "Ljava/util/ArrayList;", true)
  | 7 => ("UnlikeBoats$Book", "words", "Ljava/util/ArrayList;", true)
  | 8 => ("UnlikeBoats$Book", "protests", "Ljava/util/ArrayList;", true)
  | 9 => ("UnlikeBoats$Book", "letters", "[I", true)
  | _ => ("UnlikeBoats$Book", "stack", "[I", true)
def tyX0 : Nat → FieldType := fun k => match k with
  | 0 => .int
  | 1 => .int
  | 2 => .int
  | 3 => .object "java/util/ArrayList"
  | 4 => .object "java/util/ArrayList"
  | 5 => .object "java/util/ArrayList"
  | 6 => .object "java/util/ArrayList"
  | 7 => .object "java/util/ArrayList"
  | 8 => .object "java/util/ArrayList"
  | 9 => .array .int
  | _ => .array .int
abbrev wsX00 : List Cond := u_ws RX0 TX0 11
theorem nmX0 : ∀ a, a < 11 → ∀ b, b < 11 → a ≠ b → (TX0 a).2.1 ≠ (TX0 b).2.1 := by decide +kernel
theorem tyX0_ok : ∀ k, k < 11 → parseFieldDescriptor (TX0 k).2.2.1 = some (tyX0 k) := by decide +kernel
def yX0_init : MethodName := ⟨RX0, "<init>", "()V"⟩
abbrev cX0_isBoat : ByteArray := prog_2_method_2_code
def yX0_isBoat : MethodName := ⟨RX0, "isBoat", "(I)Z"⟩
abbrev cX0_isRace : ByteArray := prog_2_method_3_code
def yX0_isRace : MethodName := ⟨RX0, "isRace", "(I)Z"⟩
abbrev cX0_isKnown : ByteArray := prog_2_method_4_code
def yX0_isKnown : MethodName := ⟨RX0, "isKnown", "(I)Z"⟩
abbrev cX0_isCounted : ByteArray := prog_2_method_5_code
def yX0_isCounted : MethodName := ⟨RX0, "isCounted", "(II)Z"⟩
abbrev cX0_isEntered : ByteArray := prog_2_method_6_code
def yX0_isEntered : MethodName := ⟨RX0, "isEntered", "(II)Z"⟩
abbrev cX0_isProtested : ByteArray := prog_2_method_7_code
def yX0_isProtested : MethodName := ⟨RX0, "isProtested", "(II)Z"⟩
abbrev cX0_areSome : ByteArray := prog_2_method_8_code
def yX0_areSome : MethodName := ⟨RX0, "areSome", "(I)Z"⟩
abbrev cX0_rulesOn : ByteArray := prog_2_method_10_code
def yX0_rulesOn : MethodName := ⟨RX0, "rulesOn", "(II)I"⟩
abbrev cX0_worthIn : ByteArray := prog_2_method_13_code
def yX0_worthIn : MethodName := ⟨RX0, "worthIn", "(IC)I"⟩
abbrev cX0_racesIn : ByteArray := prog_2_method_14_code
def yX0_racesIn : MethodName := ⟨RX0, "racesIn", "(I)I"⟩
abbrev cX0_disqualified : ByteArray := prog_2_method_16_code
def yX0_disqualified : MethodName := ⟨RX0, "disqualified", "()I"⟩
def RX1 : String := "UnlikeBoats$Certificate"
def TX1 : u_T := fun k => match k with
  | 0 => ("UnlikeBoats$Certificate", "boat", "I", true)
  | 1 => ("UnlikeBoats$Certificate", "from", "I", true)
  | 2 => ("UnlikeBoats$Certificate", "told", "I", true)
  | 3 => ("UnlikeBoats$Certificate", "lon", "I", true)
  | 4 => ("UnlikeBoats$Certificate", "area", "I", true)
  | _ => ("UnlikeBoats$Certificate", "weight", "I", true)
abbrev wsX10 : List Cond := u_ws RX1 TX1 6
def RX2 : String := "UnlikeBoats$Hearing"
def TX2 : u_T := fun k => match k with
  | 0 => ("UnlikeBoats$Hearing", "book", "LUnlikeBoats$Book;", true)
  | 1 => ("UnlikeBoats$Hearing", "lowX", "[I", true)
  | 2 => ("UnlikeBoats$Hearing", "highX", "[I", true)
  | 3 => ("UnlikeBoats$Hearing", "lowY", "[I", true)
  | 4 => ("UnlikeBoats$Hearing", "highY", "[I", true)
  | 5 => ("UnlikeBoats$Hearing", "ways", "[I", true)
  | 6 => ("UnlikeBoats$Hearing", "race", "LUnlikeBoats$Race;", false)
  | 7 => ("UnlikeBoats$Hearing", "law", "I", false)
  | 8 => ("UnlikeBoats$Hearing", "label", "C", false)
  | _ => ("UnlikeBoats$Hearing", "tacks", "I", false)
abbrev wsX20 : List Cond := u_ws RX2 TX2 10
def RX3 : String := "UnlikeBoats$Office"
def TX3 : u_T := fun k => match k with
  | 0 => ("UnlikeBoats$Office", "book", "LUnlikeBoats$Book;", true)
  | 1 => ("UnlikeBoats$Office", "sheet", "LUnlikeBoats$Sheet;", true)
  | 2 => ("UnlikeBoats$Office", "finished", "[Z", true)
  | 3 => ("UnlikeBoats$Office", "seconds", "[I", true)
  | 4 => ("UnlikeBoats$Office", "numbers", "[I", true)
  | 5 => ("UnlikeBoats$Office", "times", "[I", true)
  | 6 => ("UnlikeBoats$Office", "counted", "[I", true)
  | 7 => ("UnlikeBoats$Office", "middles", "[I", true)
  | 8 => ("UnlikeBoats$Office", "own", "[I", true)
  | 9 => ("UnlikeBoats$Office", "ratios", "[I", true)
  | 10 => ("UnlikeBoats$Office", "row", "[I", true)
  | 11 => ("UnlikeBoats$Office", "changed", "[I", true)
  | 12 => ("UnlikeBoats$Office", "evened", "[I", true)
  | 13 => ("UnlikeBoats$Office", "tried", "[I", true)
  | 14 => ("UnlikeBoats$Office", "best", "[I", true)
  | 15 => ("UnlikeBoats$Office", "spreading", "I", false)
  | 16 => ("UnlikeBoats$Office", "bestSpread", "I", false)
  | _ => ("UnlikeBoats$Office", "weights", "[I", true)
abbrev wsX30 : List Cond := u_ws RX3 TX3 18
def RX4 : String := "UnlikeBoats$Protest"
def TX4 : u_T := fun k => match k with
  | 0 => ("UnlikeBoats$Protest", "race", "I", true)
  | 1 => ("UnlikeBoats$Protest", "a", "I", true)
  | 2 => ("UnlikeBoats$Protest", "b", "I", true)
  | 3 => ("UnlikeBoats$Protest", "second", "I", true)
  | 4 => ("UnlikeBoats$Protest", "told", "I", true)
  | 5 => ("UnlikeBoats$Protest", "decided", "I", false)
  | 6 => ("UnlikeBoats$Protest", "guilty", "I", false)
  | 7 => ("UnlikeBoats$Protest", "reopened", "I", false)
  | 8 => ("UnlikeBoats$Protest", "decidedAnew", "I", false)
  | _ => ("UnlikeBoats$Protest", "guiltyAnew", "I", false)
abbrev wsX40 : List Cond := u_ws RX4 TX4 10
def RX5 : String := "UnlikeBoats$Race"
def TX5 : u_T := fun k => match k with
  | 0 => ("UnlikeBoats$Race", "told", "I", true)
  | 1 => ("UnlikeBoats$Race", "day", "I", true)
  | 2 => ("UnlikeBoats$Race", "miles", "I", true)
  | 3 => ("UnlikeBoats$Race", "way", "I", true)
  | 4 => ("UnlikeBoats$Race", "wind", "I", true)
  | 5 => ("UnlikeBoats$Race", "x", "I", true)
  | 6 => ("UnlikeBoats$Race", "y", "I", true)
  | 7 => ("UnlikeBoats$Race", "entries", "[I", true)
  | 8 => ("UnlikeBoats$Race", "redresses", "[I", true)
  | 9 => ("UnlikeBoats$Race", "ends", "[I", true)
  | 10 => ("UnlikeBoats$Race", "behind", "[I", true)
  | _ => ("UnlikeBoats$Race", "swifts", "[I", true)
abbrev wsX50 : List Cond := u_ws RX5 TX5 12
def RX6 : String := "UnlikeBoats$Result"
def TX6 : u_T := fun k => match k with
  | 0 => ("UnlikeBoats$Result", "race", "I", true)
  | 1 => ("UnlikeBoats$Result", "boat", "I", true)
  | 2 => ("UnlikeBoats$Result", "code", "I", true)
  | 3 => ("UnlikeBoats$Result", "seconds", "I", true)
  | _ => ("UnlikeBoats$Result", "told", "I", true)
abbrev wsX60 : List Cond := u_ws RX6 TX6 5
def RX7 : String := "UnlikeBoats$Rules"
def TX7 : u_T := fun k => match k with
  | 0 => ("UnlikeBoats$Rules", "from", "I", true)
  | 1 => ("UnlikeBoats$Rules", "told", "I", true)
  | 2 => ("UnlikeBoats$Rules", "steps", "[I", true)
  | 3 => ("UnlikeBoats$Rules", "labels", "[I", true)
  | 4 => ("UnlikeBoats$Rules", "begins", "[I", true)
  | _ => ("UnlikeBoats$Rules", "sums", "[I", true)
abbrev wsX70 : List Cond := u_ws RX7 TX7 6
def RX8 : String := "UnlikeBoats$Scores"
def TX8 : u_T := fun k => match k with
  | 0 => ("UnlikeBoats$Scores", "book", "LUnlikeBoats$Book;", true)
  | 1 => ("UnlikeBoats$Scores", "sheet", "LUnlikeBoats$Sheet;", true)
  | 2 => ("UnlikeBoats$Scores", "races", "I", false)
  | 3 => ("UnlikeBoats$Scores", "plain", "[I", true)
  | 4 => ("UnlikeBoats$Scores", "points", "[I", true)
  | 5 => ("UnlikeBoats$Scores", "out", "[Z", true)
  | 6 => ("UnlikeBoats$Scores", "scored", "[Z", true)
  | 7 => ("UnlikeBoats$Scores", "totals", "[I", true)
  | 8 => ("UnlikeBoats$Scores", "mine", "[I", true)
  | _ => ("UnlikeBoats$Scores", "theirs", "[I", true)
abbrev wsX80 : List Cond := u_ws RX8 TX8 10
def RX9 : String := "UnlikeBoats$Sheet"
def TX9 : u_T := fun k => match k with
  | 0 => ("UnlikeBoats$Sheet", "book", "LUnlikeBoats$Book;", true)
  | 1 => ("UnlikeBoats$Sheet", "codes", "[I", true)
  | 2 => ("UnlikeBoats$Sheet", "seconds", "[I", true)
  | 3 => ("UnlikeBoats$Sheet", "numbers", "[I", true)
  | 4 => ("UnlikeBoats$Sheet", "times", "[I", true)
  | 5 => ("UnlikeBoats$Sheet", "places", "[I", true)
  | 6 => ("UnlikeBoats$Sheet", "law", "I", false)
  | 7 => ("UnlikeBoats$Sheet", "entered", "I", false)
  | _ => ("UnlikeBoats$Sheet", "finished", "I", false)
abbrev wsX90 : List Cond := u_ws RX9 TX9 9
def RX10 : String := "UnlikeBoats$Tape"
def TX10 : u_T := fun k => match k with
  | 0 => ("UnlikeBoats$Tape", "bytes", "[I", true)
  | 1 => ("UnlikeBoats$Tape", "length", "I", false)
  | 2 => ("UnlikeBoats$Tape", "at", "I", false)
  | 3 => ("UnlikeBoats$Tape", "fault", "I", false)
  | 4 => ("UnlikeBoats$Tape", "steps", "[I", true)
  | 5 => ("UnlikeBoats$Tape", "size", "I", false)
  | 6 => ("UnlikeBoats$Tape", "labels", "[I", true)
  | 7 => ("UnlikeBoats$Tape", "begins", "[I", true)
  | 8 => ("UnlikeBoats$Tape", "sums", "[I", true)
  | _ => ("UnlikeBoats$Tape", "clauses", "I", false)
def tyX10 : Nat → FieldType := fun k => match k with
  | 0 => .array .int
  | 1 => .int
  | 2 => .int
  | 3 => .int
  | 4 => .array .int
  | 5 => .int
  | 6 => .array .int
  | 7 => .array .int
  | 8 => .array .int
  | _ => .int
abbrev wsX100 : List Cond := u_ws RX10 TX10 10
theorem nmX10 : ∀ a, a < 10 → ∀ b, b < 10 → a ≠ b → (TX10 a).2.1 ≠ (TX10 b).2.1 := by decide +kernel
theorem tyX10_ok : ∀ k, k < 10 → parseFieldDescriptor (TX10 k).2.2.1 = some (tyX10 k) := by decide +kernel
def yX10_init : MethodName := ⟨RX10, "<init>", "()V"⟩
abbrev cX10_put : ByteArray := prog_12_method_2_code
def yX10_put : MethodName := ⟨RX10, "put", "(I)V"⟩
abbrev cX10_read : ByteArray := prog_12_method_3_code
def yX10_read : MethodName := ⟨RX10, "read", "()I"⟩
abbrev cX10_next : ByteArray := prog_12_method_5_code
def yX10_next : MethodName := ⟨RX10, "next", "()I"⟩
abbrev cX10_fail : ByteArray := prog_12_method_6_code
def yX10_fail : MethodName := ⟨RX10, "fail", "()V"⟩
abbrev cX10_readClause : ByteArray := prog_12_method_9_code
def yX10_readClause : MethodName := ⟨RX10, "readClause", "()V"⟩
def RX11 : String := "UnlikeBoats$Word"
def TX11 : u_T := fun k => match k with
  | 0 => ("UnlikeBoats$Word", "race", "I", true)
  | 1 => ("UnlikeBoats$Word", "boat", "I", true)
  | 2 => ("UnlikeBoats$Word", "told", "I", true)
  | 3 => ("UnlikeBoats$Word", "second", "I", false)
  | 4 => ("UnlikeBoats$Word", "x", "I", false)
  | 5 => ("UnlikeBoats$Word", "y", "I", false)
  | 6 => ("UnlikeBoats$Word", "size", "I", false)
  | _ => ("UnlikeBoats$Word", "directions", "I", false)
abbrev wsX110 : List Cond := u_ws RX11 TX11 8
def RX12 : String := "UnlikeBoats"
def TX12 : u_T := fun k => match k with
  | 0 => ("UnlikeBoats", "book", "LUnlikeBoats$Book;", true)
  | 1 => ("UnlikeBoats", "tape", "LUnlikeBoats$Tape;", true)
  | 2 => ("UnlikeBoats", "sheet", "LUnlikeBoats$Sheet;", true)
  | 3 => ("UnlikeBoats", "scores", "LUnlikeBoats$Scores;", true)
  | 4 => ("UnlikeBoats", "hearing", "LUnlikeBoats$Hearing;", true)
  | _ => ("UnlikeBoats", "office", "LUnlikeBoats$Office;", true)
abbrev wsX120 : List Cond := u_ws RX12 TX12 6
abbrev cX12_days : ByteArray := prog_1_method_2_code
def yX12_days : MethodName := ⟨RX12, "days", "(I)I"⟩
abbrev cX12_boat : ByteArray := prog_1_method_3_code
def yX12_boat : MethodName := ⟨RX12, "boat", "()I"⟩
abbrev cX12_certificate : ByteArray := prog_1_method_4_code
def yX12_certificate : MethodName := ⟨RX12, "certificate", "(IIIII)I"⟩
abbrev cX12_measured : ByteArray := prog_1_method_5_code
def yX12_measured : MethodName := ⟨RX12, "measured", "(III)I"⟩
abbrev cX12_end : ByteArray := prog_1_method_7_code
def yX12_end : MethodName := ⟨RX12, "end", "(I)Z"⟩
abbrev cX12_fault : ByteArray := prog_1_method_8_code
def yX12_fault : MethodName := ⟨RX12, "fault", "()I"⟩
abbrev cX12_rules : ByteArray := prog_1_method_9_code
def yX12_rules : MethodName := ⟨RX12, "rules", "(I)I"⟩
abbrev cX12_force : ByteArray := prog_1_method_10_code
def yX12_force : MethodName := ⟨RX12, "force", "(II)I"⟩
abbrev cX12_number : ByteArray := prog_1_method_11_code
def yX12_number : MethodName := ⟨RX12, "number", "(III)I"⟩
abbrev cX12_swift : ByteArray := prog_1_method_13_code
def yX12_swift : MethodName := ⟨RX12, "swift", "(II)Z"⟩
abbrev cX12_enter : ByteArray := prog_1_method_14_code
def yX12_enter : MethodName := ⟨RX12, "enter", "(II)Z"⟩
abbrev cX12_result : ByteArray := prog_1_method_15_code
def yX12_result : MethodName := ⟨RX12, "result", "(IIII)Z"⟩
abbrev cX12_coded : ByteArray := prog_1_method_16_code
def yX12_coded : MethodName := ⟨RX12, "coded", "(III)I"⟩
abbrev cX12_corrected : ByteArray := prog_1_method_17_code
def yX12_corrected : MethodName := ⟨RX12, "corrected", "(III)I"⟩
abbrev cX12_placed : ByteArray := prog_1_method_18_code
def yX12_placed : MethodName := ⟨RX12, "placed", "(III)I"⟩
abbrev cX12_redress : ByteArray := prog_1_method_19_code
def yX12_redress : MethodName := ⟨RX12, "redress", "(II)Z"⟩
abbrev cX12_points : ByteArray := prog_1_method_20_code
def yX12_points : MethodName := ⟨RX12, "points", "(III)I"⟩
abbrev cX12_thrown : ByteArray := prog_1_method_21_code
def yX12_thrown : MethodName := ⟨RX12, "thrown", "(III)I"⟩
abbrev cX12_total : ByteArray := prog_1_method_22_code
def yX12_total : MethodName := ⟨RX12, "total", "(II)I"⟩
abbrev cX12_word : ByteArray := prog_1_method_24_code
def yX12_word : MethodName := ⟨RX12, "word", "(IIIIIII)I"⟩
abbrev cX12_protest : ByteArray := prog_1_method_25_code
def yX12_protest : MethodName := ⟨RX12, "protest", "(IIII)I"⟩
abbrev cX12_states : ByteArray := prog_1_method_26_code
def yX12_states : MethodName := ⟨RX12, "states", "(III)I"⟩
abbrev cX12_finding : ByteArray := prog_1_method_27_code
def yX12_finding : MethodName := ⟨RX12, "finding", "(III)I"⟩
abbrev cX12_decide : ByteArray := prog_1_method_28_code
def yX12_decide : MethodName := ⟨RX12, "decide", "(I)I"⟩
abbrev cX12_reopen : ByteArray := prog_1_method_29_code
def yX12_reopen : MethodName := ⟨RX12, "reopen", "(I)Z"⟩
abbrev cX12_even : ByteArray := prog_1_method_30_code
def yX12_even : MethodName := ⟨RX12, "even", "(I)I"⟩
abbrev cX12_change : ByteArray := prog_1_method_31_code
def yX12_change : MethodName := ⟨RX12, "change", "(II)I"⟩
abbrev cX12_middle : ByteArray := prog_1_method_32_code
def yX12_middle : MethodName := ⟨RX12, "middle", "(II)I"⟩
abbrev cX12_fit : ByteArray := prog_1_method_33_code
def yX12_fit : MethodName := ⟨RX12, "fit", "(I)I"⟩
abbrev cX12_suspect : ByteArray := prog_1_method_34_code
def yX12_suspect : MethodName := ⟨RX12, "suspect", "(II)I"⟩
abbrev cX12_start : ByteArray := prog_1_method_35_code
def yX12_start : MethodName := ⟨RX12, "start", "(IIII)Z"⟩
abbrev cX12_lean : ByteArray := prog_1_method_36_code
def yX12_lean : MethodName := ⟨RX12, "lean", "(I)I"⟩
abbrev cX12_count : ByteArray := prog_1_method_39_code
def yX12_count : MethodName := ⟨RX12, "count", "(I)I"⟩
abbrev cX12_within : ByteArray := prog_1_method_40_code
def yX12_within : MethodName := ⟨RX12, "within", "(III)Z"⟩
abbrev cX12_held : ByteArray := prog_1_method_41_code
def yX12_held : MethodName := ⟨RX12, "held", "(III)I"⟩
abbrev cX12_isDay : ByteArray := prog_1_method_43_code
def yX12_isDay : MethodName := ⟨RX12, "isDay", "(I)Z"⟩
abbrev cX12_bytesIn : ByteArray := prog_1_method_45_code
def yX12_bytesIn : MethodName := ⟨RX12, "bytesIn", "(I)I"⟩
abbrev cX12_isOneOf : ByteArray := prog_1_method_46_code
def yX12_isOneOf : MethodName := ⟨RX12, "isOneOf", "(Ljava/lang/String;I)Z"⟩
def RX13 : String := "UnlikeBoatsModel"
def TX13 : u_T := fun k => match k with
  | 0 => ("UnlikeBoatsModel", "thrown", "I", false)
  | 1 => ("UnlikeBoatsModel", "now", "I", false)
  | 2 => ("UnlikeBoatsModel", "certBoat", "[I", true)
  | 3 => ("UnlikeBoatsModel", "certFrom", "[I", true)
  | 4 => ("UnlikeBoatsModel", "certLong", "[I", true)
  | 5 => ("UnlikeBoatsModel", "certArea", "[I", true)
  | 6 => ("UnlikeBoatsModel", "certWeight", "[I", true)
  | 7 => ("UnlikeBoatsModel", "certTold", "[I", true)
  | 8 => ("UnlikeBoatsModel", "boats", "I", false)
  | 9 => ("UnlikeBoatsModel", "certs", "I", false)
  | 10 => ("UnlikeBoatsModel", "tape", "[B", true)
  | 11 => ("UnlikeBoatsModel", "ruleText", "[B", true)
  | 12 => ("UnlikeBoatsModel", "ruleLong", "[I", true)
  | 13 => ("UnlikeBoatsModel", "ruleFrom", "[I", true)
  | 14 => ("UnlikeBoatsModel", "ruleTold", "[I", true)
  | 15 => ("UnlikeBoatsModel", "letters", "[I", true)
  | 16 => ("UnlikeBoatsModel", "length", "I", false)
  | 17 => ("UnlikeBoatsModel", "rules", "I", false)
  | 18 => ("UnlikeBoatsModel", "text", "[B", false)
  | 19 => ("UnlikeBoatsModel", "textFrom", "I", false)
  | 20 => ("UnlikeBoatsModel", "textLong", "I", false)
  | 21 => ("UnlikeBoatsModel", "at", "I", false)
  | 22 => ("UnlikeBoatsModel", "fault", "I", false)
  | 23 => ("UnlikeBoatsModel", "deep", "I", false)
  | 24 => ("UnlikeBoatsModel", "label", "I", false)
  | 25 => ("UnlikeBoatsModel", "found", "I", false)
  | 26 => ("UnlikeBoatsModel", "hasFound", "Z", false)
  | 27 => ("UnlikeBoatsModel", "raceDay", "[I", true)
  | 28 => ("UnlikeBoatsModel", "raceMiles", "[I", true)
  | 29 => ("UnlikeBoatsModel", "raceWay", "[I", true)
  | 30 => ("UnlikeBoatsModel", "raceWind", "[I", true)
  | 31 => ("UnlikeBoatsModel", "markX", "[I", true)
  | 32 => ("UnlikeBoatsModel", "markY", "[I", true)
  | 33 => ("UnlikeBoatsModel", "raceSwift", "[I", true)
  | 34 => ("UnlikeBoatsModel", "raceTold", "[I", true)
  | 35 => ("UnlikeBoatsModel", "entered", "[I", true)
  | 36 => ("UnlikeBoatsModel", "startEnd", "[I", true)
  | 37 => ("UnlikeBoatsModel", "startAt", "[I", true)
  | 38 => ("UnlikeBoatsModel", "resultRace", "[I", true)
  | 39 => ("UnlikeBoatsModel", "resultBoat", "[I", true)
  | 40 => ("UnlikeBoatsModel", "resultCode", "[I", true)
  | 41 => ("UnlikeBoatsModel", "resultSeconds", "[I", true)
  | 42 => ("UnlikeBoatsModel", "resultTold", "[I", true)
  | 43 => ("UnlikeBoatsModel", "redressRace", "[I", true)
  | 44 => ("UnlikeBoatsModel", "redressBoat", "[I", true)
  | 45 => ("UnlikeBoatsModel", "redressTold", "[I", true)
  | 46 => ("UnlikeBoatsModel", "races", "I", false)
  | 47 => ("UnlikeBoatsModel", "results", "I", false)
  | 48 => ("UnlikeBoatsModel", "redresses", "I", false)
  | 49 => ("UnlikeBoatsModel", "points", "[I", true)
  | 50 => ("UnlikeBoatsModel", "totals", "[I", true)
  | 51 => ("UnlikeBoatsModel", "left", "[I", true)
  | 52 => ("UnlikeBoatsModel", "otherLeft", "[I", true)
  | 53 => ("UnlikeBoatsModel", "isThrown", "[Z", true)
  | 54 => ("UnlikeBoatsModel", "isScored", "[Z", true)
  | 55 => ("UnlikeBoatsModel", "counting", "I", false)
  | 56 => ("UnlikeBoatsModel", "wordRace", "[I", true)
  | 57 => ("UnlikeBoatsModel", "wordBoat", "[I", true)
  | 58 => ("UnlikeBoatsModel", "wordAt", "[I", true)
  | 59 => ("UnlikeBoatsModel", "wordX", "[I", true)
  | 60 => ("UnlikeBoatsModel", "wordY", "[I", true)
  | 61 => ("UnlikeBoatsModel", "wordSize", "[I", true)
  | 62 => ("UnlikeBoatsModel", "wordWays", "[I", true)
  | 63 => ("UnlikeBoatsModel", "wordTold", "[I", true)
  | 64 => ("UnlikeBoatsModel", "protestRace", "[I", true)
  | 65 => ("UnlikeBoatsModel", "protestA", "[I", true)
  | 66 => ("UnlikeBoatsModel", "protestB", "[I", true)
  | 67 => ("UnlikeBoatsModel", "protestAt", "[I", true)
  | 68 => ("UnlikeBoatsModel", "protestTold", "[I", true)
  | 69 => ("UnlikeBoatsModel", "outs", "[I", true)
  | 70 => ("UnlikeBoatsModel", "outFrom", "[I", true)
  | 71 => ("UnlikeBoatsModel", "outTo", "[I", true)
  | 72 => ("UnlikeBoatsModel", "decisions", "[I", true)
  | 73 => ("UnlikeBoatsModel", "isDecided", "[Z", true)
  | 74 => ("UnlikeBoatsModel", "words", "I", false)
  | 75 => ("UnlikeBoatsModel", "protests", "I", false)
  | 76 => ("UnlikeBoatsModel", "stateX", "[I", true)
  | 77 => ("UnlikeBoatsModel", "stateY", "[I", true)
  | 78 => ("UnlikeBoatsModel", "stateWay", "[I", true)
  | 79 => ("UnlikeBoatsModel", "stateMany", "[I", true)
  | 80 => ("UnlikeBoatsModel", "evenBoat", "[I", true)
  | 81 => ("UnlikeBoatsModel", "evenRace", "[I", true)
  | 82 => ("UnlikeBoatsModel", "evenSeconds", "[I", true)
  | 83 => ("UnlikeBoatsModel", "evenNumber", "[I", true)
  | 84 => ("UnlikeBoatsModel", "tried", "[I", true)
  | 85 => ("UnlikeBoatsModel", "bestChange", "[I", true)
  | 86 => ("UnlikeBoatsModel", "evenMany", "I", false)
  | 87 => ("UnlikeBoatsModel", "evenRaces", "I", false)
  | 88 => ("UnlikeBoatsModel", "bestSpread", "I", false)
  | 89 => ("UnlikeBoatsModel", "bestSum", "I", false)
  | 90 => ("UnlikeBoatsModel", "row", "[I", true)
  | 91 => ("UnlikeBoatsModel", "fitSeconds", "[I", true)
  | 92 => ("UnlikeBoatsModel", "fitMiddle", "[I", true)
  | 93 => ("UnlikeBoatsModel", "ratioRace", "[I", true)
  | 94 => ("UnlikeBoatsModel", "ratio", "[I", true)
  | 95 => ("UnlikeBoatsModel", "jump", "I", false)
  | _ => ("UnlikeBoatsModel", "weight", "[I", true)
def tyX13 : Nat → FieldType := fun k => match k with
  | 0 => .int
  | 1 => .int
  | 2 => .array .int
  | 3 => .array .int
  | 4 => .array .int
  | 5 => .array .int
  | 6 => .array .int
  | 7 => .array .int
  | 8 => .int
  | 9 => .int
  | 10 => .array .byte
  | 11 => .array .byte
  | 12 => .array .int
  | 13 => .array .int
  | 14 => .array .int
  | 15 => .array .int
  | 16 => .int
  | 17 => .int
  | 18 => .array .byte
  | 19 => .int
  | 20 => .int
  | 21 => .int
  | 22 => .int
  | 23 => .int
  | 24 => .int
  | 25 => .int
  | 26 => .boolean
  | 27 => .array .int
  | 28 => .array .int
  | 29 => .array .int
  | 30 => .array .int
  | 31 => .array .int
  | 32 => .array .int
  | 33 => .array .int
  | 34 => .array .int
  | 35 => .array .int
  | 36 => .array .int
  | 37 => .array .int
  | 38 => .array .int
  | 39 => .array .int
  | 40 => .array .int
  | 41 => .array .int
  | 42 => .array .int
  | 43 => .array .int
  | 44 => .array .int
  | 45 => .array .int
  | 46 => .int
  | 47 => .int
  | 48 => .int
  | 49 => .array .int
  | 50 => .array .int
  | 51 => .array .int
  | 52 => .array .int
  | 53 => .array .boolean
  | 54 => .array .boolean
  | 55 => .int
  | 56 => .array .int
  | 57 => .array .int
  | 58 => .array .int
  | 59 => .array .int
  | 60 => .array .int
  | 61 => .array .int
  | 62 => .array .int
  | 63 => .array .int
  | 64 => .array .int
  | 65 => .array .int
  | 66 => .array .int
  | 67 => .array .int
  | 68 => .array .int
  | 69 => .array .int
  | 70 => .array .int
  | 71 => .array .int
  | 72 => .array .int
  | 73 => .array .boolean
  | 74 => .int
  | 75 => .int
  | 76 => .array .int
  | 77 => .array .int
  | 78 => .array .int
  | 79 => .array .int
  | 80 => .array .int
  | 81 => .array .int
  | 82 => .array .int
  | 83 => .array .int
  | 84 => .array .int
  | 85 => .array .int
  | 86 => .int
  | 87 => .int
  | 88 => .int
  | 89 => .int
  | 90 => .array .int
  | 91 => .array .int
  | 92 => .array .int
  | 93 => .array .int
  | 94 => .array .int
  | 95 => .int
  | _ => .array .int
abbrev wsX130 : List Cond := u_ws RX13 TX13 97
theorem nmX13 : ∀ a, a < 97 → ∀ b, b < 97 → a ≠ b → (TX13 a).2.1 ≠ (TX13 b).2.1 := by decide +kernel
theorem tyX13_ok : ∀ k, k < 97 → parseFieldDescriptor (TX13 k).2.2.1 = some (tyX13 k) := by decide +kernel
abbrev cX13_isIn : ByteArray := prog_15_method_3_code
def yX13_isIn : MethodName := ⟨RX13, "isIn", "(III)Z"⟩
abbrev cX13_isKnown : ByteArray := prog_15_method_4_code
def yX13_isKnown : MethodName := ⟨RX13, "isKnown", "(I)Z"⟩
abbrev cX13_isDay : ByteArray := prog_15_method_5_code
def yX13_isDay : MethodName := ⟨RX13, "isDay", "(I)Z"⟩
abbrev cX13_days : ByteArray := prog_15_method_6_code
def yX13_days : MethodName := ⟨RX13, "days", "(I)I"⟩
abbrev cX13_isBoat : ByteArray := prog_15_method_7_code
def yX13_isBoat : MethodName := ⟨RX13, "isBoat", "(I)Z"⟩
abbrev cX13_boat : ByteArray := prog_15_method_8_code
def yX13_boat : MethodName := ⟨RX13, "boat", "()I"⟩
abbrev cX13_certificate : ByteArray := prog_15_method_9_code
def yX13_certificate : MethodName := ⟨RX13, "certificate", "(IIIII)I"⟩
abbrev cX13_measured : ByteArray := prog_15_method_11_code
def yX13_measured : MethodName := ⟨RX13, "measured", "(III)I"⟩
abbrev cX13_bytesIn : ByteArray := prog_15_method_12_code
def yX13_bytesIn : MethodName := ⟨RX13, "bytesIn", "(I)I"⟩
abbrev cX13_put : ByteArray := prog_15_method_13_code
def yX13_put : MethodName := ⟨RX13, "put", "(I)V"⟩
abbrev cX13_end : ByteArray := prog_15_method_15_code
def yX13_end : MethodName := ⟨RX13, "end", "(I)Z"⟩
abbrev cX13_look : ByteArray := prog_15_method_16_code
def yX13_look : MethodName := ⟨RX13, "look", "()I"⟩
abbrev cX13_stop : ByteArray := prog_15_method_17_code
def yX13_stop : MethodName := ⟨RX13, "stop", "()Z"⟩
abbrev cX13_clause : ByteArray := prog_15_method_30_code
def yX13_clause : MethodName := ⟨RX13, "clause", "()V"⟩
abbrev cX13_goThrough : ByteArray := prog_15_method_31_code
def yX13_goThrough : MethodName := ⟨RX13, "goThrough", "([BIII)V"⟩
abbrev cX13_fault : ByteArray := prog_15_method_32_code
def yX13_fault : MethodName := ⟨RX13, "fault", "()I"⟩
abbrev cX13_rules : ByteArray := prog_15_method_33_code
def yX13_rules : MethodName := ⟨RX13, "rules", "(I)I"⟩
abbrev cX13_rulesOn : ByteArray := prog_15_method_34_code
def yX13_rulesOn : MethodName := ⟨RX13, "rulesOn", "(II)I"⟩
abbrev cX13_force : ByteArray := prog_15_method_35_code
def yX13_force : MethodName := ⟨RX13, "force", "(II)I"⟩
abbrev cX13_clear : ByteArray := prog_15_method_36_code
def yX13_clear : MethodName := ⟨RX13, "clear", "()V"⟩
abbrev cX13_worth : ByteArray := prog_15_method_37_code
def yX13_worth : MethodName := ⟨RX13, "worth", "(III)I"⟩
abbrev cX13_number : ByteArray := prog_15_method_39_code
def yX13_number : MethodName := ⟨RX13, "number", "(III)I"⟩
abbrev cX13_isRace : ByteArray := prog_15_method_40_code
def yX13_isRace : MethodName := ⟨RX13, "isRace", "(I)Z"⟩
abbrev cX13_swift : ByteArray := prog_15_method_42_code
def yX13_swift : MethodName := ⟨RX13, "swift", "(II)Z"⟩
abbrev cX13_isEntry : ByteArray := prog_15_method_44_code
def yX13_isEntry : MethodName := ⟨RX13, "isEntry", "(II)Z"⟩
abbrev cX13_enter : ByteArray := prog_15_method_45_code
def yX13_enter : MethodName := ⟨RX13, "enter", "(II)Z"⟩
abbrev cX13_result : ByteArray := prog_15_method_46_code
def yX13_result : MethodName := ⟨RX13, "result", "(IIII)Z"⟩
abbrev cX13_asks : ByteArray := prog_15_method_49_code
def yX13_asks : MethodName := ⟨RX13, "asks", "(III)Z"⟩
abbrev cX13_asksEntry : ByteArray := prog_15_method_50_code
def yX13_asksEntry : MethodName := ⟨RX13, "asksEntry", "(III)Z"⟩
abbrev cX13_coded : ByteArray := prog_15_method_51_code
def yX13_coded : MethodName := ⟨RX13, "coded", "(III)I"⟩
abbrev cX13_corrected : ByteArray := prog_15_method_55_code
def yX13_corrected : MethodName := ⟨RX13, "corrected", "(III)I"⟩
abbrev cX13_placed : ByteArray := prog_15_method_57_code
def yX13_placed : MethodName := ⟨RX13, "placed", "(III)I"⟩
abbrev cX13_redress : ByteArray := prog_15_method_58_code
def yX13_redress : MethodName := ⟨RX13, "redress", "(II)Z"⟩
abbrev cX13_points : ByteArray := prog_15_method_62_code
def yX13_points : MethodName := ⟨RX13, "points", "(III)I"⟩
abbrev cX13_word : ByteArray := prog_15_method_69_code
def yX13_word : MethodName := ⟨RX13, "word", "(IIIIIII)I"⟩
abbrev cX13_protest : ByteArray := prog_15_method_70_code
def yX13_protest : MethodName := ⟨RX13, "protest", "(IIII)I"⟩
abbrev cX13_asksProtest : ByteArray := prog_15_method_74_code
def yX13_asksProtest : MethodName := ⟨RX13, "asksProtest", "(III)Z"⟩
abbrev cX13_states : ByteArray := prog_15_method_75_code
def yX13_states : MethodName := ⟨RX13, "states", "(III)I"⟩
abbrev cX13_finding : ByteArray := prog_15_method_81_code
def yX13_finding : MethodName := ⟨RX13, "finding", "(III)I"⟩
abbrev cX13_decide : ByteArray := prog_15_method_82_code
def yX13_decide : MethodName := ⟨RX13, "decide", "(I)I"⟩
abbrev cX13_reopen : ByteArray := prog_15_method_83_code
def yX13_reopen : MethodName := ⟨RX13, "reopen", "(I)Z"⟩
abbrev cX13_findEven : ByteArray := prog_15_method_85_code
def yX13_findEven : MethodName := ⟨RX13, "findEven", "(I)Z"⟩
abbrev cX13_even : ByteArray := prog_15_method_87_code
def yX13_even : MethodName := ⟨RX13, "even", "(I)I"⟩
abbrev cX13_change : ByteArray := prog_15_method_88_code
def yX13_change : MethodName := ⟨RX13, "change", "(II)I"⟩
abbrev cX13_middle : ByteArray := prog_15_method_90_code
def yX13_middle : MethodName := ⟨RX13, "middle", "(II)I"⟩
abbrev cX13_fit : ByteArray := prog_15_method_92_code
def yX13_fit : MethodName := ⟨RX13, "fit", "(I)I"⟩
abbrev cX13_suspect : ByteArray := prog_15_method_94_code
def yX13_suspect : MethodName := ⟨RX13, "suspect", "(II)I"⟩
abbrev cX13_start : ByteArray := prog_15_method_95_code
def yX13_start : MethodName := ⟨RX13, "start", "(IIII)Z"⟩
abbrev cX13_lean : ByteArray := prog_15_method_96_code
def yX13_lean : MethodName := ⟨RX13, "lean", "(I)I"⟩
abbrev cX13_draw : ByteArray := prog_15_method_97_code
def yX13_draw : MethodName := ⟨RX13, "draw", "(IJ)I"⟩
abbrev cX13_told : ByteArray := prog_15_method_98_code
def yX13_told : MethodName := ⟨RX13, "told", "(II)I"⟩
abbrev cX13_count : ByteArray := prog_15_method_99_code
def yX13_count : MethodName := ⟨RX13, "count", "(I)I"⟩
def RJ6 : String := "java/lang/Integer"
abbrev cJ6_bitCount_0f7a4 : ByteArray := prog_22_method_49_code
def yJ6_bitCount_0f7a4 : MethodName := ⟨RJ6, "bitCount", "(I)I"⟩
def RJx4a65c : String := "java/util/ArrayList"
def TJx4a65c : u_T := fun k => match k with
  | 0 => ("java/util/AbstractList", "modCount", "I", false)
  | 1 => ("java/util/ArrayList", "elementData", "[Ljava/lang/Object;", false)
  | _ => ("java/util/ArrayList", "size", "I", false)
abbrev wsJx4a65c0 : List Cond := u_ws RJx4a65c TJx4a65c 3
abbrev cJx4a65c_size_8abf5 : ByteArray := prog_35_method_8_code
def yJx4a65c_size_8abf5 : MethodName := ⟨RJx4a65c, "size", "()I"⟩
def RJ7 : String := "java/util/Arrays"
abbrev cJ7_fill_53178 : ByteArray := prog_36_method_103_code
def yJ7_fill_53178 : MethodName := ⟨RJ7, "fill", "([II)V"⟩
theorem dX0_isBoat_0 : decode cX0_isBoat 0 = .ok (.iload_n 1, 1) := by decide +kernel
theorem dX0_isBoat_1 : decode cX0_isBoat 1 = .ok (.iconst 0, 1) := by decide +kernel
theorem dX0_isBoat_2 : decode cX0_isBoat 2 = .ok (.aload_n 0, 1) := by decide +kernel
theorem dX0_isBoat_3 : decode cX0_isBoat 3 = .ok (.getfield 48, 3) := by decide +kernel
theorem dX0_isBoat_6 : decode cX0_isBoat 6 = .ok (.iconst 1, 1) := by decide +kernel
theorem dX0_isBoat_7 : decode cX0_isBoat 7 = .ok (.isub, 1) := by decide +kernel
theorem dX0_isBoat_8 : decode cX0_isBoat 8 = .ok (.invokestatic 52, 3) := by decide +kernel
theorem dX0_isBoat_11 : decode cX0_isBoat 11 = .ok (.ireturn, 1) := by decide +kernel
theorem dX0_isRace_0 : decode cX0_isRace 0 = .ok (.iload_n 1, 1) := by decide +kernel
theorem dX0_isRace_1 : decode cX0_isRace 1 = .ok (.iconst 0, 1) := by decide +kernel
theorem dX0_isRace_2 : decode cX0_isRace 2 = .ok (.aload_n 0, 1) := by decide +kernel
theorem dX0_isRace_3 : decode cX0_isRace 3 = .ok (.getfield 21, 3) := by decide +kernel
theorem dX0_isRace_6 : decode cX0_isRace 6 = .ok (.invokevirtual 56, 3) := by decide +kernel
theorem dX0_isRace_9 : decode cX0_isRace 9 = .ok (.iconst 1, 1) := by decide +kernel
theorem dX0_isRace_10 : decode cX0_isRace 10 = .ok (.isub, 1) := by decide +kernel
theorem dX0_isRace_11 : decode cX0_isRace 11 = .ok (.invokestatic 52, 3) := by decide +kernel
theorem dX0_isRace_14 : decode cX0_isRace 14 = .ok (.ireturn, 1) := by decide +kernel
theorem dX0_isKnown_0 : decode cX0_isKnown 0 = .ok (.iload_n 1, 1) := by decide +kernel
theorem dX0_isKnown_1 : decode cX0_isKnown 1 = .ok (.iconst 0, 1) := by decide +kernel
theorem dX0_isKnown_2 : decode cX0_isKnown 2 = .ok (.aload_n 0, 1) := by decide +kernel
theorem dX0_isKnown_3 : decode cX0_isKnown 3 = .ok (.getfield 59, 3) := by decide +kernel
theorem dX0_isKnown_6 : decode cX0_isKnown 6 = .ok (.invokestatic 52, 3) := by decide +kernel
theorem dX0_isKnown_9 : decode cX0_isKnown 9 = .ok (.ireturn, 1) := by decide +kernel
theorem dX0_isCounted_0 : decode cX0_isCounted 0 = .ok (.aload_n 0, 1) := by decide +kernel
theorem dX0_isCounted_1 : decode cX0_isCounted 1 = .ok (.iload_n 2, 1) := by decide +kernel
theorem dX0_isCounted_2 : decode cX0_isCounted 2 = .ok (.invokevirtual 62, 3) := by decide +kernel
theorem dX0_isCounted_5 : decode cX0_isCounted 5 = .ok (.ifCond .eq 33, 3) := by decide +kernel
theorem dX0_isCounted_8 : decode cX0_isCounted 8 = .ok (.aload_n 0, 1) := by decide +kernel
theorem dX0_isCounted_9 : decode cX0_isCounted 9 = .ok (.iload_n 1, 1) := by decide +kernel
theorem dX0_isCounted_10 : decode cX0_isCounted 10 = .ok (.invokevirtual 66, 3) := by decide +kernel
theorem dX0_isCounted_13 : decode cX0_isCounted 13 = .ok (.ifCond .eq 25, 3) := by decide +kernel
theorem dX0_isCounted_38 : decode cX0_isCounted 38 = .ok (.iconst 0, 1) := by decide +kernel
theorem dX0_isCounted_39 : decode cX0_isCounted 39 = .ok (.ireturn, 1) := by decide +kernel
theorem dX0_isEntered_0 : decode cX0_isEntered 0 = .ok (.aload_n 0, 1) := by decide +kernel
theorem dX0_isEntered_1 : decode cX0_isEntered 1 = .ok (.iload_n 1, 1) := by decide +kernel
theorem dX0_isEntered_2 : decode cX0_isEntered 2 = .ok (.invokevirtual 66, 3) := by decide +kernel
theorem dX0_isEntered_5 : decode cX0_isEntered 5 = .ok (.ifCond .eq 37, 3) := by decide +kernel
theorem dX0_isEntered_42 : decode cX0_isEntered 42 = .ok (.iconst 0, 1) := by decide +kernel
theorem dX0_isEntered_43 : decode cX0_isEntered 43 = .ok (.ireturn, 1) := by decide +kernel
theorem dX0_isProtested_0 : decode cX0_isProtested 0 = .ok (.aload_n 0, 1) := by decide +kernel
theorem dX0_isProtested_1 : decode cX0_isProtested 1 = .ok (.iload_n 2, 1) := by decide +kernel
theorem dX0_isProtested_2 : decode cX0_isProtested 2 = .ok (.invokevirtual 62, 3) := by decide +kernel
theorem dX0_isProtested_5 : decode cX0_isProtested 5 = .ok (.ifCond .eq 42, 3) := by decide +kernel
theorem dX0_isProtested_8 : decode cX0_isProtested 8 = .ok (.iload_n 1, 1) := by decide +kernel
theorem dX0_isProtested_9 : decode cX0_isProtested 9 = .ok (.iconst 0, 1) := by decide +kernel
theorem dX0_isProtested_10 : decode cX0_isProtested 10 = .ok (.aload_n 0, 1) := by decide +kernel
theorem dX0_isProtested_11 : decode cX0_isProtested 11 = .ok (.getfield 30, 3) := by decide +kernel
theorem dX0_isProtested_14 : decode cX0_isProtested 14 = .ok (.invokevirtual 56, 3) := by decide +kernel
theorem dX0_isProtested_17 : decode cX0_isProtested 17 = .ok (.iconst 1, 1) := by decide +kernel
theorem dX0_isProtested_18 : decode cX0_isProtested 18 = .ok (.isub, 1) := by decide +kernel
theorem dX0_isProtested_19 : decode cX0_isProtested 19 = .ok (.invokestatic 52, 3) := by decide +kernel
theorem dX0_isProtested_22 : decode cX0_isProtested 22 = .ok (.ifCond .eq 25, 3) := by decide +kernel
theorem dX0_isProtested_47 : decode cX0_isProtested 47 = .ok (.iconst 0, 1) := by decide +kernel
theorem dX0_isProtested_48 : decode cX0_isProtested 48 = .ok (.ireturn, 1) := by decide +kernel
theorem dX0_areSome_0 : decode cX0_areSome 0 = .ok (.iload_n 1, 1) := by decide +kernel
theorem dX0_areSome_1 : decode cX0_areSome 1 = .ok (.iconst 0, 1) := by decide +kernel
theorem dX0_areSome_2 : decode cX0_areSome 2 = .ok (.iconst 1, 1) := by decide +kernel
theorem dX0_areSome_3 : decode cX0_areSome 3 = .ok (.aload_n 0, 1) := by decide +kernel
theorem dX0_areSome_4 : decode cX0_areSome 4 = .ok (.getfield 48, 3) := by decide +kernel
theorem dX0_areSome_7 : decode cX0_areSome 7 = .ok (.ishl, 1) := by decide +kernel
theorem dX0_areSome_8 : decode cX0_areSome 8 = .ok (.iconst 1, 1) := by decide +kernel
theorem dX0_areSome_9 : decode cX0_areSome 9 = .ok (.isub, 1) := by decide +kernel
theorem dX0_areSome_10 : decode cX0_areSome 10 = .ok (.invokestatic 52, 3) := by decide +kernel
theorem dX0_areSome_13 : decode cX0_areSome 13 = .ok (.ifCond .eq 19, 3) := by decide +kernel
theorem dX0_areSome_16 : decode cX0_areSome 16 = .ok (.iload_n 1, 1) := by decide +kernel
theorem dX0_areSome_17 : decode cX0_areSome 17 = .ok (.invokestatic 88, 3) := by decide +kernel
theorem dX0_areSome_20 : decode cX0_areSome 20 = .ok (.iconst 2, 1) := by decide +kernel
theorem dX0_areSome_21 : decode cX0_areSome 21 = .ok (.iconst 4, 1) := by decide +kernel
theorem dX0_areSome_22 : decode cX0_areSome 22 = .ok (.invokestatic 52, 3) := by decide +kernel
theorem dX0_areSome_25 : decode cX0_areSome 25 = .ok (.ifCond .eq 7, 3) := by decide +kernel
theorem dX0_areSome_32 : decode cX0_areSome 32 = .ok (.iconst 0, 1) := by decide +kernel
theorem dX0_areSome_33 : decode cX0_areSome 33 = .ok (.ireturn, 1) := by decide +kernel
theorem dX0_rulesOn_0 : decode cX0_rulesOn 0 = .ok (.iconst (-1), 1) := by decide +kernel
theorem dX0_rulesOn_1 : decode cX0_rulesOn 1 = .ok (.istore_n 3, 1) := by decide +kernel
theorem dX0_rulesOn_2 : decode cX0_rulesOn 2 = .ok (.iconst 0, 1) := by decide +kernel
theorem dX0_rulesOn_3 : decode cX0_rulesOn 3 = .ok (.istore 4, 2) := by decide +kernel
theorem dX0_rulesOn_5 : decode cX0_rulesOn 5 = .ok (.iconst 0, 1) := by decide +kernel
theorem dX0_rulesOn_6 : decode cX0_rulesOn 6 = .ok (.istore 5, 2) := by decide +kernel
theorem dX0_rulesOn_8 : decode cX0_rulesOn 8 = .ok (.iload 5, 2) := by decide +kernel
theorem dX0_rulesOn_10 : decode cX0_rulesOn 10 = .ok (.aload_n 0, 1) := by decide +kernel
theorem dX0_rulesOn_11 : decode cX0_rulesOn 11 = .ok (.getfield 18, 3) := by decide +kernel
theorem dX0_rulesOn_14 : decode cX0_rulesOn 14 = .ok (.invokevirtual 56, 3) := by decide +kernel
theorem dX0_rulesOn_17 : decode cX0_rulesOn 17 = .ok (.if_icmp .ge 61, 3) := by decide +kernel
theorem dX0_rulesOn_78 : decode cX0_rulesOn 78 = .ok (.iload_n 3, 1) := by decide +kernel
theorem dX0_rulesOn_79 : decode cX0_rulesOn 79 = .ok (.ireturn, 1) := by decide +kernel
theorem dX0_worthIn_0 : decode cX0_worthIn 0 = .ok (.iload_n 1, 1) := by decide +kernel
theorem dX0_worthIn_1 : decode cX0_worthIn 1 = .ok (.iconst (-1), 1) := by decide +kernel
theorem dX0_worthIn_2 : decode cX0_worthIn 2 = .ok (.if_icmp .ne 7, 3) := by decide +kernel
theorem dX0_worthIn_5 : decode cX0_worthIn 5 = .ok (.iconst 0, 1) := by decide +kernel
theorem dX0_worthIn_6 : decode cX0_worthIn 6 = .ok (.goto 26, 3) := by decide +kernel
theorem dX0_worthIn_32 : decode cX0_worthIn 32 = .ok (.ireturn, 1) := by decide +kernel
theorem dX0_racesIn_0 : decode cX0_racesIn 0 = .ok (.iconst 0, 1) := by decide +kernel
theorem dX0_racesIn_1 : decode cX0_racesIn 1 = .ok (.istore_n 2, 1) := by decide +kernel
theorem dX0_racesIn_2 : decode cX0_racesIn 2 = .ok (.iconst 0, 1) := by decide +kernel
theorem dX0_racesIn_3 : decode cX0_racesIn 3 = .ok (.istore_n 3, 1) := by decide +kernel
theorem dX0_racesIn_4 : decode cX0_racesIn 4 = .ok (.iload_n 3, 1) := by decide +kernel
theorem dX0_racesIn_5 : decode cX0_racesIn 5 = .ok (.aload_n 0, 1) := by decide +kernel
theorem dX0_racesIn_6 : decode cX0_racesIn 6 = .ok (.getfield 21, 3) := by decide +kernel
theorem dX0_racesIn_9 : decode cX0_racesIn 9 = .ok (.invokevirtual 56, 3) := by decide +kernel
theorem dX0_racesIn_12 : decode cX0_racesIn 12 = .ok (.if_icmp .ge 30, 3) := by decide +kernel
theorem dX0_racesIn_42 : decode cX0_racesIn 42 = .ok (.iload_n 2, 1) := by decide +kernel
theorem dX0_racesIn_43 : decode cX0_racesIn 43 = .ok (.ireturn, 1) := by decide +kernel
theorem dX0_disqualified_0 : decode cX0_disqualified 0 = .ok (.iconst 0, 1) := by decide +kernel
theorem dX0_disqualified_1 : decode cX0_disqualified 1 = .ok (.istore_n 1, 1) := by decide +kernel
theorem dX0_disqualified_2 : decode cX0_disqualified 2 = .ok (.iconst 0, 1) := by decide +kernel
theorem dX0_disqualified_3 : decode cX0_disqualified 3 = .ok (.istore_n 2, 1) := by decide +kernel
theorem dX0_disqualified_4 : decode cX0_disqualified 4 = .ok (.iload_n 2, 1) := by decide +kernel
theorem dX0_disqualified_5 : decode cX0_disqualified 5 = .ok (.aload_n 0, 1) := by decide +kernel
theorem dX0_disqualified_6 : decode cX0_disqualified 6 = .ok (.getfield 21, 3) := by decide +kernel
theorem dX0_disqualified_9 : decode cX0_disqualified 9 = .ok (.invokevirtual 56, 3) := by decide +kernel
theorem dX0_disqualified_12 : decode cX0_disqualified 12 = .ok (.if_icmp .ge 24, 3) := by decide +kernel
theorem dX0_disqualified_36 : decode cX0_disqualified 36 = .ok (.iload_n 1, 1) := by decide +kernel
theorem dX0_disqualified_37 : decode cX0_disqualified 37 = .ok (.ireturn, 1) := by decide +kernel
theorem dX10_put_0 : decode cX10_put 0 = .ok (.bipush 24, 2) := by decide +kernel
theorem dX10_put_2 : decode cX10_put 2 = .ok (.istore_n 2, 1) := by decide +kernel
theorem dX10_put_3 : decode cX10_put 3 = .ok (.iload_n 2, 1) := by decide +kernel
theorem dX10_put_4 : decode cX10_put 4 = .ok (.ifCond .lt 53, 3) := by decide +kernel
theorem dX10_put_7 : decode cX10_put 7 = .ok (.iload_n 1, 1) := by decide +kernel
theorem dX10_put_8 : decode cX10_put 8 = .ok (.iload_n 2, 1) := by decide +kernel
theorem dX10_put_9 : decode cX10_put 9 = .ok (.iushr, 1) := by decide +kernel
theorem dX10_put_10 : decode cX10_put 10 = .ok (.sipush 255, 3) := by decide +kernel
theorem dX10_put_13 : decode cX10_put 13 = .ok (.iand, 1) := by decide +kernel
theorem dX10_put_14 : decode cX10_put 14 = .ok (.istore_n 3, 1) := by decide +kernel
theorem dX10_put_15 : decode cX10_put 15 = .ok (.iload_n 3, 1) := by decide +kernel
theorem dX10_put_16 : decode cX10_put 16 = .ok (.ifCond .eq 35, 3) := by decide +kernel
theorem dX10_put_19 : decode cX10_put 19 = .ok (.aload_n 0, 1) := by decide +kernel
theorem dX10_put_20 : decode cX10_put 20 = .ok (.getfield 27, 3) := by decide +kernel
theorem dX10_put_23 : decode cX10_put 23 = .ok (.aload_n 0, 1) := by decide +kernel
theorem dX10_put_24 : decode cX10_put 24 = .ok (.getfield 9, 3) := by decide +kernel
theorem dX10_put_27 : decode cX10_put 27 = .ok (.arraylength, 1) := by decide +kernel
theorem dX10_put_28 : decode cX10_put 28 = .ok (.if_icmp .ge 23, 3) := by decide +kernel
theorem dX10_put_31 : decode cX10_put 31 = .ok (.aload_n 0, 1) := by decide +kernel
theorem dX10_put_32 : decode cX10_put 32 = .ok (.getfield 9, 3) := by decide +kernel
theorem dX10_put_35 : decode cX10_put 35 = .ok (.aload_n 0, 1) := by decide +kernel
theorem dX10_put_36 : decode cX10_put 36 = .ok (.getfield 27, 3) := by decide +kernel
theorem dX10_put_39 : decode cX10_put 39 = .ok (.iload_n 3, 1) := by decide +kernel
theorem dX10_put_40 : decode cX10_put 40 = .ok (.iastore, 1) := by decide +kernel
theorem dX10_put_41 : decode cX10_put 41 = .ok (.aload_n 0, 1) := by decide +kernel
theorem dX10_put_42 : decode cX10_put 42 = .ok (.dup, 1) := by decide +kernel
theorem dX10_put_43 : decode cX10_put 43 = .ok (.getfield 27, 3) := by decide +kernel
theorem dX10_put_46 : decode cX10_put 46 = .ok (.iconst 1, 1) := by decide +kernel
theorem dX10_put_47 : decode cX10_put 47 = .ok (.iadd, 1) := by decide +kernel
theorem dX10_put_48 : decode cX10_put 48 = .ok (.putfield 27, 3) := by decide +kernel
theorem dX10_put_51 : decode cX10_put 51 = .ok (.iinc 2 (-8), 3) := by decide +kernel
theorem dX10_put_54 : decode cX10_put 54 = .ok (.goto (-51), 3) := by decide +kernel
theorem dX10_put_57 : decode cX10_put 57 = .ok (.return_, 1) := by decide +kernel
theorem dX10_read_0 : decode cX10_read 0 = .ok (.aload_n 0, 1) := by decide +kernel
theorem dX10_read_1 : decode cX10_read 1 = .ok (.iconst 0, 1) := by decide +kernel
theorem dX10_read_2 : decode cX10_read 2 = .ok (.putfield 31, 3) := by decide +kernel
theorem dX10_read_5 : decode cX10_read 5 = .ok (.aload_n 0, 1) := by decide +kernel
theorem dX10_read_6 : decode cX10_read 6 = .ok (.iconst (-1), 1) := by decide +kernel
theorem dX10_read_7 : decode cX10_read 7 = .ok (.putfield 34, 3) := by decide +kernel
theorem dX10_read_10 : decode cX10_read 10 = .ok (.aload_n 0, 1) := by decide +kernel
theorem dX10_read_11 : decode cX10_read 11 = .ok (.iconst 0, 1) := by decide +kernel
theorem dX10_read_12 : decode cX10_read 12 = .ok (.putfield 37, 3) := by decide +kernel
theorem dX10_read_15 : decode cX10_read 15 = .ok (.aload_n 0, 1) := by decide +kernel
theorem dX10_read_16 : decode cX10_read 16 = .ok (.iconst 0, 1) := by decide +kernel
theorem dX10_read_17 : decode cX10_read 17 = .ok (.putfield 40, 3) := by decide +kernel
theorem dX10_read_20 : decode cX10_read 20 = .ok (.aload_n 0, 1) := by decide +kernel
theorem dX10_read_21 : decode cX10_read 21 = .ok (.invokevirtual 43, 3) := by decide +kernel
theorem dX10_read_24 : decode cX10_read 24 = .ok (.iconst 0, 1) := by decide +kernel
theorem dX10_read_25 : decode cX10_read 25 = .ok (.istore_n 1, 1) := by decide +kernel
theorem dX10_read_26 : decode cX10_read 26 = .ok (.iload_n 1, 1) := by decide +kernel
theorem dX10_read_27 : decode cX10_read 27 = .ok (.sipush 200, 3) := by decide +kernel
theorem dX10_read_30 : decode cX10_read 30 = .ok (.if_icmp .ge 32, 3) := by decide +kernel
theorem dX10_read_33 : decode cX10_read 33 = .ok (.aload_n 0, 1) := by decide +kernel
theorem dX10_read_34 : decode cX10_read 34 = .ok (.invokevirtual 46, 3) := by decide +kernel
theorem dX10_read_37 : decode cX10_read 37 = .ok (.bipush 59, 2) := by decide +kernel
theorem dX10_read_39 : decode cX10_read 39 = .ok (.if_icmp .ne 23, 3) := by decide +kernel
theorem dX10_read_62 : decode cX10_read 62 = .ok (.aload_n 0, 1) := by decide +kernel
theorem dX10_read_63 : decode cX10_read 63 = .ok (.invokevirtual 46, 3) := by decide +kernel
theorem dX10_read_66 : decode cX10_read 66 = .ok (.iconst (-1), 1) := by decide +kernel
theorem dX10_read_67 : decode cX10_read 67 = .ok (.if_icmp .eq 7, 3) := by decide +kernel
theorem dX10_read_70 : decode cX10_read 70 = .ok (.aload_n 0, 1) := by decide +kernel
theorem dX10_read_71 : decode cX10_read 71 = .ok (.invokevirtual 50, 3) := by decide +kernel
theorem dX10_read_74 : decode cX10_read 74 = .ok (.aload_n 0, 1) := by decide +kernel
theorem dX10_read_75 : decode cX10_read 75 = .ok (.getfield 21, 3) := by decide +kernel
theorem dX10_read_78 : decode cX10_read 78 = .ok (.aload_n 0, 1) := by decide +kernel
theorem dX10_read_79 : decode cX10_read 79 = .ok (.getfield 40, 3) := by decide +kernel
theorem dX10_read_82 : decode cX10_read 82 = .ok (.aload_n 0, 1) := by decide +kernel
theorem dX10_read_83 : decode cX10_read 83 = .ok (.getfield 37, 3) := by decide +kernel
theorem dX10_read_86 : decode cX10_read 86 = .ok (.iastore, 1) := by decide +kernel
theorem dX10_read_87 : decode cX10_read 87 = .ok (.aload_n 0, 1) := by decide +kernel
theorem dX10_read_88 : decode cX10_read 88 = .ok (.getfield 34, 3) := by decide +kernel
theorem dX10_read_91 : decode cX10_read 91 = .ok (.ireturn, 1) := by decide +kernel
theorem dX10_next_0 : decode cX10_next 0 = .ok (.aload_n 0, 1) := by decide +kernel
theorem dX10_next_1 : decode cX10_next 1 = .ok (.getfield 34, 3) := by decide +kernel
theorem dX10_next_4 : decode cX10_next 4 = .ok (.iconst (-1), 1) := by decide +kernel
theorem dX10_next_5 : decode cX10_next 5 = .ok (.if_icmp .eq 6, 3) := by decide +kernel
theorem dX10_next_8 : decode cX10_next 8 = .ok (.bipush (-2), 2) := by decide +kernel
theorem dX10_next_10 : decode cX10_next 10 = .ok (.ireturn, 1) := by decide +kernel
theorem dX10_next_11 : decode cX10_next 11 = .ok (.aload_n 0, 1) := by decide +kernel
theorem dX10_next_12 : decode cX10_next 12 = .ok (.getfield 31, 3) := by decide +kernel
theorem dX10_next_15 : decode cX10_next 15 = .ok (.aload_n 0, 1) := by decide +kernel
theorem dX10_next_16 : decode cX10_next 16 = .ok (.getfield 27, 3) := by decide +kernel
theorem dX10_next_19 : decode cX10_next 19 = .ok (.if_icmp .ge 30, 3) := by decide +kernel
theorem dX10_next_49 : decode cX10_next 49 = .ok (.aload_n 0, 1) := by decide +kernel
theorem dX10_next_50 : decode cX10_next 50 = .ok (.getfield 31, 3) := by decide +kernel
theorem dX10_next_53 : decode cX10_next 53 = .ok (.aload_n 0, 1) := by decide +kernel
theorem dX10_next_54 : decode cX10_next 54 = .ok (.getfield 27, 3) := by decide +kernel
theorem dX10_next_57 : decode cX10_next 57 = .ok (.if_icmp .ge 15, 3) := by decide +kernel
theorem dX10_next_72 : decode cX10_next 72 = .ok (.iconst (-1), 1) := by decide +kernel
theorem dX10_next_73 : decode cX10_next 73 = .ok (.ireturn, 1) := by decide +kernel
theorem dX10_fail_0 : decode cX10_fail 0 = .ok (.aload_n 0, 1) := by decide +kernel
theorem dX10_fail_1 : decode cX10_fail 1 = .ok (.getfield 34, 3) := by decide +kernel
theorem dX10_fail_4 : decode cX10_fail 4 = .ok (.iconst (-1), 1) := by decide +kernel
theorem dX10_fail_5 : decode cX10_fail 5 = .ok (.if_icmp .ne 11, 3) := by decide +kernel
theorem dX10_fail_8 : decode cX10_fail 8 = .ok (.aload_n 0, 1) := by decide +kernel
theorem dX10_fail_9 : decode cX10_fail 9 = .ok (.aload_n 0, 1) := by decide +kernel
theorem dX10_fail_10 : decode cX10_fail 10 = .ok (.getfield 31, 3) := by decide +kernel
theorem dX10_fail_13 : decode cX10_fail 13 = .ok (.putfield 34, 3) := by decide +kernel
theorem dX10_fail_16 : decode cX10_fail 16 = .ok (.return_, 1) := by decide +kernel
theorem dX10_readClause_0 : decode cX10_readClause 0 = .ok (.aload_n 0, 1) := by decide +kernel
theorem dX10_readClause_1 : decode cX10_readClause 1 = .ok (.invokevirtual 46, 3) := by decide +kernel
theorem dX10_readClause_4 : decode cX10_readClause 4 = .ok (.istore_n 1, 1) := by decide +kernel
theorem dX10_readClause_5 : decode cX10_readClause 5 = .ok (.ldc 64, 2) := by decide +kernel
theorem dX10_readClause_7 : decode cX10_readClause 7 = .ok (.iload_n 1, 1) := by decide +kernel
theorem dX10_readClause_8 : decode cX10_readClause 8 = .ok (.invokestatic 66, 3) := by decide +kernel
theorem dX10_readClause_11 : decode cX10_readClause 11 = .ok (.ifCond .eq 12, 3) := by decide +kernel
theorem dX10_readClause_23 : decode cX10_readClause 23 = .ok (.aload_n 0, 1) := by decide +kernel
theorem dX10_readClause_24 : decode cX10_readClause 24 = .ok (.invokevirtual 50, 3) := by decide +kernel
theorem dX10_readClause_27 : decode cX10_readClause 27 = .ok (.return_, 1) := by decide +kernel
theorem dX12_days_0 : decode cX12_days 0 = .ok (.iload_n 1, 1) := by decide +kernel
theorem dX12_days_1 : decode cX12_days 1 = .ok (.iconst 0, 1) := by decide +kernel
theorem dX12_days_2 : decode cX12_days 2 = .ok (.sipush 400, 3) := by decide +kernel
theorem dX12_days_5 : decode cX12_days 5 = .ok (.aload_n 0, 1) := by decide +kernel
theorem dX12_days_6 : decode cX12_days 6 = .ok (.getfield 10, 3) := by decide +kernel
theorem dX12_days_9 : decode cX12_days 9 = .ok (.getfield 55, 3) := by decide +kernel
theorem dX12_days_12 : decode cX12_days 12 = .ok (.isub, 1) := by decide +kernel
theorem dX12_days_13 : decode cX12_days 13 = .ok (.invokestatic 59, 3) := by decide +kernel
theorem dX12_days_16 : decode cX12_days 16 = .ok (.ifCond .ne 5, 3) := by decide +kernel
theorem dX12_days_19 : decode cX12_days 19 = .ok (.iconst (-1), 1) := by decide +kernel
theorem dX12_days_20 : decode cX12_days 20 = .ok (.ireturn, 1) := by decide +kernel
theorem dX12_days_21 : decode cX12_days 21 = .ok (.aload_n 0, 1) := by decide +kernel
theorem dX12_days_22 : decode cX12_days 22 = .ok (.getfield 10, 3) := by decide +kernel
theorem dX12_days_25 : decode cX12_days 25 = .ok (.dup, 1) := by decide +kernel
theorem dX12_days_26 : decode cX12_days 26 = .ok (.getfield 55, 3) := by decide +kernel
theorem dX12_days_29 : decode cX12_days 29 = .ok (.iload_n 1, 1) := by decide +kernel
theorem dX12_days_30 : decode cX12_days 30 = .ok (.iadd, 1) := by decide +kernel
theorem dX12_days_31 : decode cX12_days 31 = .ok (.putfield 55, 3) := by decide +kernel
theorem dX12_days_34 : decode cX12_days 34 = .ok (.aload_n 0, 1) := by decide +kernel
theorem dX12_days_35 : decode cX12_days 35 = .ok (.getfield 10, 3) := by decide +kernel
theorem dX12_days_38 : decode cX12_days 38 = .ok (.getfield 55, 3) := by decide +kernel
theorem dX12_days_41 : decode cX12_days 41 = .ok (.ireturn, 1) := by decide +kernel
theorem dX12_boat_0 : decode cX12_boat 0 = .ok (.aload_n 0, 1) := by decide +kernel
theorem dX12_boat_1 : decode cX12_boat 1 = .ok (.getfield 10, 3) := by decide +kernel
theorem dX12_boat_4 : decode cX12_boat 4 = .ok (.getfield 63, 3) := by decide +kernel
theorem dX12_boat_7 : decode cX12_boat 7 = .ok (.bipush 16, 2) := by decide +kernel
theorem dX12_boat_9 : decode cX12_boat 9 = .ok (.if_icmp .lt 5, 3) := by decide +kernel
theorem dX12_boat_14 : decode cX12_boat 14 = .ok (.aload_n 0, 1) := by decide +kernel
theorem dX12_boat_15 : decode cX12_boat 15 = .ok (.getfield 10, 3) := by decide +kernel
theorem dX12_boat_18 : decode cX12_boat 18 = .ok (.dup, 1) := by decide +kernel
theorem dX12_boat_19 : decode cX12_boat 19 = .ok (.getfield 63, 3) := by decide +kernel
theorem dX12_boat_22 : decode cX12_boat 22 = .ok (.iconst 1, 1) := by decide +kernel
theorem dX12_boat_23 : decode cX12_boat 23 = .ok (.iadd, 1) := by decide +kernel
theorem dX12_boat_24 : decode cX12_boat 24 = .ok (.putfield 63, 3) := by decide +kernel
theorem dX12_boat_27 : decode cX12_boat 27 = .ok (.aload_n 0, 1) := by decide +kernel
theorem dX12_boat_28 : decode cX12_boat 28 = .ok (.getfield 10, 3) := by decide +kernel
theorem dX12_boat_31 : decode cX12_boat 31 = .ok (.getfield 63, 3) := by decide +kernel
theorem dX12_boat_34 : decode cX12_boat 34 = .ok (.iconst 1, 1) := by decide +kernel
theorem dX12_boat_35 : decode cX12_boat 35 = .ok (.isub, 1) := by decide +kernel
theorem dX12_boat_36 : decode cX12_boat 36 = .ok (.ireturn, 1) := by decide +kernel
theorem dX12_certificate_0 : decode cX12_certificate 0 = .ok (.aload_n 0, 1) := by decide +kernel
theorem dX12_certificate_1 : decode cX12_certificate 1 = .ok (.getfield 10, 3) := by decide +kernel
theorem dX12_certificate_4 : decode cX12_certificate 4 = .ok (.iload_n 1, 1) := by decide +kernel
theorem dX12_certificate_5 : decode cX12_certificate 5 = .ok (.invokevirtual 66, 3) := by decide +kernel
theorem dX12_certificate_8 : decode cX12_certificate 8 = .ok (.ifCond .eq 10, 3) := by decide +kernel
theorem dX12_certificate_18 : decode cX12_certificate 18 = .ok (.iconst (-1), 1) := by decide +kernel
theorem dX12_certificate_19 : decode cX12_certificate 19 = .ok (.ireturn, 1) := by decide +kernel
theorem dX12_measured_0 : decode cX12_measured 0 = .ok (.aload_n 0, 1) := by decide +kernel
theorem dX12_measured_1 : decode cX12_measured 1 = .ok (.getfield 10, 3) := by decide +kernel
theorem dX12_measured_4 : decode cX12_measured 4 = .ok (.iload_n 1, 1) := by decide +kernel
theorem dX12_measured_5 : decode cX12_measured 5 = .ok (.invokevirtual 66, 3) := by decide +kernel
theorem dX12_measured_8 : decode cX12_measured 8 = .ok (.ifCond .eq 21, 3) := by decide +kernel
theorem dX12_measured_29 : decode cX12_measured 29 = .ok (.iconst (-1), 1) := by decide +kernel
theorem dX12_measured_30 : decode cX12_measured 30 = .ok (.ireturn, 1) := by decide +kernel
theorem dX12_end_0 : decode cX12_end 0 = .ok (.iload_n 1, 1) := by decide +kernel
theorem dX12_end_1 : decode cX12_end 1 = .ok (.iconst 0, 1) := by decide +kernel
theorem dX12_end_2 : decode cX12_end 2 = .ok (.aload_n 0, 1) := by decide +kernel
theorem dX12_end_3 : decode cX12_end 3 = .ok (.getfield 19, 3) := by decide +kernel
theorem dX12_end_6 : decode cX12_end 6 = .ok (.getfield 103, 3) := by decide +kernel
theorem dX12_end_9 : decode cX12_end 9 = .ok (.invokestatic 59, 3) := by decide +kernel
theorem dX12_end_12 : decode cX12_end 12 = .ok (.ifCond .ne 5, 3) := by decide +kernel
theorem dX12_end_15 : decode cX12_end 15 = .ok (.iconst 0, 1) := by decide +kernel
theorem dX12_end_16 : decode cX12_end 16 = .ok (.ireturn, 1) := by decide +kernel
theorem dX12_end_17 : decode cX12_end 17 = .ok (.aload_n 0, 1) := by decide +kernel
theorem dX12_end_18 : decode cX12_end 18 = .ok (.getfield 19, 3) := by decide +kernel
theorem dX12_end_21 : decode cX12_end 21 = .ok (.iload_n 1, 1) := by decide +kernel
theorem dX12_end_22 : decode cX12_end 22 = .ok (.putfield 103, 3) := by decide +kernel
theorem dX12_end_25 : decode cX12_end 25 = .ok (.iconst 1, 1) := by decide +kernel
theorem dX12_end_26 : decode cX12_end 26 = .ok (.ireturn, 1) := by decide +kernel
theorem dX12_fault_0 : decode cX12_fault 0 = .ok (.aload_n 0, 1) := by decide +kernel
theorem dX12_fault_1 : decode cX12_fault 1 = .ok (.getfield 19, 3) := by decide +kernel
theorem dX12_fault_4 : decode cX12_fault 4 = .ok (.invokevirtual 110, 3) := by decide +kernel
theorem dX12_fault_7 : decode cX12_fault 7 = .ok (.ireturn, 1) := by decide +kernel
theorem dX12_rules_0 : decode cX12_rules 0 = .ok (.iload_n 1, 1) := by decide +kernel
theorem dX12_rules_1 : decode cX12_rules 1 = .ok (.invokestatic 70, 3) := by decide +kernel
theorem dX12_rules_4 : decode cX12_rules 4 = .ok (.ifCond .eq 18, 3) := by decide +kernel
theorem dX12_rules_7 : decode cX12_rules 7 = .ok (.aload_n 0, 1) := by decide +kernel
theorem dX12_rules_8 : decode cX12_rules 8 = .ok (.getfield 10, 3) := by decide +kernel
theorem dX12_rules_11 : decode cX12_rules 11 = .ok (.getfield 113, 3) := by decide +kernel
theorem dX12_rules_14 : decode cX12_rules 14 = .ok (.invokevirtual 77, 3) := by decide +kernel
theorem dX12_rules_17 : decode cX12_rules 17 = .ok (.bipush 16, 2) := by decide +kernel
theorem dX12_rules_19 : decode cX12_rules 19 = .ok (.if_icmp .lt 5, 3) := by decide +kernel
theorem dX12_rules_22 : decode cX12_rules 22 = .ok (.iconst (-1), 1) := by decide +kernel
theorem dX12_rules_23 : decode cX12_rules 23 = .ok (.ireturn, 1) := by decide +kernel
theorem dX12_rules_24 : decode cX12_rules 24 = .ok (.aload_n 0, 1) := by decide +kernel
theorem dX12_rules_25 : decode cX12_rules 25 = .ok (.getfield 19, 3) := by decide +kernel
theorem dX12_rules_28 : decode cX12_rules 28 = .ok (.invokevirtual 110, 3) := by decide +kernel
theorem dX12_rules_31 : decode cX12_rules 31 = .ok (.iconst (-1), 1) := by decide +kernel
theorem dX12_rules_32 : decode cX12_rules 32 = .ok (.if_icmp .eq 5, 3) := by decide +kernel
theorem dX12_rules_35 : decode cX12_rules 35 = .ok (.iconst (-1), 1) := by decide +kernel
theorem dX12_rules_36 : decode cX12_rules 36 = .ok (.ireturn, 1) := by decide +kernel
theorem dX12_force_0 : decode cX12_force 0 = .ok (.iload_n 1, 1) := by decide +kernel
theorem dX12_force_1 : decode cX12_force 1 = .ok (.invokestatic 70, 3) := by decide +kernel
theorem dX12_force_4 : decode cX12_force 4 = .ok (.ifCond .eq 14, 3) := by decide +kernel
theorem dX12_force_7 : decode cX12_force 7 = .ok (.aload_n 0, 1) := by decide +kernel
theorem dX12_force_8 : decode cX12_force 8 = .ok (.getfield 10, 3) := by decide +kernel
theorem dX12_force_11 : decode cX12_force 11 = .ok (.iload_n 2, 1) := by decide +kernel
theorem dX12_force_12 : decode cX12_force 12 = .ok (.invokevirtual 92, 3) := by decide +kernel
theorem dX12_force_15 : decode cX12_force 15 = .ok (.ifCond .ne 5, 3) := by decide +kernel
theorem dX12_force_18 : decode cX12_force 18 = .ok (.iconst (-1), 1) := by decide +kernel
theorem dX12_force_19 : decode cX12_force 19 = .ok (.ireturn, 1) := by decide +kernel
theorem dX12_force_20 : decode cX12_force 20 = .ok (.aload_n 0, 1) := by decide +kernel
theorem dX12_force_21 : decode cX12_force 21 = .ok (.getfield 10, 3) := by decide +kernel
theorem dX12_force_24 : decode cX12_force 24 = .ok (.iload_n 1, 1) := by decide +kernel
theorem dX12_force_25 : decode cX12_force 25 = .ok (.iload_n 2, 1) := by decide +kernel
theorem dX12_force_26 : decode cX12_force 26 = .ok (.invokevirtual 120, 3) := by decide +kernel
theorem dX12_force_29 : decode cX12_force 29 = .ok (.ireturn, 1) := by decide +kernel
theorem dX12_number_0 : decode cX12_number 0 = .ok (.aload_n 0, 1) := by decide +kernel
theorem dX12_number_1 : decode cX12_number 1 = .ok (.getfield 10, 3) := by decide +kernel
theorem dX12_number_4 : decode cX12_number 4 = .ok (.iload_n 1, 1) := by decide +kernel
theorem dX12_number_5 : decode cX12_number 5 = .ok (.invokevirtual 66, 3) := by decide +kernel
theorem dX12_number_8 : decode cX12_number 8 = .ok (.ifCond .eq 21, 3) := by decide +kernel
theorem dX12_number_29 : decode cX12_number 29 = .ok (.iconst (-1), 1) := by decide +kernel
theorem dX12_number_30 : decode cX12_number 30 = .ok (.ireturn, 1) := by decide +kernel
theorem dX12_swift_0 : decode cX12_swift 0 = .ok (.aload_n 0, 1) := by decide +kernel
theorem dX12_swift_1 : decode cX12_swift 1 = .ok (.getfield 10, 3) := by decide +kernel
theorem dX12_swift_4 : decode cX12_swift 4 = .ok (.iload_n 1, 1) := by decide +kernel
theorem dX12_swift_5 : decode cX12_swift 5 = .ok (.invokevirtual 135, 3) := by decide +kernel
theorem dX12_swift_8 : decode cX12_swift 8 = .ok (.ifCond .eq 13, 3) := by decide +kernel
theorem dX12_swift_21 : decode cX12_swift 21 = .ok (.iconst 0, 1) := by decide +kernel
theorem dX12_swift_22 : decode cX12_swift 22 = .ok (.ireturn, 1) := by decide +kernel
theorem dX12_enter_0 : decode cX12_enter 0 = .ok (.aload_n 0, 1) := by decide +kernel
theorem dX12_enter_1 : decode cX12_enter 1 = .ok (.getfield 10, 3) := by decide +kernel
theorem dX12_enter_4 : decode cX12_enter 4 = .ok (.iload_n 1, 1) := by decide +kernel
theorem dX12_enter_5 : decode cX12_enter 5 = .ok (.invokevirtual 135, 3) := by decide +kernel
theorem dX12_enter_8 : decode cX12_enter 8 = .ok (.ifCond .eq 26, 3) := by decide +kernel
theorem dX12_enter_34 : decode cX12_enter 34 = .ok (.iconst 0, 1) := by decide +kernel
theorem dX12_enter_35 : decode cX12_enter 35 = .ok (.ireturn, 1) := by decide +kernel
theorem dX12_result_0 : decode cX12_result 0 = .ok (.aload_n 0, 1) := by decide +kernel
theorem dX12_result_1 : decode cX12_result 1 = .ok (.getfield 10, 3) := by decide +kernel
theorem dX12_result_4 : decode cX12_result 4 = .ok (.iload_n 1, 1) := by decide +kernel
theorem dX12_result_5 : decode cX12_result 5 = .ok (.iload_n 2, 1) := by decide +kernel
theorem dX12_result_6 : decode cX12_result 6 = .ok (.invokevirtual 146, 3) := by decide +kernel
theorem dX12_result_9 : decode cX12_result 9 = .ok (.ifCond .eq 12, 3) := by decide +kernel
theorem dX12_result_21 : decode cX12_result 21 = .ok (.iconst 0, 1) := by decide +kernel
theorem dX12_result_22 : decode cX12_result 22 = .ok (.ireturn, 1) := by decide +kernel
theorem dX12_coded_0 : decode cX12_coded 0 = .ok (.aload_n 0, 1) := by decide +kernel
theorem dX12_coded_1 : decode cX12_coded 1 = .ok (.getfield 10, 3) := by decide +kernel
theorem dX12_coded_4 : decode cX12_coded 4 = .ok (.iload_n 1, 1) := by decide +kernel
theorem dX12_coded_5 : decode cX12_coded 5 = .ok (.iload_n 3, 1) := by decide +kernel
theorem dX12_coded_6 : decode cX12_coded 6 = .ok (.invokevirtual 162, 3) := by decide +kernel
theorem dX12_coded_9 : decode cX12_coded 9 = .ok (.ifCond .eq 14, 3) := by decide +kernel
theorem dX12_coded_23 : decode cX12_coded 23 = .ok (.iconst (-1), 1) := by decide +kernel
theorem dX12_coded_24 : decode cX12_coded 24 = .ok (.ireturn, 1) := by decide +kernel
theorem dX12_corrected_0 : decode cX12_corrected 0 = .ok (.aload_n 0, 1) := by decide +kernel
theorem dX12_corrected_1 : decode cX12_corrected 1 = .ok (.getfield 10, 3) := by decide +kernel
theorem dX12_corrected_4 : decode cX12_corrected 4 = .ok (.iload_n 1, 1) := by decide +kernel
theorem dX12_corrected_5 : decode cX12_corrected 5 = .ok (.iload_n 3, 1) := by decide +kernel
theorem dX12_corrected_6 : decode cX12_corrected 6 = .ok (.invokevirtual 162, 3) := by decide +kernel
theorem dX12_corrected_9 : decode cX12_corrected 9 = .ok (.ifCond .eq 14, 3) := by decide +kernel
theorem dX12_corrected_23 : decode cX12_corrected 23 = .ok (.ldc 172, 2) := by decide +kernel
theorem dX12_corrected_25 : decode cX12_corrected 25 = .ok (.ireturn, 1) := by decide +kernel
theorem dX12_placed_0 : decode cX12_placed 0 = .ok (.aload_n 0, 1) := by decide +kernel
theorem dX12_placed_1 : decode cX12_placed 1 = .ok (.getfield 10, 3) := by decide +kernel
theorem dX12_placed_4 : decode cX12_placed 4 = .ok (.iload_n 1, 1) := by decide +kernel
theorem dX12_placed_5 : decode cX12_placed 5 = .ok (.iload_n 3, 1) := by decide +kernel
theorem dX12_placed_6 : decode cX12_placed 6 = .ok (.invokevirtual 162, 3) := by decide +kernel
theorem dX12_placed_9 : decode cX12_placed 9 = .ok (.ifCond .eq 14, 3) := by decide +kernel
theorem dX12_placed_23 : decode cX12_placed 23 = .ok (.iconst (-1), 1) := by decide +kernel
theorem dX12_placed_24 : decode cX12_placed 24 = .ok (.ireturn, 1) := by decide +kernel
theorem dX12_redress_0 : decode cX12_redress 0 = .ok (.aload_n 0, 1) := by decide +kernel
theorem dX12_redress_1 : decode cX12_redress 1 = .ok (.getfield 10, 3) := by decide +kernel
theorem dX12_redress_4 : decode cX12_redress 4 = .ok (.iload_n 1, 1) := by decide +kernel
theorem dX12_redress_5 : decode cX12_redress 5 = .ok (.iload_n 2, 1) := by decide +kernel
theorem dX12_redress_6 : decode cX12_redress 6 = .ok (.invokevirtual 146, 3) := by decide +kernel
theorem dX12_redress_9 : decode cX12_redress 9 = .ok (.ifCond .eq 15, 3) := by decide +kernel
theorem dX12_redress_24 : decode cX12_redress 24 = .ok (.iconst 0, 1) := by decide +kernel
theorem dX12_redress_25 : decode cX12_redress 25 = .ok (.ireturn, 1) := by decide +kernel
theorem dX12_points_0 : decode cX12_points 0 = .ok (.aload_n 0, 1) := by decide +kernel
theorem dX12_points_1 : decode cX12_points 1 = .ok (.getfield 10, 3) := by decide +kernel
theorem dX12_points_4 : decode cX12_points 4 = .ok (.iload_n 1, 1) := by decide +kernel
theorem dX12_points_5 : decode cX12_points 5 = .ok (.iload_n 3, 1) := by decide +kernel
theorem dX12_points_6 : decode cX12_points 6 = .ok (.invokevirtual 162, 3) := by decide +kernel
theorem dX12_points_9 : decode cX12_points 9 = .ok (.ifCond .eq 14, 3) := by decide +kernel
theorem dX12_points_23 : decode cX12_points 23 = .ok (.iconst (-1), 1) := by decide +kernel
theorem dX12_points_24 : decode cX12_points 24 = .ok (.ireturn, 1) := by decide +kernel
theorem dX12_thrown_0 : decode cX12_thrown 0 = .ok (.aload_n 0, 1) := by decide +kernel
theorem dX12_thrown_1 : decode cX12_thrown 1 = .ok (.getfield 10, 3) := by decide +kernel
theorem dX12_thrown_4 : decode cX12_thrown 4 = .ok (.iload_n 1, 1) := by decide +kernel
theorem dX12_thrown_5 : decode cX12_thrown 5 = .ok (.iload_n 3, 1) := by decide +kernel
theorem dX12_thrown_6 : decode cX12_thrown 6 = .ok (.invokevirtual 162, 3) := by decide +kernel
theorem dX12_thrown_9 : decode cX12_thrown 9 = .ok (.ifCond .eq 14, 3) := by decide +kernel
theorem dX12_thrown_23 : decode cX12_thrown 23 = .ok (.iconst (-1), 1) := by decide +kernel
theorem dX12_thrown_24 : decode cX12_thrown 24 = .ok (.ireturn, 1) := by decide +kernel
theorem dX12_total_0 : decode cX12_total 0 = .ok (.aload_n 0, 1) := by decide +kernel
theorem dX12_total_1 : decode cX12_total 1 = .ok (.getfield 10, 3) := by decide +kernel
theorem dX12_total_4 : decode cX12_total 4 = .ok (.iload_n 1, 1) := by decide +kernel
theorem dX12_total_5 : decode cX12_total 5 = .ok (.invokevirtual 66, 3) := by decide +kernel
theorem dX12_total_8 : decode cX12_total 8 = .ok (.ifCond .eq 14, 3) := by decide +kernel
theorem dX12_total_22 : decode cX12_total 22 = .ok (.iconst (-1), 1) := by decide +kernel
theorem dX12_total_23 : decode cX12_total 23 = .ok (.ireturn, 1) := by decide +kernel
theorem dX12_word_0 : decode cX12_word 0 = .ok (.aload_n 0, 1) := by decide +kernel
theorem dX12_word_1 : decode cX12_word 1 = .ok (.getfield 10, 3) := by decide +kernel
theorem dX12_word_4 : decode cX12_word 4 = .ok (.iload_n 1, 1) := by decide +kernel
theorem dX12_word_5 : decode cX12_word 5 = .ok (.iload_n 2, 1) := by decide +kernel
theorem dX12_word_6 : decode cX12_word 6 = .ok (.invokevirtual 146, 3) := by decide +kernel
theorem dX12_word_9 : decode cX12_word 9 = .ok (.ifCond .eq 13, 3) := by decide +kernel
theorem dX12_word_22 : decode cX12_word 22 = .ok (.iconst (-1), 1) := by decide +kernel
theorem dX12_word_23 : decode cX12_word 23 = .ok (.ireturn, 1) := by decide +kernel
theorem dX12_protest_0 : decode cX12_protest 0 = .ok (.aload_n 0, 1) := by decide +kernel
theorem dX12_protest_1 : decode cX12_protest 1 = .ok (.getfield 10, 3) := by decide +kernel
theorem dX12_protest_4 : decode cX12_protest 4 = .ok (.iload_n 1, 1) := by decide +kernel
theorem dX12_protest_5 : decode cX12_protest 5 = .ok (.iload_n 2, 1) := by decide +kernel
theorem dX12_protest_6 : decode cX12_protest 6 = .ok (.invokevirtual 146, 3) := by decide +kernel
theorem dX12_protest_9 : decode cX12_protest 9 = .ok (.ifCond .eq 20, 3) := by decide +kernel
theorem dX12_protest_29 : decode cX12_protest 29 = .ok (.iconst (-1), 1) := by decide +kernel
theorem dX12_protest_30 : decode cX12_protest 30 = .ok (.ireturn, 1) := by decide +kernel
theorem dX12_states_0 : decode cX12_states 0 = .ok (.aload_n 0, 1) := by decide +kernel
theorem dX12_states_1 : decode cX12_states 1 = .ok (.getfield 10, 3) := by decide +kernel
theorem dX12_states_4 : decode cX12_states 4 = .ok (.iload_n 1, 1) := by decide +kernel
theorem dX12_states_5 : decode cX12_states 5 = .ok (.iload_n 3, 1) := by decide +kernel
theorem dX12_states_6 : decode cX12_states 6 = .ok (.invokevirtual 226, 3) := by decide +kernel
theorem dX12_states_9 : decode cX12_states 9 = .ok (.ifCond .eq 12, 3) := by decide +kernel
theorem dX12_states_21 : decode cX12_states 21 = .ok (.iconst (-1), 1) := by decide +kernel
theorem dX12_states_22 : decode cX12_states 22 = .ok (.ireturn, 1) := by decide +kernel
theorem dX12_finding_0 : decode cX12_finding 0 = .ok (.aload_n 0, 1) := by decide +kernel
theorem dX12_finding_1 : decode cX12_finding 1 = .ok (.getfield 10, 3) := by decide +kernel
theorem dX12_finding_4 : decode cX12_finding 4 = .ok (.iload_n 1, 1) := by decide +kernel
theorem dX12_finding_5 : decode cX12_finding 5 = .ok (.iload_n 3, 1) := by decide +kernel
theorem dX12_finding_6 : decode cX12_finding 6 = .ok (.invokevirtual 226, 3) := by decide +kernel
theorem dX12_finding_9 : decode cX12_finding 9 = .ok (.ifCond .eq 12, 3) := by decide +kernel
theorem dX12_finding_21 : decode cX12_finding 21 = .ok (.iconst (-1), 1) := by decide +kernel
theorem dX12_finding_22 : decode cX12_finding 22 = .ok (.ireturn, 1) := by decide +kernel
theorem dX12_decide_0 : decode cX12_decide 0 = .ok (.aload_n 0, 1) := by decide +kernel
theorem dX12_decide_1 : decode cX12_decide 1 = .ok (.getfield 10, 3) := by decide +kernel
theorem dX12_decide_4 : decode cX12_decide 4 = .ok (.iload_n 1, 1) := by decide +kernel
theorem dX12_decide_5 : decode cX12_decide 5 = .ok (.aload_n 0, 1) := by decide +kernel
theorem dX12_decide_6 : decode cX12_decide 6 = .ok (.getfield 10, 3) := by decide +kernel
theorem dX12_decide_9 : decode cX12_decide 9 = .ok (.getfield 55, 3) := by decide +kernel
theorem dX12_decide_12 : decode cX12_decide 12 = .ok (.invokevirtual 226, 3) := by decide +kernel
theorem dX12_decide_15 : decode cX12_decide 15 = .ok (.ifCond .ne 5, 3) := by decide +kernel
theorem dX12_decide_18 : decode cX12_decide 18 = .ok (.iconst (-1), 1) := by decide +kernel
theorem dX12_decide_19 : decode cX12_decide 19 = .ok (.ireturn, 1) := by decide +kernel
theorem dX12_reopen_0 : decode cX12_reopen 0 = .ok (.aload_n 0, 1) := by decide +kernel
theorem dX12_reopen_1 : decode cX12_reopen 1 = .ok (.getfield 10, 3) := by decide +kernel
theorem dX12_reopen_4 : decode cX12_reopen 4 = .ok (.iload_n 1, 1) := by decide +kernel
theorem dX12_reopen_5 : decode cX12_reopen 5 = .ok (.aload_n 0, 1) := by decide +kernel
theorem dX12_reopen_6 : decode cX12_reopen 6 = .ok (.getfield 10, 3) := by decide +kernel
theorem dX12_reopen_9 : decode cX12_reopen 9 = .ok (.getfield 55, 3) := by decide +kernel
theorem dX12_reopen_12 : decode cX12_reopen 12 = .ok (.invokevirtual 226, 3) := by decide +kernel
theorem dX12_reopen_15 : decode cX12_reopen 15 = .ok (.ifCond .ne 5, 3) := by decide +kernel
theorem dX12_reopen_18 : decode cX12_reopen 18 = .ok (.iconst 0, 1) := by decide +kernel
theorem dX12_reopen_19 : decode cX12_reopen 19 = .ok (.ireturn, 1) := by decide +kernel
theorem dX12_even_0 : decode cX12_even 0 = .ok (.aload_n 0, 1) := by decide +kernel
theorem dX12_even_1 : decode cX12_even 1 = .ok (.getfield 10, 3) := by decide +kernel
theorem dX12_even_4 : decode cX12_even 4 = .ok (.iload_n 1, 1) := by decide +kernel
theorem dX12_even_5 : decode cX12_even 5 = .ok (.invokevirtual 246, 3) := by decide +kernel
theorem dX12_even_8 : decode cX12_even 8 = .ok (.ifCond .ne 5, 3) := by decide +kernel
theorem dX12_even_11 : decode cX12_even 11 = .ok (.iconst (-1), 1) := by decide +kernel
theorem dX12_even_12 : decode cX12_even 12 = .ok (.ireturn, 1) := by decide +kernel
theorem dX12_change_0 : decode cX12_change 0 = .ok (.aload_n 0, 1) := by decide +kernel
theorem dX12_change_1 : decode cX12_change 1 = .ok (.getfield 10, 3) := by decide +kernel
theorem dX12_change_4 : decode cX12_change 4 = .ok (.iload_n 1, 1) := by decide +kernel
theorem dX12_change_5 : decode cX12_change 5 = .ok (.invokevirtual 246, 3) := by decide +kernel
theorem dX12_change_8 : decode cX12_change 8 = .ok (.ifCond .eq 22, 3) := by decide +kernel
theorem dX12_change_30 : decode cX12_change 30 = .ok (.ldc 172, 2) := by decide +kernel
theorem dX12_change_32 : decode cX12_change 32 = .ok (.ireturn, 1) := by decide +kernel
theorem dX12_middle_0 : decode cX12_middle 0 = .ok (.aload_n 0, 1) := by decide +kernel
theorem dX12_middle_1 : decode cX12_middle 1 = .ok (.getfield 10, 3) := by decide +kernel
theorem dX12_middle_4 : decode cX12_middle 4 = .ok (.iload_n 1, 1) := by decide +kernel
theorem dX12_middle_5 : decode cX12_middle 5 = .ok (.invokevirtual 135, 3) := by decide +kernel
theorem dX12_middle_8 : decode cX12_middle 8 = .ok (.ifCond .eq 14, 3) := by decide +kernel
theorem dX12_middle_22 : decode cX12_middle 22 = .ok (.ldc 172, 2) := by decide +kernel
theorem dX12_middle_24 : decode cX12_middle 24 = .ok (.ireturn, 1) := by decide +kernel
theorem dX12_fit_0 : decode cX12_fit 0 = .ok (.aload_n 0, 1) := by decide +kernel
theorem dX12_fit_1 : decode cX12_fit 1 = .ok (.getfield 10, 3) := by decide +kernel
theorem dX12_fit_4 : decode cX12_fit 4 = .ok (.iload_n 1, 1) := by decide +kernel
theorem dX12_fit_5 : decode cX12_fit 5 = .ok (.invokevirtual 66, 3) := by decide +kernel
theorem dX12_fit_8 : decode cX12_fit 8 = .ok (.ifCond .ne 5, 3) := by decide +kernel
theorem dX12_fit_11 : decode cX12_fit 11 = .ok (.iconst (-1), 1) := by decide +kernel
theorem dX12_fit_12 : decode cX12_fit 12 = .ok (.ireturn, 1) := by decide +kernel
theorem dX12_suspect_0 : decode cX12_suspect 0 = .ok (.aload_n 0, 1) := by decide +kernel
theorem dX12_suspect_1 : decode cX12_suspect 1 = .ok (.getfield 10, 3) := by decide +kernel
theorem dX12_suspect_4 : decode cX12_suspect 4 = .ok (.iload_n 1, 1) := by decide +kernel
theorem dX12_suspect_5 : decode cX12_suspect 5 = .ok (.invokevirtual 66, 3) := by decide +kernel
theorem dX12_suspect_8 : decode cX12_suspect 8 = .ok (.ifCond .eq 12, 3) := by decide +kernel
theorem dX12_suspect_20 : decode cX12_suspect 20 = .ok (.ldc 172, 2) := by decide +kernel
theorem dX12_suspect_22 : decode cX12_suspect 22 = .ok (.ireturn, 1) := by decide +kernel
theorem dX12_start_0 : decode cX12_start 0 = .ok (.aload_n 0, 1) := by decide +kernel
theorem dX12_start_1 : decode cX12_start 1 = .ok (.getfield 10, 3) := by decide +kernel
theorem dX12_start_4 : decode cX12_start 4 = .ok (.iload_n 1, 1) := by decide +kernel
theorem dX12_start_5 : decode cX12_start 5 = .ok (.iload_n 2, 1) := by decide +kernel
theorem dX12_start_6 : decode cX12_start 6 = .ok (.invokevirtual 146, 3) := by decide +kernel
theorem dX12_start_9 : decode cX12_start 9 = .ok (.ifCond .eq 25, 3) := by decide +kernel
theorem dX12_start_34 : decode cX12_start 34 = .ok (.iconst 0, 1) := by decide +kernel
theorem dX12_start_35 : decode cX12_start 35 = .ok (.ireturn, 1) := by decide +kernel
theorem dX12_lean_0 : decode cX12_lean 0 = .ok (.aload_n 0, 1) := by decide +kernel
theorem dX12_lean_1 : decode cX12_lean 1 = .ok (.getfield 10, 3) := by decide +kernel
theorem dX12_lean_4 : decode cX12_lean 4 = .ok (.iload_n 1, 1) := by decide +kernel
theorem dX12_lean_5 : decode cX12_lean 5 = .ok (.invokevirtual 135, 3) := by decide +kernel
theorem dX12_lean_8 : decode cX12_lean 8 = .ok (.ifCond .ne 6, 3) := by decide +kernel
theorem dX12_lean_11 : decode cX12_lean 11 = .ok (.ldc 172, 2) := by decide +kernel
theorem dX12_lean_13 : decode cX12_lean 13 = .ok (.ireturn, 1) := by decide +kernel
theorem dX12_count_0 : decode cX12_count 0 = .ok (.iload_n 1, 1) := by decide +kernel
theorem dX12_count_1 : decode cX12_count 1 = .ok (.tableswitch 165 0 10 #[59, 67, 75, 86, 97, 108, 119, 130, 141, 149, 157], 59) := by decide +kernel
theorem dX12_count_60 : decode cX12_count 60 = .ok (.aload_n 0, 1) := by decide +kernel
theorem dX12_count_61 : decode cX12_count 61 = .ok (.getfield 10, 3) := by decide +kernel
theorem dX12_count_64 : decode cX12_count 64 = .ok (.getfield 55, 3) := by decide +kernel
theorem dX12_count_67 : decode cX12_count 67 = .ok (.ireturn, 1) := by decide +kernel
theorem dX12_count_68 : decode cX12_count 68 = .ok (.aload_n 0, 1) := by decide +kernel
theorem dX12_count_69 : decode cX12_count 69 = .ok (.getfield 10, 3) := by decide +kernel
theorem dX12_count_72 : decode cX12_count 72 = .ok (.getfield 63, 3) := by decide +kernel
theorem dX12_count_75 : decode cX12_count 75 = .ok (.ireturn, 1) := by decide +kernel
theorem dX12_count_76 : decode cX12_count 76 = .ok (.aload_n 0, 1) := by decide +kernel
theorem dX12_count_77 : decode cX12_count 77 = .ok (.getfield 10, 3) := by decide +kernel
theorem dX12_count_80 : decode cX12_count 80 = .ok (.getfield 73, 3) := by decide +kernel
theorem dX12_count_83 : decode cX12_count 83 = .ok (.invokevirtual 77, 3) := by decide +kernel
theorem dX12_count_86 : decode cX12_count 86 = .ok (.ireturn, 1) := by decide +kernel
theorem dX12_count_87 : decode cX12_count 87 = .ok (.aload_n 0, 1) := by decide +kernel
theorem dX12_count_88 : decode cX12_count 88 = .ok (.getfield 10, 3) := by decide +kernel
theorem dX12_count_91 : decode cX12_count 91 = .ok (.getfield 113, 3) := by decide +kernel
theorem dX12_count_94 : decode cX12_count 94 = .ok (.invokevirtual 77, 3) := by decide +kernel
theorem dX12_count_97 : decode cX12_count 97 = .ok (.ireturn, 1) := by decide +kernel
theorem dX12_count_98 : decode cX12_count 98 = .ok (.aload_n 0, 1) := by decide +kernel
theorem dX12_count_99 : decode cX12_count 99 = .ok (.getfield 10, 3) := by decide +kernel
theorem dX12_count_102 : decode cX12_count 102 = .ok (.getfield 127, 3) := by decide +kernel
theorem dX12_count_105 : decode cX12_count 105 = .ok (.invokevirtual 77, 3) := by decide +kernel
theorem dX12_count_108 : decode cX12_count 108 = .ok (.ireturn, 1) := by decide +kernel
theorem dX12_count_109 : decode cX12_count 109 = .ok (.aload_n 0, 1) := by decide +kernel
theorem dX12_count_110 : decode cX12_count 110 = .ok (.getfield 10, 3) := by decide +kernel
theorem dX12_count_113 : decode cX12_count 113 = .ok (.getfield 154, 3) := by decide +kernel
theorem dX12_count_116 : decode cX12_count 116 = .ok (.invokevirtual 77, 3) := by decide +kernel
theorem dX12_count_119 : decode cX12_count 119 = .ok (.ireturn, 1) := by decide +kernel
theorem dX12_count_120 : decode cX12_count 120 = .ok (.aload_n 0, 1) := by decide +kernel
theorem dX12_count_121 : decode cX12_count 121 = .ok (.getfield 10, 3) := by decide +kernel
theorem dX12_count_124 : decode cX12_count 124 = .ok (.getfield 209, 3) := by decide +kernel
theorem dX12_count_127 : decode cX12_count 127 = .ok (.invokevirtual 77, 3) := by decide +kernel
theorem dX12_count_130 : decode cX12_count 130 = .ok (.ireturn, 1) := by decide +kernel
theorem dX12_count_131 : decode cX12_count 131 = .ok (.aload_n 0, 1) := by decide +kernel
theorem dX12_count_132 : decode cX12_count 132 = .ok (.getfield 10, 3) := by decide +kernel
theorem dX12_count_135 : decode cX12_count 135 = .ok (.getfield 220, 3) := by decide +kernel
theorem dX12_count_138 : decode cX12_count 138 = .ok (.invokevirtual 77, 3) := by decide +kernel
theorem dX12_count_141 : decode cX12_count 141 = .ok (.ireturn, 1) := by decide +kernel
theorem dX12_count_142 : decode cX12_count 142 = .ok (.aload_n 0, 1) := by decide +kernel
theorem dX12_count_143 : decode cX12_count 143 = .ok (.getfield 19, 3) := by decide +kernel
theorem dX12_count_146 : decode cX12_count 146 = .ok (.getfield 103, 3) := by decide +kernel
theorem dX12_count_149 : decode cX12_count 149 = .ok (.ireturn, 1) := by decide +kernel
theorem dX12_count_150 : decode cX12_count 150 = .ok (.aload_n 0, 1) := by decide +kernel
theorem dX12_count_151 : decode cX12_count 151 = .ok (.getfield 10, 3) := by decide +kernel
theorem dX12_count_154 : decode cX12_count 154 = .ok (.getfield 181, 3) := by decide +kernel
theorem dX12_count_157 : decode cX12_count 157 = .ok (.ireturn, 1) := by decide +kernel
theorem dX12_count_158 : decode cX12_count 158 = .ok (.aload_n 0, 1) := by decide +kernel
theorem dX12_count_159 : decode cX12_count 159 = .ok (.getfield 10, 3) := by decide +kernel
theorem dX12_count_162 : decode cX12_count 162 = .ok (.invokevirtual 328, 3) := by decide +kernel
theorem dX12_count_165 : decode cX12_count 165 = .ok (.ireturn, 1) := by decide +kernel
theorem dX12_count_166 : decode cX12_count 166 = .ok (.iconst (-1), 1) := by decide +kernel
theorem dX12_count_167 : decode cX12_count 167 = .ok (.ireturn, 1) := by decide +kernel
theorem dX12_within_0 : decode cX12_within 0 = .ok (.iload_n 0, 1) := by decide +kernel
theorem dX12_within_1 : decode cX12_within 1 = .ok (.iload_n 1, 1) := by decide +kernel
theorem dX12_within_2 : decode cX12_within 2 = .ok (.if_icmp .lt 12, 3) := by decide +kernel
theorem dX12_within_5 : decode cX12_within 5 = .ok (.iload_n 0, 1) := by decide +kernel
theorem dX12_within_6 : decode cX12_within 6 = .ok (.iload_n 2, 1) := by decide +kernel
theorem dX12_within_7 : decode cX12_within 7 = .ok (.if_icmp .gt 7, 3) := by decide +kernel
theorem dX12_within_10 : decode cX12_within 10 = .ok (.iconst 1, 1) := by decide +kernel
theorem dX12_within_11 : decode cX12_within 11 = .ok (.goto 4, 3) := by decide +kernel
theorem dX12_within_14 : decode cX12_within 14 = .ok (.iconst 0, 1) := by decide +kernel
theorem dX12_within_15 : decode cX12_within 15 = .ok (.ireturn, 1) := by decide +kernel
theorem dX12_held_0 : decode cX12_held 0 = .ok (.iload_n 0, 1) := by decide +kernel
theorem dX12_held_1 : decode cX12_held 1 = .ok (.iload_n 1, 1) := by decide +kernel
theorem dX12_held_2 : decode cX12_held 2 = .ok (.if_icmp .ge 7, 3) := by decide +kernel
theorem dX12_held_9 : decode cX12_held 9 = .ok (.iload_n 0, 1) := by decide +kernel
theorem dX12_held_10 : decode cX12_held 10 = .ok (.iload_n 2, 1) := by decide +kernel
theorem dX12_held_11 : decode cX12_held 11 = .ok (.if_icmp .le 7, 3) := by decide +kernel
theorem dX12_held_18 : decode cX12_held 18 = .ok (.iload_n 0, 1) := by decide +kernel
theorem dX12_held_19 : decode cX12_held 19 = .ok (.ireturn, 1) := by decide +kernel
theorem dX12_isDay_0 : decode cX12_isDay 0 = .ok (.iload_n 0, 1) := by decide +kernel
theorem dX12_isDay_1 : decode cX12_isDay 1 = .ok (.iconst 0, 1) := by decide +kernel
theorem dX12_isDay_2 : decode cX12_isDay 2 = .ok (.sipush 400, 3) := by decide +kernel
theorem dX12_isDay_5 : decode cX12_isDay 5 = .ok (.invokestatic 59, 3) := by decide +kernel
theorem dX12_isDay_8 : decode cX12_isDay 8 = .ok (.ireturn, 1) := by decide +kernel
theorem dX12_bytesIn_0 : decode cX12_bytesIn 0 = .ok (.iconst 0, 1) := by decide +kernel
theorem dX12_bytesIn_1 : decode cX12_bytesIn 1 = .ok (.istore_n 1, 1) := by decide +kernel
theorem dX12_bytesIn_2 : decode cX12_bytesIn 2 = .ok (.bipush 24, 2) := by decide +kernel
theorem dX12_bytesIn_4 : decode cX12_bytesIn 4 = .ok (.istore_n 2, 1) := by decide +kernel
theorem dX12_bytesIn_5 : decode cX12_bytesIn 5 = .ok (.iload_n 2, 1) := by decide +kernel
theorem dX12_bytesIn_6 : decode cX12_bytesIn 6 = .ok (.ifCond .lt 22, 3) := by decide +kernel
theorem dX12_bytesIn_9 : decode cX12_bytesIn 9 = .ok (.iload_n 0, 1) := by decide +kernel
theorem dX12_bytesIn_10 : decode cX12_bytesIn 10 = .ok (.iload_n 2, 1) := by decide +kernel
theorem dX12_bytesIn_11 : decode cX12_bytesIn 11 = .ok (.iushr, 1) := by decide +kernel
theorem dX12_bytesIn_12 : decode cX12_bytesIn 12 = .ok (.sipush 255, 3) := by decide +kernel
theorem dX12_bytesIn_15 : decode cX12_bytesIn 15 = .ok (.iand, 1) := by decide +kernel
theorem dX12_bytesIn_16 : decode cX12_bytesIn 16 = .ok (.ifCond .eq 6, 3) := by decide +kernel
theorem dX12_bytesIn_19 : decode cX12_bytesIn 19 = .ok (.iinc 1 1, 3) := by decide +kernel
theorem dX12_bytesIn_22 : decode cX12_bytesIn 22 = .ok (.iinc 2 (-8), 3) := by decide +kernel
theorem dX12_bytesIn_25 : decode cX12_bytesIn 25 = .ok (.goto (-20), 3) := by decide +kernel
theorem dX12_bytesIn_28 : decode cX12_bytesIn 28 = .ok (.iload_n 1, 1) := by decide +kernel
theorem dX12_bytesIn_29 : decode cX12_bytesIn 29 = .ok (.ireturn, 1) := by decide +kernel
theorem dX12_isOneOf_0 : decode cX12_isOneOf 0 = .ok (.iload_n 1, 1) := by decide +kernel
theorem dX12_isOneOf_1 : decode cX12_isOneOf 1 = .ok (.ifCond .le 16, 3) := by decide +kernel
theorem dX12_isOneOf_17 : decode cX12_isOneOf 17 = .ok (.iconst 0, 1) := by decide +kernel
theorem dX12_isOneOf_18 : decode cX12_isOneOf 18 = .ok (.ireturn, 1) := by decide +kernel
theorem dX13_isIn_0 : decode cX13_isIn 0 = .ok (.iload_n 0, 1) := by decide +kernel
theorem dX13_isIn_1 : decode cX13_isIn 1 = .ok (.iload_n 1, 1) := by decide +kernel
theorem dX13_isIn_2 : decode cX13_isIn 2 = .ok (.if_icmp .lt 12, 3) := by decide +kernel
theorem dX13_isIn_5 : decode cX13_isIn 5 = .ok (.iload_n 0, 1) := by decide +kernel
theorem dX13_isIn_6 : decode cX13_isIn 6 = .ok (.iload_n 2, 1) := by decide +kernel
theorem dX13_isIn_7 : decode cX13_isIn 7 = .ok (.if_icmp .gt 7, 3) := by decide +kernel
theorem dX13_isIn_10 : decode cX13_isIn 10 = .ok (.iconst 1, 1) := by decide +kernel
theorem dX13_isIn_11 : decode cX13_isIn 11 = .ok (.goto 4, 3) := by decide +kernel
theorem dX13_isIn_14 : decode cX13_isIn 14 = .ok (.iconst 0, 1) := by decide +kernel
theorem dX13_isIn_15 : decode cX13_isIn 15 = .ok (.ireturn, 1) := by decide +kernel
theorem dX13_isKnown_0 : decode cX13_isKnown 0 = .ok (.iload_n 1, 1) := by decide +kernel
theorem dX13_isKnown_1 : decode cX13_isKnown 1 = .ok (.iconst 0, 1) := by decide +kernel
theorem dX13_isKnown_2 : decode cX13_isKnown 2 = .ok (.aload_n 0, 1) := by decide +kernel
theorem dX13_isKnown_3 : decode cX13_isKnown 3 = .ok (.getfield 232, 3) := by decide +kernel
theorem dX13_isKnown_6 : decode cX13_isKnown 6 = .ok (.invokestatic 235, 3) := by decide +kernel
theorem dX13_isKnown_9 : decode cX13_isKnown 9 = .ok (.ireturn, 1) := by decide +kernel
theorem dX13_isDay_0 : decode cX13_isDay 0 = .ok (.iload_n 0, 1) := by decide +kernel
theorem dX13_isDay_1 : decode cX13_isDay 1 = .ok (.iconst 0, 1) := by decide +kernel
theorem dX13_isDay_2 : decode cX13_isDay 2 = .ok (.sipush 400, 3) := by decide +kernel
theorem dX13_isDay_5 : decode cX13_isDay 5 = .ok (.invokestatic 235, 3) := by decide +kernel
theorem dX13_isDay_8 : decode cX13_isDay 8 = .ok (.ireturn, 1) := by decide +kernel
theorem dX13_days_0 : decode cX13_days 0 = .ok (.aload_n 0, 1) := by decide +kernel
theorem dX13_days_1 : decode cX13_days 1 = .ok (.iconst 0, 1) := by decide +kernel
theorem dX13_days_2 : decode cX13_days 2 = .ok (.putfield 228, 3) := by decide +kernel
theorem dX13_days_5 : decode cX13_days 5 = .ok (.iload_n 1, 1) := by decide +kernel
theorem dX13_days_6 : decode cX13_days 6 = .ok (.iconst 0, 1) := by decide +kernel
theorem dX13_days_7 : decode cX13_days 7 = .ok (.sipush 400, 3) := by decide +kernel
theorem dX13_days_10 : decode cX13_days 10 = .ok (.invokestatic 235, 3) := by decide +kernel
theorem dX13_days_13 : decode cX13_days 13 = .ok (.ifCond .eq 15, 3) := by decide +kernel
theorem dX13_days_16 : decode cX13_days 16 = .ok (.aload_n 0, 1) := by decide +kernel
theorem dX13_days_17 : decode cX13_days 17 = .ok (.getfield 232, 3) := by decide +kernel
theorem dX13_days_20 : decode cX13_days 20 = .ok (.iload_n 1, 1) := by decide +kernel
theorem dX13_days_21 : decode cX13_days 21 = .ok (.iadd, 1) := by decide +kernel
theorem dX13_days_22 : decode cX13_days 22 = .ok (.sipush 400, 3) := by decide +kernel
theorem dX13_days_25 : decode cX13_days 25 = .ok (.if_icmp .le 5, 3) := by decide +kernel
theorem dX13_days_28 : decode cX13_days 28 = .ok (.iconst (-1), 1) := by decide +kernel
theorem dX13_days_29 : decode cX13_days 29 = .ok (.ireturn, 1) := by decide +kernel
theorem dX13_days_30 : decode cX13_days 30 = .ok (.aload_n 0, 1) := by decide +kernel
theorem dX13_days_31 : decode cX13_days 31 = .ok (.dup, 1) := by decide +kernel
theorem dX13_days_32 : decode cX13_days 32 = .ok (.getfield 232, 3) := by decide +kernel
theorem dX13_days_35 : decode cX13_days 35 = .ok (.iload_n 1, 1) := by decide +kernel
theorem dX13_days_36 : decode cX13_days 36 = .ok (.iadd, 1) := by decide +kernel
theorem dX13_days_37 : decode cX13_days 37 = .ok (.putfield 232, 3) := by decide +kernel
theorem dX13_days_40 : decode cX13_days 40 = .ok (.aload_n 0, 1) := by decide +kernel
theorem dX13_days_41 : decode cX13_days 41 = .ok (.getfield 232, 3) := by decide +kernel
theorem dX13_days_44 : decode cX13_days 44 = .ok (.ireturn, 1) := by decide +kernel
theorem dX13_isBoat_0 : decode cX13_isBoat 0 = .ok (.iload_n 1, 1) := by decide +kernel
theorem dX13_isBoat_1 : decode cX13_isBoat 1 = .ok (.ifCond .lt 15, 3) := by decide +kernel
theorem dX13_isBoat_4 : decode cX13_isBoat 4 = .ok (.iload_n 1, 1) := by decide +kernel
theorem dX13_isBoat_5 : decode cX13_isBoat 5 = .ok (.aload_n 0, 1) := by decide +kernel
theorem dX13_isBoat_6 : decode cX13_isBoat 6 = .ok (.getfield 239, 3) := by decide +kernel
theorem dX13_isBoat_9 : decode cX13_isBoat 9 = .ok (.if_icmp .ge 7, 3) := by decide +kernel
theorem dX13_isBoat_16 : decode cX13_isBoat 16 = .ok (.iconst 0, 1) := by decide +kernel
theorem dX13_isBoat_17 : decode cX13_isBoat 17 = .ok (.ireturn, 1) := by decide +kernel
theorem dX13_boat_0 : decode cX13_boat 0 = .ok (.aload_n 0, 1) := by decide +kernel
theorem dX13_boat_1 : decode cX13_boat 1 = .ok (.iconst 0, 1) := by decide +kernel
theorem dX13_boat_2 : decode cX13_boat 2 = .ok (.putfield 228, 3) := by decide +kernel
theorem dX13_boat_5 : decode cX13_boat 5 = .ok (.aload_n 0, 1) := by decide +kernel
theorem dX13_boat_6 : decode cX13_boat 6 = .ok (.getfield 239, 3) := by decide +kernel
theorem dX13_boat_9 : decode cX13_boat 9 = .ok (.bipush 16, 2) := by decide +kernel
theorem dX13_boat_11 : decode cX13_boat 11 = .ok (.if_icmp .ne 5, 3) := by decide +kernel
theorem dX13_boat_16 : decode cX13_boat 16 = .ok (.aload_n 0, 1) := by decide +kernel
theorem dX13_boat_17 : decode cX13_boat 17 = .ok (.dup, 1) := by decide +kernel
theorem dX13_boat_18 : decode cX13_boat 18 = .ok (.getfield 239, 3) := by decide +kernel
theorem dX13_boat_21 : decode cX13_boat 21 = .ok (.iconst 1, 1) := by decide +kernel
theorem dX13_boat_22 : decode cX13_boat 22 = .ok (.iadd, 1) := by decide +kernel
theorem dX13_boat_23 : decode cX13_boat 23 = .ok (.putfield 239, 3) := by decide +kernel
theorem dX13_boat_26 : decode cX13_boat 26 = .ok (.aload_n 0, 1) := by decide +kernel
theorem dX13_boat_27 : decode cX13_boat 27 = .ok (.getfield 239, 3) := by decide +kernel
theorem dX13_boat_30 : decode cX13_boat 30 = .ok (.iconst 1, 1) := by decide +kernel
theorem dX13_boat_31 : decode cX13_boat 31 = .ok (.isub, 1) := by decide +kernel
theorem dX13_boat_32 : decode cX13_boat 32 = .ok (.ireturn, 1) := by decide +kernel
theorem dX13_certificate_0 : decode cX13_certificate 0 = .ok (.aload_n 0, 1) := by decide +kernel
theorem dX13_certificate_1 : decode cX13_certificate 1 = .ok (.iconst 0, 1) := by decide +kernel
theorem dX13_certificate_2 : decode cX13_certificate 2 = .ok (.putfield 228, 3) := by decide +kernel
theorem dX13_certificate_5 : decode cX13_certificate 5 = .ok (.aload_n 0, 1) := by decide +kernel
theorem dX13_certificate_6 : decode cX13_certificate 6 = .ok (.getfield 242, 3) := by decide +kernel
theorem dX13_certificate_9 : decode cX13_certificate 9 = .ok (.bipush 80, 2) := by decide +kernel
theorem dX13_certificate_11 : decode cX13_certificate 11 = .ok (.if_icmp .eq 54, 3) := by decide +kernel
theorem dX13_certificate_14 : decode cX13_certificate 14 = .ok (.aload_n 0, 1) := by decide +kernel
theorem dX13_certificate_15 : decode cX13_certificate 15 = .ok (.iload_n 1, 1) := by decide +kernel
theorem dX13_certificate_16 : decode cX13_certificate 16 = .ok (.invokevirtual 245, 3) := by decide +kernel
theorem dX13_certificate_19 : decode cX13_certificate 19 = .ok (.ifCond .eq 46, 3) := by decide +kernel
theorem dX13_certificate_65 : decode cX13_certificate 65 = .ok (.iconst (-1), 1) := by decide +kernel
theorem dX13_certificate_66 : decode cX13_certificate 66 = .ok (.ireturn, 1) := by decide +kernel
theorem dX13_measured_0 : decode cX13_measured 0 = .ok (.aload_n 0, 1) := by decide +kernel
theorem dX13_measured_1 : decode cX13_measured 1 = .ok (.iconst 0, 1) := by decide +kernel
theorem dX13_measured_2 : decode cX13_measured 2 = .ok (.putfield 228, 3) := by decide +kernel
theorem dX13_measured_5 : decode cX13_measured 5 = .ok (.aload_n 0, 1) := by decide +kernel
theorem dX13_measured_6 : decode cX13_measured 6 = .ok (.iload_n 1, 1) := by decide +kernel
theorem dX13_measured_7 : decode cX13_measured 7 = .ok (.invokevirtual 245, 3) := by decide +kernel
theorem dX13_measured_10 : decode cX13_measured 10 = .ok (.ifCond .eq 28, 3) := by decide +kernel
theorem dX13_measured_38 : decode cX13_measured 38 = .ok (.iconst (-1), 1) := by decide +kernel
theorem dX13_measured_39 : decode cX13_measured 39 = .ok (.ireturn, 1) := by decide +kernel
theorem dX13_bytesIn_0 : decode cX13_bytesIn 0 = .ok (.iconst 0, 1) := by decide +kernel
theorem dX13_bytesIn_1 : decode cX13_bytesIn 1 = .ok (.istore_n 1, 1) := by decide +kernel
theorem dX13_bytesIn_2 : decode cX13_bytesIn 2 = .ok (.bipush 24, 2) := by decide +kernel
theorem dX13_bytesIn_4 : decode cX13_bytesIn 4 = .ok (.istore_n 2, 1) := by decide +kernel
theorem dX13_bytesIn_5 : decode cX13_bytesIn 5 = .ok (.iload_n 2, 1) := by decide +kernel
theorem dX13_bytesIn_6 : decode cX13_bytesIn 6 = .ok (.ifCond .lt 27, 3) := by decide +kernel
theorem dX13_bytesIn_9 : decode cX13_bytesIn 9 = .ok (.iload_n 1, 1) := by decide +kernel
theorem dX13_bytesIn_10 : decode cX13_bytesIn 10 = .ok (.iload_n 0, 1) := by decide +kernel
theorem dX13_bytesIn_11 : decode cX13_bytesIn 11 = .ok (.iload_n 2, 1) := by decide +kernel
theorem dX13_bytesIn_12 : decode cX13_bytesIn 12 = .ok (.ishr, 1) := by decide +kernel
theorem dX13_bytesIn_13 : decode cX13_bytesIn 13 = .ok (.sipush 255, 3) := by decide +kernel
theorem dX13_bytesIn_16 : decode cX13_bytesIn 16 = .ok (.iand, 1) := by decide +kernel
theorem dX13_bytesIn_17 : decode cX13_bytesIn 17 = .ok (.ifCond .eq 7, 3) := by decide +kernel
theorem dX13_bytesIn_20 : decode cX13_bytesIn 20 = .ok (.iconst 1, 1) := by decide +kernel
theorem dX13_bytesIn_21 : decode cX13_bytesIn 21 = .ok (.goto 4, 3) := by decide +kernel
theorem dX13_bytesIn_24 : decode cX13_bytesIn 24 = .ok (.iconst 0, 1) := by decide +kernel
theorem dX13_bytesIn_25 : decode cX13_bytesIn 25 = .ok (.iadd, 1) := by decide +kernel
theorem dX13_bytesIn_26 : decode cX13_bytesIn 26 = .ok (.istore_n 1, 1) := by decide +kernel
theorem dX13_bytesIn_27 : decode cX13_bytesIn 27 = .ok (.iinc 2 (-8), 3) := by decide +kernel
theorem dX13_bytesIn_30 : decode cX13_bytesIn 30 = .ok (.goto (-25), 3) := by decide +kernel
theorem dX13_bytesIn_33 : decode cX13_bytesIn 33 = .ok (.iload_n 1, 1) := by decide +kernel
theorem dX13_bytesIn_34 : decode cX13_bytesIn 34 = .ok (.ireturn, 1) := by decide +kernel
theorem dX13_put_0 : decode cX13_put 0 = .ok (.bipush 24, 2) := by decide +kernel
theorem dX13_put_2 : decode cX13_put 2 = .ok (.istore_n 2, 1) := by decide +kernel
theorem dX13_put_3 : decode cX13_put 3 = .ok (.iload_n 2, 1) := by decide +kernel
theorem dX13_put_4 : decode cX13_put 4 = .ok (.ifCond .lt 45, 3) := by decide +kernel
theorem dX13_put_7 : decode cX13_put 7 = .ok (.iload_n 1, 1) := by decide +kernel
theorem dX13_put_8 : decode cX13_put 8 = .ok (.iload_n 2, 1) := by decide +kernel
theorem dX13_put_9 : decode cX13_put 9 = .ok (.ishr, 1) := by decide +kernel
theorem dX13_put_10 : decode cX13_put 10 = .ok (.sipush 255, 3) := by decide +kernel
theorem dX13_put_13 : decode cX13_put 13 = .ok (.iand, 1) := by decide +kernel
theorem dX13_put_14 : decode cX13_put 14 = .ok (.ifCond .ne 6, 3) := by decide +kernel
theorem dX13_put_17 : decode cX13_put 17 = .ok (.goto 26, 3) := by decide +kernel
theorem dX13_put_20 : decode cX13_put 20 = .ok (.aload_n 0, 1) := by decide +kernel
theorem dX13_put_21 : decode cX13_put 21 = .ok (.getfield 28, 3) := by decide +kernel
theorem dX13_put_24 : decode cX13_put 24 = .ok (.aload_n 0, 1) := by decide +kernel
theorem dX13_put_25 : decode cX13_put 25 = .ok (.getfield 259, 3) := by decide +kernel
theorem dX13_put_28 : decode cX13_put 28 = .ok (.iload_n 1, 1) := by decide +kernel
theorem dX13_put_29 : decode cX13_put 29 = .ok (.iload_n 2, 1) := by decide +kernel
theorem dX13_put_30 : decode cX13_put 30 = .ok (.ishr, 1) := by decide +kernel
theorem dX13_put_31 : decode cX13_put 31 = .ok (.i2b, 1) := by decide +kernel
theorem dX13_put_32 : decode cX13_put 32 = .ok (.bastore, 1) := by decide +kernel
theorem dX13_put_33 : decode cX13_put 33 = .ok (.aload_n 0, 1) := by decide +kernel
theorem dX13_put_34 : decode cX13_put 34 = .ok (.dup, 1) := by decide +kernel
theorem dX13_put_35 : decode cX13_put 35 = .ok (.getfield 259, 3) := by decide +kernel
theorem dX13_put_38 : decode cX13_put 38 = .ok (.iconst 1, 1) := by decide +kernel
theorem dX13_put_39 : decode cX13_put 39 = .ok (.iadd, 1) := by decide +kernel
theorem dX13_put_40 : decode cX13_put 40 = .ok (.putfield 259, 3) := by decide +kernel
theorem dX13_put_43 : decode cX13_put 43 = .ok (.iinc 2 (-8), 3) := by decide +kernel
theorem dX13_put_46 : decode cX13_put 46 = .ok (.goto (-43), 3) := by decide +kernel
theorem dX13_put_49 : decode cX13_put 49 = .ok (.return_, 1) := by decide +kernel
theorem dX13_end_0 : decode cX13_end 0 = .ok (.aload_n 0, 1) := by decide +kernel
theorem dX13_end_1 : decode cX13_end 1 = .ok (.iconst 0, 1) := by decide +kernel
theorem dX13_end_2 : decode cX13_end 2 = .ok (.putfield 228, 3) := by decide +kernel
theorem dX13_end_5 : decode cX13_end 5 = .ok (.iload_n 1, 1) := by decide +kernel
theorem dX13_end_6 : decode cX13_end 6 = .ok (.ifCond .lt 11, 3) := by decide +kernel
theorem dX13_end_9 : decode cX13_end 9 = .ok (.iload_n 1, 1) := by decide +kernel
theorem dX13_end_10 : decode cX13_end 10 = .ok (.aload_n 0, 1) := by decide +kernel
theorem dX13_end_11 : decode cX13_end 11 = .ok (.getfield 259, 3) := by decide +kernel
theorem dX13_end_14 : decode cX13_end 14 = .ok (.if_icmp .le 5, 3) := by decide +kernel
theorem dX13_end_17 : decode cX13_end 17 = .ok (.iconst 0, 1) := by decide +kernel
theorem dX13_end_18 : decode cX13_end 18 = .ok (.ireturn, 1) := by decide +kernel
theorem dX13_end_19 : decode cX13_end 19 = .ok (.aload_n 0, 1) := by decide +kernel
theorem dX13_end_20 : decode cX13_end 20 = .ok (.iload_n 1, 1) := by decide +kernel
theorem dX13_end_21 : decode cX13_end 21 = .ok (.putfield 259, 3) := by decide +kernel
theorem dX13_end_24 : decode cX13_end 24 = .ok (.iconst 1, 1) := by decide +kernel
theorem dX13_end_25 : decode cX13_end 25 = .ok (.ireturn, 1) := by decide +kernel
theorem dX13_look_0 : decode cX13_look 0 = .ok (.aload_n 0, 1) := by decide +kernel
theorem dX13_look_1 : decode cX13_look 1 = .ok (.getfield 270, 3) := by decide +kernel
theorem dX13_look_4 : decode cX13_look 4 = .ok (.aload_n 0, 1) := by decide +kernel
theorem dX13_look_5 : decode cX13_look 5 = .ok (.getfield 273, 3) := by decide +kernel
theorem dX13_look_8 : decode cX13_look 8 = .ok (.if_icmp .ge 35, 3) := by decide +kernel
theorem dX13_look_43 : decode cX13_look 43 = .ok (.aload_n 0, 1) := by decide +kernel
theorem dX13_look_44 : decode cX13_look 44 = .ok (.getfield 270, 3) := by decide +kernel
theorem dX13_look_47 : decode cX13_look 47 = .ok (.aload_n 0, 1) := by decide +kernel
theorem dX13_look_48 : decode cX13_look 48 = .ok (.getfield 273, 3) := by decide +kernel
theorem dX13_look_51 : decode cX13_look 51 = .ok (.if_icmp .ge 24, 3) := by decide +kernel
theorem dX13_look_75 : decode cX13_look 75 = .ok (.iconst (-1), 1) := by decide +kernel
theorem dX13_look_76 : decode cX13_look 76 = .ok (.ireturn, 1) := by decide +kernel
theorem dX13_stop_0 : decode cX13_stop 0 = .ok (.aload_n 0, 1) := by decide +kernel
theorem dX13_stop_1 : decode cX13_stop 1 = .ok (.getfield 279, 3) := by decide +kernel
theorem dX13_stop_4 : decode cX13_stop 4 = .ok (.iconst (-1), 1) := by decide +kernel
theorem dX13_stop_5 : decode cX13_stop 5 = .ok (.if_icmp .ne 11, 3) := by decide +kernel
theorem dX13_stop_8 : decode cX13_stop 8 = .ok (.aload_n 0, 1) := by decide +kernel
theorem dX13_stop_9 : decode cX13_stop 9 = .ok (.aload_n 0, 1) := by decide +kernel
theorem dX13_stop_10 : decode cX13_stop 10 = .ok (.getfield 270, 3) := by decide +kernel
theorem dX13_stop_13 : decode cX13_stop 13 = .ok (.putfield 279, 3) := by decide +kernel
theorem dX13_stop_16 : decode cX13_stop 16 = .ok (.iconst 0, 1) := by decide +kernel
theorem dX13_stop_17 : decode cX13_stop 17 = .ok (.ireturn, 1) := by decide +kernel
theorem dX13_clause_0 : decode cX13_clause 0 = .ok (.aload_n 0, 1) := by decide +kernel
theorem dX13_clause_1 : decode cX13_clause 1 = .ok (.invokevirtual 289, 3) := by decide +kernel
theorem dX13_clause_4 : decode cX13_clause 4 = .ok (.istore_n 1, 1) := by decide +kernel
theorem dX13_clause_5 : decode cX13_clause 5 = .ok (.iload_n 1, 1) := by decide +kernel
theorem dX13_clause_6 : decode cX13_clause 6 = .ok (.iconst (-1), 1) := by decide +kernel
theorem dX13_clause_7 : decode cX13_clause 7 = .ok (.if_icmp .eq 13, 3) := by decide +kernel
theorem dX13_clause_20 : decode cX13_clause 20 = .ok (.aload_n 0, 1) := by decide +kernel
theorem dX13_clause_21 : decode cX13_clause 21 = .ok (.invokevirtual 285, 3) := by decide +kernel
theorem dX13_clause_24 : decode cX13_clause 24 = .ok (.pop, 1) := by decide +kernel
theorem dX13_clause_25 : decode cX13_clause 25 = .ok (.return_, 1) := by decide +kernel
theorem dX13_goThrough_0 : decode cX13_goThrough 0 = .ok (.aload_n 0, 1) := by decide +kernel
theorem dX13_goThrough_1 : decode cX13_goThrough 1 = .ok (.aload_n 1, 1) := by decide +kernel
theorem dX13_goThrough_2 : decode cX13_goThrough 2 = .ok (.putfield 47, 3) := by decide +kernel
theorem dX13_goThrough_5 : decode cX13_goThrough 5 = .ok (.aload_n 0, 1) := by decide +kernel
theorem dX13_goThrough_6 : decode cX13_goThrough 6 = .ok (.iload_n 2, 1) := by decide +kernel
theorem dX13_goThrough_7 : decode cX13_goThrough 7 = .ok (.putfield 276, 3) := by decide +kernel
theorem dX13_goThrough_10 : decode cX13_goThrough 10 = .ok (.aload_n 0, 1) := by decide +kernel
theorem dX13_goThrough_11 : decode cX13_goThrough 11 = .ok (.iload_n 3, 1) := by decide +kernel
theorem dX13_goThrough_12 : decode cX13_goThrough 12 = .ok (.putfield 273, 3) := by decide +kernel
theorem dX13_goThrough_15 : decode cX13_goThrough 15 = .ok (.aload_n 0, 1) := by decide +kernel
theorem dX13_goThrough_16 : decode cX13_goThrough 16 = .ok (.iload 4, 2) := by decide +kernel
theorem dX13_goThrough_18 : decode cX13_goThrough 18 = .ok (.putfield 357, 3) := by decide +kernel
theorem dX13_goThrough_21 : decode cX13_goThrough 21 = .ok (.aload_n 0, 1) := by decide +kernel
theorem dX13_goThrough_22 : decode cX13_goThrough 22 = .ok (.iconst 0, 1) := by decide +kernel
theorem dX13_goThrough_23 : decode cX13_goThrough 23 = .ok (.putfield 270, 3) := by decide +kernel
theorem dX13_goThrough_26 : decode cX13_goThrough 26 = .ok (.aload_n 0, 1) := by decide +kernel
theorem dX13_goThrough_27 : decode cX13_goThrough 27 = .ok (.iconst (-1), 1) := by decide +kernel
theorem dX13_goThrough_28 : decode cX13_goThrough 28 = .ok (.putfield 279, 3) := by decide +kernel
theorem dX13_goThrough_31 : decode cX13_goThrough 31 = .ok (.aload_n 0, 1) := by decide +kernel
theorem dX13_goThrough_32 : decode cX13_goThrough 32 = .ok (.iconst 0, 1) := by decide +kernel
theorem dX13_goThrough_33 : decode cX13_goThrough 33 = .ok (.putfield 282, 3) := by decide +kernel
theorem dX13_goThrough_36 : decode cX13_goThrough 36 = .ok (.aload_n 0, 1) := by decide +kernel
theorem dX13_goThrough_37 : decode cX13_goThrough 37 = .ok (.iconst 0, 1) := by decide +kernel
theorem dX13_goThrough_38 : decode cX13_goThrough 38 = .ok (.putfield 353, 3) := by decide +kernel
theorem dX13_goThrough_41 : decode cX13_goThrough 41 = .ok (.aload_n 0, 1) := by decide +kernel
theorem dX13_goThrough_42 : decode cX13_goThrough 42 = .ok (.iload 4, 2) := by decide +kernel
theorem dX13_goThrough_44 : decode cX13_goThrough 44 = .ok (.bipush 110, 2) := by decide +kernel
theorem dX13_goThrough_46 : decode cX13_goThrough 46 = .ok (.if_icmp .ne 9, 3) := by decide +kernel
theorem dX13_goThrough_55 : decode cX13_goThrough 55 = .ok (.iconst 0, 1) := by decide +kernel
theorem dX13_goThrough_56 : decode cX13_goThrough 56 = .ok (.putfield 360, 3) := by decide +kernel
theorem dX13_goThrough_59 : decode cX13_goThrough 59 = .ok (.aload_n 0, 1) := by decide +kernel
theorem dX13_goThrough_60 : decode cX13_goThrough 60 = .ok (.invokevirtual 363, 3) := by decide +kernel
theorem dX13_goThrough_63 : decode cX13_goThrough 63 = .ok (.aload_n 0, 1) := by decide +kernel
theorem dX13_goThrough_64 : decode cX13_goThrough 64 = .ok (.getfield 279, 3) := by decide +kernel
theorem dX13_goThrough_67 : decode cX13_goThrough 67 = .ok (.iconst (-1), 1) := by decide +kernel
theorem dX13_goThrough_68 : decode cX13_goThrough 68 = .ok (.if_icmp .ne 29, 3) := by decide +kernel
theorem dX13_goThrough_97 : decode cX13_goThrough 97 = .ok (.aload_n 0, 1) := by decide +kernel
theorem dX13_goThrough_98 : decode cX13_goThrough 98 = .ok (.getfield 279, 3) := by decide +kernel
theorem dX13_goThrough_101 : decode cX13_goThrough 101 = .ok (.iconst (-1), 1) := by decide +kernel
theorem dX13_goThrough_102 : decode cX13_goThrough 102 = .ok (.if_icmp .ne 16, 3) := by decide +kernel
theorem dX13_goThrough_118 : decode cX13_goThrough 118 = .ok (.return_, 1) := by decide +kernel
theorem dX13_fault_0 : decode cX13_fault 0 = .ok (.aload_n 0, 1) := by decide +kernel
theorem dX13_fault_1 : decode cX13_fault 1 = .ok (.iconst 0, 1) := by decide +kernel
theorem dX13_fault_2 : decode cX13_fault 2 = .ok (.putfield 228, 3) := by decide +kernel
theorem dX13_fault_5 : decode cX13_fault 5 = .ok (.aload_n 0, 1) := by decide +kernel
theorem dX13_fault_6 : decode cX13_fault 6 = .ok (.aload_n 0, 1) := by decide +kernel
theorem dX13_fault_7 : decode cX13_fault 7 = .ok (.getfield 28, 3) := by decide +kernel
theorem dX13_fault_10 : decode cX13_fault 10 = .ok (.iconst 0, 1) := by decide +kernel
theorem dX13_fault_11 : decode cX13_fault 11 = .ok (.aload_n 0, 1) := by decide +kernel
theorem dX13_fault_12 : decode cX13_fault 12 = .ok (.getfield 259, 3) := by decide +kernel
theorem dX13_fault_15 : decode cX13_fault 15 = .ok (.iconst 0, 1) := by decide +kernel
theorem dX13_fault_16 : decode cX13_fault 16 = .ok (.invokevirtual 366, 3) := by decide +kernel
theorem dX13_fault_19 : decode cX13_fault 19 = .ok (.aload_n 0, 1) := by decide +kernel
theorem dX13_fault_20 : decode cX13_fault 20 = .ok (.getfield 279, 3) := by decide +kernel
theorem dX13_fault_23 : decode cX13_fault 23 = .ok (.ireturn, 1) := by decide +kernel
theorem dX13_rules_0 : decode cX13_rules 0 = .ok (.aload_n 0, 1) := by decide +kernel
theorem dX13_rules_1 : decode cX13_rules 1 = .ok (.iconst 0, 1) := by decide +kernel
theorem dX13_rules_2 : decode cX13_rules 2 = .ok (.putfield 228, 3) := by decide +kernel
theorem dX13_rules_5 : decode cX13_rules 5 = .ok (.aload_n 0, 1) := by decide +kernel
theorem dX13_rules_6 : decode cX13_rules 6 = .ok (.aload_n 0, 1) := by decide +kernel
theorem dX13_rules_7 : decode cX13_rules 7 = .ok (.getfield 28, 3) := by decide +kernel
theorem dX13_rules_10 : decode cX13_rules 10 = .ok (.iconst 0, 1) := by decide +kernel
theorem dX13_rules_11 : decode cX13_rules 11 = .ok (.aload_n 0, 1) := by decide +kernel
theorem dX13_rules_12 : decode cX13_rules 12 = .ok (.getfield 259, 3) := by decide +kernel
theorem dX13_rules_15 : decode cX13_rules 15 = .ok (.iconst 0, 1) := by decide +kernel
theorem dX13_rules_16 : decode cX13_rules 16 = .ok (.invokevirtual 366, 3) := by decide +kernel
theorem dX13_rules_19 : decode cX13_rules 19 = .ok (.aload_n 0, 1) := by decide +kernel
theorem dX13_rules_20 : decode cX13_rules 20 = .ok (.getfield 279, 3) := by decide +kernel
theorem dX13_rules_23 : decode cX13_rules 23 = .ok (.iconst (-1), 1) := by decide +kernel
theorem dX13_rules_24 : decode cX13_rules 24 = .ok (.if_icmp .ne 19, 3) := by decide +kernel
theorem dX13_rules_43 : decode cX13_rules 43 = .ok (.iconst (-1), 1) := by decide +kernel
theorem dX13_rules_44 : decode cX13_rules 44 = .ok (.ireturn, 1) := by decide +kernel
theorem dX13_rulesOn_0 : decode cX13_rulesOn 0 = .ok (.iconst (-1), 1) := by decide +kernel
theorem dX13_rulesOn_1 : decode cX13_rulesOn 1 = .ok (.istore_n 3, 1) := by decide +kernel
theorem dX13_rulesOn_2 : decode cX13_rulesOn 2 = .ok (.iconst 0, 1) := by decide +kernel
theorem dX13_rulesOn_3 : decode cX13_rulesOn 3 = .ok (.istore 4, 2) := by decide +kernel
theorem dX13_rulesOn_5 : decode cX13_rulesOn 5 = .ok (.iload 4, 2) := by decide +kernel
theorem dX13_rulesOn_7 : decode cX13_rulesOn 7 = .ok (.aload_n 0, 1) := by decide +kernel
theorem dX13_rulesOn_8 : decode cX13_rulesOn 8 = .ok (.getfield 370, 3) := by decide +kernel
theorem dX13_rulesOn_11 : decode cX13_rulesOn 11 = .ok (.if_icmp .ge 55, 3) := by decide +kernel
theorem dX13_rulesOn_66 : decode cX13_rulesOn 66 = .ok (.iload_n 3, 1) := by decide +kernel
theorem dX13_rulesOn_67 : decode cX13_rulesOn 67 = .ok (.ireturn, 1) := by decide +kernel
theorem dX13_force_0 : decode cX13_force 0 = .ok (.aload_n 0, 1) := by decide +kernel
theorem dX13_force_1 : decode cX13_force 1 = .ok (.iconst 0, 1) := by decide +kernel
theorem dX13_force_2 : decode cX13_force 2 = .ok (.putfield 228, 3) := by decide +kernel
theorem dX13_force_5 : decode cX13_force 5 = .ok (.iload_n 1, 1) := by decide +kernel
theorem dX13_force_6 : decode cX13_force 6 = .ok (.invokestatic 249, 3) := by decide +kernel
theorem dX13_force_9 : decode cX13_force 9 = .ok (.ifCond .eq 20, 3) := by decide +kernel
theorem dX13_force_12 : decode cX13_force 12 = .ok (.aload_n 0, 1) := by decide +kernel
theorem dX13_force_13 : decode cX13_force 13 = .ok (.iload_n 2, 1) := by decide +kernel
theorem dX13_force_14 : decode cX13_force 14 = .ok (.invokevirtual 252, 3) := by decide +kernel
theorem dX13_force_17 : decode cX13_force 17 = .ok (.ifCond .eq 12, 3) := by decide +kernel
theorem dX13_force_20 : decode cX13_force 20 = .ok (.aload_n 0, 1) := by decide +kernel
theorem dX13_force_21 : decode cX13_force 21 = .ok (.iload_n 1, 1) := by decide +kernel
theorem dX13_force_22 : decode cX13_force 22 = .ok (.iload_n 2, 1) := by decide +kernel
theorem dX13_force_23 : decode cX13_force 23 = .ok (.invokevirtual 373, 3) := by decide +kernel
theorem dX13_force_26 : decode cX13_force 26 = .ok (.goto 4, 3) := by decide +kernel
theorem dX13_force_29 : decode cX13_force 29 = .ok (.iconst (-1), 1) := by decide +kernel
theorem dX13_force_30 : decode cX13_force 30 = .ok (.ireturn, 1) := by decide +kernel
theorem dX13_clear_0 : decode cX13_clear 0 = .ok (.iconst 0, 1) := by decide +kernel
theorem dX13_clear_1 : decode cX13_clear 1 = .ok (.istore_n 1, 1) := by decide +kernel
theorem dX13_clear_2 : decode cX13_clear 2 = .ok (.iload_n 1, 1) := by decide +kernel
theorem dX13_clear_3 : decode cX13_clear 3 = .ok (.sipush 128, 3) := by decide +kernel
theorem dX13_clear_6 : decode cX13_clear 6 = .ok (.if_icmp .ge 16, 3) := by decide +kernel
theorem dX13_clear_9 : decode cX13_clear 9 = .ok (.aload_n 0, 1) := by decide +kernel
theorem dX13_clear_10 : decode cX13_clear 10 = .ok (.getfield 44, 3) := by decide +kernel
theorem dX13_clear_13 : decode cX13_clear 13 = .ok (.iload_n 1, 1) := by decide +kernel
theorem dX13_clear_14 : decode cX13_clear 14 = .ok (.iconst 0, 1) := by decide +kernel
theorem dX13_clear_15 : decode cX13_clear 15 = .ok (.iastore, 1) := by decide +kernel
theorem dX13_clear_16 : decode cX13_clear 16 = .ok (.iinc 1 1, 3) := by decide +kernel
theorem dX13_clear_19 : decode cX13_clear 19 = .ok (.goto (-17), 3) := by decide +kernel
theorem dX13_clear_22 : decode cX13_clear 22 = .ok (.return_, 1) := by decide +kernel
theorem dX13_worth_0 : decode cX13_worth 0 = .ok (.aload_n 0, 1) := by decide +kernel
theorem dX13_worth_1 : decode cX13_worth 1 = .ok (.iload_n 2, 1) := by decide +kernel
theorem dX13_worth_2 : decode cX13_worth 2 = .ok (.iload_n 3, 1) := by decide +kernel
theorem dX13_worth_3 : decode cX13_worth 3 = .ok (.invokevirtual 373, 3) := by decide +kernel
theorem dX13_worth_6 : decode cX13_worth 6 = .ok (.istore 4, 2) := by decide +kernel
theorem dX13_worth_8 : decode cX13_worth 8 = .ok (.iload 4, 2) := by decide +kernel
theorem dX13_worth_10 : decode cX13_worth 10 = .ok (.iconst (-1), 1) := by decide +kernel
theorem dX13_worth_11 : decode cX13_worth 11 = .ok (.if_icmp .ne 17, 3) := by decide +kernel
theorem dX13_worth_14 : decode cX13_worth 14 = .ok (.iload_n 1, 1) := by decide +kernel
theorem dX13_worth_15 : decode cX13_worth 15 = .ok (.bipush 110, 2) := by decide +kernel
theorem dX13_worth_17 : decode cX13_worth 17 = .ok (.if_icmp .ne 9, 3) := by decide +kernel
theorem dX13_worth_26 : decode cX13_worth 26 = .ok (.iconst 0, 1) := by decide +kernel
theorem dX13_worth_27 : decode cX13_worth 27 = .ok (.ireturn, 1) := by decide +kernel
theorem dX13_number_0 : decode cX13_number 0 = .ok (.aload_n 0, 1) := by decide +kernel
theorem dX13_number_1 : decode cX13_number 1 = .ok (.iconst 0, 1) := by decide +kernel
theorem dX13_number_2 : decode cX13_number 2 = .ok (.putfield 228, 3) := by decide +kernel
theorem dX13_number_5 : decode cX13_number 5 = .ok (.aload_n 0, 1) := by decide +kernel
theorem dX13_number_6 : decode cX13_number 6 = .ok (.iload_n 1, 1) := by decide +kernel
theorem dX13_number_7 : decode cX13_number 7 = .ok (.invokevirtual 245, 3) := by decide +kernel
theorem dX13_number_10 : decode cX13_number 10 = .ok (.ifCond .eq 28, 3) := by decide +kernel
theorem dX13_number_38 : decode cX13_number 38 = .ok (.iconst (-1), 1) := by decide +kernel
theorem dX13_number_39 : decode cX13_number 39 = .ok (.ireturn, 1) := by decide +kernel
theorem dX13_isRace_0 : decode cX13_isRace 0 = .ok (.iload_n 1, 1) := by decide +kernel
theorem dX13_isRace_1 : decode cX13_isRace 1 = .ok (.ifCond .lt 15, 3) := by decide +kernel
theorem dX13_isRace_4 : decode cX13_isRace 4 = .ok (.iload_n 1, 1) := by decide +kernel
theorem dX13_isRace_5 : decode cX13_isRace 5 = .ok (.aload_n 0, 1) := by decide +kernel
theorem dX13_isRace_6 : decode cX13_isRace 6 = .ok (.getfield 390, 3) := by decide +kernel
theorem dX13_isRace_9 : decode cX13_isRace 9 = .ok (.if_icmp .ge 7, 3) := by decide +kernel
theorem dX13_isRace_16 : decode cX13_isRace 16 = .ok (.iconst 0, 1) := by decide +kernel
theorem dX13_isRace_17 : decode cX13_isRace 17 = .ok (.ireturn, 1) := by decide +kernel
theorem dX13_swift_0 : decode cX13_swift 0 = .ok (.aload_n 0, 1) := by decide +kernel
theorem dX13_swift_1 : decode cX13_swift 1 = .ok (.iconst 0, 1) := by decide +kernel
theorem dX13_swift_2 : decode cX13_swift 2 = .ok (.putfield 228, 3) := by decide +kernel
theorem dX13_swift_5 : decode cX13_swift 5 = .ok (.aload_n 0, 1) := by decide +kernel
theorem dX13_swift_6 : decode cX13_swift 6 = .ok (.iload_n 1, 1) := by decide +kernel
theorem dX13_swift_7 : decode cX13_swift 7 = .ok (.invokevirtual 393, 3) := by decide +kernel
theorem dX13_swift_10 : decode cX13_swift 10 = .ok (.ifCond .eq 13, 3) := by decide +kernel
theorem dX13_swift_23 : decode cX13_swift 23 = .ok (.iconst 0, 1) := by decide +kernel
theorem dX13_swift_24 : decode cX13_swift 24 = .ok (.ireturn, 1) := by decide +kernel
theorem dX13_isEntry_0 : decode cX13_isEntry 0 = .ok (.aload_n 0, 1) := by decide +kernel
theorem dX13_isEntry_1 : decode cX13_isEntry 1 = .ok (.iload_n 1, 1) := by decide +kernel
theorem dX13_isEntry_2 : decode cX13_isEntry 2 = .ok (.invokevirtual 393, 3) := by decide +kernel
theorem dX13_isEntry_5 : decode cX13_isEntry 5 = .ok (.ifCond .eq 28, 3) := by decide +kernel
theorem dX13_isEntry_33 : decode cX13_isEntry 33 = .ok (.iconst 0, 1) := by decide +kernel
theorem dX13_isEntry_34 : decode cX13_isEntry 34 = .ok (.ireturn, 1) := by decide +kernel
theorem dX13_enter_0 : decode cX13_enter 0 = .ok (.aload_n 0, 1) := by decide +kernel
theorem dX13_enter_1 : decode cX13_enter 1 = .ok (.iconst 0, 1) := by decide +kernel
theorem dX13_enter_2 : decode cX13_enter 2 = .ok (.putfield 228, 3) := by decide +kernel
theorem dX13_enter_5 : decode cX13_enter 5 = .ok (.aload_n 0, 1) := by decide +kernel
theorem dX13_enter_6 : decode cX13_enter 6 = .ok (.iload_n 1, 1) := by decide +kernel
theorem dX13_enter_7 : decode cX13_enter 7 = .ok (.invokevirtual 393, 3) := by decide +kernel
theorem dX13_enter_10 : decode cX13_enter 10 = .ok (.ifCond .eq 24, 3) := by decide +kernel
theorem dX13_enter_34 : decode cX13_enter 34 = .ok (.iconst 0, 1) := by decide +kernel
theorem dX13_enter_35 : decode cX13_enter 35 = .ok (.ireturn, 1) := by decide +kernel
theorem dX13_result_0 : decode cX13_result 0 = .ok (.aload_n 0, 1) := by decide +kernel
theorem dX13_result_1 : decode cX13_result 1 = .ok (.iconst 0, 1) := by decide +kernel
theorem dX13_result_2 : decode cX13_result 2 = .ok (.putfield 228, 3) := by decide +kernel
theorem dX13_result_5 : decode cX13_result 5 = .ok (.aload_n 0, 1) := by decide +kernel
theorem dX13_result_6 : decode cX13_result 6 = .ok (.getfield 399, 3) := by decide +kernel
theorem dX13_result_9 : decode cX13_result 9 = .ok (.sipush 300, 3) := by decide +kernel
theorem dX13_result_12 : decode cX13_result 12 = .ok (.if_icmp .eq 49, 3) := by decide +kernel
theorem dX13_result_15 : decode cX13_result 15 = .ok (.aload_n 0, 1) := by decide +kernel
theorem dX13_result_16 : decode cX13_result 16 = .ok (.iload_n 1, 1) := by decide +kernel
theorem dX13_result_17 : decode cX13_result 17 = .ok (.iload_n 2, 1) := by decide +kernel
theorem dX13_result_18 : decode cX13_result 18 = .ok (.invokevirtual 402, 3) := by decide +kernel
theorem dX13_result_21 : decode cX13_result 21 = .ok (.ifCond .eq 40, 3) := by decide +kernel
theorem dX13_result_61 : decode cX13_result 61 = .ok (.iconst 0, 1) := by decide +kernel
theorem dX13_result_62 : decode cX13_result 62 = .ok (.ireturn, 1) := by decide +kernel
theorem dX13_asks_0 : decode cX13_asks 0 = .ok (.aload_n 0, 1) := by decide +kernel
theorem dX13_asks_1 : decode cX13_asks 1 = .ok (.iconst 0, 1) := by decide +kernel
theorem dX13_asks_2 : decode cX13_asks 2 = .ok (.putfield 228, 3) := by decide +kernel
theorem dX13_asks_5 : decode cX13_asks 5 = .ok (.aload_n 0, 1) := by decide +kernel
theorem dX13_asks_6 : decode cX13_asks 6 = .ok (.iload_n 1, 1) := by decide +kernel
theorem dX13_asks_7 : decode cX13_asks 7 = .ok (.invokevirtual 393, 3) := by decide +kernel
theorem dX13_asks_10 : decode cX13_asks 10 = .ok (.ifCond .eq 33, 3) := by decide +kernel
theorem dX13_asks_43 : decode cX13_asks 43 = .ok (.iconst 0, 1) := by decide +kernel
theorem dX13_asks_44 : decode cX13_asks 44 = .ok (.ireturn, 1) := by decide +kernel
theorem dX13_asksEntry_0 : decode cX13_asksEntry 0 = .ok (.aload_n 0, 1) := by decide +kernel
theorem dX13_asksEntry_1 : decode cX13_asksEntry 1 = .ok (.iload_n 1, 1) := by decide +kernel
theorem dX13_asksEntry_2 : decode cX13_asksEntry 2 = .ok (.iload_n 2, 1) := by decide +kernel
theorem dX13_asksEntry_3 : decode cX13_asksEntry 3 = .ok (.iload_n 3, 1) := by decide +kernel
theorem dX13_asksEntry_4 : decode cX13_asksEntry 4 = .ok (.invokevirtual 413, 3) := by decide +kernel
theorem dX13_asksEntry_7 : decode cX13_asksEntry 7 = .ok (.ifCond .eq 17, 3) := by decide +kernel
theorem dX13_asksEntry_24 : decode cX13_asksEntry 24 = .ok (.iconst 0, 1) := by decide +kernel
theorem dX13_asksEntry_25 : decode cX13_asksEntry 25 = .ok (.ireturn, 1) := by decide +kernel
theorem dX13_coded_0 : decode cX13_coded 0 = .ok (.aload_n 0, 1) := by decide +kernel
theorem dX13_coded_1 : decode cX13_coded 1 = .ok (.iload_n 1, 1) := by decide +kernel
theorem dX13_coded_2 : decode cX13_coded 2 = .ok (.iload_n 2, 1) := by decide +kernel
theorem dX13_coded_3 : decode cX13_coded 3 = .ok (.iload_n 3, 1) := by decide +kernel
theorem dX13_coded_4 : decode cX13_coded 4 = .ok (.invokevirtual 416, 3) := by decide +kernel
theorem dX13_coded_7 : decode cX13_coded 7 = .ok (.ifCond .eq 13, 3) := by decide +kernel
theorem dX13_coded_20 : decode cX13_coded 20 = .ok (.iconst (-1), 1) := by decide +kernel
theorem dX13_coded_21 : decode cX13_coded 21 = .ok (.ireturn, 1) := by decide +kernel
theorem dX13_corrected_0 : decode cX13_corrected 0 = .ok (.aload_n 0, 1) := by decide +kernel
theorem dX13_corrected_1 : decode cX13_corrected 1 = .ok (.iload_n 1, 1) := by decide +kernel
theorem dX13_corrected_2 : decode cX13_corrected 2 = .ok (.iload_n 2, 1) := by decide +kernel
theorem dX13_corrected_3 : decode cX13_corrected 3 = .ok (.iload_n 3, 1) := by decide +kernel
theorem dX13_corrected_4 : decode cX13_corrected 4 = .ok (.invokevirtual 416, 3) := by decide +kernel
theorem dX13_corrected_7 : decode cX13_corrected 7 = .ok (.ifCond .eq 23, 3) := by decide +kernel
theorem dX13_corrected_30 : decode cX13_corrected 30 = .ok (.ldc_w 431, 3) := by decide +kernel
theorem dX13_corrected_33 : decode cX13_corrected 33 = .ok (.ireturn, 1) := by decide +kernel
theorem dX13_placed_0 : decode cX13_placed 0 = .ok (.aload_n 0, 1) := by decide +kernel
theorem dX13_placed_1 : decode cX13_placed 1 = .ok (.iload_n 1, 1) := by decide +kernel
theorem dX13_placed_2 : decode cX13_placed 2 = .ok (.iload_n 2, 1) := by decide +kernel
theorem dX13_placed_3 : decode cX13_placed 3 = .ok (.iload_n 3, 1) := by decide +kernel
theorem dX13_placed_4 : decode cX13_placed 4 = .ok (.invokevirtual 416, 3) := by decide +kernel
theorem dX13_placed_7 : decode cX13_placed 7 = .ok (.ifCond .eq 23, 3) := by decide +kernel
theorem dX13_placed_30 : decode cX13_placed 30 = .ok (.iconst (-1), 1) := by decide +kernel
theorem dX13_placed_31 : decode cX13_placed 31 = .ok (.ireturn, 1) := by decide +kernel
theorem dX13_redress_0 : decode cX13_redress 0 = .ok (.aload_n 0, 1) := by decide +kernel
theorem dX13_redress_1 : decode cX13_redress 1 = .ok (.iconst 0, 1) := by decide +kernel
theorem dX13_redress_2 : decode cX13_redress 2 = .ok (.putfield 228, 3) := by decide +kernel
theorem dX13_redress_5 : decode cX13_redress 5 = .ok (.aload_n 0, 1) := by decide +kernel
theorem dX13_redress_6 : decode cX13_redress 6 = .ok (.getfield 435, 3) := by decide +kernel
theorem dX13_redress_9 : decode cX13_redress 9 = .ok (.bipush 20, 2) := by decide +kernel
theorem dX13_redress_11 : decode cX13_redress 11 = .ok (.if_icmp .eq 25, 3) := by decide +kernel
theorem dX13_redress_14 : decode cX13_redress 14 = .ok (.aload_n 0, 1) := by decide +kernel
theorem dX13_redress_15 : decode cX13_redress 15 = .ok (.iload_n 1, 1) := by decide +kernel
theorem dX13_redress_16 : decode cX13_redress 16 = .ok (.iload_n 2, 1) := by decide +kernel
theorem dX13_redress_17 : decode cX13_redress 17 = .ok (.invokevirtual 402, 3) := by decide +kernel
theorem dX13_redress_20 : decode cX13_redress 20 = .ok (.ifCond .eq 16, 3) := by decide +kernel
theorem dX13_redress_36 : decode cX13_redress 36 = .ok (.iconst 0, 1) := by decide +kernel
theorem dX13_redress_37 : decode cX13_redress 37 = .ok (.ireturn, 1) := by decide +kernel
theorem dX13_points_0 : decode cX13_points 0 = .ok (.aload_n 0, 1) := by decide +kernel
theorem dX13_points_1 : decode cX13_points 1 = .ok (.iload_n 1, 1) := by decide +kernel
theorem dX13_points_2 : decode cX13_points 2 = .ok (.iload_n 2, 1) := by decide +kernel
theorem dX13_points_3 : decode cX13_points 3 = .ok (.iload_n 3, 1) := by decide +kernel
theorem dX13_points_4 : decode cX13_points 4 = .ok (.invokevirtual 413, 3) := by decide +kernel
theorem dX13_points_7 : decode cX13_points 7 = .ok (.ifCond .eq 13, 3) := by decide +kernel
theorem dX13_points_20 : decode cX13_points 20 = .ok (.iconst (-1), 1) := by decide +kernel
theorem dX13_points_21 : decode cX13_points 21 = .ok (.ireturn, 1) := by decide +kernel
theorem dX13_word_0 : decode cX13_word 0 = .ok (.aload_n 0, 1) := by decide +kernel
theorem dX13_word_1 : decode cX13_word 1 = .ok (.iconst 0, 1) := by decide +kernel
theorem dX13_word_2 : decode cX13_word 2 = .ok (.putfield 228, 3) := by decide +kernel
theorem dX13_word_5 : decode cX13_word 5 = .ok (.aload_n 0, 1) := by decide +kernel
theorem dX13_word_6 : decode cX13_word 6 = .ok (.getfield 460, 3) := by decide +kernel
theorem dX13_word_9 : decode cX13_word 9 = .ok (.sipush 200, 3) := by decide +kernel
theorem dX13_word_12 : decode cX13_word 12 = .ok (.if_icmp .eq 73, 3) := by decide +kernel
theorem dX13_word_15 : decode cX13_word 15 = .ok (.aload_n 0, 1) := by decide +kernel
theorem dX13_word_16 : decode cX13_word 16 = .ok (.iload_n 1, 1) := by decide +kernel
theorem dX13_word_17 : decode cX13_word 17 = .ok (.iload_n 2, 1) := by decide +kernel
theorem dX13_word_18 : decode cX13_word 18 = .ok (.invokevirtual 402, 3) := by decide +kernel
theorem dX13_word_21 : decode cX13_word 21 = .ok (.ifCond .eq 64, 3) := by decide +kernel
theorem dX13_word_85 : decode cX13_word 85 = .ok (.iconst (-1), 1) := by decide +kernel
theorem dX13_word_86 : decode cX13_word 86 = .ok (.ireturn, 1) := by decide +kernel
theorem dX13_protest_0 : decode cX13_protest 0 = .ok (.aload_n 0, 1) := by decide +kernel
theorem dX13_protest_1 : decode cX13_protest 1 = .ok (.iconst 0, 1) := by decide +kernel
theorem dX13_protest_2 : decode cX13_protest 2 = .ok (.putfield 228, 3) := by decide +kernel
theorem dX13_protest_5 : decode cX13_protest 5 = .ok (.aload_n 0, 1) := by decide +kernel
theorem dX13_protest_6 : decode cX13_protest 6 = .ok (.getfield 464, 3) := by decide +kernel
theorem dX13_protest_9 : decode cX13_protest 9 = .ok (.bipush 30, 2) := by decide +kernel
theorem dX13_protest_11 : decode cX13_protest 11 = .ok (.if_icmp .eq 38, 3) := by decide +kernel
theorem dX13_protest_14 : decode cX13_protest 14 = .ok (.aload_n 0, 1) := by decide +kernel
theorem dX13_protest_15 : decode cX13_protest 15 = .ok (.iload_n 1, 1) := by decide +kernel
theorem dX13_protest_16 : decode cX13_protest 16 = .ok (.iload_n 2, 1) := by decide +kernel
theorem dX13_protest_17 : decode cX13_protest 17 = .ok (.invokevirtual 402, 3) := by decide +kernel
theorem dX13_protest_20 : decode cX13_protest 20 = .ok (.ifCond .eq 29, 3) := by decide +kernel
theorem dX13_protest_49 : decode cX13_protest 49 = .ok (.iconst (-1), 1) := by decide +kernel
theorem dX13_protest_50 : decode cX13_protest 50 = .ok (.ireturn, 1) := by decide +kernel
theorem dX13_asksProtest_0 : decode cX13_asksProtest 0 = .ok (.aload_n 0, 1) := by decide +kernel
theorem dX13_asksProtest_1 : decode cX13_asksProtest 1 = .ok (.iconst 0, 1) := by decide +kernel
theorem dX13_asksProtest_2 : decode cX13_asksProtest 2 = .ok (.putfield 228, 3) := by decide +kernel
theorem dX13_asksProtest_5 : decode cX13_asksProtest 5 = .ok (.iload_n 1, 1) := by decide +kernel
theorem dX13_asksProtest_6 : decode cX13_asksProtest 6 = .ok (.iconst 0, 1) := by decide +kernel
theorem dX13_asksProtest_7 : decode cX13_asksProtest 7 = .ok (.aload_n 0, 1) := by decide +kernel
theorem dX13_asksProtest_8 : decode cX13_asksProtest 8 = .ok (.getfield 464, 3) := by decide +kernel
theorem dX13_asksProtest_11 : decode cX13_asksProtest 11 = .ok (.iconst 1, 1) := by decide +kernel
theorem dX13_asksProtest_12 : decode cX13_asksProtest 12 = .ok (.isub, 1) := by decide +kernel
theorem dX13_asksProtest_13 : decode cX13_asksProtest 13 = .ok (.invokestatic 235, 3) := by decide +kernel
theorem dX13_asksProtest_16 : decode cX13_asksProtest 16 = .ok (.ifCond .eq 30, 3) := by decide +kernel
theorem dX13_asksProtest_46 : decode cX13_asksProtest 46 = .ok (.iconst 0, 1) := by decide +kernel
theorem dX13_asksProtest_47 : decode cX13_asksProtest 47 = .ok (.ireturn, 1) := by decide +kernel
theorem dX13_states_0 : decode cX13_states 0 = .ok (.aload_n 0, 1) := by decide +kernel
theorem dX13_states_1 : decode cX13_states 1 = .ok (.iload_n 1, 1) := by decide +kernel
theorem dX13_states_2 : decode cX13_states 2 = .ok (.iload_n 2, 1) := by decide +kernel
theorem dX13_states_3 : decode cX13_states 3 = .ok (.iload_n 3, 1) := by decide +kernel
theorem dX13_states_4 : decode cX13_states 4 = .ok (.invokevirtual 481, 3) := by decide +kernel
theorem dX13_states_7 : decode cX13_states 7 = .ok (.ifCond .eq 12, 3) := by decide +kernel
theorem dX13_states_19 : decode cX13_states 19 = .ok (.iconst (-1), 1) := by decide +kernel
theorem dX13_states_20 : decode cX13_states 20 = .ok (.ireturn, 1) := by decide +kernel
theorem dX13_finding_0 : decode cX13_finding 0 = .ok (.aload_n 0, 1) := by decide +kernel
theorem dX13_finding_1 : decode cX13_finding 1 = .ok (.iload_n 1, 1) := by decide +kernel
theorem dX13_finding_2 : decode cX13_finding 2 = .ok (.iload_n 2, 1) := by decide +kernel
theorem dX13_finding_3 : decode cX13_finding 3 = .ok (.iload_n 3, 1) := by decide +kernel
theorem dX13_finding_4 : decode cX13_finding 4 = .ok (.invokevirtual 481, 3) := by decide +kernel
theorem dX13_finding_7 : decode cX13_finding 7 = .ok (.ifCond .eq 13, 3) := by decide +kernel
theorem dX13_finding_20 : decode cX13_finding 20 = .ok (.iconst (-1), 1) := by decide +kernel
theorem dX13_finding_21 : decode cX13_finding 21 = .ok (.ireturn, 1) := by decide +kernel
theorem dX13_decide_0 : decode cX13_decide 0 = .ok (.aload_n 0, 1) := by decide +kernel
theorem dX13_decide_1 : decode cX13_decide 1 = .ok (.iconst 0, 1) := by decide +kernel
theorem dX13_decide_2 : decode cX13_decide 2 = .ok (.putfield 228, 3) := by decide +kernel
theorem dX13_decide_5 : decode cX13_decide 5 = .ok (.iload_n 1, 1) := by decide +kernel
theorem dX13_decide_6 : decode cX13_decide 6 = .ok (.iconst 0, 1) := by decide +kernel
theorem dX13_decide_7 : decode cX13_decide 7 = .ok (.aload_n 0, 1) := by decide +kernel
theorem dX13_decide_8 : decode cX13_decide 8 = .ok (.getfield 464, 3) := by decide +kernel
theorem dX13_decide_11 : decode cX13_decide 11 = .ok (.iconst 1, 1) := by decide +kernel
theorem dX13_decide_12 : decode cX13_decide 12 = .ok (.isub, 1) := by decide +kernel
theorem dX13_decide_13 : decode cX13_decide 13 = .ok (.invokestatic 235, 3) := by decide +kernel
theorem dX13_decide_16 : decode cX13_decide 16 = .ok (.ifCond .eq 12, 3) := by decide +kernel
theorem dX13_decide_28 : decode cX13_decide 28 = .ok (.iconst (-1), 1) := by decide +kernel
theorem dX13_decide_29 : decode cX13_decide 29 = .ok (.ireturn, 1) := by decide +kernel
theorem dX13_reopen_0 : decode cX13_reopen 0 = .ok (.aload_n 0, 1) := by decide +kernel
theorem dX13_reopen_1 : decode cX13_reopen 1 = .ok (.iconst 0, 1) := by decide +kernel
theorem dX13_reopen_2 : decode cX13_reopen 2 = .ok (.putfield 228, 3) := by decide +kernel
theorem dX13_reopen_5 : decode cX13_reopen 5 = .ok (.iload_n 1, 1) := by decide +kernel
theorem dX13_reopen_6 : decode cX13_reopen 6 = .ok (.iconst 0, 1) := by decide +kernel
theorem dX13_reopen_7 : decode cX13_reopen 7 = .ok (.aload_n 0, 1) := by decide +kernel
theorem dX13_reopen_8 : decode cX13_reopen 8 = .ok (.getfield 464, 3) := by decide +kernel
theorem dX13_reopen_11 : decode cX13_reopen 11 = .ok (.iconst 1, 1) := by decide +kernel
theorem dX13_reopen_12 : decode cX13_reopen 12 = .ok (.isub, 1) := by decide +kernel
theorem dX13_reopen_13 : decode cX13_reopen 13 = .ok (.invokestatic 235, 3) := by decide +kernel
theorem dX13_reopen_16 : decode cX13_reopen 16 = .ok (.ifCond .eq 22, 3) := by decide +kernel
theorem dX13_reopen_38 : decode cX13_reopen 38 = .ok (.iconst 0, 1) := by decide +kernel
theorem dX13_reopen_39 : decode cX13_reopen 39 = .ok (.ireturn, 1) := by decide +kernel
theorem dX13_findEven_0 : decode cX13_findEven 0 = .ok (.aload_n 0, 1) := by decide +kernel
theorem dX13_findEven_1 : decode cX13_findEven 1 = .ok (.iconst 0, 1) := by decide +kernel
theorem dX13_findEven_2 : decode cX13_findEven 2 = .ok (.putfield 228, 3) := by decide +kernel
theorem dX13_findEven_5 : decode cX13_findEven 5 = .ok (.iload_n 1, 1) := by decide +kernel
theorem dX13_findEven_6 : decode cX13_findEven 6 = .ok (.iconst 1, 1) := by decide +kernel
theorem dX13_findEven_7 : decode cX13_findEven 7 = .ok (.iconst 1, 1) := by decide +kernel
theorem dX13_findEven_8 : decode cX13_findEven 8 = .ok (.aload_n 0, 1) := by decide +kernel
theorem dX13_findEven_9 : decode cX13_findEven 9 = .ok (.getfield 239, 3) := by decide +kernel
theorem dX13_findEven_12 : decode cX13_findEven 12 = .ok (.ishl, 1) := by decide +kernel
theorem dX13_findEven_13 : decode cX13_findEven 13 = .ok (.iconst 1, 1) := by decide +kernel
theorem dX13_findEven_14 : decode cX13_findEven 14 = .ok (.isub, 1) := by decide +kernel
theorem dX13_findEven_15 : decode cX13_findEven 15 = .ok (.invokestatic 235, 3) := by decide +kernel
theorem dX13_findEven_18 : decode cX13_findEven 18 = .ok (.ifCond .eq 19, 3) := by decide +kernel
theorem dX13_findEven_37 : decode cX13_findEven 37 = .ok (.iconst 0, 1) := by decide +kernel
theorem dX13_findEven_38 : decode cX13_findEven 38 = .ok (.ireturn, 1) := by decide +kernel
theorem dX13_even_0 : decode cX13_even 0 = .ok (.aload_n 0, 1) := by decide +kernel
theorem dX13_even_1 : decode cX13_even 1 = .ok (.iload_n 1, 1) := by decide +kernel
theorem dX13_even_2 : decode cX13_even 2 = .ok (.invokevirtual 525, 3) := by decide +kernel
theorem dX13_even_5 : decode cX13_even 5 = .ok (.ifCond .eq 10, 3) := by decide +kernel
theorem dX13_even_15 : decode cX13_even 15 = .ok (.iconst (-1), 1) := by decide +kernel
theorem dX13_even_16 : decode cX13_even 16 = .ok (.ireturn, 1) := by decide +kernel
theorem dX13_change_0 : decode cX13_change 0 = .ok (.aload_n 0, 1) := by decide +kernel
theorem dX13_change_1 : decode cX13_change 1 = .ok (.iload_n 1, 1) := by decide +kernel
theorem dX13_change_2 : decode cX13_change 2 = .ok (.invokevirtual 525, 3) := by decide +kernel
theorem dX13_change_5 : decode cX13_change 5 = .ok (.ifCond .ne 7, 3) := by decide +kernel
theorem dX13_change_8 : decode cX13_change 8 = .ok (.ldc_w 431, 3) := by decide +kernel
theorem dX13_change_11 : decode cX13_change 11 = .ok (.ireturn, 1) := by decide +kernel
theorem dX13_middle_0 : decode cX13_middle 0 = .ok (.aload_n 0, 1) := by decide +kernel
theorem dX13_middle_1 : decode cX13_middle 1 = .ok (.iconst 0, 1) := by decide +kernel
theorem dX13_middle_2 : decode cX13_middle 2 = .ok (.putfield 228, 3) := by decide +kernel
theorem dX13_middle_5 : decode cX13_middle 5 = .ok (.aload_n 0, 1) := by decide +kernel
theorem dX13_middle_6 : decode cX13_middle 6 = .ok (.iload_n 1, 1) := by decide +kernel
theorem dX13_middle_7 : decode cX13_middle 7 = .ok (.invokevirtual 393, 3) := by decide +kernel
theorem dX13_middle_10 : decode cX13_middle 10 = .ok (.ifCond .eq 20, 3) := by decide +kernel
theorem dX13_middle_30 : decode cX13_middle 30 = .ok (.ldc_w 431, 3) := by decide +kernel
theorem dX13_middle_33 : decode cX13_middle 33 = .ok (.ireturn, 1) := by decide +kernel
theorem dX13_fit_0 : decode cX13_fit 0 = .ok (.aload_n 0, 1) := by decide +kernel
theorem dX13_fit_1 : decode cX13_fit 1 = .ok (.iconst 0, 1) := by decide +kernel
theorem dX13_fit_2 : decode cX13_fit 2 = .ok (.putfield 228, 3) := by decide +kernel
theorem dX13_fit_5 : decode cX13_fit 5 = .ok (.aload_n 0, 1) := by decide +kernel
theorem dX13_fit_6 : decode cX13_fit 6 = .ok (.iload_n 1, 1) := by decide +kernel
theorem dX13_fit_7 : decode cX13_fit 7 = .ok (.invokevirtual 245, 3) := by decide +kernel
theorem dX13_fit_10 : decode cX13_fit 10 = .ok (.ifCond .eq 11, 3) := by decide +kernel
theorem dX13_fit_21 : decode cX13_fit 21 = .ok (.iconst (-1), 1) := by decide +kernel
theorem dX13_fit_22 : decode cX13_fit 22 = .ok (.ireturn, 1) := by decide +kernel
theorem dX13_suspect_0 : decode cX13_suspect 0 = .ok (.aload_n 0, 1) := by decide +kernel
theorem dX13_suspect_1 : decode cX13_suspect 1 = .ok (.iconst 0, 1) := by decide +kernel
theorem dX13_suspect_2 : decode cX13_suspect 2 = .ok (.putfield 228, 3) := by decide +kernel
theorem dX13_suspect_5 : decode cX13_suspect 5 = .ok (.aload_n 0, 1) := by decide +kernel
theorem dX13_suspect_6 : decode cX13_suspect 6 = .ok (.iload_n 1, 1) := by decide +kernel
theorem dX13_suspect_7 : decode cX13_suspect 7 = .ok (.invokevirtual 245, 3) := by decide +kernel
theorem dX13_suspect_10 : decode cX13_suspect 10 = .ok (.ifCond .eq 12, 3) := by decide +kernel
theorem dX13_suspect_22 : decode cX13_suspect 22 = .ok (.ldc_w 431, 3) := by decide +kernel
theorem dX13_suspect_25 : decode cX13_suspect 25 = .ok (.ireturn, 1) := by decide +kernel
theorem dX13_start_0 : decode cX13_start 0 = .ok (.aload_n 0, 1) := by decide +kernel
theorem dX13_start_1 : decode cX13_start 1 = .ok (.iconst 0, 1) := by decide +kernel
theorem dX13_start_2 : decode cX13_start 2 = .ok (.putfield 228, 3) := by decide +kernel
theorem dX13_start_5 : decode cX13_start 5 = .ok (.aload_n 0, 1) := by decide +kernel
theorem dX13_start_6 : decode cX13_start 6 = .ok (.iload_n 1, 1) := by decide +kernel
theorem dX13_start_7 : decode cX13_start 7 = .ok (.iload_n 2, 1) := by decide +kernel
theorem dX13_start_8 : decode cX13_start 8 = .ok (.invokevirtual 402, 3) := by decide +kernel
theorem dX13_start_11 : decode cX13_start 11 = .ok (.ifCond .eq 25, 3) := by decide +kernel
theorem dX13_start_36 : decode cX13_start 36 = .ok (.iconst 0, 1) := by decide +kernel
theorem dX13_start_37 : decode cX13_start 37 = .ok (.ireturn, 1) := by decide +kernel
theorem dX13_lean_0 : decode cX13_lean 0 = .ok (.aload_n 0, 1) := by decide +kernel
theorem dX13_lean_1 : decode cX13_lean 1 = .ok (.iconst 0, 1) := by decide +kernel
theorem dX13_lean_2 : decode cX13_lean 2 = .ok (.putfield 228, 3) := by decide +kernel
theorem dX13_lean_5 : decode cX13_lean 5 = .ok (.aload_n 0, 1) := by decide +kernel
theorem dX13_lean_6 : decode cX13_lean 6 = .ok (.iload_n 1, 1) := by decide +kernel
theorem dX13_lean_7 : decode cX13_lean 7 = .ok (.invokevirtual 393, 3) := by decide +kernel
theorem dX13_lean_10 : decode cX13_lean 10 = .ok (.ifCond .ne 7, 3) := by decide +kernel
theorem dX13_lean_13 : decode cX13_lean 13 = .ok (.ldc_w 431, 3) := by decide +kernel
theorem dX13_lean_16 : decode cX13_lean 16 = .ok (.ireturn, 1) := by decide +kernel
theorem dX13_draw_0 : decode cX13_draw 0 = .ok (.aload_n 0, 1) := by decide +kernel
theorem dX13_draw_1 : decode cX13_draw 1 = .ok (.iconst 0, 1) := by decide +kernel
theorem dX13_draw_2 : decode cX13_draw 2 = .ok (.putfield 228, 3) := by decide +kernel
theorem dX13_draw_5 : decode cX13_draw 5 = .ok (.iconst 0, 1) := by decide +kernel
theorem dX13_draw_6 : decode cX13_draw 6 = .ok (.istore 4, 2) := by decide +kernel
theorem dX13_draw_8 : decode cX13_draw 8 = .ok (.iconst 0, 1) := by decide +kernel
theorem dX13_draw_9 : decode cX13_draw 9 = .ok (.istore 5, 2) := by decide +kernel
theorem dX13_draw_11 : decode cX13_draw 11 = .ok (.iconst 0, 1) := by decide +kernel
theorem dX13_draw_12 : decode cX13_draw 12 = .ok (.istore 6, 2) := by decide +kernel
theorem dX13_draw_14 : decode cX13_draw 14 = .ok (.iload 6, 2) := by decide +kernel
theorem dX13_draw_16 : decode cX13_draw 16 = .ok (.aload_n 0, 1) := by decide +kernel
theorem dX13_draw_17 : decode cX13_draw 17 = .ok (.getfield 239, 3) := by decide +kernel
theorem dX13_draw_20 : decode cX13_draw 20 = .ok (.if_icmp .ge 146, 3) := by decide +kernel
theorem dX13_draw_166 : decode cX13_draw 166 = .ok (.iload_n 1, 1) := by decide +kernel
theorem dX13_draw_167 : decode cX13_draw 167 = .ok (.iconst 1, 1) := by decide +kernel
theorem dX13_draw_168 : decode cX13_draw 168 = .ok (.if_icmp .lt 9, 3) := by decide +kernel
theorem dX13_draw_171 : decode cX13_draw 171 = .ok (.iload_n 1, 1) := by decide +kernel
theorem dX13_draw_172 : decode cX13_draw 172 = .ok (.iload 5, 2) := by decide +kernel
theorem dX13_draw_174 : decode cX13_draw 174 = .ok (.if_icmp .le 5, 3) := by decide +kernel
theorem dX13_draw_177 : decode cX13_draw 177 = .ok (.iconst (-1), 1) := by decide +kernel
theorem dX13_draw_178 : decode cX13_draw 178 = .ok (.ireturn, 1) := by decide +kernel
theorem dX13_told_0 : decode cX13_told 0 = .ok (.aload_n 0, 1) := by decide +kernel
theorem dX13_told_1 : decode cX13_told 1 = .ok (.aload_n 0, 1) := by decide +kernel
theorem dX13_told_2 : decode cX13_told 2 = .ok (.iload_n 1, 1) := by decide +kernel
theorem dX13_told_3 : decode cX13_told 3 = .ok (.invokevirtual 393, 3) := by decide +kernel
theorem dX13_told_6 : decode cX13_told 6 = .ok (.ifCond .eq 17, 3) := by decide +kernel
theorem dX13_told_23 : decode cX13_told 23 = .ok (.iconst 1, 1) := by decide +kernel
theorem dX13_told_24 : decode cX13_told 24 = .ok (.putfield 228, 3) := by decide +kernel
theorem dX13_told_27 : decode cX13_told 27 = .ok (.aload_n 0, 1) := by decide +kernel
theorem dX13_told_28 : decode cX13_told 28 = .ok (.getfield 228, 3) := by decide +kernel
theorem dX13_told_31 : decode cX13_told 31 = .ok (.ifCond .le 5, 3) := by decide +kernel
theorem dX13_told_34 : decode cX13_told 34 = .ok (.iconst 0, 1) := by decide +kernel
theorem dX13_told_35 : decode cX13_told 35 = .ok (.ireturn, 1) := by decide +kernel
theorem dX13_count_0 : decode cX13_count 0 = .ok (.aload_n 0, 1) := by decide +kernel
theorem dX13_count_1 : decode cX13_count 1 = .ok (.iconst 0, 1) := by decide +kernel
theorem dX13_count_2 : decode cX13_count 2 = .ok (.putfield 228, 3) := by decide +kernel
theorem dX13_count_5 : decode cX13_count 5 = .ok (.iload_n 1, 1) := by decide +kernel
theorem dX13_count_6 : decode cX13_count 6 = .ok (.tableswitch 168 0 10 #[58, 63, 68, 73, 78, 83, 88, 93, 98, 103, 108], 58) := by decide +kernel
theorem dX13_count_64 : decode cX13_count 64 = .ok (.aload_n 0, 1) := by decide +kernel
theorem dX13_count_65 : decode cX13_count 65 = .ok (.getfield 232, 3) := by decide +kernel
theorem dX13_count_68 : decode cX13_count 68 = .ok (.ireturn, 1) := by decide +kernel
theorem dX13_count_69 : decode cX13_count 69 = .ok (.aload_n 0, 1) := by decide +kernel
theorem dX13_count_70 : decode cX13_count 70 = .ok (.getfield 239, 3) := by decide +kernel
theorem dX13_count_73 : decode cX13_count 73 = .ok (.ireturn, 1) := by decide +kernel
theorem dX13_count_74 : decode cX13_count 74 = .ok (.aload_n 0, 1) := by decide +kernel
theorem dX13_count_75 : decode cX13_count 75 = .ok (.getfield 242, 3) := by decide +kernel
theorem dX13_count_78 : decode cX13_count 78 = .ok (.ireturn, 1) := by decide +kernel
theorem dX13_count_79 : decode cX13_count 79 = .ok (.aload_n 0, 1) := by decide +kernel
theorem dX13_count_80 : decode cX13_count 80 = .ok (.getfield 370, 3) := by decide +kernel
theorem dX13_count_83 : decode cX13_count 83 = .ok (.ireturn, 1) := by decide +kernel
theorem dX13_count_84 : decode cX13_count 84 = .ok (.aload_n 0, 1) := by decide +kernel
theorem dX13_count_85 : decode cX13_count 85 = .ok (.getfield 390, 3) := by decide +kernel
theorem dX13_count_88 : decode cX13_count 88 = .ok (.ireturn, 1) := by decide +kernel
theorem dX13_count_89 : decode cX13_count 89 = .ok (.aload_n 0, 1) := by decide +kernel
theorem dX13_count_90 : decode cX13_count 90 = .ok (.getfield 399, 3) := by decide +kernel
theorem dX13_count_93 : decode cX13_count 93 = .ok (.ireturn, 1) := by decide +kernel
theorem dX13_count_94 : decode cX13_count 94 = .ok (.aload_n 0, 1) := by decide +kernel
theorem dX13_count_95 : decode cX13_count 95 = .ok (.getfield 460, 3) := by decide +kernel
theorem dX13_count_98 : decode cX13_count 98 = .ok (.ireturn, 1) := by decide +kernel
theorem dX13_count_99 : decode cX13_count 99 = .ok (.aload_n 0, 1) := by decide +kernel
theorem dX13_count_100 : decode cX13_count 100 = .ok (.getfield 464, 3) := by decide +kernel
theorem dX13_count_103 : decode cX13_count 103 = .ok (.ireturn, 1) := by decide +kernel
theorem dX13_count_104 : decode cX13_count 104 = .ok (.aload_n 0, 1) := by decide +kernel
theorem dX13_count_105 : decode cX13_count 105 = .ok (.getfield 259, 3) := by decide +kernel
theorem dX13_count_108 : decode cX13_count 108 = .ok (.ireturn, 1) := by decide +kernel
theorem dX13_count_109 : decode cX13_count 109 = .ok (.aload_n 0, 1) := by decide +kernel
theorem dX13_count_110 : decode cX13_count 110 = .ok (.getfield 435, 3) := by decide +kernel
theorem dX13_count_113 : decode cX13_count 113 = .ok (.ireturn, 1) := by decide +kernel
theorem dX13_count_114 : decode cX13_count 114 = .ok (.iconst 0, 1) := by decide +kernel
theorem dX13_count_115 : decode cX13_count 115 = .ok (.istore_n 2, 1) := by decide +kernel
theorem dX13_count_116 : decode cX13_count 116 = .ok (.iconst 0, 1) := by decide +kernel
theorem dX13_count_117 : decode cX13_count 117 = .ok (.istore_n 3, 1) := by decide +kernel
theorem dX13_count_118 : decode cX13_count 118 = .ok (.iload_n 3, 1) := by decide +kernel
theorem dX13_count_119 : decode cX13_count 119 = .ok (.aload_n 0, 1) := by decide +kernel
theorem dX13_count_120 : decode cX13_count 120 = .ok (.getfield 390, 3) := by decide +kernel
theorem dX13_count_123 : decode cX13_count 123 = .ok (.if_icmp .ge 49, 3) := by decide +kernel
theorem dX13_count_172 : decode cX13_count 172 = .ok (.iload_n 2, 1) := by decide +kernel
theorem dX13_count_173 : decode cX13_count 173 = .ok (.ireturn, 1) := by decide +kernel
theorem dX13_count_174 : decode cX13_count 174 = .ok (.iconst (-1), 1) := by decide +kernel
theorem dX13_count_175 : decode cX13_count 175 = .ok (.ireturn, 1) := by decide +kernel
theorem dJ6_bitCount_0f7a4_0 : decode cJ6_bitCount_0f7a4 0 = .ok (.iload_n 0, 1) := by decide +kernel
theorem dJ6_bitCount_0f7a4_1 : decode cJ6_bitCount_0f7a4 1 = .ok (.iload_n 0, 1) := by decide +kernel
theorem dJ6_bitCount_0f7a4_2 : decode cJ6_bitCount_0f7a4 2 = .ok (.iconst 1, 1) := by decide +kernel
theorem dJ6_bitCount_0f7a4_3 : decode cJ6_bitCount_0f7a4 3 = .ok (.iushr, 1) := by decide +kernel
theorem dJ6_bitCount_0f7a4_4 : decode cJ6_bitCount_0f7a4 4 = .ok (.ldc_w 265, 3) := by decide +kernel
theorem dJ6_bitCount_0f7a4_7 : decode cJ6_bitCount_0f7a4 7 = .ok (.iand, 1) := by decide +kernel
theorem dJ6_bitCount_0f7a4_8 : decode cJ6_bitCount_0f7a4 8 = .ok (.isub, 1) := by decide +kernel
theorem dJ6_bitCount_0f7a4_9 : decode cJ6_bitCount_0f7a4 9 = .ok (.istore_n 0, 1) := by decide +kernel
theorem dJ6_bitCount_0f7a4_10 : decode cJ6_bitCount_0f7a4 10 = .ok (.iload_n 0, 1) := by decide +kernel
theorem dJ6_bitCount_0f7a4_11 : decode cJ6_bitCount_0f7a4 11 = .ok (.ldc_w 266, 3) := by decide +kernel
theorem dJ6_bitCount_0f7a4_14 : decode cJ6_bitCount_0f7a4 14 = .ok (.iand, 1) := by decide +kernel
theorem dJ6_bitCount_0f7a4_15 : decode cJ6_bitCount_0f7a4 15 = .ok (.iload_n 0, 1) := by decide +kernel
theorem dJ6_bitCount_0f7a4_16 : decode cJ6_bitCount_0f7a4 16 = .ok (.iconst 2, 1) := by decide +kernel
theorem dJ6_bitCount_0f7a4_17 : decode cJ6_bitCount_0f7a4 17 = .ok (.iushr, 1) := by decide +kernel
theorem dJ6_bitCount_0f7a4_18 : decode cJ6_bitCount_0f7a4 18 = .ok (.ldc_w 266, 3) := by decide +kernel
theorem dJ6_bitCount_0f7a4_21 : decode cJ6_bitCount_0f7a4 21 = .ok (.iand, 1) := by decide +kernel
theorem dJ6_bitCount_0f7a4_22 : decode cJ6_bitCount_0f7a4 22 = .ok (.iadd, 1) := by decide +kernel
theorem dJ6_bitCount_0f7a4_23 : decode cJ6_bitCount_0f7a4 23 = .ok (.istore_n 0, 1) := by decide +kernel
theorem dJ6_bitCount_0f7a4_24 : decode cJ6_bitCount_0f7a4 24 = .ok (.iload_n 0, 1) := by decide +kernel
theorem dJ6_bitCount_0f7a4_25 : decode cJ6_bitCount_0f7a4 25 = .ok (.iload_n 0, 1) := by decide +kernel
theorem dJ6_bitCount_0f7a4_26 : decode cJ6_bitCount_0f7a4 26 = .ok (.iconst 4, 1) := by decide +kernel
theorem dJ6_bitCount_0f7a4_27 : decode cJ6_bitCount_0f7a4 27 = .ok (.iushr, 1) := by decide +kernel
theorem dJ6_bitCount_0f7a4_28 : decode cJ6_bitCount_0f7a4 28 = .ok (.iadd, 1) := by decide +kernel
theorem dJ6_bitCount_0f7a4_29 : decode cJ6_bitCount_0f7a4 29 = .ok (.ldc_w 267, 3) := by decide +kernel
theorem dJ6_bitCount_0f7a4_32 : decode cJ6_bitCount_0f7a4 32 = .ok (.iand, 1) := by decide +kernel
theorem dJ6_bitCount_0f7a4_33 : decode cJ6_bitCount_0f7a4 33 = .ok (.istore_n 0, 1) := by decide +kernel
theorem dJ6_bitCount_0f7a4_34 : decode cJ6_bitCount_0f7a4 34 = .ok (.iload_n 0, 1) := by decide +kernel
theorem dJ6_bitCount_0f7a4_35 : decode cJ6_bitCount_0f7a4 35 = .ok (.iload_n 0, 1) := by decide +kernel
theorem dJ6_bitCount_0f7a4_36 : decode cJ6_bitCount_0f7a4 36 = .ok (.bipush 8, 2) := by decide +kernel
theorem dJ6_bitCount_0f7a4_38 : decode cJ6_bitCount_0f7a4 38 = .ok (.iushr, 1) := by decide +kernel
theorem dJ6_bitCount_0f7a4_39 : decode cJ6_bitCount_0f7a4 39 = .ok (.iadd, 1) := by decide +kernel
theorem dJ6_bitCount_0f7a4_40 : decode cJ6_bitCount_0f7a4 40 = .ok (.istore_n 0, 1) := by decide +kernel
theorem dJ6_bitCount_0f7a4_41 : decode cJ6_bitCount_0f7a4 41 = .ok (.iload_n 0, 1) := by decide +kernel
theorem dJ6_bitCount_0f7a4_42 : decode cJ6_bitCount_0f7a4 42 = .ok (.iload_n 0, 1) := by decide +kernel
theorem dJ6_bitCount_0f7a4_43 : decode cJ6_bitCount_0f7a4 43 = .ok (.bipush 16, 2) := by decide +kernel
theorem dJ6_bitCount_0f7a4_45 : decode cJ6_bitCount_0f7a4 45 = .ok (.iushr, 1) := by decide +kernel
theorem dJ6_bitCount_0f7a4_46 : decode cJ6_bitCount_0f7a4 46 = .ok (.iadd, 1) := by decide +kernel
theorem dJ6_bitCount_0f7a4_47 : decode cJ6_bitCount_0f7a4 47 = .ok (.istore_n 0, 1) := by decide +kernel
theorem dJ6_bitCount_0f7a4_48 : decode cJ6_bitCount_0f7a4 48 = .ok (.iload_n 0, 1) := by decide +kernel
theorem dJ6_bitCount_0f7a4_49 : decode cJ6_bitCount_0f7a4 49 = .ok (.bipush 63, 2) := by decide +kernel
theorem dJ6_bitCount_0f7a4_51 : decode cJ6_bitCount_0f7a4 51 = .ok (.iand, 1) := by decide +kernel
theorem dJ6_bitCount_0f7a4_52 : decode cJ6_bitCount_0f7a4 52 = .ok (.ireturn, 1) := by decide +kernel
theorem dJx4a65c_size_8abf5_0 : decode cJx4a65c_size_8abf5 0 = .ok (.aload_n 0, 1) := by decide +kernel
theorem dJx4a65c_size_8abf5_1 : decode cJx4a65c_size_8abf5 1 = .ok (.getfield 48, 3) := by decide +kernel
theorem dJx4a65c_size_8abf5_4 : decode cJx4a65c_size_8abf5 4 = .ok (.ireturn, 1) := by decide +kernel
theorem dJ7_fill_53178_0 : decode cJ7_fill_53178 0 = .ok (.iconst 0, 1) := by decide +kernel
theorem dJ7_fill_53178_1 : decode cJ7_fill_53178 1 = .ok (.istore_n 2, 1) := by decide +kernel
theorem dJ7_fill_53178_2 : decode cJ7_fill_53178 2 = .ok (.aload_n 0, 1) := by decide +kernel
theorem dJ7_fill_53178_3 : decode cJ7_fill_53178 3 = .ok (.arraylength, 1) := by decide +kernel
theorem dJ7_fill_53178_4 : decode cJ7_fill_53178 4 = .ok (.istore_n 3, 1) := by decide +kernel
theorem dJ7_fill_53178_5 : decode cJ7_fill_53178 5 = .ok (.iload_n 2, 1) := by decide +kernel
theorem dJ7_fill_53178_6 : decode cJ7_fill_53178 6 = .ok (.iload_n 3, 1) := by decide +kernel
theorem dJ7_fill_53178_7 : decode cJ7_fill_53178 7 = .ok (.if_icmp .ge 13, 3) := by decide +kernel
theorem dJ7_fill_53178_10 : decode cJ7_fill_53178 10 = .ok (.aload_n 0, 1) := by decide +kernel
theorem dJ7_fill_53178_11 : decode cJ7_fill_53178 11 = .ok (.iload_n 2, 1) := by decide +kernel
theorem dJ7_fill_53178_12 : decode cJ7_fill_53178 12 = .ok (.iload_n 1, 1) := by decide +kernel
theorem dJ7_fill_53178_13 : decode cJ7_fill_53178 13 = .ok (.iastore, 1) := by decide +kernel
theorem dJ7_fill_53178_14 : decode cJ7_fill_53178 14 = .ok (.iinc 2 1, 3) := by decide +kernel
theorem dJ7_fill_53178_17 : decode cJ7_fill_53178 17 = .ok (.goto (-12), 3) := by decide +kernel
theorem dJ7_fill_53178_20 : decode cJ7_fill_53178 20 = .ok (.return_, 1) := by decide +kernel
abbrev vwCl : List vw_C := [(RJx4a65c, TJx4a65c, 3), (RX0, TX0, 11), (RX1, TX1, 6), (RX2, TX2, 10), (RX3, TX3, 18), (RX4, TX4, 10), (RX5, TX5, 12), (RX6, TX6, 5), (RX7, TX7, 6), (RX8, TX8, 10), (RX9, TX9, 9), (RX10, TX10, 10), (RX11, TX11, 8), (RX12, TX12, 6), (RX13, TX13, 97)]
