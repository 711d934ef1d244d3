section
-- ===== PART A: goes FIRST, ahead of the names: the tables' words, and 'selects' of the private methods out of them =====
/-- a private method of a class that the tables say can be made, by its rows of tables_1 -/
def lw_okq (q : MethodName × Nat) : Prop := (q.1.cls ≠ "java/lang/invoke/MethodHandle" ∧ q.1.cls ≠ "java/lang/invoke/VarHandle") ∧ Cond.instantiable q.1.cls q.2 ∈ tables_1 ∧ Cond.privateMethod q.1 ∈ tables_1 ∧ Cond.instanceMethod q.1 ∈ tables_1
theorem lw_p0 : lw_okq (⟨"java/util/ArrayList", "add", "(Ljava/lang/Object;[Ljava/lang/Object;I)V"⟩, 3) := ⟨⟨by decide +kernel, by decide +kernel⟩, List.mem_of_getElem? (i := 48) (by decide +kernel), List.mem_of_getElem? (i := 443) (by decide +kernel), List.mem_of_getElem? (i := 444) (by decide +kernel)⟩
theorem lw_p1 : lw_okq (⟨"java/util/ArrayList", "grow", "()[Ljava/lang/Object;"⟩, 3) := ⟨⟨by decide +kernel, by decide +kernel⟩, List.mem_of_getElem? (i := 48) (by decide +kernel), List.mem_of_getElem? (i := 447) (by decide +kernel), List.mem_of_getElem? (i := 448) (by decide +kernel)⟩
theorem lw_p2 : lw_okq (⟨"java/util/ArrayList", "grow", "(I)[Ljava/lang/Object;"⟩, 3) := ⟨⟨by decide +kernel, by decide +kernel⟩, List.mem_of_getElem? (i := 48) (by decide +kernel), List.mem_of_getElem? (i := 451) (by decide +kernel), List.mem_of_getElem? (i := 452) (by decide +kernel)⟩
theorem lw_p3 : lw_okq (⟨"UnlikeBoats$Tape", "readClause", "()V"⟩, 10) := ⟨⟨by decide +kernel, by decide +kernel⟩, List.mem_of_getElem? (i := 141) (by decide +kernel), List.mem_of_getElem? (i := 553) (by decide +kernel), List.mem_of_getElem? (i := 554) (by decide +kernel)⟩
theorem lw_p4 : lw_okq (⟨"UnlikeBoats$Tape", "next", "()I"⟩, 10) := ⟨⟨by decide +kernel, by decide +kernel⟩, List.mem_of_getElem? (i := 141) (by decide +kernel), List.mem_of_getElem? (i := 557) (by decide +kernel), List.mem_of_getElem? (i := 558) (by decide +kernel)⟩
theorem lw_p5 : lw_okq (⟨"UnlikeBoats$Tape", "fail", "()V"⟩, 10) := ⟨⟨by decide +kernel, by decide +kernel⟩, List.mem_of_getElem? (i := 141) (by decide +kernel), List.mem_of_getElem? (i := 638) (by decide +kernel), List.mem_of_getElem? (i := 639) (by decide +kernel)⟩
theorem lw_p6 : lw_okq (⟨"UnlikeBoats$Tape", "take", "(I)V"⟩, 10) := ⟨⟨by decide +kernel, by decide +kernel⟩, List.mem_of_getElem? (i := 141) (by decide +kernel), List.mem_of_getElem? (i := 642) (by decide +kernel), List.mem_of_getElem? (i := 643) (by decide +kernel)⟩
theorem lw_p7 : lw_okq (⟨"UnlikeBoats$Tape", "readSum", "(I)V"⟩, 10) := ⟨⟨by decide +kernel, by decide +kernel⟩, List.mem_of_getElem? (i := 141) (by decide +kernel), List.mem_of_getElem? (i := 647) (by decide +kernel), List.mem_of_getElem? (i := 648) (by decide +kernel)⟩
theorem lw_p8 : lw_okq (⟨"UnlikeBoats$Tape", "readTerm", "(I)V"⟩, 10) := ⟨⟨by decide +kernel, by decide +kernel⟩, List.mem_of_getElem? (i := 141) (by decide +kernel), List.mem_of_getElem? (i := 651) (by decide +kernel), List.mem_of_getElem? (i := 652) (by decide +kernel)⟩
theorem lw_p9 : lw_okq (⟨"UnlikeBoats$Tape", "readAtom", "(I)V"⟩, 10) := ⟨⟨by decide +kernel, by decide +kernel⟩, List.mem_of_getElem? (i := 141) (by decide +kernel), List.mem_of_getElem? (i := 655) (by decide +kernel), List.mem_of_getElem? (i := 656) (by decide +kernel)⟩
theorem lw_p10 : lw_okq (⟨"UnlikeBoats$Tape", "readNumber", "()V"⟩, 10) := ⟨⟨by decide +kernel, by decide +kernel⟩, List.mem_of_getElem? (i := 141) (by decide +kernel), List.mem_of_getElem? (i := 662) (by decide +kernel), List.mem_of_getElem? (i := 663) (by decide +kernel)⟩
theorem lw_p11 : lw_okq (⟨"UnlikeBoats$Tape", "add", "(I)V"⟩, 10) := ⟨⟨by decide +kernel, by decide +kernel⟩, List.mem_of_getElem? (i := 141) (by decide +kernel), List.mem_of_getElem? (i := 666) (by decide +kernel), List.mem_of_getElem? (i := 667) (by decide +kernel)⟩
theorem lw_p12 : lw_okq (⟨"UnlikeBoats$Tape", "goDeeper", "(I)Z"⟩, 10) := ⟨⟨by decide +kernel, by decide +kernel⟩, List.mem_of_getElem? (i := 141) (by decide +kernel), List.mem_of_getElem? (i := 675) (by decide +kernel), List.mem_of_getElem? (i := 676) (by decide +kernel)⟩
theorem lw_p13 : lw_okq (⟨"UnlikeBoats$Tape", "readCondition", "(IZ)V"⟩, 10) := ⟨⟨by decide +kernel, by decide +kernel⟩, List.mem_of_getElem? (i := 141) (by decide +kernel), List.mem_of_getElem? (i := 685) (by decide +kernel), List.mem_of_getElem? (i := 686) (by decide +kernel)⟩
theorem lw_p14 : lw_okq (⟨"UnlikeBoats$Tape", "readPart", "(IZ)V"⟩, 10) := ⟨⟨by decide +kernel, by decide +kernel⟩, List.mem_of_getElem? (i := 141) (by decide +kernel), List.mem_of_getElem? (i := 689) (by decide +kernel), List.mem_of_getElem? (i := 690) (by decide +kernel)⟩
theorem lw_p15 : lw_okq (⟨"UnlikeBoats$Tape", "readUnit", "(IZ)V"⟩, 10) := ⟨⟨by decide +kernel, by decide +kernel⟩, List.mem_of_getElem? (i := 141) (by decide +kernel), List.mem_of_getElem? (i := 693) (by decide +kernel), List.mem_of_getElem? (i := 694) (by decide +kernel)⟩
def lw_privs_1 : List (MethodName × Nat) := [(⟨"java/util/ArrayList", "add", "(Ljava/lang/Object;[Ljava/lang/Object;I)V"⟩, 3), (⟨"java/util/ArrayList", "grow", "()[Ljava/lang/Object;"⟩, 3), (⟨"java/util/ArrayList", "grow", "(I)[Ljava/lang/Object;"⟩, 3), (⟨"UnlikeBoats$Tape", "readClause", "()V"⟩, 10), (⟨"UnlikeBoats$Tape", "next", "()I"⟩, 10), (⟨"UnlikeBoats$Tape", "fail", "()V"⟩, 10), (⟨"UnlikeBoats$Tape", "take", "(I)V"⟩, 10), (⟨"UnlikeBoats$Tape", "readSum", "(I)V"⟩, 10), (⟨"UnlikeBoats$Tape", "readTerm", "(I)V"⟩, 10), (⟨"UnlikeBoats$Tape", "readAtom", "(I)V"⟩, 10), (⟨"UnlikeBoats$Tape", "readNumber", "()V"⟩, 10), (⟨"UnlikeBoats$Tape", "add", "(I)V"⟩, 10), (⟨"UnlikeBoats$Tape", "goDeeper", "(I)Z"⟩, 10), (⟨"UnlikeBoats$Tape", "readCondition", "(IZ)V"⟩, 10), (⟨"UnlikeBoats$Tape", "readPart", "(IZ)V"⟩, 10), (⟨"UnlikeBoats$Tape", "readUnit", "(IZ)V"⟩, 10)]
theorem lw_r1 : ∀ q ∈ lw_privs_1, lw_okq q := List.forall_mem_cons.mpr ⟨lw_p0, List.forall_mem_cons.mpr ⟨lw_p1, List.forall_mem_cons.mpr ⟨lw_p2, List.forall_mem_cons.mpr ⟨lw_p3, List.forall_mem_cons.mpr ⟨lw_p4, List.forall_mem_cons.mpr ⟨lw_p5, List.forall_mem_cons.mpr ⟨lw_p6, List.forall_mem_cons.mpr ⟨lw_p7, List.forall_mem_cons.mpr ⟨lw_p8, List.forall_mem_cons.mpr ⟨lw_p9, List.forall_mem_cons.mpr ⟨lw_p10, List.forall_mem_cons.mpr ⟨lw_p11, List.forall_mem_cons.mpr ⟨lw_p12, List.forall_mem_cons.mpr ⟨lw_p13, List.forall_mem_cons.mpr ⟨lw_p14, List.forall_mem_cons.mpr ⟨lw_p15, fun _ h => absurd h List.not_mem_nil⟩⟩⟩⟩⟩⟩⟩⟩⟩⟩⟩⟩⟩⟩⟩⟩
theorem lw_p16 : lw_okq (⟨"UnlikeBoats$Tape", "readComparison", "(I)V"⟩, 10) := ⟨⟨by decide +kernel, by decide +kernel⟩, List.mem_of_getElem? (i := 141) (by decide +kernel), List.mem_of_getElem? (i := 697) (by decide +kernel), List.mem_of_getElem? (i := 698) (by decide +kernel)⟩
theorem lw_p17 : lw_okq (⟨"UnlikeBoats$Rules", "run", "(II[I[I)I"⟩, 6) := ⟨⟨by decide +kernel, by decide +kernel⟩, List.mem_of_getElem? (i := 709) (by decide +kernel), List.mem_of_getElem? (i := 776) (by decide +kernel), List.mem_of_getElem? (i := 777) (by decide +kernel)⟩
theorem lw_p18 : lw_okq (⟨"UnlikeBoats$Sheet", "placeOf", "(I)I"⟩, 9) := ⟨⟨by decide +kernel, by decide +kernel⟩, List.mem_of_getElem? (i := 179) (by decide +kernel), List.mem_of_getElem? (i := 964) (by decide +kernel), List.mem_of_getElem? (i := 965) (by decide +kernel)⟩
theorem lw_p19 : lw_okq (⟨"UnlikeBoats$Scores", "meanBeside", "(III)I"⟩, 10) := ⟨⟨by decide +kernel, by decide +kernel⟩, List.mem_of_getElem? (i := 221) (by decide +kernel), List.mem_of_getElem? (i := 1008) (by decide +kernel), List.mem_of_getElem? (i := 1009) (by decide +kernel)⟩
theorem lw_p20 : lw_okq (⟨"UnlikeBoats$Scores", "throwOutsIn", "(I)I"⟩, 10) := ⟨⟨by decide +kernel, by decide +kernel⟩, List.mem_of_getElem? (i := 221) (by decide +kernel), List.mem_of_getElem? (i := 1020) (by decide +kernel), List.mem_of_getElem? (i := 1021) (by decide +kernel)⟩
theorem lw_p21 : lw_okq (⟨"UnlikeBoats$Scores", "throwOut", "(II)V"⟩, 10) := ⟨⟨by decide +kernel, by decide +kernel⟩, List.mem_of_getElem? (i := 221) (by decide +kernel), List.mem_of_getElem? (i := 1029) (by decide +kernel), List.mem_of_getElem? (i := 1030) (by decide +kernel)⟩
theorem lw_p22 : lw_okq (⟨"UnlikeBoats$Scores", "worstOf", "(I)I"⟩, 10) := ⟨⟨by decide +kernel, by decide +kernel⟩, List.mem_of_getElem? (i := 221) (by decide +kernel), List.mem_of_getElem? (i := 1033) (by decide +kernel), List.mem_of_getElem? (i := 1034) (by decide +kernel)⟩
theorem lw_p23 : lw_okq (⟨"UnlikeBoats$Scores", "isBetter", "(II)Z"⟩, 10) := ⟨⟨by decide +kernel, by decide +kernel⟩, List.mem_of_getElem? (i := 221) (by decide +kernel), List.mem_of_getElem? (i := 1050) (by decide +kernel), List.mem_of_getElem? (i := 1051) (by decide +kernel)⟩
theorem lw_p24 : lw_okq (⟨"UnlikeBoats$Scores", "sortKept", "(I[I)I"⟩, 10) := ⟨⟨by decide +kernel, by decide +kernel⟩, List.mem_of_getElem? (i := 221) (by decide +kernel), List.mem_of_getElem? (i := 1054) (by decide +kernel), List.mem_of_getElem? (i := 1055) (by decide +kernel)⟩
theorem lw_p25 : lw_okq (⟨"UnlikeBoats$Hearing", "narrow", "(ILUnlikeBoats$Word;I)V"⟩, 10) := ⟨⟨by decide +kernel, by decide +kernel⟩, List.mem_of_getElem? (i := 262) (by decide +kernel), List.mem_of_getElem? (i := 1182) (by decide +kernel), List.mem_of_getElem? (i := 1183) (by decide +kernel)⟩
theorem lw_p26 : lw_okq (⟨"UnlikeBoats$Hearing", "gatherTacks", "()V"⟩, 10) := ⟨⟨by decide +kernel, by decide +kernel⟩, List.mem_of_getElem? (i := 262) (by decide +kernel), List.mem_of_getElem? (i := 1204) (by decide +kernel), List.mem_of_getElem? (i := 1205) (by decide +kernel)⟩
theorem lw_p27 : lw_okq (⟨"UnlikeBoats$Hearing", "starboard", "(I)I"⟩, 10) := ⟨⟨by decide +kernel, by decide +kernel⟩, List.mem_of_getElem? (i := 262) (by decide +kernel), List.mem_of_getElem? (i := 1208) (by decide +kernel), List.mem_of_getElem? (i := 1209) (by decide +kernel)⟩
theorem lw_p28 : lw_okq (⟨"UnlikeBoats$Hearing", "faultsFrom", "(II)I"⟩, 10) := ⟨⟨by decide +kernel, by decide +kernel⟩, List.mem_of_getElem? (i := 262) (by decide +kernel), List.mem_of_getElem? (i := 1212) (by decide +kernel), List.mem_of_getElem? (i := 1213) (by decide +kernel)⟩
theorem lw_p29 : lw_okq (⟨"UnlikeBoats$Hearing", "faultsOnTacks", "()I"⟩, 10) := ⟨⟨by decide +kernel, by decide +kernel⟩, List.mem_of_getElem? (i := 262) (by decide +kernel), List.mem_of_getElem? (i := 1224) (by decide +kernel), List.mem_of_getElem? (i := 1225) (by decide +kernel)⟩
theorem lw_p30 : lw_okq (⟨"UnlikeBoats$Office", "gatherChanged", "(I)V"⟩, 18) := ⟨⟨by decide +kernel, by decide +kernel⟩, List.mem_of_getElem? (i := 299) (by decide +kernel), List.mem_of_getElem? (i := 1269) (by decide +kernel), List.mem_of_getElem? (i := 1270) (by decide +kernel)⟩
theorem lw_p31 : lw_okq (⟨"UnlikeBoats$Office", "spreadTried", "(I)I"⟩, 18) := ⟨⟨by decide +kernel, by decide +kernel⟩, List.mem_of_getElem? (i := 299) (by decide +kernel), List.mem_of_getElem? (i := 1281) (by decide +kernel), List.mem_of_getElem? (i := 1282) (by decide +kernel)⟩
def lw_privs_2 : List (MethodName × Nat) := [(⟨"UnlikeBoats$Tape", "readComparison", "(I)V"⟩, 10), (⟨"UnlikeBoats$Rules", "run", "(II[I[I)I"⟩, 6), (⟨"UnlikeBoats$Sheet", "placeOf", "(I)I"⟩, 9), (⟨"UnlikeBoats$Scores", "meanBeside", "(III)I"⟩, 10), (⟨"UnlikeBoats$Scores", "throwOutsIn", "(I)I"⟩, 10), (⟨"UnlikeBoats$Scores", "throwOut", "(II)V"⟩, 10), (⟨"UnlikeBoats$Scores", "worstOf", "(I)I"⟩, 10), (⟨"UnlikeBoats$Scores", "isBetter", "(II)Z"⟩, 10), (⟨"UnlikeBoats$Scores", "sortKept", "(I[I)I"⟩, 10), (⟨"UnlikeBoats$Hearing", "narrow", "(ILUnlikeBoats$Word;I)V"⟩, 10), (⟨"UnlikeBoats$Hearing", "gatherTacks", "()V"⟩, 10), (⟨"UnlikeBoats$Hearing", "starboard", "(I)I"⟩, 10), (⟨"UnlikeBoats$Hearing", "faultsFrom", "(II)I"⟩, 10), (⟨"UnlikeBoats$Hearing", "faultsOnTacks", "()I"⟩, 10), (⟨"UnlikeBoats$Office", "gatherChanged", "(I)V"⟩, 18), (⟨"UnlikeBoats$Office", "spreadTried", "(I)I"⟩, 18)]
theorem lw_r2 : ∀ q ∈ lw_privs_2, lw_okq q := List.forall_mem_cons.mpr ⟨lw_p16, List.forall_mem_cons.mpr ⟨lw_p17, List.forall_mem_cons.mpr ⟨lw_p18, List.forall_mem_cons.mpr ⟨lw_p19, List.forall_mem_cons.mpr ⟨lw_p20, List.forall_mem_cons.mpr ⟨lw_p21, List.forall_mem_cons.mpr ⟨lw_p22, List.forall_mem_cons.mpr ⟨lw_p23, List.forall_mem_cons.mpr ⟨lw_p24, List.forall_mem_cons.mpr ⟨lw_p25, List.forall_mem_cons.mpr ⟨lw_p26, List.forall_mem_cons.mpr ⟨lw_p27, List.forall_mem_cons.mpr ⟨lw_p28, List.forall_mem_cons.mpr ⟨lw_p29, List.forall_mem_cons.mpr ⟨lw_p30, List.forall_mem_cons.mpr ⟨lw_p31, fun _ h => absurd h List.not_mem_nil⟩⟩⟩⟩⟩⟩⟩⟩⟩⟩⟩⟩⟩⟩⟩⟩
theorem lw_p32 : lw_okq (⟨"UnlikeBoats$Office", "gather", "(I)I"⟩, 18) := ⟨⟨by decide +kernel, by decide +kernel⟩, List.mem_of_getElem? (i := 299) (by decide +kernel), List.mem_of_getElem? (i := 1313) (by decide +kernel), List.mem_of_getElem? (i := 1314) (by decide +kernel)⟩
theorem lw_p33 : lw_okq (⟨"UnlikeBoats$Office", "jumpAt", "(II)I"⟩, 18) := ⟨⟨by decide +kernel, by decide +kernel⟩, List.mem_of_getElem? (i := 299) (by decide +kernel), List.mem_of_getElem? (i := 1326) (by decide +kernel), List.mem_of_getElem? (i := 1327) (by decide +kernel)⟩
theorem lw_p34 : lw_okq (⟨"UnlikeBoats$Office", "meanOf", "(II)I"⟩, 18) := ⟨⟨by decide +kernel, by decide +kernel⟩, List.mem_of_getElem? (i := 299) (by decide +kernel), List.mem_of_getElem? (i := 1330) (by decide +kernel), List.mem_of_getElem? (i := 1331) (by decide +kernel)⟩
theorem lw_p35 : lw_okq (⟨"UnlikeBoats$Office", "boatWithin", "(I)I"⟩, 18) := ⟨⟨by decide +kernel, by decide +kernel⟩, List.mem_of_getElem? (i := 299) (by decide +kernel), List.mem_of_getElem? (i := 1374) (by decide +kernel), List.mem_of_getElem? (i := 1375) (by decide +kernel)⟩
theorem lw_p36 : lw_okq (⟨"java/lang/Throwable", "fillInStackTrace", "(I)Ljava/lang/Throwable;"⟩, 6) := ⟨⟨by decide +kernel, by decide +kernel⟩, List.mem_of_getElem? (i := 1431) (by decide +kernel), List.mem_of_getElem? (i := 1429) (by decide +kernel), List.mem_of_getElem? (i := 1430) (by decide +kernel)⟩
theorem lw_p37 : lw_okq (⟨"UnlikeBoatsModel", "isBoat", "(I)Z"⟩, 97) := ⟨⟨by decide +kernel, by decide +kernel⟩, List.mem_of_getElem? (i := 1463) (by decide +kernel), List.mem_of_getElem? (i := 1780) (by decide +kernel), List.mem_of_getElem? (i := 1781) (by decide +kernel)⟩
theorem lw_p38 : lw_okq (⟨"UnlikeBoatsModel", "isKnown", "(I)Z"⟩, 97) := ⟨⟨by decide +kernel, by decide +kernel⟩, List.mem_of_getElem? (i := 1463) (by decide +kernel), List.mem_of_getElem? (i := 1791) (by decide +kernel), List.mem_of_getElem? (i := 1792) (by decide +kernel)⟩
theorem lw_p39 : lw_okq (⟨"UnlikeBoatsModel", "certOn", "(III)I"⟩, 97) := ⟨⟨by decide +kernel, by decide +kernel⟩, List.mem_of_getElem? (i := 1463) (by decide +kernel), List.mem_of_getElem? (i := 1795) (by decide +kernel), List.mem_of_getElem? (i := 1796) (by decide +kernel)⟩
theorem lw_p40 : lw_okq (⟨"UnlikeBoatsModel", "put", "(I)V"⟩, 97) := ⟨⟨by decide +kernel, by decide +kernel⟩, List.mem_of_getElem? (i := 1463) (by decide +kernel), List.mem_of_getElem? (i := 1806) (by decide +kernel), List.mem_of_getElem? (i := 1807) (by decide +kernel)⟩
theorem lw_p41 : lw_okq (⟨"UnlikeBoatsModel", "goThrough", "([BIII)V"⟩, 97) := ⟨⟨by decide +kernel, by decide +kernel⟩, List.mem_of_getElem? (i := 1463) (by decide +kernel), List.mem_of_getElem? (i := 1818) (by decide +kernel), List.mem_of_getElem? (i := 1819) (by decide +kernel)⟩
theorem lw_p42 : lw_okq (⟨"UnlikeBoatsModel", "clause", "()V"⟩, 97) := ⟨⟨by decide +kernel, by decide +kernel⟩, List.mem_of_getElem? (i := 1463) (by decide +kernel), List.mem_of_getElem? (i := 1822) (by decide +kernel), List.mem_of_getElem? (i := 1823) (by decide +kernel)⟩
theorem lw_p43 : lw_okq (⟨"UnlikeBoatsModel", "look", "()I"⟩, 97) := ⟨⟨by decide +kernel, by decide +kernel⟩, List.mem_of_getElem? (i := 1463) (by decide +kernel), List.mem_of_getElem? (i := 1826) (by decide +kernel), List.mem_of_getElem? (i := 1827) (by decide +kernel)⟩
theorem lw_p44 : lw_okq (⟨"UnlikeBoatsModel", "stop", "()Z"⟩, 97) := ⟨⟨by decide +kernel, by decide +kernel⟩, List.mem_of_getElem? (i := 1463) (by decide +kernel), List.mem_of_getElem? (i := 1832) (by decide +kernel), List.mem_of_getElem? (i := 1833) (by decide +kernel)⟩
theorem lw_p45 : lw_okq (⟨"UnlikeBoatsModel", "takes", "(I)Z"⟩, 97) := ⟨⟨by decide +kernel, by decide +kernel⟩, List.mem_of_getElem? (i := 1463) (by decide +kernel), List.mem_of_getElem? (i := 1836) (by decide +kernel), List.mem_of_getElem? (i := 1837) (by decide +kernel)⟩
theorem lw_p46 : lw_okq (⟨"UnlikeBoatsModel", "condition", "(ZI)Z"⟩, 97) := ⟨⟨by decide +kernel, by decide +kernel⟩, List.mem_of_getElem? (i := 1463) (by decide +kernel), List.mem_of_getElem? (i := 1840) (by decide +kernel), List.mem_of_getElem? (i := 1841) (by decide +kernel)⟩
theorem lw_p47 : lw_okq (⟨"UnlikeBoatsModel", "part", "(ZI)Z"⟩, 97) := ⟨⟨by decide +kernel, by decide +kernel⟩, List.mem_of_getElem? (i := 1463) (by decide +kernel), List.mem_of_getElem? (i := 1844) (by decide +kernel), List.mem_of_getElem? (i := 1845) (by decide +kernel)⟩
def lw_privs_3 : List (MethodName × Nat) := [(⟨"UnlikeBoats$Office", "gather", "(I)I"⟩, 18), (⟨"UnlikeBoats$Office", "jumpAt", "(II)I"⟩, 18), (⟨"UnlikeBoats$Office", "meanOf", "(II)I"⟩, 18), (⟨"UnlikeBoats$Office", "boatWithin", "(I)I"⟩, 18), (⟨"java/lang/Throwable", "fillInStackTrace", "(I)Ljava/lang/Throwable;"⟩, 6), (⟨"UnlikeBoatsModel", "isBoat", "(I)Z"⟩, 97), (⟨"UnlikeBoatsModel", "isKnown", "(I)Z"⟩, 97), (⟨"UnlikeBoatsModel", "certOn", "(III)I"⟩, 97), (⟨"UnlikeBoatsModel", "put", "(I)V"⟩, 97), (⟨"UnlikeBoatsModel", "goThrough", "([BIII)V"⟩, 97), (⟨"UnlikeBoatsModel", "clause", "()V"⟩, 97), (⟨"UnlikeBoatsModel", "look", "()I"⟩, 97), (⟨"UnlikeBoatsModel", "stop", "()Z"⟩, 97), (⟨"UnlikeBoatsModel", "takes", "(I)Z"⟩, 97), (⟨"UnlikeBoatsModel", "condition", "(ZI)Z"⟩, 97), (⟨"UnlikeBoatsModel", "part", "(ZI)Z"⟩, 97)]
theorem lw_r3 : ∀ q ∈ lw_privs_3, lw_okq q := List.forall_mem_cons.mpr ⟨lw_p32, List.forall_mem_cons.mpr ⟨lw_p33, List.forall_mem_cons.mpr ⟨lw_p34, List.forall_mem_cons.mpr ⟨lw_p35, List.forall_mem_cons.mpr ⟨lw_p36, List.forall_mem_cons.mpr ⟨lw_p37, List.forall_mem_cons.mpr ⟨lw_p38, List.forall_mem_cons.mpr ⟨lw_p39, List.forall_mem_cons.mpr ⟨lw_p40, List.forall_mem_cons.mpr ⟨lw_p41, List.forall_mem_cons.mpr ⟨lw_p42, List.forall_mem_cons.mpr ⟨lw_p43, List.forall_mem_cons.mpr ⟨lw_p44, List.forall_mem_cons.mpr ⟨lw_p45, List.forall_mem_cons.mpr ⟨lw_p46, List.forall_mem_cons.mpr ⟨lw_p47, fun _ h => absurd h List.not_mem_nil⟩⟩⟩⟩⟩⟩⟩⟩⟩⟩⟩⟩⟩⟩⟩⟩
theorem lw_p48 : lw_okq (⟨"UnlikeBoatsModel", "compares", "(ZI)Z"⟩, 97) := ⟨⟨by decide +kernel, by decide +kernel⟩, List.mem_of_getElem? (i := 1463) (by decide +kernel), List.mem_of_getElem? (i := 1848) (by decide +kernel), List.mem_of_getElem? (i := 1849) (by decide +kernel)⟩
theorem lw_p49 : lw_okq (⟨"UnlikeBoatsModel", "sum", "()I"⟩, 97) := ⟨⟨by decide +kernel, by decide +kernel⟩, List.mem_of_getElem? (i := 1463) (by decide +kernel), List.mem_of_getElem? (i := 1852) (by decide +kernel), List.mem_of_getElem? (i := 1853) (by decide +kernel)⟩
theorem lw_p50 : lw_okq (⟨"UnlikeBoatsModel", "term", "()I"⟩, 97) := ⟨⟨by decide +kernel, by decide +kernel⟩, List.mem_of_getElem? (i := 1463) (by decide +kernel), List.mem_of_getElem? (i := 1856) (by decide +kernel), List.mem_of_getElem? (i := 1857) (by decide +kernel)⟩
theorem lw_p51 : lw_okq (⟨"UnlikeBoatsModel", "atom", "()I"⟩, 97) := ⟨⟨by decide +kernel, by decide +kernel⟩, List.mem_of_getElem? (i := 1463) (by decide +kernel), List.mem_of_getElem? (i := 1860) (by decide +kernel), List.mem_of_getElem? (i := 1861) (by decide +kernel)⟩
theorem lw_p52 : lw_okq (⟨"UnlikeBoatsModel", "goesIn", "()Z"⟩, 97) := ⟨⟨by decide +kernel, by decide +kernel⟩, List.mem_of_getElem? (i := 1463) (by decide +kernel), List.mem_of_getElem? (i := 1865) (by decide +kernel), List.mem_of_getElem? (i := 1866) (by decide +kernel)⟩
theorem lw_p53 : lw_okq (⟨"UnlikeBoatsModel", "isDigit", "()Z"⟩, 97) := ⟨⟨by decide +kernel, by decide +kernel⟩, List.mem_of_getElem? (i := 1463) (by decide +kernel), List.mem_of_getElem? (i := 1869) (by decide +kernel), List.mem_of_getElem? (i := 1870) (by decide +kernel)⟩
theorem lw_p54 : lw_okq (⟨"UnlikeBoatsModel", "unit", "()Z"⟩, 97) := ⟨⟨by decide +kernel, by decide +kernel⟩, List.mem_of_getElem? (i := 1463) (by decide +kernel), List.mem_of_getElem? (i := 1887) (by decide +kernel), List.mem_of_getElem? (i := 1888) (by decide +kernel)⟩
theorem lw_p55 : lw_okq (⟨"UnlikeBoatsModel", "rulesOn", "(II)I"⟩, 97) := ⟨⟨by decide +kernel, by decide +kernel⟩, List.mem_of_getElem? (i := 1463) (by decide +kernel), List.mem_of_getElem? (i := 1899) (by decide +kernel), List.mem_of_getElem? (i := 1900) (by decide +kernel)⟩
theorem lw_p56 : lw_okq (⟨"UnlikeBoatsModel", "numberOf", "(III)I"⟩, 97) := ⟨⟨by decide +kernel, by decide +kernel⟩, List.mem_of_getElem? (i := 1463) (by decide +kernel), List.mem_of_getElem? (i := 1907) (by decide +kernel), List.mem_of_getElem? (i := 1908) (by decide +kernel)⟩
theorem lw_p57 : lw_okq (⟨"UnlikeBoatsModel", "clear", "()V"⟩, 97) := ⟨⟨by decide +kernel, by decide +kernel⟩, List.mem_of_getElem? (i := 1463) (by decide +kernel), List.mem_of_getElem? (i := 1911) (by decide +kernel), List.mem_of_getElem? (i := 1912) (by decide +kernel)⟩
theorem lw_p58 : lw_okq (⟨"UnlikeBoatsModel", "worth", "(III)I"⟩, 97) := ⟨⟨by decide +kernel, by decide +kernel⟩, List.mem_of_getElem? (i := 1463) (by decide +kernel), List.mem_of_getElem? (i := 1915) (by decide +kernel), List.mem_of_getElem? (i := 1916) (by decide +kernel)⟩
theorem lw_p59 : lw_okq (⟨"UnlikeBoatsModel", "isRace", "(I)Z"⟩, 97) := ⟨⟨by decide +kernel, by decide +kernel⟩, List.mem_of_getElem? (i := 1463) (by decide +kernel), List.mem_of_getElem? (i := 1929) (by decide +kernel), List.mem_of_getElem? (i := 1930) (by decide +kernel)⟩
theorem lw_p60 : lw_okq (⟨"UnlikeBoatsModel", "isEntered", "(III)Z"⟩, 97) := ⟨⟨by decide +kernel, by decide +kernel⟩, List.mem_of_getElem? (i := 1463) (by decide +kernel), List.mem_of_getElem? (i := 1937) (by decide +kernel), List.mem_of_getElem? (i := 1938) (by decide +kernel)⟩
theorem lw_p61 : lw_okq (⟨"UnlikeBoatsModel", "isEntry", "(II)Z"⟩, 97) := ⟨⟨by decide +kernel, by decide +kernel⟩, List.mem_of_getElem? (i := 1463) (by decide +kernel), List.mem_of_getElem? (i := 1945) (by decide +kernel), List.mem_of_getElem? (i := 1946) (by decide +kernel)⟩
theorem lw_p62 : lw_okq (⟨"UnlikeBoatsModel", "asksEntry", "(III)Z"⟩, 97) := ⟨⟨by decide +kernel, by decide +kernel⟩, List.mem_of_getElem? (i := 1463) (by decide +kernel), List.mem_of_getElem? (i := 1954) (by decide +kernel), List.mem_of_getElem? (i := 1955) (by decide +kernel)⟩
theorem lw_p63 : lw_okq (⟨"UnlikeBoatsModel", "asks", "(III)Z"⟩, 97) := ⟨⟨by decide +kernel, by decide +kernel⟩, List.mem_of_getElem? (i := 1463) (by decide +kernel), List.mem_of_getElem? (i := 1958) (by decide +kernel), List.mem_of_getElem? (i := 1959) (by decide +kernel)⟩
def lw_privs_4 : List (MethodName × Nat) := [(⟨"UnlikeBoatsModel", "compares", "(ZI)Z"⟩, 97), (⟨"UnlikeBoatsModel", "sum", "()I"⟩, 97), (⟨"UnlikeBoatsModel", "term", "()I"⟩, 97), (⟨"UnlikeBoatsModel", "atom", "()I"⟩, 97), (⟨"UnlikeBoatsModel", "goesIn", "()Z"⟩, 97), (⟨"UnlikeBoatsModel", "isDigit", "()Z"⟩, 97), (⟨"UnlikeBoatsModel", "unit", "()Z"⟩, 97), (⟨"UnlikeBoatsModel", "rulesOn", "(II)I"⟩, 97), (⟨"UnlikeBoatsModel", "numberOf", "(III)I"⟩, 97), (⟨"UnlikeBoatsModel", "clear", "()V"⟩, 97), (⟨"UnlikeBoatsModel", "worth", "(III)I"⟩, 97), (⟨"UnlikeBoatsModel", "isRace", "(I)Z"⟩, 97), (⟨"UnlikeBoatsModel", "isEntered", "(III)Z"⟩, 97), (⟨"UnlikeBoatsModel", "isEntry", "(II)Z"⟩, 97), (⟨"UnlikeBoatsModel", "asksEntry", "(III)Z"⟩, 97), (⟨"UnlikeBoatsModel", "asks", "(III)Z"⟩, 97)]
theorem lw_r4 : ∀ q ∈ lw_privs_4, lw_okq q := List.forall_mem_cons.mpr ⟨lw_p48, List.forall_mem_cons.mpr ⟨lw_p49, List.forall_mem_cons.mpr ⟨lw_p50, List.forall_mem_cons.mpr ⟨lw_p51, List.forall_mem_cons.mpr ⟨lw_p52, List.forall_mem_cons.mpr ⟨lw_p53, List.forall_mem_cons.mpr ⟨lw_p54, List.forall_mem_cons.mpr ⟨lw_p55, List.forall_mem_cons.mpr ⟨lw_p56, List.forall_mem_cons.mpr ⟨lw_p57, List.forall_mem_cons.mpr ⟨lw_p58, List.forall_mem_cons.mpr ⟨lw_p59, List.forall_mem_cons.mpr ⟨lw_p60, List.forall_mem_cons.mpr ⟨lw_p61, List.forall_mem_cons.mpr ⟨lw_p62, List.forall_mem_cons.mpr ⟨lw_p63, fun _ h => absurd h List.not_mem_nil⟩⟩⟩⟩⟩⟩⟩⟩⟩⟩⟩⟩⟩⟩⟩⟩
theorem lw_p64 : lw_okq (⟨"UnlikeBoatsModel", "codeOf", "(III)I"⟩, 97) := ⟨⟨by decide +kernel, by decide +kernel⟩, List.mem_of_getElem? (i := 1463) (by decide +kernel), List.mem_of_getElem? (i := 1962) (by decide +kernel), List.mem_of_getElem? (i := 1963) (by decide +kernel)⟩
theorem lw_p65 : lw_okq (⟨"UnlikeBoatsModel", "isOut", "(III)Z"⟩, 97) := ⟨⟨by decide +kernel, by decide +kernel⟩, List.mem_of_getElem? (i := 1463) (by decide +kernel), List.mem_of_getElem? (i := 1966) (by decide +kernel), List.mem_of_getElem? (i := 1967) (by decide +kernel)⟩
theorem lw_p66 : lw_okq (⟨"UnlikeBoatsModel", "resultOf", "(III)I"⟩, 97) := ⟨⟨by decide +kernel, by decide +kernel⟩, List.mem_of_getElem? (i := 1463) (by decide +kernel), List.mem_of_getElem? (i := 1970) (by decide +kernel), List.mem_of_getElem? (i := 1971) (by decide +kernel)⟩
theorem lw_p67 : lw_okq (⟨"UnlikeBoatsModel", "correctedOf", "(III)I"⟩, 97) := ⟨⟨by decide +kernel, by decide +kernel⟩, List.mem_of_getElem? (i := 1463) (by decide +kernel), List.mem_of_getElem? (i := 1978) (by decide +kernel), List.mem_of_getElem? (i := 1979) (by decide +kernel)⟩
theorem lw_p68 : lw_okq (⟨"UnlikeBoatsModel", "secondsOf", "(III)I"⟩, 97) := ⟨⟨by decide +kernel, by decide +kernel⟩, List.mem_of_getElem? (i := 1463) (by decide +kernel), List.mem_of_getElem? (i := 1982) (by decide +kernel), List.mem_of_getElem? (i := 1983) (by decide +kernel)⟩
theorem lw_p69 : lw_okq (⟨"UnlikeBoatsModel", "correct", "(III)I"⟩, 97) := ⟨⟨by decide +kernel, by decide +kernel⟩, List.mem_of_getElem? (i := 1463) (by decide +kernel), List.mem_of_getElem? (i := 1986) (by decide +kernel), List.mem_of_getElem? (i := 1987) (by decide +kernel)⟩
theorem lw_p70 : lw_okq (⟨"UnlikeBoatsModel", "placeOf", "(III)I"⟩, 97) := ⟨⟨by decide +kernel, by decide +kernel⟩, List.mem_of_getElem? (i := 1463) (by decide +kernel), List.mem_of_getElem? (i := 1995) (by decide +kernel), List.mem_of_getElem? (i := 1996) (by decide +kernel)⟩
theorem lw_p71 : lw_okq (⟨"UnlikeBoatsModel", "hasRedress", "(III)Z"⟩, 97) := ⟨⟨by decide +kernel, by decide +kernel⟩, List.mem_of_getElem? (i := 1463) (by decide +kernel), List.mem_of_getElem? (i := 2003) (by decide +kernel), List.mem_of_getElem? (i := 2004) (by decide +kernel)⟩
theorem lw_p72 : lw_okq (⟨"UnlikeBoatsModel", "pointsOf", "(III)I"⟩, 97) := ⟨⟨by decide +kernel, by decide +kernel⟩, List.mem_of_getElem? (i := 1463) (by decide +kernel), List.mem_of_getElem? (i := 2011) (by decide +kernel), List.mem_of_getElem? (i := 2012) (by decide +kernel)⟩
theorem lw_p73 : lw_okq (⟨"UnlikeBoatsModel", "pointsByText", "(III)I"⟩, 97) := ⟨⟨by decide +kernel, by decide +kernel⟩, List.mem_of_getElem? (i := 1463) (by decide +kernel), List.mem_of_getElem? (i := 2015) (by decide +kernel), List.mem_of_getElem? (i := 2016) (by decide +kernel)⟩
theorem lw_p74 : lw_okq (⟨"UnlikeBoatsModel", "score", "(I)Z"⟩, 97) := ⟨⟨by decide +kernel, by decide +kernel⟩, List.mem_of_getElem? (i := 1463) (by decide +kernel), List.mem_of_getElem? (i := 2023) (by decide +kernel), List.mem_of_getElem? (i := 2024) (by decide +kernel)⟩
theorem lw_p75 : lw_okq (⟨"UnlikeBoatsModel", "isBetter", "(II)Z"⟩, 97) := ⟨⟨by decide +kernel, by decide +kernel⟩, List.mem_of_getElem? (i := 1463) (by decide +kernel), List.mem_of_getElem? (i := 2035) (by decide +kernel), List.mem_of_getElem? (i := 2036) (by decide +kernel)⟩
theorem lw_p76 : lw_okq (⟨"UnlikeBoatsModel", "sorted", "(I[I)I"⟩, 97) := ⟨⟨by decide +kernel, by decide +kernel⟩, List.mem_of_getElem? (i := 1463) (by decide +kernel), List.mem_of_getElem? (i := 2039) (by decide +kernel), List.mem_of_getElem? (i := 2040) (by decide +kernel)⟩
theorem lw_p77 : lw_okq (⟨"UnlikeBoatsModel", "asksProtest", "(III)Z"⟩, 97) := ⟨⟨by decide +kernel, by decide +kernel⟩, List.mem_of_getElem? (i := 1463) (by decide +kernel), List.mem_of_getElem? (i := 2056) (by decide +kernel), List.mem_of_getElem? (i := 2057) (by decide +kernel)⟩
theorem lw_p78 : lw_okq (⟨"UnlikeBoatsModel", "findStates", "(IIIII)V"⟩, 97) := ⟨⟨by decide +kernel, by decide +kernel⟩, List.mem_of_getElem? (i := 1463) (by decide +kernel), List.mem_of_getElem? (i := 2060) (by decide +kernel), List.mem_of_getElem? (i := 2061) (by decide +kernel)⟩
theorem lw_p79 : lw_okq (⟨"UnlikeBoatsModel", "farFrom", "(III)I"⟩, 97) := ⟨⟨by decide +kernel, by decide +kernel⟩, List.mem_of_getElem? (i := 1463) (by decide +kernel), List.mem_of_getElem? (i := 2064) (by decide +kernel), List.mem_of_getElem? (i := 2065) (by decide +kernel)⟩
def lw_privs_5 : List (MethodName × Nat) := [(⟨"UnlikeBoatsModel", "codeOf", "(III)I"⟩, 97), (⟨"UnlikeBoatsModel", "isOut", "(III)Z"⟩, 97), (⟨"UnlikeBoatsModel", "resultOf", "(III)I"⟩, 97), (⟨"UnlikeBoatsModel", "correctedOf", "(III)I"⟩, 97), (⟨"UnlikeBoatsModel", "secondsOf", "(III)I"⟩, 97), (⟨"UnlikeBoatsModel", "correct", "(III)I"⟩, 97), (⟨"UnlikeBoatsModel", "placeOf", "(III)I"⟩, 97), (⟨"UnlikeBoatsModel", "hasRedress", "(III)Z"⟩, 97), (⟨"UnlikeBoatsModel", "pointsOf", "(III)I"⟩, 97), (⟨"UnlikeBoatsModel", "pointsByText", "(III)I"⟩, 97), (⟨"UnlikeBoatsModel", "score", "(I)Z"⟩, 97), (⟨"UnlikeBoatsModel", "isBetter", "(II)Z"⟩, 97), (⟨"UnlikeBoatsModel", "sorted", "(I[I)I"⟩, 97), (⟨"UnlikeBoatsModel", "asksProtest", "(III)Z"⟩, 97), (⟨"UnlikeBoatsModel", "findStates", "(IIIII)V"⟩, 97), (⟨"UnlikeBoatsModel", "farFrom", "(III)I"⟩, 97)]
theorem lw_r5 : ∀ q ∈ lw_privs_5, lw_okq q := List.forall_mem_cons.mpr ⟨lw_p64, List.forall_mem_cons.mpr ⟨lw_p65, List.forall_mem_cons.mpr ⟨lw_p66, List.forall_mem_cons.mpr ⟨lw_p67, List.forall_mem_cons.mpr ⟨lw_p68, List.forall_mem_cons.mpr ⟨lw_p69, List.forall_mem_cons.mpr ⟨lw_p70, List.forall_mem_cons.mpr ⟨lw_p71, List.forall_mem_cons.mpr ⟨lw_p72, List.forall_mem_cons.mpr ⟨lw_p73, List.forall_mem_cons.mpr ⟨lw_p74, List.forall_mem_cons.mpr ⟨lw_p75, List.forall_mem_cons.mpr ⟨lw_p76, List.forall_mem_cons.mpr ⟨lw_p77, List.forall_mem_cons.mpr ⟨lw_p78, List.forall_mem_cons.mpr ⟨lw_p79, fun _ h => absurd h List.not_mem_nil⟩⟩⟩⟩⟩⟩⟩⟩⟩⟩⟩⟩⟩⟩⟩⟩
theorem lw_p80 : lw_okq (⟨"UnlikeBoatsModel", "canBe", "(IIIIII)Z"⟩, 97) := ⟨⟨by decide +kernel, by decide +kernel⟩, List.mem_of_getElem? (i := 1463) (by decide +kernel), List.mem_of_getElem? (i := 2068) (by decide +kernel), List.mem_of_getElem? (i := 2069) (by decide +kernel)⟩
theorem lw_p81 : lw_okq (⟨"UnlikeBoatsModel", "findingOf", "(III)I"⟩, 97) := ⟨⟨by decide +kernel, by decide +kernel⟩, List.mem_of_getElem? (i := 1463) (by decide +kernel), List.mem_of_getElem? (i := 2077) (by decide +kernel), List.mem_of_getElem? (i := 2078) (by decide +kernel)⟩
theorem lw_p82 : lw_okq (⟨"UnlikeBoatsModel", "findEven", "(I)Z"⟩, 97) := ⟨⟨by decide +kernel, by decide +kernel⟩, List.mem_of_getElem? (i := 1463) (by decide +kernel), List.mem_of_getElem? (i := 2108) (by decide +kernel), List.mem_of_getElem? (i := 2109) (by decide +kernel)⟩
theorem lw_p83 : lw_okq (⟨"UnlikeBoatsModel", "tryChanges", "(I)V"⟩, 97) := ⟨⟨by decide +kernel, by decide +kernel⟩, List.mem_of_getElem? (i := 1463) (by decide +kernel), List.mem_of_getElem? (i := 2113) (by decide +kernel), List.mem_of_getElem? (i := 2114) (by decide +kernel)⟩
theorem lw_p84 : lw_okq (⟨"UnlikeBoatsModel", "middleOf", "(II)I"⟩, 97) := ⟨⟨by decide +kernel, by decide +kernel⟩, List.mem_of_getElem? (i := 1463) (by decide +kernel), List.mem_of_getElem? (i := 2127) (by decide +kernel), List.mem_of_getElem? (i := 2128) (by decide +kernel)⟩
theorem lw_p85 : lw_okq (⟨"UnlikeBoatsModel", "fitOf", "(I)I"⟩, 97) := ⟨⟨by decide +kernel, by decide +kernel⟩, List.mem_of_getElem? (i := 1463) (by decide +kernel), List.mem_of_getElem? (i := 2135) (by decide +kernel), List.mem_of_getElem? (i := 2136) (by decide +kernel)⟩
theorem lw_p86 : lw_okq (⟨"UnlikeBoatsModel", "suspected", "(I)I"⟩, 97) := ⟨⟨by decide +kernel, by decide +kernel⟩, List.mem_of_getElem? (i := 1463) (by decide +kernel), List.mem_of_getElem? (i := 2143) (by decide +kernel), List.mem_of_getElem? (i := 2144) (by decide +kernel)⟩
def lw_privs_6 : List (MethodName × Nat) := [(⟨"UnlikeBoatsModel", "canBe", "(IIIIII)Z"⟩, 97), (⟨"UnlikeBoatsModel", "findingOf", "(III)I"⟩, 97), (⟨"UnlikeBoatsModel", "findEven", "(I)Z"⟩, 97), (⟨"UnlikeBoatsModel", "tryChanges", "(I)V"⟩, 97), (⟨"UnlikeBoatsModel", "middleOf", "(II)I"⟩, 97), (⟨"UnlikeBoatsModel", "fitOf", "(I)I"⟩, 97), (⟨"UnlikeBoatsModel", "suspected", "(I)I"⟩, 97)]
theorem lw_r6 : ∀ q ∈ lw_privs_6, lw_okq q := List.forall_mem_cons.mpr ⟨lw_p80, List.forall_mem_cons.mpr ⟨lw_p81, List.forall_mem_cons.mpr ⟨lw_p82, List.forall_mem_cons.mpr ⟨lw_p83, List.forall_mem_cons.mpr ⟨lw_p84, List.forall_mem_cons.mpr ⟨lw_p85, List.forall_mem_cons.mpr ⟨lw_p86, fun _ h => absurd h List.not_mem_nil⟩⟩⟩⟩⟩⟩⟩
def lw_privs : List (MethodName × Nat) := lw_privs_1 ++ (lw_privs_2 ++ (lw_privs_3 ++ (lw_privs_4 ++ (lw_privs_5 ++ (lw_privs_6)))))
def lw_tbl : List Cond := k2_sels lw_privs ++ tables_1
theorem lw_privs_ok : ∀ q ∈ lw_privs, lw_okq q := by
  show ∀ q ∈ lw_privs_1 ++ (lw_privs_2 ++ (lw_privs_3 ++ (lw_privs_4 ++ (lw_privs_5 ++ (lw_privs_6))))), lw_okq q
  exact List.forall_mem_append.mpr ⟨lw_r1, List.forall_mem_append.mpr ⟨lw_r2, List.forall_mem_append.mpr ⟨lw_r3, List.forall_mem_append.mpr ⟨lw_r4, List.forall_mem_append.mpr ⟨lw_r5, lw_r6⟩⟩⟩⟩⟩
-- ===== end of PART A; then your names; then what follows =====
/-! ===== BEGIN words of one list among another's, by their places ===== -/
theorem goodIn_r {big : List Cond} (ws : List Cond) (ps : List Nat) (hp : ws = ps.filterMap (fun i => big[i]?)) (h : ws.all goodWord = true) : GoodIn big ws := by
  intro w hw
  have h1 := List.all_eq_true.mp h w hw
  rw [hp] at hw
  obtain ⟨i, -, hi⟩ := List.mem_filterMap.mp hw
  have hm : w ∈ big := by first | exact List.mem_of_getElem? hi | exact List.getElem?_mem hi
  exact ⟨hm, good_of_word h1⟩
theorem goodIn_app {big a b : List Cond} (ha : GoodIn big a) (hb : GoodIn big b) : GoodIn big (a ++ b) := fun w h => (List.mem_append.mp h).elim (ha w) (hb w)
theorem goodIn_ca {big a b : List Cond} {c : Cond} (ha : GoodIn big (c :: a)) (hb : GoodIn big b) : GoodIn big (c :: (a ++ b)) := fun w h => (List.mem_cons.mp h).elim (fun e => ha w (List.mem_cons.mpr (Or.inl e))) (fun h => (List.mem_append.mp h).elim (fun h => ha w (List.mem_cons.mpr (Or.inr h))) (hb w))
theorem goodIn_sub {big ws : List Cond} (hm : ∀ w ∈ ws, w ∈ big) (h : ws.all goodWord = true) : GoodIn big ws := fun w hw => ⟨hm w hw, good_of_word (List.all_eq_true.mp h w hw)⟩
/-! ===== END ===== -/

/-! ===== BEGIN exceptions that leave a method, and their catching by the caller (launches without stack traces) ===== -/
section VXA
/-! The laws vx_back, vx_callV, vx_callS, vx_callSW, vx_throw0, vx_throwS follow proofs of the library, with one case more: JvmDerived/Free/Laws.lean (Back.of_free), Shelf42/LK1.lean (callV, callS), Shelf/KitTraced.lean (throwNew0V, throwNewS). -/
/-- where a method has thrown q: the class by its name, the cell, what was written, the world -/
def vx_T (XC : String → State → State → Prop) (st : State) (q : Addr) (t : State) (mc ms : Nat) (free : Addr → Prop) : Prop :=
  ∃ (E : String) (ce : Cell) (L : List Loc), XC E st t ∧ t.heap[q]? = some ce ∧ ce.vm = .none ∧ st.vm.findClass E = some ce.cls ∧ st.WarmedH t.vm ∧ st.sameButNew ({ t with vm := st.vm } : State) L mc ms ∧ ∀ z ∈ L, free z.base
def vx_Q (Qc : Array Value → State → Outcome → State → Prop) (XC : String → State → State → Prop) (mc ms : Nat) (free : Addr → Prop) : Array Value → State → Outcome → State → Prop := fun a st o t =>
  (Qc a st o t ∧ ∃ L, FrameEnd st o t L mc ms ∧ ∀ q ∈ L, free q.base) ∨ ∃ q, o = .threw q ∧ vx_T XC st q t mc ms free
/-- a callee that returns or throws -/
def vx_Met (l : Launch) (y : MethodName) (ws : List Cond) (rm : Room) (Pc : Array Value → State → Prop) (Qc : Array Value → State → Outcome → State → Prop) (XC : String → State → State → Prop) (mc ms : Nat) (free : Addr → Prop) : Prop :=
  MetFree l y (headSpec ws rm) Pc (fun _ _ _ _ _ => True) (vx_Q Qc XC mc ms free)
def vx_Post (XC : String → State → State → Prop) (mc ms : Nat) (free : Addr → Prop) : Pt → Array Value → Addr → Pt → Prop := fun A a q B =>
  ∃ (g : JFrame) (mk : MethodId) (t : State) (L : List Loc) (E : String) (ce : Cell), B.U.heap = t.heap ∧ B.U.vm = t.vm ∧ XC E (A.U.calling g mk a) t ∧ t.heap[q]? = some ce ∧ ce.vm = .none ∧ A.U.vm.findClass E = some ce.cls ∧ B.locs = A.locs ++ L ∧ (∀ z ∈ L, free z.base) ∧ B.cells = A.cells + mc ∧ B.slots = A.slots + ms
def vx_Back (l : Launch) (R : Room) (p : Program) (e : Env) (below : List Frame) (s : State) (sargs : Array Value) (y : MethodName) (len W9 : Nat)
    (Pre : Pt → Array Value → Prop) (Post : Pt → Array Value → Option Value → Pt → Prop) (PostX : Pt → Array Value → Addr → Pt → Prop) : Prop :=
  ∀ (m : MethodId) (meth : Method) (c : Code) (A : Pt) (g : JFrame) (ig : Instr) (mk : MethodId) (a : Array Value),
    Stand p l e R s m sargs below meth c A.U A.locs A.cells A.slots → g.method = m → g.locals.size = c.maxLocals → decode c.code g.pc = .ok (ig, len) →
    2 * g.monitorRoom + (g.stack.map fun v => v.category).sum ≤ W9 → A.U.methodNamed? y = some mk → Pre A a →
    (∃ (v : Option Value) (B : Pt), Stand p l e R s m sargs below meth c B.U B.locs B.cells B.slots ∧ Post A a v B ∧
      Steps p.tables e below (doInvoke e (A.U.setTop g) [] mk a).1 (B.U.setTop { g with pc := g.pc + len, stack := v.toList ++ g.stack })) ∨
    (∃ (q : Addr) (B : Pt), Stand p l e R s m sargs below meth c B.U B.locs B.cells B.slots ∧ PostX A a q B ∧
      Steps p.tables e below (doInvoke e (A.U.setTop g) [] mk a).1 ((B.U.setTop g).pushFrame (.throwing q)))
section Payer
variable {l : Launch} {R : Room} {p : Program} {e : Env} {below : List Frame} {s : State} {sargs : Array Value} {y : MethodName} {len W9 : Nat}
theorem vx_back {ws : List Cond} {rm : Room} {Pc : Array Value → State → Prop} {Qc : Array Value → State → Outcome → State → Prop} {XC : String → State → State → Prop} {mc ms : Nat} {free : Addr → Prop} {bytes : ByteArray} {maxL : Nat} {ret : Option FieldType}
    (hM : vx_Met l y ws rm Pc Qc XC mc ms free) (hblind : FrameBlind Pc) (hrc : rm.cells = mc) (hrs : rm.slots = ms)
    (hframes : rm.frames + 1 ≤ R.frames) (hlocals : W9 + (maxL + 11) + rm.locals ≤ R.locals)
    (hws : ∀ w ∈ ws, ∀ a' U, s.WarmedH U.vm → w.before a' U = true) (hcode : Cond.code y bytes maxL ret ∈ ws) (hinit : ∀ a' U, s.WarmedH U.vm → (Cond.initialized y.cls).before a' U = true) :
    vx_Back l R p e below s sargs y len W9 (PreOf R mc ms Pc) (PostOf Qc mc ms free) (vx_Post XC mc ms free) := by
  intro m meth c A g ig mk a X hg hsize hdg hW hn hp
  have h1 : (headSpec ws rm).pre.before a A.U = true := atoms_intro fun w hw => hws w hw _ _ X.warmed
  have h2 : (Cond.code y bytes maxL ret).before a A.U = true := hws _ hcode _ _ X.warmed
  have h3 : (Cond.initialized y.cls).before a A.U = true := hinit _ _ X.warmed
  have h4 : A.cells + (headSpec ws rm).room.cells ≤ R.cells := by rw [show (headSpec ws rm).room.cells = mc from hrc]; exact hp.1
  have h5 : A.slots + (headSpec ws rm).room.slots ≤ R.slots := by rw [show (headSpec ws rm).room.slots = ms from hrs]; exact hp.2.1
  have hPc : Pc a (A.U.calling g mk a) := hblind _ _ _ _ hp.2.2
  obtain ⟨U, Ls, c0, s0⟩ := A
  dsimp only [Pt.U, Pt.locs, Pt.cells, Pt.slots] at h1 h2 h3 h4 h5 X hn hPc ⊢
  obtain ⟨methY, cY, hmY, hcY, -, hlY, -, -, -, -⟩ := Cond.code_spec hn h2
  obtain ⟨kY, hkY, -⟩ := className_of_methodNamed hn
  have hinitY : kY.init = .initialized := Cond.initialized_spec (findClass_of_methodNamed hn) hkY h3
  have h : At U g.method c below := by rw [hg]; exact X.here
  have hlocals9 : W9 + (maxL + 11) + (headSpec ws rm).room.locals ≤ R.locals := hlocals
  have happ : (headSpec ws rm).appliesLoose y e.platform (U.calling g mk a) = true :=
    Spec.appliesLoose_calling (g := g) h hdg hn hkY hinitY
      (X.room_calling (g := g) (R' := (headSpec ws rm).room) hsize hmY hcY hframes (by rw [hlY]; omega) h4 h5) h1
  obtain ⟨mid, hmid⟩ := h.above
  have hfr : (U.setTop g).frames = (.java g :: mid) ++ below := by rw [State.frames_setTop' g h.top, hmid]; rfl
  obtain ⟨o, s₂, hsteps, -, hend, hq⟩ := Steps.callFree hM p X.admits X.cas X.clock (acts := []) hfr happ hPc trivial
  have hq' : vx_Q Qc XC mc ms free a (U.calling g mk a) o s₂ := hq
  rw [State.frames_setTop' g h.top] at hend
  obtain ⟨g₀, hg0⟩ := Option.isSome_iff_exists.mp h.top
  obtain ⟨r, hr⟩ := State.topJava?_eq_some.mp hg0
  have hr' : (({ U with heap := s₂.heap, slotsUsed := s₂.slotsUsed } : State).setVm s₂.vm).frames = .java g₀ :: r := hr
  rcases hq' with ⟨hqc, L, hfe, hL⟩ | ⟨q, rfl, E, ce, L, hx, hce, hcv, hcl, hW₂, hsm, hL⟩
  · obtain ⟨⟨v, rfl⟩, hW₂, e2, q2, q3, q4, q5, q6⟩ := id hfe
    have e3 : s₂ = ({ (U.calling g mk a).setFrames s₂.frames with heap := s₂.heap, slotsUsed := s₂.slotsUsed } : State).setVm s₂.vm := by
      have : s₂ = ({ s₂ with vm := (U.calling g mk a).vm } : State).setVm s₂.vm := rfl
      rw [e2] at this
      exact this
    obtain ⟨c₂, i₂, len₂, hc₂, hd₂, hf₂⟩ := hend
    have hW' : U.WarmedH s₂.vm := hW₂
    have hcc : c₂ = c := by
      have h1 : s₂.code? g.method = U.code? g.method := by
        rw [State.code?_eq, State.code?_eq, hW'.alike.method?]
      exact Option.some.inj (hc₂.symm.trans (h1.trans h.code))
    subst hcc
    have hlen : len₂ = len := by rw [hdg] at hd₂; cases hd₂; rfl
    subst hlen
    have hs₂ : s₂ = (({ U with heap := s₂.heap, slotsUsed := s₂.slotsUsed } : State).setVm s₂.vm).setTop { g with pc := g.pc + len₂, stack := v.toList ++ g.stack } := by
      refine e3.trans ?_
      rw [hf₂, State.calling_eq h.top, State.setFrames_setFrames, State.setTop_of_frames _ hr', hr]
      rfl
    have hsame : U.sameButNew ({ U with heap := s₂.heap, slotsUsed := s₂.slotsUsed } : State) L mc ms := by
      refine ⟨?_, q2, q3, q4, q5, q6⟩
      obtain ⟨t, ht, -⟩ := State.frames_cons hr
      show ({ U with heap := s₂.heap, slotsUsed := s₂.slotsUsed } : State) = { U.setFrames U.frames with heap := s₂.heap, slotsUsed := s₂.slotsUsed }
      rw [State.setFrames_self ht]
    subst hg
    refine Or.inl ⟨v, ⟨(({ U with heap := s₂.heap, slotsUsed := s₂.slotsUsed } : State).setVm s₂.vm), Ls ++ L, c0 + mc, s0 + ms⟩,
      ⟨X.admits, X.cas, X.clock, X.frames, X.room, X.hears, X.method, X.code, (X.here.setHeapUsed s₂.heap s₂.slotsUsed).setVm hW'.alike, X.tail, State.WarmedH.trans X.warmed hW', X.limits, X.bytes, X.same.trans (hsame.setVm s.vm)⟩,
      ⟨g, mk, s₂, L, rfl, rfl, hqc, rfl, hL, rfl, rfl⟩, ?_⟩
    show Steps p.tables e below _ ((({ U with heap := s₂.heap, slotsUsed := s₂.slotsUsed } : State).setVm s₂.vm).setTop { g with pc := g.pc + len₂, stack := v.toList ++ g.stack })
    rw [← hs₂]
    exact hsteps
  · obtain ⟨e2, q2, q3, q4, q5, q6⟩ := id hsm
    have e3 : s₂ = ({ (U.calling g mk a).setFrames s₂.frames with heap := s₂.heap, slotsUsed := s₂.slotsUsed } : State).setVm s₂.vm := by
      have : s₂ = ({ s₂ with vm := (U.calling g mk a).vm } : State).setVm s₂.vm := rfl
      rw [e2] at this
      exact this
    have hf₂ : s₂.frames = .throwing q :: .java g :: U.frames.tail := hend
    have hW' : U.WarmedH s₂.vm := hW₂
    have hs₂ : s₂ = ((({ U with heap := s₂.heap, slotsUsed := s₂.slotsUsed } : State).setVm s₂.vm).setTop g).pushFrame (.throwing q) := by
      refine e3.trans ?_
      rw [hf₂, State.calling_eq h.top, State.setFrames_setFrames, State.pushFrame, State.frames_setTop _ hr', State.setTop_of_frames _ hr', State.setFrames_setFrames, hr]
      rfl
    have hsame : U.sameButNew ({ U with heap := s₂.heap, slotsUsed := s₂.slotsUsed } : State) L mc ms := by
      refine ⟨?_, q2, q3, q4, q5, q6⟩
      obtain ⟨t, ht, -⟩ := State.frames_cons hr
      show ({ U with heap := s₂.heap, slotsUsed := s₂.slotsUsed } : State) = { U.setFrames U.frames with heap := s₂.heap, slotsUsed := s₂.slotsUsed }
      rw [State.setFrames_self ht]
    subst hg
    refine Or.inr ⟨q, ⟨(({ U with heap := s₂.heap, slotsUsed := s₂.slotsUsed } : State).setVm s₂.vm), Ls ++ L, c0 + mc, s0 + ms⟩,
      ⟨X.admits, X.cas, X.clock, X.frames, X.room, X.hears, X.method, X.code, (X.here.setHeapUsed s₂.heap s₂.slotsUsed).setVm hW'.alike, X.tail, State.WarmedH.trans X.warmed hW', X.limits, X.bytes, X.same.trans (hsame.setVm s.vm)⟩,
      ⟨g, mk, s₂, L, E, ce, rfl, rfl, hx, hce, hcv, hcl, rfl, hL, rfl, rfl⟩, ?_⟩
    show Steps p.tables e below _ (((({ U with heap := s₂.heap, slotsUsed := s₂.slotsUsed } : State).setVm s₂.vm).setTop g).pushFrame (.throwing q))
    rw [← hs₂]
    exact hsteps
end Payer
section Calls
variable {p : Program} {l : Launch} {e : Env} {R : Room} {s : State} {m : MethodId} {args : Array Value} {below : List Frame} {meth : Method} {c : Code} {T : State} {locs : List Loc} {cells slots : Nat}
theorem vx_callV (X : Stand p l e R s m args below meth c T locs cells slots) (hexec : p.tables.exec = Jvm.exec) {own C : String} {index : Nat} {y : MethodName} {bytes : ByteArray} {maxL : Nat} {ret : Option FieldType}
    (hown : s.vm.findClass own = some m.cls) (hlink : (Cond.methodLink own index y).before args s = true) (hinst : (Cond.instanceMethod y).before args s = true) (hsel : (Cond.selects C y y).before args s = true)
    (hcode : (Cond.code y bytes maxL ret).before args s = true) (hy : y.cls ≠ "java/lang/invoke/MethodHandle" ∧ y.cls ≠ "java/lang/invoke/VarHandle")
    {W9 : Nat} {Pre : Pt → Array Value → Prop} {Post : Pt → Array Value → Option Value → Pt → Prop} {PostX : Pt → Array Value → Addr → Pt → Prop} (hK : vx_Back l R p e below s args y 3 W9 Pre Post PostX)
    {b : Addr} {cellB : Cell} (hcell : T.heap[b]? = some cellB) (hobj : cellB.vm.isStatics = false) (hcls : s.vm.findClass C = some cellB.cls)
    {g : JFrame} (hg : g.method = m) (hsize : g.locals.size = c.maxLocals) {argsL rest : List Value} (hlen : ∀ sig, parseMethodDescriptor y.desc = some sig → argsL.length = sig.parameters.length)
    (hstack : g.stack = argsL.reverse ++ .ref b :: rest) (hW : 2 * g.monitorRoom + (rest.map fun v => v.category).sum ≤ W9) (hdg : decode c.code g.pc = .ok (.invokevirtual index, 3))
    (hpre : ∀ vm₁, s.WarmedH vm₁ → Pre ⟨T.setVm vm₁, locs, cells, slots⟩ (Value.ref b :: argsL).toArray) :
    (∃ (v : Option Value) (vm₁ : Vm) (B : Pt), s.WarmedH vm₁ ∧ Stand p l e R s m args below meth c B.U B.locs B.cells B.slots ∧ Post ⟨T.setVm vm₁, locs, cells, slots⟩ (Value.ref b :: argsL).toArray v B ∧
      ∀ target, Steps p.tables e below (B.U.setTop { g with pc := g.pc + 3, stack := v.toList ++ rest }) target → Steps p.tables e below (T.setTop g) target) ∨
    (∃ (q : Addr) (vm₁ : Vm) (B : Pt), s.WarmedH vm₁ ∧ Stand p l e R s m args below meth c B.U B.locs B.cells B.slots ∧ PostX ⟨T.setVm vm₁, locs, cells, slots⟩ (Value.ref b :: argsL).toArray q B ∧
      Steps p.tables e below (T.setTop g) ((B.U.setTop { g with stack := rest }).pushFrame (.throwing q))) := by
  obtain ⟨mk, methM, hnamed, hmethM, hstM, habM⟩ := Cond.instanceMethod_spec hinst
  obtain ⟨methM', cM, hmethM', -, -, -, -, -, -, hsigM⟩ := Cond.code_spec hnamed hcode
  cases hmethM.symm.trans hmethM'
  obtain ⟨c2, r2, m2, q1, q2, q3, q4, kP, hkP, hkPi⟩ := Cond.selects_spec hsel
  cases hcls.symm.trans q1
  cases (State.methodFound?_of_named hnamed hy).symm.trans q2
  cases hnamed.symm.trans q3
  have hselP : selectMethod e.platform s.vm cellB.cls mk = .method mk := by rw [Launch.admits_selectMethod X.admits]; exact q4
  obtain ⟨vm₁, X₁, hstep₁⟩ := X.invokevirtual hexec hown hlink hnamed hmethM hstM hkP hkPi hy (a := b) (cell := cellB) hcell
    (fun z h => by rw [h] at hobj; cases hobj) hselP hmethM habM hkP hkPi (g := g) hg (argsL := argsL) (rest := rest) (hlen _ hsigM) hstack hdg
  rcases hK m meth c ⟨T.setVm vm₁, locs, cells, slots⟩ { g with stack := rest } (.invokevirtual index) mk (Value.ref b :: argsL).toArray X₁ hg hsize hdg hW (X₁.named hnamed) (hpre vm₁ X₁.warmed) with ⟨v, B, X', hpost, hsteps⟩ | ⟨q, B, X', hpost, hsteps⟩
  · exact Or.inl ⟨v, vm₁, B, X₁.warmed, X', hpost, fun target h => hstep₁ _ fun acts => by rw [doInvoke_state]; exact hsteps.trans h⟩
  · exact Or.inr ⟨q, vm₁, B, X₁.warmed, X', hpost, hstep₁ _ fun acts => by rw [doInvoke_state]; exact hsteps⟩
theorem vx_callS (X : Stand p l e R s m args below meth c T locs cells slots) (hexec : p.tables.exec = Jvm.exec) {own : String} {index : Nat} {y : MethodName} {bytes : ByteArray} {maxL : Nat} {ret : Option FieldType}
    (hown : s.vm.findClass own = some m.cls) (hlink : (Cond.methodLink own index y).before args s = true) (hstat : (Cond.static y).before args s = true) (hinit : (Cond.initialized y.cls).before args s = true)
    (hcode : (Cond.code y bytes maxL ret).before args s = true) (hy : y.cls ≠ "java/lang/invoke/MethodHandle" ∧ y.cls ≠ "java/lang/invoke/VarHandle")
    {W9 : Nat} {Pre : Pt → Array Value → Prop} {Post : Pt → Array Value → Option Value → Pt → Prop} {PostX : Pt → Array Value → Addr → Pt → Prop} (hK : vx_Back l R p e below s args y 3 W9 Pre Post PostX)
    {g : JFrame} (hg : g.method = m) (hsize : g.locals.size = c.maxLocals) {argsL rest : List Value} (hlen : ∀ sig, parseMethodDescriptor y.desc = some sig → argsL.length = sig.parameters.length)
    (hstack : g.stack = argsL.reverse ++ rest) (hW : 2 * g.monitorRoom + (rest.map fun v => v.category).sum ≤ W9) (hdg : decode c.code g.pc = .ok (.invokestatic index, 3))
    (hpre : ∀ vm₁, s.WarmedH vm₁ → Pre ⟨T.setVm vm₁, locs, cells, slots⟩ argsL.toArray) :
    (∃ (v : Option Value) (vm₁ : Vm) (B : Pt), s.WarmedH vm₁ ∧ Stand p l e R s m args below meth c B.U B.locs B.cells B.slots ∧ Post ⟨T.setVm vm₁, locs, cells, slots⟩ argsL.toArray v B ∧
      ∀ target, Steps p.tables e below (B.U.setTop { g with pc := g.pc + 3, stack := v.toList ++ rest }) target → Steps p.tables e below (T.setTop g) target) ∨
    (∃ (q : Addr) (vm₁ : Vm) (B : Pt), s.WarmedH vm₁ ∧ Stand p l e R s m args below meth c B.U B.locs B.cells B.slots ∧ PostX ⟨T.setVm vm₁, locs, cells, slots⟩ argsL.toArray q B ∧
      Steps p.tables e below (T.setTop g) ((B.U.setTop { g with stack := rest }).pushFrame (.throwing q))) := by
  obtain ⟨mk, hnamed⟩ := Cond.code_named hcode
  obtain ⟨methM, cM, hmethM, -, -, -, -, -, -, hsigM⟩ := Cond.code_spec hnamed hcode
  have hstatic : methM.isStatic = true := Cond.static_spec hnamed hmethM hstat
  obtain ⟨kP, hkP, -⟩ := className_of_methodNamed hnamed
  have hinitP : kP.init = .initialized := Cond.initialized_spec (findClass_of_methodNamed hnamed) hkP hinit
  obtain ⟨vm₁, X₁, hstep₁⟩ := X.invokestatic hexec hown hlink hnamed hmethM hstatic hkP hinitP hy (g := g) hg (argsL := argsL) (rest := rest) (hlen _ hsigM) hstack hdg
  rcases hK m meth c ⟨T.setVm vm₁, locs, cells, slots⟩ { g with stack := rest } (.invokestatic index) mk argsL.toArray X₁ hg hsize hdg hW (X₁.named hnamed) (hpre vm₁ X₁.warmed) with ⟨v, B, X', hpost, hsteps⟩ | ⟨q, B, X', hpost, hsteps⟩
  · exact Or.inl ⟨v, vm₁, B, X₁.warmed, X', hpost, fun target h => hstep₁ _ fun acts => by rw [doInvoke_state]; exact hsteps.trans h⟩
  · exact Or.inr ⟨q, vm₁, B, X₁.warmed, X', hpost, hstep₁ _ fun acts => by rw [doInvoke_state]; exact hsteps⟩
end Calls
theorem vx_cls {s : State} {T : State} {vm₁ : Vm} {E : String} {k : ClassId} (hW : s.WarmedH vm₁) (h : (T.setVm vm₁).vm.findClass E = some k) : s.vm.findClass E = some k := by
  have h1 : vm₁.findClass E = some k := h
  rw [hW.alike.findClass] at h1
  exact h1
/-- the method's frame g, with q thrown over it -/
def vx_W (p : Program) (l : Launch) (e : Env) (R : Room) (s : State) (m : MethodId) (args : Array Value) (below : List Frame) (meth : Method) (c : Code) (H : Heap) (locs : List Loc) (cells slots : Nat) (Q : State → Prop) (g : JFrame) (q : Addr) : Prop :=
  ∀ T : State, T.heap = H → Stand p l e R s m args below meth c T locs cells slots → ∃ t, Steps p.tables e below ((T.setTop g).pushFrame (.throwing q)) t ∧ Q t
def vx_Run (p : Program) (l : Launch) (e : Env) (R : Room) (s : State) (m : MethodId) (args : Array Value) (below : List Frame) (meth : Method) (c : Code) (H : Heap) (locs : List Loc) (cells slots mc ms : Nat) (g : JFrame) (rest : List Value) (Qa : State → Outcome → State → Prop) (XC : String → State → State → Prop) (free : Addr → Prop) : Prop :=
  ∀ T : State, T.heap = H → Stand p l e R s m args below meth c T locs cells slots →
    (∃ (v : Option Value) (st₀ t T' : State) (L : List Loc), st₀.heap = H ∧ Stand p l e R s m args below meth c T' (locs ++ L) (cells + mc) (slots + ms) ∧ (∀ q ∈ L, free q.base) ∧ T'.heap = t.heap ∧ T'.vm = t.vm ∧ Qa st₀ (.returned v) t ∧
      Goes p e below T g T' { g with pc := g.pc + 3, stack := v.toList ++ rest }) ∨
    (∃ (q : Addr) (st₀ t T' : State) (L : List Loc) (E : String) (ce : Cell), st₀.heap = H ∧ Stand p l e R s m args below meth c T' (locs ++ L) (cells + mc) (slots + ms) ∧ (∀ z ∈ L, free z.base) ∧ T'.heap = t.heap ∧ T'.vm = t.vm ∧ XC E st₀ t ∧ t.heap[q]? = some ce ∧ ce.vm = .none ∧ s.vm.findClass E = some ce.cls ∧
      Steps p.tables e below (T.setTop g) ((T'.setTop { g with stack := rest }).pushFrame (.throwing q)))
def vx_X {S : Type} (px : S → Prop) (B : String → S → State → Prop) (A : Nat → Prop) : String → State → State → Prop := fun E st t => ∃ u : S, px u ∧ B E u t ∧ va_F A st t
section Runs
variable {p : Program} {l : Launch} {e : Env} {R : Room} {s : State} {m : MethodId} {args : Array Value} {below : List Frame} {meth : Method} {c : Code} {H : Heap} {locs : List Loc} {cells slots : Nat}
variable {y : MethodName} {bytes cc : ByteArray} {maxL nL mc ms n index : Nat} {ret : Option FieldType} {ws : List Cond} {rm : Room} {Pc : Array Value → State → Prop} {Qc : Array Value → State → Outcome → State → Prop} {XC : String → State → State → Prop} {free : Addr → Prop} {Ts : List Cond} {own C : String} {b : Addr} {As rest : List Value} {g : JFrame}
theorem vx_callBack (cb : CallB R s args own index y bytes maxL ret ws rm mc ms n) (hM : vx_Met l y ws rm Pc Qc XC mc ms free) (hbl : FrameBlind Pc) : vx_Back l R p e below s args y 3 8 (PreOf R mc ms Pc) (PostOf Qc mc ms free) (vx_Post XC mc ms free) := by
  obtain ⟨hrc, hrs, hfr, hlo, hws, hcw, -, hini, -⟩ := cb
  exact vx_back (bytes := bytes) (maxL := maxL) (ret := ret) hM hbl hrc hrs hfr hlo hws hcw (fun a' U hW => word_at hW (Or.inl (by first | rfl | simp [Cond.onTables, Cond.keeps, Cond.steady])) hini)
theorem vx_runV (S : CallFix p m c cc nL s args Ts own) (hM : vx_Met l y ws rm Pc Qc XC mc ms free) (cw : CallW R s args own C index y bytes maxL ret ws rm mc ms n) (hp : PreV s H C b Pc As)
    (hg : g.method = m) (hn : As.length = n) (hsize : g.locals.size = nL) (hstack : g.stack = As.reverse ++ .ref b :: rest) (hW : 2 * g.monitorRoom + (rest.map fun v => v.category).sum ≤ 8) (hdg : decode cc g.pc = .ok (.invokevirtual index, 3)) (hf : cells + mc ≤ R.cells ∧ slots + ms ≤ R.slots) :
    vx_Run p l e R s m args below meth c H locs cells slots mc ms g rest (Qc (Value.ref b :: As).toArray) XC free := by
  have hK : vx_Back l R p e below s args y 3 8 (PreOf R mc ms Pc) (PostOf Qc mc ms free) (vx_Post XC mc ms free) := vx_callBack cw.1 hM hp.1
  obtain ⟨⟨-, -, -, -, -, -, hcode, -, hy, hlen, hl⟩, hin, hse⟩ := cw
  obtain ⟨hx, hb, hml, ho, -⟩ := S
  obtain ⟨-, ⟨cellB, hcB, hoB, hclB⟩, hPc⟩ := hp
  intro T hT X
  rcases vx_callV X hx (C := C) (bytes := bytes) (maxL := maxL) (ret := ret) ho hl hin hse hcode hy hK (by rw [hT]; exact hcB) hoB hclB hg (hsize.trans hml.symm) (argsL := As) (rest := rest) (fun sig h => hn.trans (hlen sig h)) hstack hW (by rw [hb]; exact hdg)
    (fun vm₁ hW₁ => ⟨hf.1, hf.2, hPc (T.setVm vm₁) hT hW₁⟩) with ⟨v, vm₁, ⟨U', l2, c2, s2⟩, hW₁, X', ⟨g', mk, t, L, e1, e2, hq, h1, hL, h2, h3⟩, st⟩ | ⟨q, vm₁, ⟨U', l2, c2, s2⟩, hW₁, X', ⟨g', mk, t, L, E, ce, e1, e2, hq, hce, hcv, hcl, h1, hL, h2, h3⟩, st⟩
  · dsimp only [Pt.U, Pt.locs, Pt.cells, Pt.slots] at X' e1 e2 h1 h2 h3 st
    subst h1; subst h2; subst h3
    exact Or.inl ⟨v, (T.setVm vm₁).calling g' mk (Value.ref b :: As).toArray, t, U', L, hT, X', hL, e1, e2, hq, st⟩
  · dsimp only [Pt.U, Pt.locs, Pt.cells, Pt.slots] at X' e1 e2 h1 h2 h3 st hcl
    subst h1; subst h2; subst h3
    exact Or.inr ⟨q, (T.setVm vm₁).calling g' mk (Value.ref b :: As).toArray, t, U', L, E, ce, hT, X', hL, e1, e2, hq, hce, hcv, vx_cls hW₁ hcl, st⟩
theorem vx_runS (S : CallFix p m c cc nL s args Ts own) (hM : vx_Met l y ws rm Pc Qc XC mc ms free) (cw : CallB R s args own index y bytes maxL ret ws rm mc ms n ∧ (Cond.static y).before args s = true) (hp : PreS s H Pc As)
    (hg : g.method = m) (hn : As.length = n) (hsize : g.locals.size = nL) (hstack : g.stack = As.reverse ++ rest) (hW : 2 * g.monitorRoom + (rest.map fun v => v.category).sum ≤ 8) (hdg : decode cc g.pc = .ok (.invokestatic index, 3)) (hf : cells + mc ≤ R.cells ∧ slots + ms ≤ R.slots) :
    vx_Run p l e R s m args below meth c H locs cells slots mc ms g rest (Qc As.toArray) XC free := by
  have hK : vx_Back l R p e below s args y 3 8 (PreOf R mc ms Pc) (PostOf Qc mc ms free) (vx_Post XC mc ms free) := vx_callBack cw.1 hM hp.1
  obtain ⟨⟨-, -, -, -, -, -, hcode, hini, hy, hlen, hl⟩, hstt⟩ := cw
  obtain ⟨hx, hb, hml, ho, -⟩ := S
  intro T hT X
  rcases vx_callS X hx (bytes := bytes) (maxL := maxL) (ret := ret) ho hl hstt hini hcode hy hK hg (hsize.trans hml.symm) (argsL := As) (rest := rest) (fun sig h => hn.trans (hlen sig h)) hstack hW (by rw [hb]; exact hdg)
    (fun vm₁ hW₁ => ⟨hf.1, hf.2, hp.2 (T.setVm vm₁) hT hW₁⟩) with ⟨v, vm₁, ⟨U', l2, c2, s2⟩, hW₁, X', ⟨g', mk, t, L, e1, e2, hq, h1, hL, h2, h3⟩, st⟩ | ⟨q, vm₁, ⟨U', l2, c2, s2⟩, hW₁, X', ⟨g', mk, t, L, E, ce, e1, e2, hq, hce, hcv, hcl, h1, hL, h2, h3⟩, st⟩
  · dsimp only [Pt.U, Pt.locs, Pt.cells, Pt.slots] at X' e1 e2 h1 h2 h3 st
    subst h1; subst h2; subst h3
    exact Or.inl ⟨v, (T.setVm vm₁).calling g' mk As.toArray, t, U', L, hT, X', hL, e1, e2, hq, st⟩
  · dsimp only [Pt.U, Pt.locs, Pt.cells, Pt.slots] at X' e1 e2 h1 h2 h3 st hcl
    subst h1; subst h2; subst h3
    exact Or.inr ⟨q, (T.setVm vm₁).calling g' mk As.toArray, t, U', L, E, ce, hT, X', hL, e1, e2, hq, hce, hcv, vx_cls hW₁ hcl, st⟩
end Runs
section Rows
variable {p : Program} {l : Launch} {e : Env} {R : Room} {s : State} {m : MethodId} {args : Array Value} {below : List Frame} {meth : Method} {c : Code} {H : Heap} {locs : List Loc} {cells slots : Nat} {Q : State → Prop}
variable {mc ms : Nat} {free : Addr → Prop} {A0 A1 : Nat → Prop} {H0 : Heap} {a : Array Value} {pc : Nat} {ls : Array Slot} {st0 rest : List Value}
theorem vx_keep {st₀ t T' : State} {L : List Loc} (h0 : st₀.heap = H) (e1 : T'.heap = t.heap) (hS : va_S A0 H0 H locs) (hA : ∀ q, q < H.size → A1 q → A0 q) (hf : ∀ q, free q → A0 q) (hL : ∀ q ∈ L, free q.base) (hF : va_F A1 st₀ t) :
    H.size ≤ T'.heap.size ∧ (∀ q : Nat, q < H.size → ¬ A1 q → T'.heap[q]? = H[q]?) ∧ va_S A0 H0 T'.heap (locs ++ L) := by
  obtain ⟨hz, hk⟩ := hF
  rw [h0] at hz hk
  exact ⟨by rw [e1]; exact hz, fun q h1 h2 => by rw [e1]; exact hk q h1 h2,
    ⟨Nat.le_trans hS.1 (by rw [e1]; exact hz), fun q h1 h2 => by rw [e1, hk q (Nat.lt_of_lt_of_le h1 hS.1) (fun z => h2 (hA q (Nat.lt_of_lt_of_le h1 hS.1) z))]; exact hS.2.1 q h1 h2, fun q hq => by
      rcases List.mem_append.mp hq with h | h
      · exact hS.2.2 q h
      · exact hf _ (hL q h)⟩⟩
theorem vx_calli {S SX : Type} {post : Int32 → S → Prop} {px : SX → Prop} {B : S → State → Prop} {BX : String → SX → State → Prop} {AX : Nat → Prop} (hr : vx_Run p l e R s m args below meth c H locs cells slots mc ms (F0 m pc ls st0) rest (va_Qi post B A1 a) (vx_X px BX AX) free) (hS : va_S A0 H0 H locs) (hA : ∀ q, q < H.size → A1 q → A0 q) (hf : ∀ q, free q → A0 q) (hAX : ∀ q, q < H.size → AX q → A0 q)
    (kx : ∀ (E : String) (ce : Cell) (q9 : Addr) (u : SX) (t : State) (H1 : Heap) (locs1 : List Loc), t.heap = H1 → s.vm.Alike t.vm → px u → BX E u t → H.size ≤ H1.size → (∀ q : Nat, q < H.size → ¬ AX q → H1[q]? = H[q]?) → va_S A0 H0 H1 locs1 → H1[q9]? = some ce → ce.vm = .none → s.vm.findClass E = some ce.cls → vx_W p l e R s m args below meth c H1 locs1 (cells + mc) (slots + ms) Q (F0 m pc ls rest) q9)
    (kk : ∀ (r : Int32) (u : S) (t : State) (H1 : Heap) (locs1 : List Loc), t.heap = H1 → s.vm.Alike t.vm → post r u → B u t → H.size ≤ H1.size → (∀ q : Nat, q < H.size → ¬ A1 q → H1[q]? = H[q]?) → va_S A0 H0 H1 locs1 → W p l e R s m args below meth c H1 locs1 (cells + mc) (slots + ms) Q (F0 m (pc + 3) ls (.int r :: rest))) : W p l e R s m args below meth c H locs cells slots Q (F0 m pc ls st0) := by
  intro T hT X
  rcases hr T hT X with ⟨v, st₀, t, T', L, h0, X', hL, e1, e2, ⟨⟨r, u, hv, hp, hb⟩, hF⟩, st⟩ | ⟨q, st₀, t, T', L, E, ce, h0, X', hL, e1, e2, ⟨u, hp, hb, hF⟩, hce, hcv, hcl, st⟩
  · cases hv
    obtain ⟨k1, k2, k3⟩ := vx_keep h0 e1 hS hA hf hL hF
    obtain ⟨t2, a1, b1⟩ := kk r u t T'.heap (locs ++ L) e1.symm (by rw [← e2]; exact X'.warmed.alike) hp hb k1 k2 k3 T' rfl X'
    exact ⟨t2, st t2 a1, b1⟩
  · obtain ⟨k1, k2, k3⟩ := vx_keep h0 e1 hS hAX hf hL hF
    obtain ⟨t2, a1, b1⟩ := kx E ce q u t T'.heap (locs ++ L) e1.symm (by rw [← e2]; exact X'.warmed.alike) hp hb k1 k2 k3 (by rw [e1]; exact hce) hcv hcl T' rfl X'
    exact ⟨t2, st.trans a1, b1⟩
theorem vx_calll {S SX : Type} {post : Int64 → S → Prop} {px : SX → Prop} {B : S → State → Prop} {BX : String → SX → State → Prop} {AX : Nat → Prop} (hr : vx_Run p l e R s m args below meth c H locs cells slots mc ms (F0 m pc ls st0) rest (va_Ql post B A1 a) (vx_X px BX AX) free) (hS : va_S A0 H0 H locs) (hA : ∀ q, q < H.size → A1 q → A0 q) (hf : ∀ q, free q → A0 q) (hAX : ∀ q, q < H.size → AX q → A0 q)
    (kx : ∀ (E : String) (ce : Cell) (q9 : Addr) (u : SX) (t : State) (H1 : Heap) (locs1 : List Loc), t.heap = H1 → s.vm.Alike t.vm → px u → BX E u t → H.size ≤ H1.size → (∀ q : Nat, q < H.size → ¬ AX q → H1[q]? = H[q]?) → va_S A0 H0 H1 locs1 → H1[q9]? = some ce → ce.vm = .none → s.vm.findClass E = some ce.cls → vx_W p l e R s m args below meth c H1 locs1 (cells + mc) (slots + ms) Q (F0 m pc ls rest) q9)
    (kk : ∀ (r : Int64) (u : S) (t : State) (H1 : Heap) (locs1 : List Loc), t.heap = H1 → s.vm.Alike t.vm → post r u → B u t → H.size ≤ H1.size → (∀ q : Nat, q < H.size → ¬ A1 q → H1[q]? = H[q]?) → va_S A0 H0 H1 locs1 → W p l e R s m args below meth c H1 locs1 (cells + mc) (slots + ms) Q (F0 m (pc + 3) ls (.long r :: rest))) : W p l e R s m args below meth c H locs cells slots Q (F0 m pc ls st0) := by
  intro T hT X
  rcases hr T hT X with ⟨v, st₀, t, T', L, h0, X', hL, e1, e2, ⟨⟨r, u, hv, hp, hb⟩, hF⟩, st⟩ | ⟨q, st₀, t, T', L, E, ce, h0, X', hL, e1, e2, ⟨u, hp, hb, hF⟩, hce, hcv, hcl, st⟩
  · cases hv
    obtain ⟨k1, k2, k3⟩ := vx_keep h0 e1 hS hA hf hL hF
    obtain ⟨t2, a1, b1⟩ := kk r u t T'.heap (locs ++ L) e1.symm (by rw [← e2]; exact X'.warmed.alike) hp hb k1 k2 k3 T' rfl X'
    exact ⟨t2, st t2 a1, b1⟩
  · obtain ⟨k1, k2, k3⟩ := vx_keep h0 e1 hS hAX hf hL hF
    obtain ⟨t2, a1, b1⟩ := kx E ce q u t T'.heap (locs ++ L) e1.symm (by rw [← e2]; exact X'.warmed.alike) hp hb k1 k2 k3 (by rw [e1]; exact hce) hcv hcl T' rfl X'
    exact ⟨t2, st.trans a1, b1⟩
theorem vx_callf {S SX : Type} {post : UInt32 → S → Prop} {px : SX → Prop} {B : S → State → Prop} {BX : String → SX → State → Prop} {AX : Nat → Prop} (hr : vx_Run p l e R s m args below meth c H locs cells slots mc ms (F0 m pc ls st0) rest (va_Qf post B A1 a) (vx_X px BX AX) free) (hS : va_S A0 H0 H locs) (hA : ∀ q, q < H.size → A1 q → A0 q) (hf : ∀ q, free q → A0 q) (hAX : ∀ q, q < H.size → AX q → A0 q)
    (kx : ∀ (E : String) (ce : Cell) (q9 : Addr) (u : SX) (t : State) (H1 : Heap) (locs1 : List Loc), t.heap = H1 → s.vm.Alike t.vm → px u → BX E u t → H.size ≤ H1.size → (∀ q : Nat, q < H.size → ¬ AX q → H1[q]? = H[q]?) → va_S A0 H0 H1 locs1 → H1[q9]? = some ce → ce.vm = .none → s.vm.findClass E = some ce.cls → vx_W p l e R s m args below meth c H1 locs1 (cells + mc) (slots + ms) Q (F0 m pc ls rest) q9)
    (kk : ∀ (r : UInt32) (u : S) (t : State) (H1 : Heap) (locs1 : List Loc), t.heap = H1 → s.vm.Alike t.vm → post r u → B u t → H.size ≤ H1.size → (∀ q : Nat, q < H.size → ¬ A1 q → H1[q]? = H[q]?) → va_S A0 H0 H1 locs1 → W p l e R s m args below meth c H1 locs1 (cells + mc) (slots + ms) Q (F0 m (pc + 3) ls (.float r :: rest))) : W p l e R s m args below meth c H locs cells slots Q (F0 m pc ls st0) := by
  intro T hT X
  rcases hr T hT X with ⟨v, st₀, t, T', L, h0, X', hL, e1, e2, ⟨⟨r, u, hv, hp, hb⟩, hF⟩, st⟩ | ⟨q, st₀, t, T', L, E, ce, h0, X', hL, e1, e2, ⟨u, hp, hb, hF⟩, hce, hcv, hcl, st⟩
  · cases hv
    obtain ⟨k1, k2, k3⟩ := vx_keep h0 e1 hS hA hf hL hF
    obtain ⟨t2, a1, b1⟩ := kk r u t T'.heap (locs ++ L) e1.symm (by rw [← e2]; exact X'.warmed.alike) hp hb k1 k2 k3 T' rfl X'
    exact ⟨t2, st t2 a1, b1⟩
  · obtain ⟨k1, k2, k3⟩ := vx_keep h0 e1 hS hAX hf hL hF
    obtain ⟨t2, a1, b1⟩ := kx E ce q u t T'.heap (locs ++ L) e1.symm (by rw [← e2]; exact X'.warmed.alike) hp hb k1 k2 k3 (by rw [e1]; exact hce) hcv hcl T' rfl X'
    exact ⟨t2, st.trans a1, b1⟩
theorem vx_calld {S SX : Type} {post : UInt64 → S → Prop} {px : SX → Prop} {B : S → State → Prop} {BX : String → SX → State → Prop} {AX : Nat → Prop} (hr : vx_Run p l e R s m args below meth c H locs cells slots mc ms (F0 m pc ls st0) rest (va_Qd post B A1 a) (vx_X px BX AX) free) (hS : va_S A0 H0 H locs) (hA : ∀ q, q < H.size → A1 q → A0 q) (hf : ∀ q, free q → A0 q) (hAX : ∀ q, q < H.size → AX q → A0 q)
    (kx : ∀ (E : String) (ce : Cell) (q9 : Addr) (u : SX) (t : State) (H1 : Heap) (locs1 : List Loc), t.heap = H1 → s.vm.Alike t.vm → px u → BX E u t → H.size ≤ H1.size → (∀ q : Nat, q < H.size → ¬ AX q → H1[q]? = H[q]?) → va_S A0 H0 H1 locs1 → H1[q9]? = some ce → ce.vm = .none → s.vm.findClass E = some ce.cls → vx_W p l e R s m args below meth c H1 locs1 (cells + mc) (slots + ms) Q (F0 m pc ls rest) q9)
    (kk : ∀ (r : UInt64) (u : S) (t : State) (H1 : Heap) (locs1 : List Loc), t.heap = H1 → s.vm.Alike t.vm → post r u → B u t → H.size ≤ H1.size → (∀ q : Nat, q < H.size → ¬ A1 q → H1[q]? = H[q]?) → va_S A0 H0 H1 locs1 → W p l e R s m args below meth c H1 locs1 (cells + mc) (slots + ms) Q (F0 m (pc + 3) ls (.double r :: rest))) : W p l e R s m args below meth c H locs cells slots Q (F0 m pc ls st0) := by
  intro T hT X
  rcases hr T hT X with ⟨v, st₀, t, T', L, h0, X', hL, e1, e2, ⟨⟨r, u, hv, hp, hb⟩, hF⟩, st⟩ | ⟨q, st₀, t, T', L, E, ce, h0, X', hL, e1, e2, ⟨u, hp, hb, hF⟩, hce, hcv, hcl, st⟩
  · cases hv
    obtain ⟨k1, k2, k3⟩ := vx_keep h0 e1 hS hA hf hL hF
    obtain ⟨t2, a1, b1⟩ := kk r u t T'.heap (locs ++ L) e1.symm (by rw [← e2]; exact X'.warmed.alike) hp hb k1 k2 k3 T' rfl X'
    exact ⟨t2, st t2 a1, b1⟩
  · obtain ⟨k1, k2, k3⟩ := vx_keep h0 e1 hS hAX hf hL hF
    obtain ⟨t2, a1, b1⟩ := kx E ce q u t T'.heap (locs ++ L) e1.symm (by rw [← e2]; exact X'.warmed.alike) hp hb k1 k2 k3 (by rw [e1]; exact hce) hcv hcl T' rfl X'
    exact ⟨t2, st.trans a1, b1⟩
theorem vx_callv {S SX : Type} {post : S → Prop} {px : SX → Prop} {B : S → State → Prop} {BX : String → SX → State → Prop} {AX : Nat → Prop} (hr : vx_Run p l e R s m args below meth c H locs cells slots mc ms (F0 m pc ls st0) rest (va_Qv post B A1 a) (vx_X px BX AX) free) (hS : va_S A0 H0 H locs) (hA : ∀ q, q < H.size → A1 q → A0 q) (hf : ∀ q, free q → A0 q) (hAX : ∀ q, q < H.size → AX q → A0 q)
    (kx : ∀ (E : String) (ce : Cell) (q9 : Addr) (u : SX) (t : State) (H1 : Heap) (locs1 : List Loc), t.heap = H1 → s.vm.Alike t.vm → px u → BX E u t → H.size ≤ H1.size → (∀ q : Nat, q < H.size → ¬ AX q → H1[q]? = H[q]?) → va_S A0 H0 H1 locs1 → H1[q9]? = some ce → ce.vm = .none → s.vm.findClass E = some ce.cls → vx_W p l e R s m args below meth c H1 locs1 (cells + mc) (slots + ms) Q (F0 m pc ls rest) q9)
    (kk : ∀ (u : S) (t : State) (H1 : Heap) (locs1 : List Loc), t.heap = H1 → s.vm.Alike t.vm → post u → B u t → H.size ≤ H1.size → (∀ q : Nat, q < H.size → ¬ A1 q → H1[q]? = H[q]?) → va_S A0 H0 H1 locs1 → W p l e R s m args below meth c H1 locs1 (cells + mc) (slots + ms) Q (F0 m (pc + 3) ls (rest))) : W p l e R s m args below meth c H locs cells slots Q (F0 m pc ls st0) := by
  intro T hT X
  rcases hr T hT X with ⟨v, st₀, t, T', L, h0, X', hL, e1, e2, ⟨⟨u, hv, hp, hb⟩, hF⟩, st⟩ | ⟨q, st₀, t, T', L, E, ce, h0, X', hL, e1, e2, ⟨u, hp, hb, hF⟩, hce, hcv, hcl, st⟩
  · cases hv
    obtain ⟨k1, k2, k3⟩ := vx_keep h0 e1 hS hA hf hL hF
    obtain ⟨t2, a1, b1⟩ := kk u t T'.heap (locs ++ L) e1.symm (by rw [← e2]; exact X'.warmed.alike) hp hb k1 k2 k3 T' rfl X'
    exact ⟨t2, st t2 a1, b1⟩
  · obtain ⟨k1, k2, k3⟩ := vx_keep h0 e1 hS hAX hf hL hF
    obtain ⟨t2, a1, b1⟩ := kx E ce q u t T'.heap (locs ++ L) e1.symm (by rw [← e2]; exact X'.warmed.alike) hp hb k1 k2 k3 (by rw [e1]; exact hce) hcv hcl T' rfl X'
    exact ⟨t2, st.trans a1, b1⟩
/-- caught by the row x of this method's table; the rows ahead don't take it -/
theorem vx_catch {own name : String} {E : String} {ce : Cell} {q : Addr} (hown : s.vm.findClass own = some m.cls) (pre : List ExceptionTableEntry) (x : ExceptionTableEntry) (suf : List ExceptionTableEntry) (hsplit : c.exceptionTable.toList = pre ++ x :: suf)
    (hpass : ∀ z ∈ pre, covers z pc = false ∨ (z.catchType ≠ 0 ∧ ∃ nm : String, (Cond.classLink own z.catchType nm).before args s = true ∧ va_Nc E nm s)) (hx : covers x pc = true) (h0 : x.catchType ≠ 0)
    (hlink : (Cond.classLink own x.catchType name).before args s = true) (hcast : (Cond.castable E name).before args s = true) (hcell : H[q]? = some ce) (hv : ce.vm = .none) (hcl : s.vm.findClass E = some ce.cls)
    (kk : W p l e R s m args below meth c H locs cells slots Q (F0 m x.handlerPc ls [.ref q])) : vx_W p l e R s m args below meth c H locs cells slots Q (F0 m pc ls rest) q := by
  intro T hT X
  have hpl : e.platform.magicAccessors = ({} : Platform).magicAccessors := by rw [X.admits.platform]
  obtain ⟨c3, c4, hc3, hc4, hasg⟩ := Cond.castable_spec hcast
  cases Option.some.inj (hc3.symm.trans hcl)
  obtain ⟨c5, hc5, hcl5⟩ := Cond.classLink_spec hown hlink e.platform hpl
  cases Option.some.inj (hc4.symm.trans hc5)
  obtain ⟨vm', X', st⟩ := X.thenCaughtThrough q (g := F0 m pc ls rest) rfl (Steps.refl _) (by rw [hT]; exact hcell) (by rw [hv]; rfl) (by obtain ⟨k9, h9, -⟩ := Vm.findClass_spec hcl; exact ⟨k9, h9⟩) pre x suf hsplit
    (fun z hz => by
      rcases hpass z hz with h | ⟨hz0, nm, hl1, hn1⟩
      · exact Or.inl h
      · obtain ⟨c6, hc6, hcl6⟩ := Cond.classLink_spec hown hl1 e.platform hpl
        obtain ⟨a8, b8, h1, h2, h3⟩ := hn1
        cases Option.some.inj (h1.symm.trans hcl)
        cases Option.some.inj (h2.symm.trans hc6)
        exact Or.inr ⟨hz0, _, hcl6, h3⟩) hx (Or.inr ⟨h0, c4, hcl5, hasg⟩)
  obtain ⟨t, a1, b1⟩ := kk (T.setVm vm') hT X'
  exact ⟨t, st.trans a1, b1⟩
end Rows
section Ends
variable {p : Program} {l : Launch} {e : Env} {R : Room} {s : State} {m : MethodId} {args : Array Value} {below : List Frame} {meth : Method} {c : Code} {H : Heap} {locs : List Loc} {cells slots : Nat} {Q : State → Prop}
variable {mc ms : Nat} {free : Addr → Prop} {A0 A1 : Nat → Prop} {H0 : Heap} {a : Array Value} {ls : Array Slot} {st0 rest : List Value}
variable {Qc : Array Value → State → Outcome → State → Prop} {XC : String → State → State → Prop}
/-- what a body that may throw owes at its end -/
def vx_MQ (below : List Frame) (Qc : Array Value → State → Outcome → State → Prop) (XC : String → State → State → Prop) (a : Array Value) (s : State) (mc ms : Nat) (free : Addr → Prop) : State → Prop := fun t =>
  ∃ o, t.status = .running ∧ Ended t below o ∧ vx_Q Qc XC mc ms free a s o t
theorem vx_ret {g : JFrame} {mc ms : Nat} (k : W p l e R s m args below meth c H locs cells slots (MQ below Qc args s mc ms free) g) : W p l e R s m args below meth c H locs cells slots (vx_MQ below Qc XC args s mc ms free) g := by
  intro T hT X
  obtain ⟨t, a1, o, b1, b2, b3, b4⟩ := k T hT X
  exact ⟨t, a1, o, b1, b2, Or.inl ⟨b3, b4⟩⟩
/-- not caught here: it goes on to the caller -/
theorem vx_widen {g : JFrame} {q : Addr} {k n : Nat} (h1 : cells ≤ k) (h2 : slots ≤ n) (kk : vx_W p l e R s m args below meth c H locs k n Q g q) : vx_W p l e R s m args below meth c H locs cells slots Q g q := fun T hT X => kk T hT (stand_widen X h1 h2)
theorem vx_out {pc : Nat} {E : String} {ce : Cell} {q : Addr} {mc ms : Nat} (hout : ∀ x ∈ c.exceptionTable.toList, covers x pc = false) (hlocks : meth.locks = false) (hcell : H[q]? = some ce) (hv : ce.vm = .none) (hcl : s.vm.findClass E = some ce.cls)
    (hx : ∀ t : State, t.heap = H → s.vm.Alike t.vm → XC E s t) (hf : ∀ z ∈ locs, free z.base) (hc : cells ≤ mc) (hs : slots ≤ ms) :
    vx_W p l e R s m args below meth c H locs cells slots (vx_MQ below Qc XC args s mc ms free) (F0 m pc ls rest) q := by
  intro T hT X
  obtain ⟨st1, hrun, hend, hW, hsm⟩ := X.leaveThrown q (g := F0 m pc ls rest) rfl rfl rfl hout hlocks
  have hcell9 : (T.setFrames (.throwing q :: below)).heap[q]? = some ce := by
    show T.heap[q]? = some ce
    rw [hT]; exact hcell
  exact ⟨_, st1, .threw q, hrun, hend, Or.inr ⟨q, rfl, E, ce, locs, hx _ hT hW.alike, hcell9, hv, hcl, hW, hsm.mono hc hs, hf⟩⟩
theorem vx_frame {U : State} {k n : Nat} (h : s.sameButNew ({ U with vm := s.vm } : State) locs k n) : s.heap.size ≤ U.heap.size ∧ ∀ q : Nat, q < s.heap.size → (∀ z ∈ locs, z.base ≠ q) → U.heap[q]? = s.heap[q]? := by
  obtain ⟨-, h2, -, -, -, h6⟩ := h
  refine ⟨h2, fun q hq hz => ?_⟩
  obtain ⟨c9, e1, e2, e3, e4⟩ := h6 q _ (Array.getElem?_eq_getElem hq)
  have hs : c9.slots = (s.heap[q]).slots := Array.ext_getElem? fun i => e4 i fun hm => hz _ hm rfl
  have h9 : c9 = s.heap[q] := by
    rw [hs] at e2
    exact e2
  have e5 : U.heap[q]? = some c9 := e1
  rw [e5, h9, Array.getElem?_eq_getElem hq]
/-- the words of a throw but the four that speak of the heap -/
def vx_no (w : Cond) : Bool := decide (w ≠ .isRef (.static Bundle.tN "UNASSIGNED_STACK" Bundle.steD)) && decide (w ≠ .isRef (.static Bundle.tN "SUPPRESSED_SENTINEL" Bundle.listD)) && decide (w ≠ .laysStatic Bundle.tN "UNASSIGNED_STACK" Bundle.steD) && decide (w ≠ .laysStatic Bundle.tN "SUPPRESSED_SENTINEL" Bundle.listD)
def vx_at0 (own : String) (ic : Nat) (X : String) (names : List String) : List Cond := (Bundle.ownAtoms0 own ic X names).filter vx_no
def vx_atS (own : String) (ic : Nat) (X : String) (names : List String) : List Cond := (Bundle.ownAtoms own ic X names).filter vx_no
/-- a word that the tables alone decide, or a good one -/
def vx_ot (w : Cond) : Bool := w.onTables || goodWord w
theorem vx_ot_at {args a' : Array Value} {s U : State} {w : Cond} (hW : s.WarmedH U.vm) (hvm : s.vm = U.vm) (hg : vx_ot w = true) (h : w.before args s = true) : w.before a' U = true := by
  simp only [vx_ot, Bool.or_eq_true] at hg
  rcases hg with hg | hg
  · exact va_tabs hg hvm h
  · exact word_at hW (good_of_word hg) h
/-- a list's words: the good ones out of the method's own list, the others by premises of their own -/
theorem vx_hat {args : Array Value} {s : State} {L B : List Cond} (h1 : ∀ w ∈ L.filter goodWord, w.before args s = true) (h2 : ∀ w ∈ L.filter (fun w => !goodWord w), w ∈ B) (h3 : ∀ w ∈ B, w.before args s = true) : ∀ w ∈ L, w.before args s = true := by
  intro w hw
  by_cases g : goodWord w = true
  · exact h1 w (List.mem_filter.mpr ⟨hw, g⟩)
  · refine h3 w (h2 w (List.mem_filter.mpr ⟨hw, ?_⟩))
    show (!goodWord w) = true
    cases hgw : goodWord w
    · rfl
    · exact absurd hgw g
theorem vx_c {args : Array Value} {s : State} {w : Cond} {B : List Cond} (h : w.before args s = true) (t : ∀ w ∈ B, w.before args s = true) : ∀ w' ∈ w :: B, w'.before args s = true := fun w' h' => (List.mem_cons.mp h').elim (fun e => by rw [e]; exact h) (t w')
theorem vx_n {args : Array Value} {s : State} : ∀ w ∈ ([] : List Cond), w.before args s = true := fun _ h => nomatch h
theorem vx_own {args : Array Value} {s : State} {L : List Cond} (h1 : ∀ w ∈ L.filter vx_no, w.before args s = true)
    (hU : (Cond.isRef (.static Bundle.tN "UNASSIGNED_STACK" Bundle.steD)).before args s = true) (hN : (Cond.isRef (.static Bundle.tN "SUPPRESSED_SENTINEL" Bundle.listD)).before args s = true)
    (lU : (Cond.laysStatic Bundle.tN "UNASSIGNED_STACK" Bundle.steD).before args s = true) (lN : (Cond.laysStatic Bundle.tN "SUPPRESSED_SENTINEL" Bundle.listD).before args s = true) : ∀ w ∈ L, w.before args s = true := by
  intro w hw
  by_cases e1 : w = .isRef (.static Bundle.tN "UNASSIGNED_STACK" Bundle.steD)
  · rw [e1]; exact hU
  · by_cases e2 : w = .isRef (.static Bundle.tN "SUPPRESSED_SENTINEL" Bundle.listD)
    · rw [e2]; exact hN
    · by_cases e3 : w = .laysStatic Bundle.tN "UNASSIGNED_STACK" Bundle.steD
      · rw [e3]; exact lU
      · by_cases e4 : w = .laysStatic Bundle.tN "SUPPRESSED_SENTINEL" Bundle.listD
        · rw [e4]; exact lN
        · exact h1 w (List.mem_filter.mpr ⟨hw, by unfold vx_no; rw [decide_eq_true e1, decide_eq_true e2, decide_eq_true e3, decide_eq_true e4]; rfl⟩)
/-- where a static field lies, its class's statics cell in H -/
def vx_L (C n d : String) (A : Nat → Prop) (U : State) (H : Heap) : Prop := ∃ (c : ClassId) (k : Class) (i : Nat) (f : Field) (a : Nat) (cell : Cell), U.vm.findClass C = some c ∧ U.fieldFound? C n d = some (c, k, i, f) ∧ f.isStatic = true ∧ k.statics = some a ∧ H[a]? = some cell ∧ cell.vm.isStatics = true ∧ cell.cls = c ∧ f.slot < cell.slots.size ∧ k.staticTypes[f.slot]? = some f.type ∧ ¬ A a
theorem vx_L.moved {C n d : String} {A : Nat → Prop} {u U : State} {H : Heap} (hvm : u.vm.Alike U.vm) (h : vx_L C n d A u H) : vx_L C n d A U H := by
  obtain ⟨c, k, i, f, a, cell, h1, h2, h3, h4, h5, h6, h7, h8, h9, h10⟩ := h
  obtain ⟨k', hi', he⟩ := State.fieldFound?_setVm hvm h2
  exact ⟨c, k', i, f, a, cell, by rw [hvm.findClass]; exact h1, hi', h3, by rw [he]; exact h4, h5, h6, h7, h8, by rw [he]; exact h9, h10⟩
theorem vx_L.kept {C n d : String} {A : Nat → Prop} {U : State} {H H1 : Heap} (h : vx_L C n d A U H) (hq : ∀ a : Nat, a < H.size → ¬ A a → H1[a]? = H[a]?) : vx_L C n d A U H1 := by
  obtain ⟨c, k, i, f, a, cell, h1, h2, h3, h4, h5, h6, h7, h8, h9, h10⟩ := h
  exact ⟨c, k, i, f, a, cell, h1, h2, h3, h4, by rw [hq a (Array.getElem?_eq_some_iff.mp h5).1 h10]; exact h5, h6, h7, h8, h9, h10⟩
theorem vx_L.narrow {C n d : String} {A B : Nat → Prop} {U : State} {H : Heap} (h : vx_L C n d A U H) (hAB : ∀ q, B q → A q) : vx_L C n d B U H := by
  obtain ⟨c, k, i, f, a, cell, h1, h2, h3, h4, h5, h6, h7, h8, h9, h10⟩ := h
  exact ⟨c, k, i, f, a, cell, h1, h2, h3, h4, h5, h6, h7, h8, h9, fun z => h10 (hAB _ z)⟩
theorem vx_L.word {C n d : String} {A : Nat → Prop} {s : State} {args : Array Value} (h : vx_L C n d A s s.heap) : (Cond.laysStatic C n d).before args s = true := by
  obtain ⟨c, k, i, f, a, cell, h1, h2, h3, h4, h5, h6, h7, h8, h9, -⟩ := h
  show (Cond.laysStatic C n d).holds args s none s [] = true
  exact Cond.laysStatic_of h1 h2 h3 h4 h5 h6 h7 h8 h9
/-- .. and what it holds: null or some reference -/
def vx_Zq (C n d : String) (A : Nat → Prop) (U : State) (H : Heap) : Prop := va_Zq C n d A U H ∧ vx_L C n d A U H
theorem vx_Zq.moved {C n d : String} {A : Nat → Prop} {u U : State} {H : Heap} (hvm : u.vm.Alike U.vm) (h : vx_Zq C n d A u H) : vx_Zq C n d A U H := ⟨va_Zq.moved hvm h.1, vx_L.moved hvm h.2⟩
theorem vx_Zq.kept {C n d : String} {A : Nat → Prop} {U : State} {H H1 : Heap} (h : vx_Zq C n d A U H) (hq : ∀ a : Nat, a < H.size → ¬ A a → H1[a]? = H[a]?) : vx_Zq C n d A U H1 := ⟨va_Zq.kept h.1 hq, vx_L.kept h.2 hq⟩
theorem vx_Zq.narrow {C n d : String} {A B : Nat → Prop} {U : State} {H : Heap} (h : vx_Zq C n d A U H) (hAB : ∀ q, B q → A q) : vx_Zq C n d B U H := ⟨va_Zq.narrow h.1 hAB, vx_L.narrow h.2 hAB⟩
theorem vx_Zqof {args : Array Value} {s : State} {C n d : String} {A : Nat → Prop} (hl : (Cond.laysStatic C n d).before args s = true) (hini : (Cond.initialized C).before args s = true) (h : (Cond.isRef (.static C n d)).before args s = true) (hA : ∀ a : Nat, a < s.heap.size → ¬ A a) : vx_Zq C n d A s s.heap := by
  refine ⟨va_Zqof hl hini h hA, ?_⟩
  obtain ⟨c, k, i, f, a, cell, h1, h2, h3, h4, h5, h6, h7, h8, h9⟩ := Cond.laysStatic_spec hl
  exact ⟨c, k, i, f, a, cell, h1, h2, h3, h4, h5, h6, h7, h8, h9, hA a (Array.getElem?_eq_some_iff.mp h5).1⟩
theorem vx_isRef {C n d : String} {v : Value} {A : Nat → Prop} {s : State} {args : Array Value} (h : va_Z C n d v A s s.heap) (hv : v.isRef = true) : (Cond.isRef (.static C n d)).before args s = true := by
  obtain ⟨cf, kf, fi, f, a, cell, h1, h2, h3, h4, h5, h6, h7, -⟩ := h
  have he : (Term.static C n d).eval args s none [] s = some v := by
    simp [Term.eval, State.fieldNamed?, h1, h2, h4, h5, h6, h7]
  simp only [Cond.before, Cond.holds, Cond.value, he]
  cases v <;> simp_all [Value.isRef]
theorem vx_isRefq {C n d : String} {A : Nat → Prop} {s : State} {args : Array Value} (h : va_Zq C n d A s s.heap) : (Cond.isRef (.static C n d)).before args s = true := by
  rcases h with h | ⟨t, h⟩
  · exact vx_isRef h rfl
  · exact vx_isRef h rfl
/-- the same frame, seen from here: as if the method were called anew in this heap -/
theorem vx_rebase {T : State} (X : Stand p l e R s m args below meth c T locs cells slots) {R' : Room} (hf : R'.frames ≤ R.frames) (hl : R'.locals ≤ R.locals) (hc : cells + R'.cells ≤ R.cells) (hs : slots + R'.slots ≤ R.slots) :
    Stand p l e R' ((T.setVm s.vm).setFrames (.invoking m args :: below)) m args below meth c T [] 0 0 := by
  have htop : (T.setVm s.vm).topJava?.isSome := X.here.top
  have hF : ((T.setVm s.vm).setFrames (.invoking m args :: below)).frames = .invoking m args :: below := State.frames_setFrames _ (State.cur_lt_of_top htop)
  obtain ⟨g₀, hg0⟩ := Option.isSome_iff_exists.mp htop
  obtain ⟨r, hr⟩ := State.topJava?_eq_some.mp hg0
  have hl9 : e.platform.stackLimits (T.setVm s.vm).me = e.platform.stackLimits s.me := X.limits
  have hb9 : (T.setVm s.vm).me.stackBytes = s.me.stackBytes := X.bytes
  refine ⟨X.admits, X.cas, X.clock, hF, ?_, X.hears, X.method, X.code, X.here, X.tail, X.warmed, ?_, ?_, ?_⟩
  · have h := X.room
    have hU : ((T.setVm s.vm).setFrames (.invoking m args :: below)).localsInUse = s.localsInUse := by
      rw [State.localsInUse_invoking hF (meth := meth) (c := c) X.method X.code, State.localsInUse_invoking X.frames X.method X.code]
    simp only [State.hasRoom, Bool.and_eq_true, decide_eq_true_eq] at h ⊢
    obtain ⟨⟨⟨⟨h1, h2, h3, h4, h5, h6⟩, h7⟩, h8⟩, h9⟩ := h
    rw [X.frames, List.length_cons] at h2 h3
    have q1 := X.heapSize
    have q2 := X.used
    simp only [hF, hU, List.length_cons, State.stackLimits_setFrames, State.stackBytes_setFrames, hl9, hb9]
    refine ⟨⟨⟨⟨by omega, by omega, by omega, by omega, by omega, h6⟩, ?_⟩, ?_⟩, X.book⟩
    · show T.heap.size + R'.cells ≤ e.platform.maxCells
      omega
    · show T.slotsUsed + R'.slots ≤ e.platform.maxSlots
      omega
  · rw [State.stackLimits_setFrames]; rfl
  · rw [State.stackBytes_setFrames]; rfl
  · refine ⟨?_, Nat.le_refl _, Nat.le_refl _, ?_, ?_, fun a c9 h9 => ⟨c9, h9, rfl, rfl, fun _ _ => rfl⟩⟩
    · obtain ⟨t, ht, -⟩ := State.frames_cons hr
      show T.setVm s.vm = { ((T.setVm s.vm).setFrames (.invoking m args :: below)).setFrames (T.setVm s.vm).frames with heap := T.heap, slotsUsed := T.slotsUsed }
      rw [State.setFrames_setFrames, State.setFrames_self ht]
      rfl
    · show T.slotsUsed = T.slotsUsed + ((T.heap.toList.drop T.heap.size).map (·.slots.size)).sum
      rw [List.drop_eq_nil_of_le (Nat.le_of_eq Array.length_toList)]
      rfl
    · show ((T.heap.toList.drop T.heap.size).map (·.slots.size)).sum ≤ 0
      rw [List.drop_eq_nil_of_le (Nat.le_of_eq Array.length_toList)]
      exact Nat.le_refl _
/-- 'throw new E()': new; dup; invokespecial; athrow -/
theorem vx_throw0 {cc : ByteArray} {pc : Nat} (hexec : p.tables.exec = Jvm.exec) (hb : c.code = cc) (hl : l.stackTraces = false) {own cls : String} {names : List String} {ik ic mc ms : Nat} {A : Nat → Prop}
    (hown : s.vm.findClass own = some m.cls) (hcls : Bundle.fit cls = true) (hnames : ∀ n ∈ names, Bundle.fit n = true)
    (hk : (Cond.classLink own ik cls).before args s = true) (hini : (Cond.initialized cls).before args s = true) (hat : ∀ w ∈ vx_at0 own ic cls names, w.before args s = true)
    (hgood : ∀ w ∈ Cond.classLink own ik cls :: Cond.initialized cls :: vx_at0 own ic cls names, vx_ot w = true)
    (hU : vx_Zq Bundle.tN "UNASSIGNED_STACK" Bundle.steD A s s.heap) (hN : vx_Zq Bundle.tN "SUPPRESSED_SENTINEL" Bundle.listD A s s.heap) (hS : va_S A s.heap H locs) (hsize : ls.size = c.maxLocals)
    (d0 : decode cc pc = .ok (.new ik, 3)) (d3 : decode cc (pc + 3) = .ok (.dup, 1)) (d4 : decode cc (pc + 4) = .ok (.invokespecial ic, 3)) (d7 : decode cc (pc + 7) = .ok (.athrow, 1))
    (hout : ∀ x ∈ c.exceptionTable.toList, covers x (pc + 7) = false)
    (hRframes : names.length + 3 < R.frames) (hRlocals : (rest.map fun v => v.category).sum + (13 * (names.length + 1) + 42) ≤ R.locals) (hRcells : cells + 1 ≤ R.cells) (hRslots : slots + 6 ≤ R.slots) (hlocks : meth.locks = false)
    (hx : ∀ t : State, s.vm.Alike t.vm → H.size ≤ t.heap.size → (∀ q : Nat, q < H.size → t.heap[q]? = H[q]?) → XC cls s t)
    (hf : ∀ z ∈ locs, free z.base) (hc : cells + 1 ≤ mc) (hs : slots + 6 ≤ ms) :
    W p l e R s m args below meth c H locs cells slots (vx_MQ below Qc XC args s mc ms free) (F0 m pc ls rest) := by
  intro T hT X
  have htr : e.platform.stackTraces = false := (show e.platform.stackTraces = l.stackTraces by rw [X.admits.platform]).trans hl
  have Y := vx_rebase X (R' := { frames := R.frames, locals := R.locals, cells := 1, slots := 6 }) (Nat.le_refl _) (Nat.le_refl _) hRcells hRslots
  obtain ⟨s', hA⟩ : ∃ z, z = (T.setVm s.vm).setFrames (.invoking m args :: below) := ⟨_, rfl⟩
  rw [← hA] at Y
  have hvm : s'.vm = s.vm := by rw [hA]; rfl
  have hhp : s'.heap = H := by rw [hA]; exact hT
  have hW0 : s.WarmedH s'.vm := by rw [hvm]; exact State.WarmedH.refl s
  have hat' : ∀ w ∈ vx_at0 own ic cls names, w.before args s' = true := fun w hw => vx_ot_at hW0 hvm.symm (hgood w (List.mem_cons_of_mem _ (List.mem_cons_of_mem _ hw))) (hat w hw)
  have hk' : (Cond.classLink own ik cls).before args s' = true := vx_ot_at hW0 hvm.symm (hgood _ List.mem_cons_self) hk
  have hini' : (Cond.initialized cls).before args s' = true := vx_ot_at hW0 hvm.symm (hgood _ (List.mem_cons_of_mem _ List.mem_cons_self)) hini
  have hU' : vx_Zq Bundle.tN "UNASSIGNED_STACK" Bundle.steD A s' s'.heap := by rw [hhp]; exact vx_Zq.moved hW0.alike (hU.kept hS.2.1)
  have hN' : vx_Zq Bundle.tN "SUPPRESSED_SENTINEL" Bundle.listD A s' s'.heap := by rw [hhp]; exact vx_Zq.moved hW0.alike (hN.kept hS.2.1)
  have h : ∀ w ∈ Bundle.ownAtoms0 own ic cls names, w.before args s' = true := vx_own hat' (vx_isRefq hU'.1) (vx_isRefq hN'.1) hU'.2.word hN'.2.word
  have hown' : s'.vm.findClass own = some m.cls := by rw [hvm]; exact hown
  have hins : (Cond.instantiable cls 6).before args s' = true := h _ (by simp [Bundle.ownAtoms0])
  obtain ⟨vm₁, cX, kX, hfX, hkX, -, -, X₁, st1⟩ := Y.newCold hexec (own := own) (C := cls) (index := ik) (n := 6) hown' hk' hins hini'
    (g := F0 m pc ls rest) rfl (by rw [hb]; exact d0) (Nat.le_refl _) (Nat.le_refl _)
  generalize hT1 : (T.setVm vm₁).pushCell { cls := cX, slots := kX.instanceTypes.map defaultValue, vm := .none } = T1 at X₁ st1
  have hcat : (Value.ref T.heap.size).category = 1 := rfl
  have hcellA : T1.heap[T.heap.size]? = some (freshCell cX kX) := by rw [← hT1]; exact State.heap_pushCell_size _ _
  have d3' : decode c.code (pc + 3) = .ok (.dup, 1) := by rw [hb]; exact d3
  obtain ⟨U, hsteps, hrun, hend, hW, hsame, ce, hce, hO⟩ := X₁.ctorThrow0 hexec htr (own := own) (cls := cls) (names := names) (ic := ic) hown' hcls hnames h (fun x hx => nomatch hx) hfX hkX hcellA (by rw [hhp, hT]; exact Nat.le_refl _)
    (g := { method := m, pc := pc + 4, locals := ls, stack := .ref T.heap.size :: .ref T.heap.size :: rest, locked := none }) rfl hsize rfl rfl (rest := rest) rfl
    (by rw [hb]; exact d4) (by rw [hb]; exact d7) hout hRframes (by simp only [List.map_cons, List.sum_cons, hcat]; omega) hlocks
  obtain ⟨f1, f2⟩ := vx_frame hsame
  rw [hhp] at f1 f2
  have hWs : s.WarmedH U.vm := State.WarmedH.trans hW0 hW
  have hcl : s.vm.findClass cls = some ce.cls := by
    have h9 := hO.cls
    rw [hvm] at h9
    exact h9
  have hall : s.sameButNew ({ U with vm := s.vm } : State) locs mc ms := by
    subst hA
    obtain ⟨e1, e2⟩ := hsame
    rw [State.setFrames_setFrames] at e1
    have h2 : (T.setVm s.vm).sameButNew ({ U with vm := s.vm } : State) [] (0 + 1) (0 + 6) := ⟨e1, e2⟩
    have h3 := X.same.trans h2
    rw [List.append_nil] at h3
    exact h3.mono hc hs
  refine ⟨U, ?_, .threw T.heap.size, hrun, hend, Or.inr ⟨T.heap.size, rfl, cls, ce, locs, hx U hWs.alike f1 (fun q hq => f2 q hq (fun z hz => nomatch hz)), hce, hO.vm, hcl, hWs, hall, hf⟩⟩
  refine st1 _ ?_
  show Steps p.tables e below (T1.setTop { method := m, pc := pc + 3, locals := ls, stack := .ref T.heap.size :: rest, locked := none }) _
  jvm_step X₁.here [X₁.here.top, hexec, d3', Value.category]
  exact hsteps
/-- 'throw new E("text")': new; dup; ldc; invokespecial; athrow -/
theorem vx_throwS {cc : ByteArray} {pc : Nat} (hexec : p.tables.exec = Jvm.exec) (hb : c.code = cc) (hl : l.stackTraces = false) {own cls text : String} {names : List String} {ik is ic mc ms sa : Nat} {A : Nat → Prop}
    (hown : s.vm.findClass own = some m.cls) (hcls : Bundle.fit cls = true) (hnames : ∀ n ∈ names, Bundle.fit n = true)
    (hk : (Cond.classLink own ik cls).before args s = true) (hini : (Cond.initialized cls).before args s = true) (hstr : vk_R own is text sa s) (hat : ∀ w ∈ vx_atS own ic cls names, w.before args s = true)
    (hgood : ∀ w ∈ Cond.classLink own ik cls :: Cond.initialized cls :: vx_atS own ic cls names, vx_ot w = true)
    (hU : vx_Zq Bundle.tN "UNASSIGNED_STACK" Bundle.steD A s s.heap) (hN : vx_Zq Bundle.tN "SUPPRESSED_SENTINEL" Bundle.listD A s s.heap) (hS : va_S A s.heap H locs) (hsize : ls.size = c.maxLocals)
    (d0 : decode cc pc = .ok (.new ik, 3)) (d3 : decode cc (pc + 3) = .ok (.dup, 1)) (d4 : decode cc (pc + 4) = .ok (.ldc is, 2)) (d6 : decode cc (pc + 6) = .ok (.invokespecial ic, 3)) (d9 : decode cc (pc + 9) = .ok (.athrow, 1))
    (hout : ∀ x ∈ c.exceptionTable.toList, covers x (pc + 9) = false)
    (hRframes : names.length + 3 < R.frames) (hRlocals : (rest.map fun v => v.category).sum + (13 * (names.length + 1) + 43) ≤ R.locals) (hRcells : cells + 1 ≤ R.cells) (hRslots : slots + 6 ≤ R.slots) (hlocks : meth.locks = false)
    (hx : ∀ t : State, s.vm.Alike t.vm → H.size ≤ t.heap.size → (∀ q : Nat, q < H.size → t.heap[q]? = H[q]?) → XC cls s t)
    (hf : ∀ z ∈ locs, free z.base) (hc : cells + 1 ≤ mc) (hs : slots + 6 ≤ ms) :
    W p l e R s m args below meth c H locs cells slots (vx_MQ below Qc XC args s mc ms free) (F0 m pc ls rest) := by
  intro T hT X
  have htr : e.platform.stackTraces = false := (show e.platform.stackTraces = l.stackTraces by rw [X.admits.platform]).trans hl
  have Y := vx_rebase X (R' := { frames := R.frames, locals := R.locals, cells := 1, slots := 6 }) (Nat.le_refl _) (Nat.le_refl _) hRcells hRslots
  obtain ⟨s', hA⟩ : ∃ z, z = (T.setVm s.vm).setFrames (.invoking m args :: below) := ⟨_, rfl⟩
  rw [← hA] at Y
  have hvm : s'.vm = s.vm := by rw [hA]; rfl
  have hhp : s'.heap = H := by rw [hA]; exact hT
  have hW0 : s.WarmedH s'.vm := by rw [hvm]; exact State.WarmedH.refl s
  have hat' : ∀ w ∈ vx_atS own ic cls names, w.before args s' = true := fun w hw => vx_ot_at hW0 hvm.symm (hgood w (List.mem_cons_of_mem _ (List.mem_cons_of_mem _ hw))) (hat w hw)
  have hk' : (Cond.classLink own ik cls).before args s' = true := vx_ot_at hW0 hvm.symm (hgood _ List.mem_cons_self) hk
  have hini' : (Cond.initialized cls).before args s' = true := vx_ot_at hW0 hvm.symm (hgood _ (List.mem_cons_of_mem _ List.mem_cons_self)) hini
  have hU' : vx_Zq Bundle.tN "UNASSIGNED_STACK" Bundle.steD A s' s'.heap := by rw [hhp]; exact vx_Zq.moved hW0.alike (hU.kept hS.2.1)
  have hN' : vx_Zq Bundle.tN "SUPPRESSED_SENTINEL" Bundle.listD A s' s'.heap := by rw [hhp]; exact vx_Zq.moved hW0.alike (hN.kept hS.2.1)
  have h : ∀ w ∈ Bundle.ownAtoms own ic cls names, w.before args s' = true := vx_own hat' (vx_isRefq hU'.1) (vx_isRefq hN'.1) hU'.2.word hN'.2.word
  have hown' : s'.vm.findClass own = some m.cls := by rw [hvm]; exact hown
  have hins : (Cond.instantiable cls 6).before args s' = true := h _ (by simp [Bundle.ownAtoms])
  obtain ⟨vm₁, cX, kX, hfX, hkX, -, -, X₁, st1⟩ := Y.newCold hexec (own := own) (C := cls) (index := ik) (n := 6) hown' hk' hins hini'
    (g := F0 m pc ls rest) rfl (by rw [hb]; exact d0) (Nat.le_refl _) (Nat.le_refl _)
  generalize hT1 : (T.setVm vm₁).pushCell { cls := cX, slots := kX.instanceTypes.map defaultValue, vm := .none } = T1 at X₁ st1
  have hcat : (Value.ref T.heap.size).category = 1 := rfl
  have hcellA : T1.heap[T.heap.size]? = some (freshCell cX kX) := by rw [← hT1]; exact State.heap_pushCell_size _ _
  have d3' : decode c.code (pc + 3) = .ok (.dup, 1) := by rw [hb]; exact d3
  have d4' : decode c.code (pc + 4) = .ok (.ldc is, 2) := by rw [hb]; exact d4
  have hstr' : vk_R own is text sa s' := vk_R.warm hW0 hstr
  obtain ⟨U, hsteps, hrun, hend, hW, hsame, ce, hce, hO⟩ := X₁.ctorThrowS hexec htr (own := own) (cls := cls) (names := names) (ic := ic) hown' hcls hnames h (fun x hx => nomatch hx) hfX hkX hcellA (by rw [hhp, hT]; exact Nat.le_refl _) (msg := .ref sa) rfl
    (g := { method := m, pc := pc + 6, locals := ls, stack := .ref sa :: .ref T.heap.size :: .ref T.heap.size :: rest, locked := none }) rfl hsize rfl rfl (rest := rest) rfl
    (by rw [hb]; exact d6) (by rw [hb]; exact d9) hout hRframes (by simp only [List.map_cons, List.sum_cons, hcat]; omega) hlocks
  obtain ⟨f1, f2⟩ := vx_frame hsame
  rw [hhp] at f1 f2
  have hWs : s.WarmedH U.vm := State.WarmedH.trans hW0 hW
  have hcl : s.vm.findClass cls = some ce.cls := by
    have h9 := hO.cls
    rw [hvm] at h9
    exact h9
  have hall : s.sameButNew ({ U with vm := s.vm } : State) locs mc ms := by
    subst hA
    obtain ⟨e1, e2⟩ := hsame
    rw [State.setFrames_setFrames] at e1
    have h2 : (T.setVm s.vm).sameButNew ({ U with vm := s.vm } : State) [] (0 + 1) (0 + 6) := ⟨e1, e2⟩
    have h3 := X.same.trans h2
    rw [List.append_nil] at h3
    exact h3.mono hc hs
  refine ⟨U, ?_, .threw T.heap.size, hrun, hend, Or.inr ⟨T.heap.size, rfl, cls, ce, locs, hx U hWs.alike f1 (fun q hq => f2 q hq (fun z hz => nomatch hz)), hce, hO.vm, hcl, hWs, hall, hf⟩⟩
  refine st1 _ ?_
  show Steps p.tables e below (T1.setTop { method := m, pc := pc + 3, locals := ls, stack := .ref T.heap.size :: rest, locked := none }) _
  jvm_step X₁.here [X₁.here.top, hexec, d3', Value.category]
  exact X₁.ldcString hexec (own := own) (text := text) (index := is) (a := sa) hown' hstr'.1 hstr'.2
    (g := { method := m, pc := pc + 4, locals := ls, stack := .ref T.heap.size :: .ref T.heap.size :: rest, locked := none }) rfl d4' _ hsteps
/-- 'throw new E("text")', the text by a wide index -/
theorem vx_throwSW {cc : ByteArray} {pc : Nat} (hexec : p.tables.exec = Jvm.exec) (hb : c.code = cc) (hl : l.stackTraces = false) {own cls text : String} {names : List String} {ik is ic mc ms sa : Nat} {A : Nat → Prop}
    (hown : s.vm.findClass own = some m.cls) (hcls : Bundle.fit cls = true) (hnames : ∀ n ∈ names, Bundle.fit n = true)
    (hk : (Cond.classLink own ik cls).before args s = true) (hini : (Cond.initialized cls).before args s = true) (hstr : vk_R own is text sa s) (hat : ∀ w ∈ vx_atS own ic cls names, w.before args s = true)
    (hgood : ∀ w ∈ Cond.classLink own ik cls :: Cond.initialized cls :: vx_atS own ic cls names, vx_ot w = true)
    (hU : vx_Zq Bundle.tN "UNASSIGNED_STACK" Bundle.steD A s s.heap) (hN : vx_Zq Bundle.tN "SUPPRESSED_SENTINEL" Bundle.listD A s s.heap) (hS : va_S A s.heap H locs) (hsize : ls.size = c.maxLocals)
    (d0 : decode cc pc = .ok (.new ik, 3)) (d3 : decode cc (pc + 3) = .ok (.dup, 1)) (d4 : decode cc (pc + 4) = .ok (.ldc_w is, 3)) (d7 : decode cc (pc + 7) = .ok (.invokespecial ic, 3)) (d10 : decode cc (pc + 10) = .ok (.athrow, 1))
    (hout : ∀ x ∈ c.exceptionTable.toList, covers x (pc + 10) = false)
    (hRframes : names.length + 3 < R.frames) (hRlocals : (rest.map fun v => v.category).sum + (13 * (names.length + 1) + 43) ≤ R.locals) (hRcells : cells + 1 ≤ R.cells) (hRslots : slots + 6 ≤ R.slots) (hlocks : meth.locks = false)
    (hx : ∀ t : State, s.vm.Alike t.vm → H.size ≤ t.heap.size → (∀ q : Nat, q < H.size → t.heap[q]? = H[q]?) → XC cls s t)
    (hf : ∀ z ∈ locs, free z.base) (hc : cells + 1 ≤ mc) (hs : slots + 6 ≤ ms) :
    W p l e R s m args below meth c H locs cells slots (vx_MQ below Qc XC args s mc ms free) (F0 m pc ls rest) := by
  intro T hT X
  have htr : e.platform.stackTraces = false := (show e.platform.stackTraces = l.stackTraces by rw [X.admits.platform]).trans hl
  have Y := vx_rebase X (R' := { frames := R.frames, locals := R.locals, cells := 1, slots := 6 }) (Nat.le_refl _) (Nat.le_refl _) hRcells hRslots
  obtain ⟨s', hA⟩ : ∃ z, z = (T.setVm s.vm).setFrames (.invoking m args :: below) := ⟨_, rfl⟩
  rw [← hA] at Y
  have hvm : s'.vm = s.vm := by rw [hA]; rfl
  have hhp : s'.heap = H := by rw [hA]; exact hT
  have hW0 : s.WarmedH s'.vm := by rw [hvm]; exact State.WarmedH.refl s
  have hat' : ∀ w ∈ vx_atS own ic cls names, w.before args s' = true := fun w hw => vx_ot_at hW0 hvm.symm (hgood w (List.mem_cons_of_mem _ (List.mem_cons_of_mem _ hw))) (hat w hw)
  have hk' : (Cond.classLink own ik cls).before args s' = true := vx_ot_at hW0 hvm.symm (hgood _ List.mem_cons_self) hk
  have hini' : (Cond.initialized cls).before args s' = true := vx_ot_at hW0 hvm.symm (hgood _ (List.mem_cons_of_mem _ List.mem_cons_self)) hini
  have hU' : vx_Zq Bundle.tN "UNASSIGNED_STACK" Bundle.steD A s' s'.heap := by rw [hhp]; exact vx_Zq.moved hW0.alike (hU.kept hS.2.1)
  have hN' : vx_Zq Bundle.tN "SUPPRESSED_SENTINEL" Bundle.listD A s' s'.heap := by rw [hhp]; exact vx_Zq.moved hW0.alike (hN.kept hS.2.1)
  have h : ∀ w ∈ Bundle.ownAtoms own ic cls names, w.before args s' = true := vx_own hat' (vx_isRefq hU'.1) (vx_isRefq hN'.1) hU'.2.word hN'.2.word
  have hown' : s'.vm.findClass own = some m.cls := by rw [hvm]; exact hown
  have hins : (Cond.instantiable cls 6).before args s' = true := h _ (by simp [Bundle.ownAtoms])
  obtain ⟨vm₁, cX, kX, hfX, hkX, -, -, X₁, st1⟩ := Y.newCold hexec (own := own) (C := cls) (index := ik) (n := 6) hown' hk' hins hini'
    (g := F0 m pc ls rest) rfl (by rw [hb]; exact d0) (Nat.le_refl _) (Nat.le_refl _)
  generalize hT1 : (T.setVm vm₁).pushCell { cls := cX, slots := kX.instanceTypes.map defaultValue, vm := .none } = T1 at X₁ st1
  have hcat : (Value.ref T.heap.size).category = 1 := rfl
  have hcellA : T1.heap[T.heap.size]? = some (freshCell cX kX) := by rw [← hT1]; exact State.heap_pushCell_size _ _
  have d3' : decode c.code (pc + 3) = .ok (.dup, 1) := by rw [hb]; exact d3
  have d4' : decode c.code (pc + 4) = .ok (.ldc_w is, 3) := by rw [hb]; exact d4
  have hstr' : vk_R own is text sa s' := vk_R.warm hW0 hstr
  obtain ⟨U, hsteps, hrun, hend, hW, hsame, ce, hce, hO⟩ := X₁.ctorThrowS hexec htr (own := own) (cls := cls) (names := names) (ic := ic) hown' hcls hnames h (fun x hx => nomatch hx) hfX hkX hcellA (by rw [hhp, hT]; exact Nat.le_refl _) (msg := .ref sa) rfl
    (g := { method := m, pc := pc + 7, locals := ls, stack := .ref sa :: .ref T.heap.size :: .ref T.heap.size :: rest, locked := none }) rfl hsize rfl rfl (rest := rest) rfl
    (by rw [hb]; exact d7) (by rw [hb]; exact d10) hout hRframes (by simp only [List.map_cons, List.sum_cons, hcat]; omega) hlocks
  obtain ⟨f1, f2⟩ := vx_frame hsame
  rw [hhp] at f1 f2
  have hWs : s.WarmedH U.vm := State.WarmedH.trans hW0 hW
  have hcl : s.vm.findClass cls = some ce.cls := by
    have h9 := hO.cls
    rw [hvm] at h9
    exact h9
  have hall : s.sameButNew ({ U with vm := s.vm } : State) locs mc ms := by
    subst hA
    obtain ⟨e1, e2⟩ := hsame
    rw [State.setFrames_setFrames] at e1
    have h2 : (T.setVm s.vm).sameButNew ({ U with vm := s.vm } : State) [] (0 + 1) (0 + 6) := ⟨e1, e2⟩
    have h3 := X.same.trans h2
    rw [List.append_nil] at h3
    exact h3.mono hc hs
  refine ⟨U, ?_, .threw T.heap.size, hrun, hend, Or.inr ⟨T.heap.size, rfl, cls, ce, locs, hx U hWs.alike f1 (fun q hq => f2 q hq (fun z hz => nomatch hz)), hce, hO.vm, hcl, hWs, hall, hf⟩⟩
  refine st1 _ ?_
  show Steps p.tables e below (T1.setTop { method := m, pc := pc + 3, locals := ls, stack := .ref T.heap.size :: rest, locked := none }) _
  jvm_step X₁.here [X₁.here.top, hexec, d3', Value.category]
  exact X₁.ldcStringW hexec (own := own) (text := text) (index := is) (a := sa) hown' hstr'.1 hstr'.2
    (g := { method := m, pc := pc + 4, locals := ls, stack := .ref T.heap.size :: .ref T.heap.size :: rest, locked := none }) rfl d4' _ hsteps
end Ends
section Bodies
variable {l : Launch}
theorem vx_ofW {y : MethodName} {ws ws' : List Cond} {rm : Room} {Pc : Array Value → State → Prop} {Qc : Array Value → State → Outcome → State → Prop} {XC : String → State → State → Prop} {mc ms : Nat} {free : Addr → Prop} {cc : ByteArray} {maxL : Nat} {ret : Option FieldType}
    (hy : plainName y.cls = true) (hw : ws = Cond.code y cc maxL ret :: ws')
    (body : ∀ p e s m args below meth c s₁, BodyLoose p l y (headSpec ws rm) cc maxL ret e s m args below meth c s₁ → c.maxLocals = maxL → (∀ x ∈ c.exceptionTable.toList, False) → Pc args s →
      W p l e (headSpec ws rm).room s m args below meth c s.heap [] 0 0 (vx_MQ below Qc XC args s mc ms free) (entryFrame m args maxL)) : vx_Met l y ws rm Pc Qc XC mc ms free := by
  refine MetFree.of_bodyS (code := cc) (maxLocals := maxL) (ret := ret) hy ?_ ?_
  · intro args s m h hn
    obtain ⟨meth, c, h1, h2, h3, h4, h5, h6, -, -⟩ := Cond.code_spec hn (atoms_spec (ws := ws) h _ (by rw [hw]; exact List.mem_cons_self))
    exact ⟨meth, c, h1, h2, h3, h4, h5, h6⟩
  · intro p e s m args below meth c s₁ B hml hP _
    have hh0 : s₁.heap = s.heap := by rw [B.state]; rfl
    have ht : ∀ x ∈ c.exceptionTable.toList, False := by
      obtain ⟨meth9, c9, h1, h2, -, -, -, -, h7, -⟩ := Cond.code_spec B.named (atoms_spec (ws := ws) B.pre _ (by rw [hw]; exact List.mem_cons_self))
      cases Option.some.inj (h1.symm.trans B.method)
      cases Option.some.inj (h2.symm.trans (Stand.of_body B).code)
      intro x hx
      rw [Array.isEmpty_iff.mp h7] at hx
      cases hx
    obtain ⟨t, a1, o, b1, b2, b3⟩ := body p e s m args below meth c s₁ B hml ht hP s₁ hh0 (Stand.of_body B)
    exact ⟨t, o, a1, b1, b2, b3⟩
/-- the table of a body with handlers -/
theorem vx_table {p : Program} {x y : MethodName} {S : Spec} {cc bytes : ByteArray} {maxL maxL' : Nat} {ret ret' : Option FieldType} {e : Env} {s s₁ : State} {m : MethodId} {args : Array Value} {below : List Frame} {meth : Method} {c : Code} {hh : List (Nat × Nat × Nat × Nat)}
    (B : BodyLoose p l y S cc maxL ret e s m args below meth c s₁) (h : (Cond.codeWith y bytes maxL' ret' hh).before args s = true) : c.exceptionTable.toList = tableOf hh := by
  obtain ⟨m9, meth9, c9, hn9, h1, h2, -, -, h6, -⟩ := Cond.codeWith_spec h
  cases Option.some.inj (hn9.symm.trans B.named)
  cases Option.some.inj (h1.symm.trans B.method)
  cases Option.some.inj (h2.symm.trans (Stand.of_body B).code)
  rw [← h6, table_eq]
end Bodies
end VXA
/-! ===== END ===== -/
/-! ===== BEGIN a static call of a method with an exception table ===== -/
section VXS
variable {p : Program} {l : Launch} {e : Env} {R : Room} {s : State} {m : MethodId} {args : Array Value} {below : List Frame} {meth : Method} {c : Code} {T : State} {H : Heap} {locs : List Loc} {cells slots : Nat}
abbrev vx_CSW (R : Room) (s : State) (args : Array Value) (own : String) (index : Nat) (y : MethodName) (bytes : ByteArray) (maxL : Nat) (ret : Option FieldType) (hh : List (Nat × Nat × Nat × Nat)) (ws : List Cond) (rm : Room) (mc ms n : Nat) : Prop :=
  (rm.cells = mc ∧ rm.slots = ms ∧ rm.frames + 1 ≤ R.frames ∧ 8 + (maxL + 11) + rm.locals ≤ R.locals ∧ (∀ w ∈ ws, ∀ (a' : Array Value) (U : State), s.WarmedH U.vm → w.before a' U = true) ∧ Cond.codeWith y bytes maxL ret hh ∈ ws) ∧
  (Cond.codeWith y bytes maxL ret hh).before args s = true ∧ (Cond.initialized y.cls).before args s = true ∧ (y.cls ≠ "java/lang/invoke/MethodHandle" ∧ y.cls ≠ "java/lang/invoke/VarHandle") ∧
  (∀ sig, parseMethodDescriptor y.desc = some sig → n = sig.parameters.length) ∧ (Cond.methodLink own index y).before args s = true ∧ (Cond.static y).before args s = true
theorem vx_cwSW {own : String} {index maxL mc ms : Nat} {y : MethodName} {bytes : ByteArray} {ret : Option FieldType} {hh : List (Nat × Nat × Nat × Nat)} {Ts ws ws' : List Cond} {rm : Room} (n : Nat) (ht : ∀ w ∈ Ts, w.before args s = true) (hT : GoodIn Ts (va_wsS own index y ws)) (hw : ws = Cond.codeWith y bytes maxL ret hh :: ws') (hrc : rm.cells = mc) (hrs : rm.slots = ms)
    (hd : y.cls ≠ "java/lang/invoke/MethodHandle" ∧ y.cls ≠ "java/lang/invoke/VarHandle" ∧ (parseMethodDescriptor y.desc).map (fun d => d.parameters.length) = some n) (hR : rm.frames + 1 ≤ R.frames ∧ 8 + (maxL + 11) + rm.locals ≤ R.locals) :
    vx_CSW R s args own index y bytes maxL ret hh ws rm mc ms n := by
  have ok : ∀ w ∈ va_wsS own index y ws, w.before args s = true := fun w h => ht w (hT w h).1
  have hG : GoodIn Ts ws := fun w h => hT w (by unfold va_wsS; exact List.mem_append_right _ h)
  have hc : Cond.codeWith y bytes maxL ret hh ∈ ws := by rw [hw]; exact List.mem_cons_self
  refine ⟨⟨hrc, hrs, hR.1, hR.2, pay_in ht hG, hc⟩, ht _ (hG _ hc).1, ok _ (by simp [va_wsS]), ⟨hd.1, hd.2.1⟩, fun sig h => ?_, ok _ (by simp [va_wsS]), ok _ (by simp [va_wsS])⟩
  have h2 := hd.2.2
  rw [h] at h2
  exact (Option.some.inj h2).symm
theorem vx_callSW (X : Stand p l e R s m args below meth c T locs cells slots) (hexec : p.tables.exec = Jvm.exec) {own : String} {index : Nat} {y : MethodName} {bytes : ByteArray} {maxL : Nat} {ret : Option FieldType} {hh : List (Nat × Nat × Nat × Nat)}
    (hown : s.vm.findClass own = some m.cls) (hlink : (Cond.methodLink own index y).before args s = true) (hstat : (Cond.static y).before args s = true) (hinit : (Cond.initialized y.cls).before args s = true)
    (hcode : (Cond.codeWith y bytes maxL ret hh).before args s = true) (hy : y.cls ≠ "java/lang/invoke/MethodHandle" ∧ y.cls ≠ "java/lang/invoke/VarHandle")
    {W9 : Nat} {Pre : Pt → Array Value → Prop} {Post : Pt → Array Value → Option Value → Pt → Prop} (hK : Back l R p e below s args y 3 W9 Pre Post)
    {g : JFrame} (hg : g.method = m) (hsize : g.locals.size = c.maxLocals) {argsL rest : List Value} (hlen : ∀ sig, parseMethodDescriptor y.desc = some sig → argsL.length = sig.parameters.length)
    (hstack : g.stack = argsL.reverse ++ rest) (hW : 2 * g.monitorRoom + (rest.map fun v => v.category).sum ≤ W9) (hdg : decode c.code g.pc = .ok (.invokestatic index, 3))
    (hpre : ∀ vm₁, s.WarmedH vm₁ → Pre ⟨T.setVm vm₁, locs, cells, slots⟩ argsL.toArray) :
    ∃ (v : Option Value) (vm₁ : Vm) (B : Pt), s.WarmedH vm₁ ∧ Stand p l e R s m args below meth c B.U B.locs B.cells B.slots ∧ Post ⟨T.setVm vm₁, locs, cells, slots⟩ argsL.toArray v B ∧
      ∀ target, Steps p.tables e below (B.U.setTop { g with pc := g.pc + 3, stack := v.toList ++ rest }) target → Steps p.tables e below (T.setTop g) target := by
  obtain ⟨mk, methM, cM, hnamed, hmethM, -, -, -, -, -, -, hsigM⟩ := Cond.codeWith_spec hcode
  have hstatic : methM.isStatic = true := Cond.static_spec hnamed hmethM hstat
  obtain ⟨kP, hkP, -⟩ := className_of_methodNamed hnamed
  have hinitP : kP.init = .initialized := Cond.initialized_spec (findClass_of_methodNamed hnamed) hkP hinit
  obtain ⟨vm₁, X₁, hstep₁⟩ := X.invokestatic hexec hown hlink hnamed hmethM hstatic hkP hinitP hy (g := g) hg (argsL := argsL) (rest := rest) (hlen _ hsigM) hstack hdg
  obtain ⟨v, B, X', hpost, hsteps⟩ := hK m meth c ⟨T.setVm vm₁, locs, cells, slots⟩ { g with stack := rest } (.invokestatic index) mk argsL.toArray X₁ hg hsize hdg hW (X₁.named hnamed) (hpre vm₁ X₁.warmed)
  exact ⟨v, vm₁, B, X₁.warmed, X', hpost, fun target h => hstep₁ _ fun acts => by rw [doInvoke_state]; exact hsteps.trans h⟩
theorem vx_runSW {y : MethodName} {bytes cc : ByteArray} {maxL nL mc ms n index : Nat} {ret : Option FieldType} {hh : List (Nat × Nat × Nat × Nat)} {ws : List Cond} {rm : Room} {Pc : Array Value → State → Prop} {Qc : Array Value → State → Outcome → State → Prop} {free : Addr → Prop} {Ts : List Cond} {own : String} {As rest : List Value} {g : JFrame}
    (S : CallFix p m c cc nL s args Ts own) (hM : Met l y ws rm Pc Qc mc ms free) (cw : vx_CSW R s args own index y bytes maxL ret hh ws rm mc ms n) (hp : PreS s H Pc As)
    (hg : g.method = m) (hn : As.length = n) (hsize : g.locals.size = nL) (hstack : g.stack = As.reverse ++ rest) (hW : 2 * g.monitorRoom + (rest.map fun v => v.category).sum ≤ 8) (hdg : decode cc g.pc = .ok (.invokestatic index, 3)) (hf : cells + mc ≤ R.cells ∧ slots + ms ≤ R.slots) :
    va_Run p l e R s m args below meth c H locs cells slots mc ms g rest (Qc As.toArray) (free) := by
  obtain ⟨⟨hrc, hrs, hfr, hlo, hws, hcw⟩, hcode, hini, hy, hlen, hl, hstt⟩ := cw
  have hK : Back l R p e below s args y 3 8 (PreOf R mc ms Pc) (PostOf Qc mc ms free) := va_backW (hh := hh) (bytes := bytes) (maxL := maxL) (ret := ret) hM hp.1 hrc hrs hfr hlo hws hcw (fun a' U hW => word_at hW (Or.inl (by first | rfl | simp [Cond.onTables, Cond.keeps, Cond.steady])) hini)
  obtain ⟨hx, hb, hml, ho, -⟩ := S
  intro T hT X
  obtain ⟨v, vm₁, ⟨U', l2, c2, s2⟩, hW₁, X', ⟨g', mk, t, L, e1, e2, hq, h1, hL, h2, h3⟩, st⟩ := vx_callSW X hx (hh := hh) (bytes := bytes) (maxL := maxL) (ret := ret) ho hl hstt hini hcode hy hK hg (hsize.trans hml.symm) (argsL := As) (rest := rest) (fun sig h => hn.trans (hlen sig h)) hstack hW (by rw [hb]; exact hdg)
    (fun vm₁ hW₁ => ⟨hf.1, hf.2, hp.2 (T.setVm vm₁) hT hW₁⟩)
  dsimp only [Pt.U, Pt.locs, Pt.cells, Pt.slots] at X' e1 e2 h1 h2 h3 st
  subst h1; subst h2; subst h3
  exact ⟨v, (T.setVm vm₁).calling g' mk As.toArray, t, U', L, hT, X', hL, e1, e2, hq, st⟩
/-- not caught here, past rows that name other classes: it goes on to the caller -/
theorem vx_outP {p : Program} {l : Launch} {e : Env} {R : Room} {s : State} {m : MethodId} {args : Array Value} {below : List Frame} {meth : Method} {c : Code} {H : Heap} {locs : List Loc} {cells slots : Nat} {free : Addr → Prop} {ls : Array Slot} {rest : List Value} {Qc : Array Value → State → Outcome → State → Prop} {XC : String → State → State → Prop}
    {pc : Nat} {own E : String} {ce : Cell} {q : Addr} {mc ms : Nat} (hown : s.vm.findClass own = some m.cls) (hlocks : meth.locks = false)
    (hpass : ∀ z ∈ c.exceptionTable.toList, covers z pc = false ∨ (z.catchType ≠ 0 ∧ ∃ nm : String, (Cond.classLink own z.catchType nm).before args s = true ∧ va_Nc E nm s)) (hcell : H[q]? = some ce) (hv : ce.vm = .none) (hcl : s.vm.findClass E = some ce.cls)
    (hx : ∀ t : State, t.heap = H → s.vm.Alike t.vm → XC E s t) (hf : ∀ z ∈ locs, free z.base) (hc : cells ≤ mc) (hs : slots ≤ ms) :
    vx_W p l e R s m args below meth c H locs cells slots (vx_MQ below Qc XC args s mc ms free) (F0 m pc ls rest) q := by
  intro T hT X
  have hpl : e.platform.magicAccessors = ({} : Platform).magicAccessors := by rw [X.admits.platform]
  obtain ⟨vm', hW', X', st⟩ := X.outThrough hlocks q (g := F0 m pc ls rest) rfl rfl rfl (cell := ce) (by rw [hT]; exact hcell) (by rw [hv]; rfl)
    (by obtain ⟨k9, h9, -⟩ := Vm.findClass_spec hcl; exact ⟨k9, h9⟩) (fun z hz => by
      rcases hpass z hz with h | ⟨hz0, nm, hl1, hn1⟩
      · exact Or.inl h
      · obtain ⟨c6, hc6, hcl6⟩ := Cond.classLink_spec hown hl1 e.platform hpl
        obtain ⟨a8, b8, h1, h2, h3⟩ := hn1
        cases Option.some.inj (h1.symm.trans hcl)
        cases Option.some.inj (h2.symm.trans hc6)
        exact Or.inr ⟨hz0, _, hcl6, h3⟩)
  obtain ⟨g₀, hfr⟩ := X'.frames_eq
  have hcell9 : ((T.setVm vm').setFrames (.throwing q :: below)).heap[q]? = some ce := by
    show T.heap[q]? = some ce
    rw [hT]; exact hcell
  have hend : Ended ((T.setVm vm').setFrames (.throwing q :: below)) below (.threw q) := State.frames_setFrames _ (State.cur_lt_of_frames hfr)
  refine ⟨(T.setVm vm').setFrames (.throwing q :: below), ?_, .threw q, X'.here.running, hend, Or.inr ⟨q, rfl, E, ce, locs, hx _ hT (X'.ends _).1.alike, hcell9, hv, hcl, (X'.ends _).1, (X'.ends _).2.mono hc hs, hf⟩⟩
  rw [X.pushThrowing_eq]
  exact st
/-- a thing of a world lies in the heap -/
theorem vx_lt {D : va_G} {cl : List vw_C} {ws : va_W} {H1 : Heap} (h : va_P D cl ws H1) {k : Nat} {q : Nat × va_E} (hk : ws[k]? = some q) : q.1 < H1.size := (h k q hk).lt
end VXS
/-! ===== END ===== -/
/-! ===== BEGIN methods with a table of their own: called by a name, returning or throwing ===== -/
section VXH
/-! vx_backW, vx_callVX, vx_callSX, vx_callVW, vx_runVW, vx_runVX, vx_runSX, vx_ofWH follow the same proofs as their sisters above (Free/Laws.lean, Shelf42/LK1.lean); vx_outP calls Shelf42/NT130.lean (outThrough). -/
section
variable {l : Launch} {R : Room} {p : Program} {e : Env} {below : List Frame} {s : State} {sargs : Array Value} {y : MethodName} {len W9 : Nat}
theorem vx_backW {ws : List Cond} {rm : Room} {Pc : Array Value → State → Prop} {Qc : Array Value → State → Outcome → State → Prop} {XC : String → State → State → Prop} {mc ms : Nat} {free : Addr → Prop} {bytes : ByteArray} {maxL : Nat} {ret : Option FieldType} {hh : List (Nat × Nat × Nat × Nat)}
    (hM : vx_Met l y ws rm Pc Qc XC mc ms free) (hblind : FrameBlind Pc) (hrc : rm.cells = mc) (hrs : rm.slots = ms)
    (hframes : rm.frames + 1 ≤ R.frames) (hlocals : W9 + (maxL + 11) + rm.locals ≤ R.locals)
    (hws : ∀ w ∈ ws, ∀ a' U, s.WarmedH U.vm → w.before a' U = true) (hcode : Cond.codeWith y bytes maxL ret hh ∈ ws) (hinit : ∀ a' U, s.WarmedH U.vm → (Cond.initialized y.cls).before a' U = true) :
    vx_Back l R p e below s sargs y len W9 (PreOf R mc ms Pc) (PostOf Qc mc ms free) (vx_Post XC mc ms free) := by
  intro m meth c A g ig mk a X hg hsize hdg hW hn hp
  have h1 : (headSpec ws rm).pre.before a A.U = true := atoms_intro fun w hw => hws w hw _ _ X.warmed
  have h2 : (Cond.codeWith y bytes maxL ret hh).before a A.U = true := hws _ hcode _ _ X.warmed
  have h3 : (Cond.initialized y.cls).before a A.U = true := hinit _ _ X.warmed
  have h4 : A.cells + (headSpec ws rm).room.cells ≤ R.cells := by rw [show (headSpec ws rm).room.cells = mc from hrc]; exact hp.1
  have h5 : A.slots + (headSpec ws rm).room.slots ≤ R.slots := by rw [show (headSpec ws rm).room.slots = ms from hrs]; exact hp.2.1
  have hPc : Pc a (A.U.calling g mk a) := hblind _ _ _ _ hp.2.2
  obtain ⟨U, Ls, c0, s0⟩ := A
  dsimp only [Pt.U, Pt.locs, Pt.cells, Pt.slots] at h1 h2 h3 h4 h5 X hn hPc ⊢
  obtain ⟨m9, methY, cY, hn9, hmY, hcY, -, hlY, -⟩ := Cond.codeWith_spec h2
  cases Option.some.inj (hn9.symm.trans hn)
  obtain ⟨kY, hkY, -⟩ := className_of_methodNamed hn
  have hinitY : kY.init = .initialized := Cond.initialized_spec (findClass_of_methodNamed hn) hkY h3
  have h : At U g.method c below := by rw [hg]; exact X.here
  have hlocals9 : W9 + (maxL + 11) + (headSpec ws rm).room.locals ≤ R.locals := hlocals
  have happ : (headSpec ws rm).appliesLoose y e.platform (U.calling g mk a) = true :=
    Spec.appliesLoose_calling (g := g) h hdg hn hkY hinitY
      (X.room_calling (g := g) (R' := (headSpec ws rm).room) hsize hmY hcY hframes (by rw [hlY]; omega) h4 h5) h1
  obtain ⟨mid, hmid⟩ := h.above
  have hfr : (U.setTop g).frames = (.java g :: mid) ++ below := by rw [State.frames_setTop' g h.top, hmid]; rfl
  obtain ⟨o, s₂, hsteps, -, hend, hq⟩ := Steps.callFree hM p X.admits X.cas X.clock (acts := []) hfr happ hPc trivial
  have hq' : vx_Q Qc XC mc ms free a (U.calling g mk a) o s₂ := hq
  rw [State.frames_setTop' g h.top] at hend
  obtain ⟨g₀, hg0⟩ := Option.isSome_iff_exists.mp h.top
  obtain ⟨r, hr⟩ := State.topJava?_eq_some.mp hg0
  have hr' : (({ U with heap := s₂.heap, slotsUsed := s₂.slotsUsed } : State).setVm s₂.vm).frames = .java g₀ :: r := hr
  rcases hq' with ⟨hqc, L, hfe, hL⟩ | ⟨q, rfl, E, ce, L, hx, hce, hcv, hcl, hW₂, hsm, hL⟩
  · obtain ⟨⟨v, rfl⟩, hW₂, e2, q2, q3, q4, q5, q6⟩ := id hfe
    have e3 : s₂ = ({ (U.calling g mk a).setFrames s₂.frames with heap := s₂.heap, slotsUsed := s₂.slotsUsed } : State).setVm s₂.vm := by
      have : s₂ = ({ s₂ with vm := (U.calling g mk a).vm } : State).setVm s₂.vm := rfl
      rw [e2] at this
      exact this
    obtain ⟨c₂, i₂, len₂, hc₂, hd₂, hf₂⟩ := hend
    have hW' : U.WarmedH s₂.vm := hW₂
    have hcc : c₂ = c := by
      have h1 : s₂.code? g.method = U.code? g.method := by
        rw [State.code?_eq, State.code?_eq, hW'.alike.method?]
      exact Option.some.inj (hc₂.symm.trans (h1.trans h.code))
    subst hcc
    have hlen : len₂ = len := by rw [hdg] at hd₂; cases hd₂; rfl
    subst hlen
    have hs₂ : s₂ = (({ U with heap := s₂.heap, slotsUsed := s₂.slotsUsed } : State).setVm s₂.vm).setTop { g with pc := g.pc + len₂, stack := v.toList ++ g.stack } := by
      refine e3.trans ?_
      rw [hf₂, State.calling_eq h.top, State.setFrames_setFrames, State.setTop_of_frames _ hr', hr]
      rfl
    have hsame : U.sameButNew ({ U with heap := s₂.heap, slotsUsed := s₂.slotsUsed } : State) L mc ms := by
      refine ⟨?_, q2, q3, q4, q5, q6⟩
      obtain ⟨t, ht, -⟩ := State.frames_cons hr
      show ({ U with heap := s₂.heap, slotsUsed := s₂.slotsUsed } : State) = { U.setFrames U.frames with heap := s₂.heap, slotsUsed := s₂.slotsUsed }
      rw [State.setFrames_self ht]
    subst hg
    refine Or.inl ⟨v, ⟨(({ U with heap := s₂.heap, slotsUsed := s₂.slotsUsed } : State).setVm s₂.vm), Ls ++ L, c0 + mc, s0 + ms⟩,
      ⟨X.admits, X.cas, X.clock, X.frames, X.room, X.hears, X.method, X.code, (X.here.setHeapUsed s₂.heap s₂.slotsUsed).setVm hW'.alike, X.tail, State.WarmedH.trans X.warmed hW', X.limits, X.bytes, X.same.trans (hsame.setVm s.vm)⟩,
      ⟨g, mk, s₂, L, rfl, rfl, hqc, rfl, hL, rfl, rfl⟩, ?_⟩
    show Steps p.tables e below _ ((({ U with heap := s₂.heap, slotsUsed := s₂.slotsUsed } : State).setVm s₂.vm).setTop { g with pc := g.pc + len₂, stack := v.toList ++ g.stack })
    rw [← hs₂]
    exact hsteps
  · obtain ⟨e2, q2, q3, q4, q5, q6⟩ := id hsm
    have e3 : s₂ = ({ (U.calling g mk a).setFrames s₂.frames with heap := s₂.heap, slotsUsed := s₂.slotsUsed } : State).setVm s₂.vm := by
      have : s₂ = ({ s₂ with vm := (U.calling g mk a).vm } : State).setVm s₂.vm := rfl
      rw [e2] at this
      exact this
    have hf₂ : s₂.frames = .throwing q :: .java g :: U.frames.tail := hend
    have hW' : U.WarmedH s₂.vm := hW₂
    have hs₂ : s₂ = ((({ U with heap := s₂.heap, slotsUsed := s₂.slotsUsed } : State).setVm s₂.vm).setTop g).pushFrame (.throwing q) := by
      refine e3.trans ?_
      rw [hf₂, State.calling_eq h.top, State.setFrames_setFrames, State.pushFrame, State.frames_setTop _ hr', State.setTop_of_frames _ hr', State.setFrames_setFrames, hr]
      rfl
    have hsame : U.sameButNew ({ U with heap := s₂.heap, slotsUsed := s₂.slotsUsed } : State) L mc ms := by
      refine ⟨?_, q2, q3, q4, q5, q6⟩
      obtain ⟨t, ht, -⟩ := State.frames_cons hr
      show ({ U with heap := s₂.heap, slotsUsed := s₂.slotsUsed } : State) = { U.setFrames U.frames with heap := s₂.heap, slotsUsed := s₂.slotsUsed }
      rw [State.setFrames_self ht]
    subst hg
    refine Or.inr ⟨q, ⟨(({ U with heap := s₂.heap, slotsUsed := s₂.slotsUsed } : State).setVm s₂.vm), Ls ++ L, c0 + mc, s0 + ms⟩,
      ⟨X.admits, X.cas, X.clock, X.frames, X.room, X.hears, X.method, X.code, (X.here.setHeapUsed s₂.heap s₂.slotsUsed).setVm hW'.alike, X.tail, State.WarmedH.trans X.warmed hW', X.limits, X.bytes, X.same.trans (hsame.setVm s.vm)⟩,
      ⟨g, mk, s₂, L, E, ce, rfl, rfl, hx, hce, hcv, hcl, rfl, hL, rfl, rfl⟩, ?_⟩
    show Steps p.tables e below _ (((({ U with heap := s₂.heap, slotsUsed := s₂.slotsUsed } : State).setVm s₂.vm).setTop g).pushFrame (.throwing q))
    rw [← hs₂]
    exact hsteps
end
variable {p : Program} {l : Launch} {e : Env} {R : Room} {s : State} {m : MethodId} {args : Array Value} {below : List Frame} {meth : Method} {c : Code} {T : State} {H : Heap} {locs : List Loc} {cells slots : Nat}
theorem vx_callVX (X : Stand p l e R s m args below meth c T locs cells slots) (hexec : p.tables.exec = Jvm.exec) {own C : String} {index : Nat} {y : MethodName} {bytes : ByteArray} {maxL : Nat} {ret : Option FieldType} {hh : List (Nat × Nat × Nat × Nat)}
    (hown : s.vm.findClass own = some m.cls) (hlink : (Cond.methodLink own index y).before args s = true) (hinst : (Cond.instanceMethod y).before args s = true) (hsel : (Cond.selects C y y).before args s = true)
    (hcode : (Cond.codeWith y bytes maxL ret hh).before args s = true) (hy : y.cls ≠ "java/lang/invoke/MethodHandle" ∧ y.cls ≠ "java/lang/invoke/VarHandle")
    {W9 : Nat} {Pre : Pt → Array Value → Prop} {Post : Pt → Array Value → Option Value → Pt → Prop} {PostX : Pt → Array Value → Addr → Pt → Prop} (hK : vx_Back l R p e below s args y 3 W9 Pre Post PostX)
    {b : Addr} {cellB : Cell} (hcell : T.heap[b]? = some cellB) (hobj : cellB.vm.isStatics = false) (hcls : s.vm.findClass C = some cellB.cls)
    {g : JFrame} (hg : g.method = m) (hsize : g.locals.size = c.maxLocals) {argsL rest : List Value} (hlen : ∀ sig, parseMethodDescriptor y.desc = some sig → argsL.length = sig.parameters.length)
    (hstack : g.stack = argsL.reverse ++ .ref b :: rest) (hW : 2 * g.monitorRoom + (rest.map fun v => v.category).sum ≤ W9) (hdg : decode c.code g.pc = .ok (.invokevirtual index, 3))
    (hpre : ∀ vm₁, s.WarmedH vm₁ → Pre ⟨T.setVm vm₁, locs, cells, slots⟩ (Value.ref b :: argsL).toArray) :
    (∃ (v : Option Value) (vm₁ : Vm) (B : Pt), s.WarmedH vm₁ ∧ Stand p l e R s m args below meth c B.U B.locs B.cells B.slots ∧ Post ⟨T.setVm vm₁, locs, cells, slots⟩ (Value.ref b :: argsL).toArray v B ∧
      ∀ target, Steps p.tables e below (B.U.setTop { g with pc := g.pc + 3, stack := v.toList ++ rest }) target → Steps p.tables e below (T.setTop g) target) ∨
    (∃ (q : Addr) (vm₁ : Vm) (B : Pt), s.WarmedH vm₁ ∧ Stand p l e R s m args below meth c B.U B.locs B.cells B.slots ∧ PostX ⟨T.setVm vm₁, locs, cells, slots⟩ (Value.ref b :: argsL).toArray q B ∧
      Steps p.tables e below (T.setTop g) ((B.U.setTop { g with stack := rest }).pushFrame (.throwing q))) := by
  obtain ⟨mk, methM, hnamed, hmethM, hstM, habM⟩ := Cond.instanceMethod_spec hinst
  obtain ⟨m8, methM', cM, hn8, hmethM', -, -, -, -, -, -, hsigM⟩ := Cond.codeWith_spec hcode
  cases Option.some.inj (hn8.symm.trans hnamed)
  cases hmethM.symm.trans hmethM'
  obtain ⟨c2, r2, m2, q1, q2, q3, q4, kP, hkP, hkPi⟩ := Cond.selects_spec hsel
  cases hcls.symm.trans q1
  cases (State.methodFound?_of_named hnamed hy).symm.trans q2
  cases hnamed.symm.trans q3
  have hselP : selectMethod e.platform s.vm cellB.cls mk = .method mk := by rw [Launch.admits_selectMethod X.admits]; exact q4
  obtain ⟨vm₁, X₁, hstep₁⟩ := X.invokevirtual hexec hown hlink hnamed hmethM hstM hkP hkPi hy (a := b) (cell := cellB) hcell
    (fun z h => by rw [h] at hobj; cases hobj) hselP hmethM habM hkP hkPi (g := g) hg (argsL := argsL) (rest := rest) (hlen _ hsigM) hstack hdg
  rcases hK m meth c ⟨T.setVm vm₁, locs, cells, slots⟩ { g with stack := rest } (.invokevirtual index) mk (Value.ref b :: argsL).toArray X₁ hg hsize hdg hW (X₁.named hnamed) (hpre vm₁ X₁.warmed) with ⟨v, B, X', hpost, hsteps⟩ | ⟨q, B, X', hpost, hsteps⟩
  · exact Or.inl ⟨v, vm₁, B, X₁.warmed, X', hpost, fun target h => hstep₁ _ fun acts => by rw [doInvoke_state]; exact hsteps.trans h⟩
  · exact Or.inr ⟨q, vm₁, B, X₁.warmed, X', hpost, hstep₁ _ fun acts => by rw [doInvoke_state]; exact hsteps⟩
theorem vx_callSX (X : Stand p l e R s m args below meth c T locs cells slots) (hexec : p.tables.exec = Jvm.exec) {own : String} {index : Nat} {y : MethodName} {bytes : ByteArray} {maxL : Nat} {ret : Option FieldType} {hh : List (Nat × Nat × Nat × Nat)}
    (hown : s.vm.findClass own = some m.cls) (hlink : (Cond.methodLink own index y).before args s = true) (hstat : (Cond.static y).before args s = true) (hinit : (Cond.initialized y.cls).before args s = true)
    (hcode : (Cond.codeWith y bytes maxL ret hh).before args s = true) (hy : y.cls ≠ "java/lang/invoke/MethodHandle" ∧ y.cls ≠ "java/lang/invoke/VarHandle")
    {W9 : Nat} {Pre : Pt → Array Value → Prop} {Post : Pt → Array Value → Option Value → Pt → Prop} {PostX : Pt → Array Value → Addr → Pt → Prop} (hK : vx_Back l R p e below s args y 3 W9 Pre Post PostX)
    {g : JFrame} (hg : g.method = m) (hsize : g.locals.size = c.maxLocals) {argsL rest : List Value} (hlen : ∀ sig, parseMethodDescriptor y.desc = some sig → argsL.length = sig.parameters.length)
    (hstack : g.stack = argsL.reverse ++ rest) (hW : 2 * g.monitorRoom + (rest.map fun v => v.category).sum ≤ W9) (hdg : decode c.code g.pc = .ok (.invokestatic index, 3))
    (hpre : ∀ vm₁, s.WarmedH vm₁ → Pre ⟨T.setVm vm₁, locs, cells, slots⟩ argsL.toArray) :
    (∃ (v : Option Value) (vm₁ : Vm) (B : Pt), s.WarmedH vm₁ ∧ Stand p l e R s m args below meth c B.U B.locs B.cells B.slots ∧ Post ⟨T.setVm vm₁, locs, cells, slots⟩ argsL.toArray v B ∧
      ∀ target, Steps p.tables e below (B.U.setTop { g with pc := g.pc + 3, stack := v.toList ++ rest }) target → Steps p.tables e below (T.setTop g) target) ∨
    (∃ (q : Addr) (vm₁ : Vm) (B : Pt), s.WarmedH vm₁ ∧ Stand p l e R s m args below meth c B.U B.locs B.cells B.slots ∧ PostX ⟨T.setVm vm₁, locs, cells, slots⟩ argsL.toArray q B ∧
      Steps p.tables e below (T.setTop g) ((B.U.setTop { g with stack := rest }).pushFrame (.throwing q))) := by
  obtain ⟨mk, methM, cM, hnamed, hmethM, -, -, -, -, -, -, hsigM⟩ := Cond.codeWith_spec hcode
  have hstatic : methM.isStatic = true := Cond.static_spec hnamed hmethM hstat
  obtain ⟨kP, hkP, -⟩ := className_of_methodNamed hnamed
  have hinitP : kP.init = .initialized := Cond.initialized_spec (findClass_of_methodNamed hnamed) hkP hinit
  obtain ⟨vm₁, X₁, hstep₁⟩ := X.invokestatic hexec hown hlink hnamed hmethM hstatic hkP hinitP hy (g := g) hg (argsL := argsL) (rest := rest) (hlen _ hsigM) hstack hdg
  rcases hK m meth c ⟨T.setVm vm₁, locs, cells, slots⟩ { g with stack := rest } (.invokestatic index) mk argsL.toArray X₁ hg hsize hdg hW (X₁.named hnamed) (hpre vm₁ X₁.warmed) with ⟨v, B, X', hpost, hsteps⟩ | ⟨q, B, X', hpost, hsteps⟩
  · exact Or.inl ⟨v, vm₁, B, X₁.warmed, X', hpost, fun target h => hstep₁ _ fun acts => by rw [doInvoke_state]; exact hsteps.trans h⟩
  · exact Or.inr ⟨q, vm₁, B, X₁.warmed, X', hpost, hstep₁ _ fun acts => by rw [doInvoke_state]; exact hsteps⟩
theorem vx_callVW (X : Stand p l e R s m args below meth c T locs cells slots) (hexec : p.tables.exec = Jvm.exec) {own C : String} {index : Nat} {y : MethodName} {bytes : ByteArray} {maxL : Nat} {ret : Option FieldType} {hh : List (Nat × Nat × Nat × Nat)}
    (hown : s.vm.findClass own = some m.cls) (hlink : (Cond.methodLink own index y).before args s = true) (hinst : (Cond.instanceMethod y).before args s = true) (hsel : (Cond.selects C y y).before args s = true)
    (hcode : (Cond.codeWith y bytes maxL ret hh).before args s = true) (hy : y.cls ≠ "java/lang/invoke/MethodHandle" ∧ y.cls ≠ "java/lang/invoke/VarHandle")
    {W9 : Nat} {Pre : Pt → Array Value → Prop} {Post : Pt → Array Value → Option Value → Pt → Prop} (hK : Back l R p e below s args y 3 W9 Pre Post)
    {b : Addr} {cellB : Cell} (hcell : T.heap[b]? = some cellB) (hobj : cellB.vm.isStatics = false) (hcls : s.vm.findClass C = some cellB.cls)
    {g : JFrame} (hg : g.method = m) (hsize : g.locals.size = c.maxLocals) {argsL rest : List Value} (hlen : ∀ sig, parseMethodDescriptor y.desc = some sig → argsL.length = sig.parameters.length)
    (hstack : g.stack = argsL.reverse ++ .ref b :: rest) (hW : 2 * g.monitorRoom + (rest.map fun v => v.category).sum ≤ W9) (hdg : decode c.code g.pc = .ok (.invokevirtual index, 3))
    (hpre : ∀ vm₁, s.WarmedH vm₁ → Pre ⟨T.setVm vm₁, locs, cells, slots⟩ (Value.ref b :: argsL).toArray) :
    ∃ (v : Option Value) (vm₁ : Vm) (B : Pt), s.WarmedH vm₁ ∧ Stand p l e R s m args below meth c B.U B.locs B.cells B.slots ∧ Post ⟨T.setVm vm₁, locs, cells, slots⟩ (Value.ref b :: argsL).toArray v B ∧
      ∀ target, Steps p.tables e below (B.U.setTop { g with pc := g.pc + 3, stack := v.toList ++ rest }) target → Steps p.tables e below (T.setTop g) target := by
  obtain ⟨mk, methM, hnamed, hmethM, hstM, habM⟩ := Cond.instanceMethod_spec hinst
  obtain ⟨m8, methM', cM, hn8, hmethM', -, -, -, -, -, -, hsigM⟩ := Cond.codeWith_spec hcode
  cases Option.some.inj (hn8.symm.trans hnamed)
  cases hmethM.symm.trans hmethM'
  obtain ⟨c2, r2, m2, q1, q2, q3, q4, kP, hkP, hkPi⟩ := Cond.selects_spec hsel
  cases hcls.symm.trans q1
  cases (State.methodFound?_of_named hnamed hy).symm.trans q2
  cases hnamed.symm.trans q3
  have hselP : selectMethod e.platform s.vm cellB.cls mk = .method mk := by rw [Launch.admits_selectMethod X.admits]; exact q4
  obtain ⟨vm₁, X₁, hstep₁⟩ := X.invokevirtual hexec hown hlink hnamed hmethM hstM hkP hkPi hy (a := b) (cell := cellB) hcell
    (fun z h => by rw [h] at hobj; cases hobj) hselP hmethM habM hkP hkPi (g := g) hg (argsL := argsL) (rest := rest) (hlen _ hsigM) hstack hdg
  obtain ⟨v, B, X', hpost, hsteps⟩ := hK m meth c ⟨T.setVm vm₁, locs, cells, slots⟩ { g with stack := rest } (.invokevirtual index) mk (Value.ref b :: argsL).toArray X₁ hg hsize hdg hW (X₁.named hnamed) (hpre vm₁ X₁.warmed)
  exact ⟨v, vm₁, B, X₁.warmed, X', hpost, fun target h => hstep₁ _ fun acts => by rw [doInvoke_state]; exact hsteps.trans h⟩
abbrev vx_CVW (R : Room) (s : State) (args : Array Value) (own C : String) (index : Nat) (y : MethodName) (bytes : ByteArray) (maxL : Nat) (ret : Option FieldType) (hh : List (Nat × Nat × Nat × Nat)) (ws : List Cond) (rm : Room) (mc ms n : Nat) : Prop :=
  (rm.cells = mc ∧ rm.slots = ms ∧ rm.frames + 1 ≤ R.frames ∧ 8 + (maxL + 11) + rm.locals ≤ R.locals ∧ (∀ w ∈ ws, ∀ (a' : Array Value) (U : State), s.WarmedH U.vm → w.before a' U = true) ∧ Cond.codeWith y bytes maxL ret hh ∈ ws) ∧
  (Cond.codeWith y bytes maxL ret hh).before args s = true ∧ (Cond.initialized y.cls).before args s = true ∧ (y.cls ≠ "java/lang/invoke/MethodHandle" ∧ y.cls ≠ "java/lang/invoke/VarHandle") ∧
  (∀ sig, parseMethodDescriptor y.desc = some sig → n = sig.parameters.length) ∧ (Cond.methodLink own index y).before args s = true ∧ (Cond.instanceMethod y).before args s = true ∧ (Cond.selects C y y).before args s = true
theorem vx_cwVW {own C : String} {index maxL mc ms : Nat} {y : MethodName} {bytes : ByteArray} {ret : Option FieldType} {hh : List (Nat × Nat × Nat × Nat)} {Ts ws ws' : List Cond} {rm : Room} (n : Nat) (ht : ∀ w ∈ Ts, w.before args s = true) (hT : GoodIn Ts (wsV own index C y ws)) (hw : ws = Cond.codeWith y bytes maxL ret hh :: ws') (hrc : rm.cells = mc) (hrs : rm.slots = ms)
    (hd : y.cls = C ∧ y.cls ≠ "java/lang/invoke/MethodHandle" ∧ y.cls ≠ "java/lang/invoke/VarHandle" ∧ (parseMethodDescriptor y.desc).map (fun d => d.parameters.length) = some n) (hR : rm.frames + 1 ≤ R.frames ∧ 8 + (maxL + 11) + rm.locals ≤ R.locals) :
    vx_CVW R s args own C index y bytes maxL ret hh ws rm mc ms n := by
  obtain ⟨hC, hd⟩ := hd
  subst hC
  have ok : ∀ w ∈ wsV own index y.cls y ws, w.before args s = true := fun w h => ht w (hT w h).1
  have hG : GoodIn Ts ws := fun w h => hT w (by unfold wsV; exact List.mem_append_right _ h)
  have hc : Cond.codeWith y bytes maxL ret hh ∈ ws := by rw [hw]; exact List.mem_cons_self
  refine ⟨⟨hrc, hrs, hR.1, hR.2, pay_in ht hG, hc⟩, ht _ (hG _ hc).1, ok _ (by simp [wsV]), ⟨hd.1, hd.2.1⟩, fun sig h => ?_, ok _ (by simp [wsV]), ok _ (by simp [wsV]), ok _ (by simp [wsV])⟩
  have h2 := hd.2.2
  rw [h] at h2
  exact (Option.some.inj h2).symm
theorem vx_runVW {y : MethodName} {bytes cc : ByteArray} {maxL nL mc ms n index : Nat} {ret : Option FieldType} {hh : List (Nat × Nat × Nat × Nat)} {ws : List Cond} {rm : Room} {Pc : Array Value → State → Prop} {Qc : Array Value → State → Outcome → State → Prop} {free : Addr → Prop} {Ts : List Cond} {own C : String} {b : Addr} {As rest : List Value} {g : JFrame}
    (S : CallFix p m c cc nL s args Ts own) (hM : Met l y ws rm Pc Qc mc ms free) (cw : vx_CVW R s args own C index y bytes maxL ret hh ws rm mc ms n) (hp : PreV s H C b Pc As)
    (hg : g.method = m) (hn : As.length = n) (hsize : g.locals.size = nL) (hstack : g.stack = As.reverse ++ .ref b :: rest) (hW : 2 * g.monitorRoom + (rest.map fun v => v.category).sum ≤ 8) (hdg : decode cc g.pc = .ok (.invokevirtual index, 3)) (hf : cells + mc ≤ R.cells ∧ slots + ms ≤ R.slots) :
    va_Run p l e R s m args below meth c H locs cells slots mc ms g rest (Qc (Value.ref b :: As).toArray) free := by
  obtain ⟨⟨hrc, hrs, hfr, hlo, hws, hcw⟩, hcode, hini, hy, hlen, hl, hin, hse⟩ := cw
  have hK : Back l R p e below s args y 3 8 (PreOf R mc ms Pc) (PostOf Qc mc ms free) := va_backW (hh := hh) (bytes := bytes) (maxL := maxL) (ret := ret) hM hp.1 hrc hrs hfr hlo hws hcw (fun a' U hW => word_at hW (Or.inl (by first | rfl | simp [Cond.onTables, Cond.keeps, Cond.steady])) hini)
  obtain ⟨hx, hb, hml, ho, -⟩ := S
  obtain ⟨-, ⟨cellB, hcB, hoB, hclB⟩, hPc⟩ := hp
  intro T hT X
  obtain ⟨v, vm₁, ⟨U', l2, c2, s2⟩, hW₁, X', ⟨g', mk, t, L, e1, e2, hq, h1, hL, h2, h3⟩, st⟩ := vx_callVW X hx (C := C) (hh := hh) (bytes := bytes) (maxL := maxL) (ret := ret) ho hl hin hse hcode hy hK (by rw [hT]; exact hcB) hoB hclB hg (hsize.trans hml.symm) (argsL := As) (rest := rest) (fun sig h => hn.trans (hlen sig h)) hstack hW (by rw [hb]; exact hdg)
    (fun vm₁ hW₁ => ⟨hf.1, hf.2, hPc (T.setVm vm₁) hT hW₁⟩)
  dsimp only [Pt.U, Pt.locs, Pt.cells, Pt.slots] at X' e1 e2 h1 h2 h3 st
  subst h1; subst h2; subst h3
  exact ⟨v, (T.setVm vm₁).calling g' mk (Value.ref b :: As).toArray, t, U', L, hT, X', hL, e1, e2, hq, st⟩
section
variable {y : MethodName} {bytes cc : ByteArray} {maxL nL mc ms n index : Nat} {ret : Option FieldType} {ws : List Cond} {rm : Room} {Pc : Array Value → State → Prop} {Qc : Array Value → State → Outcome → State → Prop} {XC : String → State → State → Prop} {free : Addr → Prop} {Ts : List Cond} {own C : String} {b : Addr} {As rest : List Value} {g : JFrame}
theorem vx_runVX {hh : List (Nat × Nat × Nat × Nat)} (S : CallFix p m c cc nL s args Ts own) (hM : vx_Met l y ws rm Pc Qc XC mc ms free) (cw : vx_CVW R s args own C index y bytes maxL ret hh ws rm mc ms n) (hp : PreV s H C b Pc As)
    (hg : g.method = m) (hn : As.length = n) (hsize : g.locals.size = nL) (hstack : g.stack = As.reverse ++ .ref b :: rest) (hW : 2 * g.monitorRoom + (rest.map fun v => v.category).sum ≤ 8) (hdg : decode cc g.pc = .ok (.invokevirtual index, 3)) (hf : cells + mc ≤ R.cells ∧ slots + ms ≤ R.slots) :
    vx_Run p l e R s m args below meth c H locs cells slots mc ms g rest (Qc (Value.ref b :: As).toArray) XC free := by
  obtain ⟨⟨hrc, hrs, hfr, hlo, hws, hcw⟩, hcode, hini, hy, hlen, hl, hin, hse⟩ := cw
  have hK : vx_Back l R p e below s args y 3 8 (PreOf R mc ms Pc) (PostOf Qc mc ms free) (vx_Post XC mc ms free) := vx_backW (hh := hh) (bytes := bytes) (maxL := maxL) (ret := ret) hM hp.1 hrc hrs hfr hlo hws hcw (fun a' U hW => word_at hW (Or.inl (by first | rfl | simp [Cond.onTables, Cond.keeps, Cond.steady])) hini)
  obtain ⟨hx, hb, hml, ho, -⟩ := S
  obtain ⟨-, ⟨cellB, hcB, hoB, hclB⟩, hPc⟩ := hp
  intro T hT X
  rcases vx_callVX X hx (C := C) (hh := hh) (bytes := bytes) (maxL := maxL) (ret := ret) ho hl hin hse hcode hy hK (by rw [hT]; exact hcB) hoB hclB hg (hsize.trans hml.symm) (argsL := As) (rest := rest) (fun sig h => hn.trans (hlen sig h)) hstack hW (by rw [hb]; exact hdg)
    (fun vm₁ hW₁ => ⟨hf.1, hf.2, hPc (T.setVm vm₁) hT hW₁⟩) with ⟨v, vm₁, ⟨U', l2, c2, s2⟩, hW₁, X', ⟨g', mk, t, L, e1, e2, hq, h1, hL, h2, h3⟩, st⟩ | ⟨q, vm₁, ⟨U', l2, c2, s2⟩, hW₁, X', ⟨g', mk, t, L, E, ce, e1, e2, hq, hce, hcv, hcl, h1, hL, h2, h3⟩, st⟩
  · dsimp only [Pt.U, Pt.locs, Pt.cells, Pt.slots] at X' e1 e2 h1 h2 h3 st
    subst h1; subst h2; subst h3
    exact Or.inl ⟨v, (T.setVm vm₁).calling g' mk (Value.ref b :: As).toArray, t, U', L, hT, X', hL, e1, e2, hq, st⟩
  · dsimp only [Pt.U, Pt.locs, Pt.cells, Pt.slots] at X' e1 e2 h1 h2 h3 st hcl
    subst h1; subst h2; subst h3
    exact Or.inr ⟨q, (T.setVm vm₁).calling g' mk (Value.ref b :: As).toArray, t, U', L, E, ce, hT, X', hL, e1, e2, hq, hce, hcv, vx_cls hW₁ hcl, st⟩
theorem vx_runSX {hh : List (Nat × Nat × Nat × Nat)} (S : CallFix p m c cc nL s args Ts own) (hM : vx_Met l y ws rm Pc Qc XC mc ms free) (cw : vx_CSW R s args own index y bytes maxL ret hh ws rm mc ms n) (hp : PreS s H Pc As)
    (hg : g.method = m) (hn : As.length = n) (hsize : g.locals.size = nL) (hstack : g.stack = As.reverse ++ rest) (hW : 2 * g.monitorRoom + (rest.map fun v => v.category).sum ≤ 8) (hdg : decode cc g.pc = .ok (.invokestatic index, 3)) (hf : cells + mc ≤ R.cells ∧ slots + ms ≤ R.slots) :
    vx_Run p l e R s m args below meth c H locs cells slots mc ms g rest (Qc As.toArray) XC free := by
  obtain ⟨⟨hrc, hrs, hfr, hlo, hws, hcw⟩, hcode, hini, hy, hlen, hl, hstt⟩ := cw
  have hK : vx_Back l R p e below s args y 3 8 (PreOf R mc ms Pc) (PostOf Qc mc ms free) (vx_Post XC mc ms free) := vx_backW (hh := hh) (bytes := bytes) (maxL := maxL) (ret := ret) hM hp.1 hrc hrs hfr hlo hws hcw (fun a' U hW => word_at hW (Or.inl (by first | rfl | simp [Cond.onTables, Cond.keeps, Cond.steady])) hini)
  obtain ⟨hx, hb, hml, ho, -⟩ := S
  intro T hT X
  rcases vx_callSX X hx (hh := hh) (bytes := bytes) (maxL := maxL) (ret := ret) ho hl hstt hini hcode hy hK hg (hsize.trans hml.symm) (argsL := As) (rest := rest) (fun sig h => hn.trans (hlen sig h)) hstack hW (by rw [hb]; exact hdg)
    (fun vm₁ hW₁ => ⟨hf.1, hf.2, hp.2 (T.setVm vm₁) hT hW₁⟩) with ⟨v, vm₁, ⟨U', l2, c2, s2⟩, hW₁, X', ⟨g', mk, t, L, e1, e2, hq, h1, hL, h2, h3⟩, st⟩ | ⟨q, vm₁, ⟨U', l2, c2, s2⟩, hW₁, X', ⟨g', mk, t, L, E, ce, e1, e2, hq, hce, hcv, hcl, h1, hL, h2, h3⟩, st⟩
  · dsimp only [Pt.U, Pt.locs, Pt.cells, Pt.slots] at X' e1 e2 h1 h2 h3 st
    subst h1; subst h2; subst h3
    exact Or.inl ⟨v, (T.setVm vm₁).calling g' mk As.toArray, t, U', L, hT, X', hL, e1, e2, hq, st⟩
  · dsimp only [Pt.U, Pt.locs, Pt.cells, Pt.slots] at X' e1 e2 h1 h2 h3 st hcl
    subst h1; subst h2; subst h3
    exact Or.inr ⟨q, (T.setVm vm₁).calling g' mk As.toArray, t, U', L, E, ce, hT, X', hL, e1, e2, hq, hce, hcv, vx_cls hW₁ hcl, st⟩
end
end VXH
theorem vx_ofWH {l : Launch} {y : MethodName} {ws ws' : List Cond} {rm : Room} {Pc : Array Value → State → Prop} {Qc : Array Value → State → Outcome → State → Prop} {XC : String → State → State → Prop} {mc ms : Nat} {free : Addr → Prop} {cc : ByteArray} {maxL : Nat} {ret : Option FieldType} {hh : List (Nat × Nat × Nat × Nat)}
    (hy : plainName y.cls = true) (hw : ws = Cond.codeWith y cc maxL ret hh :: ws')
    (body : ∀ p e s m args below meth c s₁, BodyLoose p l y (headSpec ws rm) cc maxL ret e s m args below meth c s₁ → c.maxLocals = maxL → Pc args s →
      W p l e (headSpec ws rm).room s m args below meth c s.heap [] 0 0 (vx_MQ below Qc XC args s mc ms free) (entryFrame m args maxL)) : vx_Met l y ws rm Pc Qc XC mc ms free := by
  refine MetFree.of_bodyS (code := cc) (maxLocals := maxL) (ret := ret) hy ?_ ?_
  · intro args s m h hn
    obtain ⟨m9, meth, c, hn9, h1, h2, h3, h4, -, h5, h6, -⟩ := Cond.codeWith_spec (atoms_spec (ws := ws) h _ (by rw [hw]; exact List.mem_cons_self))
    cases hn.symm.trans hn9
    exact ⟨meth, c, h1, h2, h3, h4, h5, h6⟩
  · intro p e s m args below meth c s₁ B hml hP _
    have hh0 : s₁.heap = s.heap := by rw [B.state]; rfl
    obtain ⟨t, a1, o, b1, b2, b3⟩ := body p e s m args below meth c s₁ B hml hP s₁ hh0 (Stand.of_body B)
    exact ⟨t, o, a1, b1, b2, b3⟩
/-! ===== END ===== -/

def RX0 : String := "UnlikeBoats$Book"
def TX0 : u_T := fun k => match k with
  | 0 => ("UnlikeBoats$Book", "now", "I", false)
  | 1 => ("UnlikeBoats$Book", "boats", "I", false)
  | 2 => ("UnlikeBoats$Book", "redresses", "I", false)
  | 3 => ("UnlikeBoats$Book", "certificates", "Ljava/util/ArrayList;", true)
  | 4 => ("UnlikeBoats$Book", "rules", "Ljava/util/ArrayList;", true)
  | 5 => ("UnlikeBoats$Book", "races", "Ljava/util/ArrayList;", true)
  | 6 => ("UnlikeBoats$Book", "results", "Ljava/util/ArrayList;", true)
  | 7 => ("UnlikeBoats$Book", "words", "Ljava/util/ArrayList;", true)
  | 8 => ("UnlikeBoats$Book", "protests", "Ljava/util/ArrayList;", true)
  | 9 => ("UnlikeBoats$Book", "letters", "[I", true)
  | _ => ("UnlikeBoats$Book", "stack", "[I", true)
def tyX0 : Nat → FieldType := fun k => match k with
  | 0 => .int
  | 1 => .int
  | 2 => .int
  | 3 => .object "java/util/ArrayList"
  | 4 => .object "java/util/ArrayList"
  | 5 => .object "java/util/ArrayList"
  | 6 => .object "java/util/ArrayList"
  | 7 => .object "java/util/ArrayList"
  | 8 => .object "java/util/ArrayList"
  | 9 => .array .int
  | _ => .array .int
abbrev wsX00 : List Cond := u_ws RX0 TX0 11
theorem nmX0 : ∀ a, a < 11 → ∀ b, b < 11 → a ≠ b → (TX0 a).2.1 ≠ (TX0 b).2.1 := by decide +kernel
theorem tyX0_ok : ∀ k, k < 11 → parseFieldDescriptor (TX0 k).2.2.1 = some (tyX0 k) := by decide +kernel
def yX0_init : MethodName := ⟨RX0, "<init>", "()V"⟩
abbrev cX0_isBoat : ByteArray := prog_2_method_2_code
def yX0_isBoat : MethodName := ⟨RX0, "isBoat", "(I)Z"⟩
abbrev cX0_isRace : ByteArray := prog_2_method_3_code
def yX0_isRace : MethodName := ⟨RX0, "isRace", "(I)Z"⟩
abbrev cX0_isKnown : ByteArray := prog_2_method_4_code
def yX0_isKnown : MethodName := ⟨RX0, "isKnown", "(I)Z"⟩
abbrev cX0_isCounted : ByteArray := prog_2_method_5_code
def yX0_isCounted : MethodName := ⟨RX0, "isCounted", "(II)Z"⟩
abbrev cX0_isEntered : ByteArray := prog_2_method_6_code
def yX0_isEntered : MethodName := ⟨RX0, "isEntered", "(II)Z"⟩
abbrev cX0_isProtested : ByteArray := prog_2_method_7_code
def yX0_isProtested : MethodName := ⟨RX0, "isProtested", "(II)Z"⟩
abbrev cX0_areSome : ByteArray := prog_2_method_8_code
def yX0_areSome : MethodName := ⟨RX0, "areSome", "(I)Z"⟩
abbrev cX0_certificateOn : ByteArray := prog_2_method_9_code
def yX0_certificateOn : MethodName := ⟨RX0, "certificateOn", "(III)I"⟩
abbrev cX0_rulesOn : ByteArray := prog_2_method_10_code
def yX0_rulesOn : MethodName := ⟨RX0, "rulesOn", "(II)I"⟩
abbrev cX0_numberOf : ByteArray := prog_2_method_11_code
def yX0_numberOf : MethodName := ⟨RX0, "numberOf", "(III)I"⟩
abbrev cX0_forgetLetters : ByteArray := prog_2_method_12_code
def yX0_forgetLetters : MethodName := ⟨RX0, "forgetLetters", "()V"⟩
abbrev cX0_worthIn : ByteArray := prog_2_method_13_code
def yX0_worthIn : MethodName := ⟨RX0, "worthIn", "(IC)I"⟩
abbrev cX0_racesIn : ByteArray := prog_2_method_14_code
def yX0_racesIn : MethodName := ⟨RX0, "racesIn", "(I)I"⟩
abbrev cX0_disqualifiedIn : ByteArray := prog_2_method_15_code
def yX0_disqualifiedIn : MethodName := ⟨RX0, "disqualifiedIn", "(II)I"⟩
abbrev cX0_disqualified : ByteArray := prog_2_method_16_code
def yX0_disqualified : MethodName := ⟨RX0, "disqualified", "()I"⟩
def RX1 : String := "UnlikeBoats$Certificate"
def TX1 : u_T := fun k => match k with
  | 0 => ("UnlikeBoats$Certificate", "boat", "I", true)
  | 1 => ("UnlikeBoats$Certificate", "from", "I", true)
  | 2 => ("UnlikeBoats$Certificate", "told", "I", true)
  | 3 => ("UnlikeBoats$Certificate", "lon", "I", true)
  | 4 => ("UnlikeBoats$Certificate", "area", "I", true)
  | _ => ("UnlikeBoats$Certificate", "weight", "I", true)
abbrev wsX10 : List Cond := u_ws RX1 TX1 6
abbrev cX1_init : ByteArray := prog_3_method_1_code
def yX1_init : MethodName := ⟨RX1, "<init>", "(IIIIII)V"⟩
def RX2 : String := "UnlikeBoats$Hearing"
def TX2 : u_T := fun k => match k with
  | 0 => ("UnlikeBoats$Hearing", "book", "LUnlikeBoats$Book;", true)
  | 1 => ("UnlikeBoats$Hearing", "lowX", "[I", true)
  | 2 => ("UnlikeBoats$Hearing", "highX", "[I", true)
  | 3 => ("UnlikeBoats$Hearing", "lowY", "[I", true)
  | 4 => ("UnlikeBoats$Hearing", "highY", "[I", true)
  | 5 => ("UnlikeBoats$Hearing", "ways", "[I", true)
  | 6 => ("UnlikeBoats$Hearing", "race", "LUnlikeBoats$Race;", false)
  | 7 => ("UnlikeBoats$Hearing", "law", "I", false)
  | 8 => ("UnlikeBoats$Hearing", "label", "C", false)
  | _ => ("UnlikeBoats$Hearing", "tacks", "I", false)
abbrev wsX20 : List Cond := u_ws RX2 TX2 10
abbrev cX2_statesOf : ByteArray := prog_4_method_2_code
def yX2_statesOf : MethodName := ⟨RX2, "statesOf", "(LUnlikeBoats$Protest;II)I"⟩
abbrev cX2_narrow : ByteArray := prog_4_method_3_code
def yX2_narrow : MethodName := ⟨RX2, "narrow", "(ILUnlikeBoats$Word;I)V"⟩
abbrev cX2_find : ByteArray := prog_4_method_4_code
def yX2_find : MethodName := ⟨RX2, "find", "(LUnlikeBoats$Protest;II)I"⟩
abbrev cX2_gatherTacks : ByteArray := prog_4_method_5_code
def yX2_gatherTacks : MethodName := ⟨RX2, "gatherTacks", "()V"⟩
abbrev cX2_starboard : ByteArray := prog_4_method_6_code
def yX2_starboard : MethodName := ⟨RX2, "starboard", "(I)I"⟩
abbrev cX2_faultsFrom : ByteArray := prog_4_method_7_code
def yX2_faultsFrom : MethodName := ⟨RX2, "faultsFrom", "(II)I"⟩
abbrev cX2_faultsOnTacks : ByteArray := prog_4_method_8_code
def yX2_faultsOnTacks : MethodName := ⟨RX2, "faultsOnTacks", "()I"⟩
abbrev cX2_far : ByteArray := prog_4_method_9_code
def yX2_far : MethodName := ⟨RX2, "far", "(IIII)I"⟩
def RX3 : String := "UnlikeBoats$Office"
def TX3 : u_T := fun k => match k with
  | 0 => ("UnlikeBoats$Office", "book", "LUnlikeBoats$Book;", true)
  | 1 => ("UnlikeBoats$Office", "sheet", "LUnlikeBoats$Sheet;", true)
  | 2 => ("UnlikeBoats$Office", "finished", "[Z", true)
  | 3 => ("UnlikeBoats$Office", "seconds", "[I", true)
  | 4 => ("UnlikeBoats$Office", "numbers", "[I", true)
  | 5 => ("UnlikeBoats$Office", "times", "[I", true)
  | 6 => ("UnlikeBoats$Office", "counted", "[I", true)
  | 7 => ("UnlikeBoats$Office", "middles", "[I", true)
  | 8 => ("UnlikeBoats$Office", "own", "[I", true)
  | 9 => ("UnlikeBoats$Office", "ratios", "[I", true)
  | 10 => ("UnlikeBoats$Office", "row", "[I", true)
  | 11 => ("UnlikeBoats$Office", "changed", "[I", true)
  | 12 => ("UnlikeBoats$Office", "evened", "[I", true)
  | 13 => ("UnlikeBoats$Office", "tried", "[I", true)
  | 14 => ("UnlikeBoats$Office", "best", "[I", true)
  | 15 => ("UnlikeBoats$Office", "spreading", "I", false)
  | 16 => ("UnlikeBoats$Office", "bestSpread", "I", false)
  | _ => ("UnlikeBoats$Office", "weights", "[I", true)
abbrev wsX30 : List Cond := u_ws RX3 TX3 18
abbrev cX3_loadAll : ByteArray := prog_5_method_2_code
def yX3_loadAll : MethodName := ⟨RX3, "loadAll", "()V"⟩
abbrev cX3_load : ByteArray := prog_5_method_3_code
def yX3_load : MethodName := ⟨RX3, "load", "(I)V"⟩
abbrev cX3_middleOf : ByteArray := prog_5_method_4_code
def yX3_middleOf : MethodName := ⟨RX3, "middleOf", "(II)I"⟩
abbrev cX3_gather : ByteArray := prog_5_method_5_code
def yX3_gather : MethodName := ⟨RX3, "gather", "(I)I"⟩
abbrev cX3_fitOf : ByteArray := prog_5_method_6_code
def yX3_fitOf : MethodName := ⟨RX3, "fitOf", "(I)I"⟩
abbrev cX3_suspectedOf : ByteArray := prog_5_method_7_code
def yX3_suspectedOf : MethodName := ⟨RX3, "suspectedOf", "(II)I"⟩
abbrev cX3_jumpAt : ByteArray := prog_5_method_8_code
def yX3_jumpAt : MethodName := ⟨RX3, "jumpAt", "(II)I"⟩
abbrev cX3_meanOf : ByteArray := prog_5_method_9_code
def yX3_meanOf : MethodName := ⟨RX3, "meanOf", "(II)I"⟩
abbrev cX3_evenOut : ByteArray := prog_5_method_10_code
def yX3_evenOut : MethodName := ⟨RX3, "evenOut", "(I)V"⟩
abbrev cX3_rowOf : ByteArray := prog_5_method_11_code
def yX3_rowOf : MethodName := ⟨RX3, "rowOf", "(II)I"⟩
abbrev cX3_gatherChanged : ByteArray := prog_5_method_12_code
def yX3_gatherChanged : MethodName := ⟨RX3, "gatherChanged", "(I)V"⟩
abbrev cX3_spreadTried : ByteArray := prog_5_method_13_code
def yX3_spreadTried : MethodName := ⟨RX3, "spreadTried", "(I)I"⟩
abbrev cX3_bestChangeOf : ByteArray := prog_5_method_14_code
def yX3_bestChangeOf : MethodName := ⟨RX3, "bestChangeOf", "(I)I"⟩
def RX4 : String := "UnlikeBoats$Protest"
def TX4 : u_T := fun k => match k with
  | 0 => ("UnlikeBoats$Protest", "race", "I", true)
  | 1 => ("UnlikeBoats$Protest", "a", "I", true)
  | 2 => ("UnlikeBoats$Protest", "b", "I", true)
  | 3 => ("UnlikeBoats$Protest", "second", "I", true)
  | 4 => ("UnlikeBoats$Protest", "told", "I", true)
  | 5 => ("UnlikeBoats$Protest", "decided", "I", false)
  | 6 => ("UnlikeBoats$Protest", "guilty", "I", false)
  | 7 => ("UnlikeBoats$Protest", "reopened", "I", false)
  | 8 => ("UnlikeBoats$Protest", "decidedAnew", "I", false)
  | _ => ("UnlikeBoats$Protest", "guiltyAnew", "I", false)
abbrev wsX40 : List Cond := u_ws RX4 TX4 10
abbrev cX4_init : ByteArray := prog_6_method_1_code
def yX4_init : MethodName := ⟨RX4, "<init>", "(IIIII)V"⟩
abbrev cX4_isDecided : ByteArray := prog_6_method_2_code
def yX4_isDecided : MethodName := ⟨RX4, "isDecided", "()Z"⟩
abbrev cX4_settle : ByteArray := prog_6_method_3_code
def yX4_settle : MethodName := ⟨RX4, "settle", "(II)V"⟩
abbrev cX4_guiltyIn : ByteArray := prog_6_method_4_code
def yX4_guiltyIn : MethodName := ⟨RX4, "guiltyIn", "(I)I"⟩
def RX5 : String := "UnlikeBoats$Race"
def TX5 : u_T := fun k => match k with
  | 0 => ("UnlikeBoats$Race", "told", "I", true)
  | 1 => ("UnlikeBoats$Race", "day", "I", true)
  | 2 => ("UnlikeBoats$Race", "miles", "I", true)
  | 3 => ("UnlikeBoats$Race", "way", "I", true)
  | 4 => ("UnlikeBoats$Race", "wind", "I", true)
  | 5 => ("UnlikeBoats$Race", "x", "I", true)
  | 6 => ("UnlikeBoats$Race", "y", "I", true)
  | 7 => ("UnlikeBoats$Race", "entries", "[I", true)
  | 8 => ("UnlikeBoats$Race", "redresses", "[I", true)
  | 9 => ("UnlikeBoats$Race", "ends", "[I", true)
  | 10 => ("UnlikeBoats$Race", "behind", "[I", true)
  | _ => ("UnlikeBoats$Race", "swifts", "[I", true)
abbrev wsX50 : List Cond := u_ws RX5 TX5 12
abbrev cX5_isEnteredIn : ByteArray := prog_7_method_2_code
def yX5_isEnteredIn : MethodName := ⟨RX5, "isEnteredIn", "(II)Z"⟩
abbrev cX5_isRedressedIn : ByteArray := prog_7_method_3_code
def yX5_isRedressedIn : MethodName := ⟨RX5, "isRedressedIn", "(II)Z"⟩
abbrev cX5_enteredIn : ByteArray := prog_7_method_4_code
def yX5_enteredIn : MethodName := ⟨RX5, "enteredIn", "(I)I"⟩
abbrev cX5_swiftIn : ByteArray := prog_7_method_5_code
def yX5_swiftIn : MethodName := ⟨RX5, "swiftIn", "(I)I"⟩
abbrev cX5_leaning : ByteArray := prog_7_method_6_code
def yX5_leaning : MethodName := ⟨RX5, "leaning", "()I"⟩
def RX6 : String := "UnlikeBoats$Result"
def TX6 : u_T := fun k => match k with
  | 0 => ("UnlikeBoats$Result", "race", "I", true)
  | 1 => ("UnlikeBoats$Result", "boat", "I", true)
  | 2 => ("UnlikeBoats$Result", "code", "I", true)
  | 3 => ("UnlikeBoats$Result", "seconds", "I", true)
  | _ => ("UnlikeBoats$Result", "told", "I", true)
abbrev wsX60 : List Cond := u_ws RX6 TX6 5
abbrev cX6_init : ByteArray := prog_8_method_1_code
def yX6_init : MethodName := ⟨RX6, "<init>", "(IIIII)V"⟩
def RX7 : String := "UnlikeBoats$Rules"
def TX7 : u_T := fun k => match k with
  | 0 => ("UnlikeBoats$Rules", "from", "I", true)
  | 1 => ("UnlikeBoats$Rules", "told", "I", true)
  | 2 => ("UnlikeBoats$Rules", "steps", "[I", true)
  | 3 => ("UnlikeBoats$Rules", "labels", "[I", true)
  | 4 => ("UnlikeBoats$Rules", "begins", "[I", true)
  | _ => ("UnlikeBoats$Rules", "sums", "[I", true)
abbrev wsX70 : List Cond := u_ws RX7 TX7 6
abbrev cX7_init : ByteArray := prog_9_method_1_code
def yX7_init : MethodName := ⟨RX7, "<init>", "(II[I[I[I[I)V"⟩
abbrev cX7_asLetter : ByteArray := prog_9_method_2_code
def yX7_asLetter : MethodName := ⟨RX7, "asLetter", "(I)I"⟩
abbrev cX7_asSign : ByteArray := prog_9_method_3_code
def yX7_asSign : MethodName := ⟨RX7, "asSign", "(I)I"⟩
abbrev cX7_worthOf : ByteArray := prog_9_method_4_code
def yX7_worthOf : MethodName := ⟨RX7, "worthOf", "(C[I[I)I"⟩
abbrev cX7_run : ByteArray := prog_9_method_5_code
def yX7_run : MethodName := ⟨RX7, "run", "(II[I[I)I"⟩
abbrev cX7_letterAt : ByteArray := prog_9_method_6_code
def yX7_letterAt : MethodName := ⟨RX7, "letterAt", "(I[I)I"⟩
abbrev cX7_join : ByteArray := prog_9_method_7_code
def yX7_join : MethodName := ⟨RX7, "join", "(III)I"⟩
def RX8 : String := "UnlikeBoats$Scores"
def TX8 : u_T := fun k => match k with
  | 0 => ("UnlikeBoats$Scores", "book", "LUnlikeBoats$Book;", true)
  | 1 => ("UnlikeBoats$Scores", "sheet", "LUnlikeBoats$Sheet;", true)
  | 2 => ("UnlikeBoats$Scores", "races", "I", false)
  | 3 => ("UnlikeBoats$Scores", "plain", "[I", true)
  | 4 => ("UnlikeBoats$Scores", "points", "[I", true)
  | 5 => ("UnlikeBoats$Scores", "out", "[Z", true)
  | 6 => ("UnlikeBoats$Scores", "scored", "[Z", true)
  | 7 => ("UnlikeBoats$Scores", "totals", "[I", true)
  | 8 => ("UnlikeBoats$Scores", "mine", "[I", true)
  | _ => ("UnlikeBoats$Scores", "theirs", "[I", true)
abbrev wsX80 : List Cond := u_ws RX8 TX8 10
abbrev cX8_pointsIn : ByteArray := prog_10_method_2_code
def yX8_pointsIn : MethodName := ⟨RX8, "pointsIn", "(III)I"⟩
abbrev cX8_tally : ByteArray := prog_10_method_3_code
def yX8_tally : MethodName := ⟨RX8, "tally", "(I)V"⟩
abbrev cX8_meanBeside : ByteArray := prog_10_method_4_code
def yX8_meanBeside : MethodName := ⟨RX8, "meanBeside", "(III)I"⟩
abbrev cX8_throwOutsIn : ByteArray := prog_10_method_5_code
def yX8_throwOutsIn : MethodName := ⟨RX8, "throwOutsIn", "(I)I"⟩
abbrev cX8_throwOut : ByteArray := prog_10_method_6_code
def yX8_throwOut : MethodName := ⟨RX8, "throwOut", "(II)V"⟩
abbrev cX8_worstOf : ByteArray := prog_10_method_7_code
def yX8_worstOf : MethodName := ⟨RX8, "worstOf", "(I)I"⟩
def RX9 : String := "UnlikeBoats$Sheet"
def TX9 : u_T := fun k => match k with
  | 0 => ("UnlikeBoats$Sheet", "book", "LUnlikeBoats$Book;", true)
  | 1 => ("UnlikeBoats$Sheet", "codes", "[I", true)
  | 2 => ("UnlikeBoats$Sheet", "seconds", "[I", true)
  | 3 => ("UnlikeBoats$Sheet", "numbers", "[I", true)
  | 4 => ("UnlikeBoats$Sheet", "times", "[I", true)
  | 5 => ("UnlikeBoats$Sheet", "places", "[I", true)
  | 6 => ("UnlikeBoats$Sheet", "law", "I", false)
  | 7 => ("UnlikeBoats$Sheet", "entered", "I", false)
  | _ => ("UnlikeBoats$Sheet", "finished", "I", false)
abbrev wsX90 : List Cond := u_ws RX9 TX9 9
abbrev cX9_readCodes : ByteArray := prog_11_method_2_code
def yX9_readCodes : MethodName := ⟨RX9, "readCodes", "(II)V"⟩
abbrev cX9_read : ByteArray := prog_11_method_3_code
def yX9_read : MethodName := ⟨RX9, "read", "(II)V"⟩
abbrev cX9_placeOf : ByteArray := prog_11_method_4_code
def yX9_placeOf : MethodName := ⟨RX9, "placeOf", "(I)I"⟩
abbrev cX9_plainPointsOf : ByteArray := prog_11_method_5_code
def yX9_plainPointsOf : MethodName := ⟨RX9, "plainPointsOf", "(I)I"⟩
def RX10 : String := "UnlikeBoats$Tape"
def TX10 : u_T := fun k => match k with
  | 0 => ("UnlikeBoats$Tape", "bytes", "[I", true)
  | 1 => ("UnlikeBoats$Tape", "length", "I", false)
  | 2 => ("UnlikeBoats$Tape", "at", "I", false)
  | 3 => ("UnlikeBoats$Tape", "fault", "I", false)
  | 4 => ("UnlikeBoats$Tape", "steps", "[I", true)
  | 5 => ("UnlikeBoats$Tape", "size", "I", false)
  | 6 => ("UnlikeBoats$Tape", "labels", "[I", true)
  | 7 => ("UnlikeBoats$Tape", "begins", "[I", true)
  | 8 => ("UnlikeBoats$Tape", "sums", "[I", true)
  | _ => ("UnlikeBoats$Tape", "clauses", "I", false)
def tyX10 : Nat → FieldType := fun k => match k with
  | 0 => .array .int
  | 1 => .int
  | 2 => .int
  | 3 => .int
  | 4 => .array .int
  | 5 => .int
  | 6 => .array .int
  | 7 => .array .int
  | 8 => .array .int
  | _ => .int
abbrev wsX100 : List Cond := u_ws RX10 TX10 10
theorem nmX10 : ∀ a, a < 10 → ∀ b, b < 10 → a ≠ b → (TX10 a).2.1 ≠ (TX10 b).2.1 := by decide +kernel
theorem tyX10_ok : ∀ k, k < 10 → parseFieldDescriptor (TX10 k).2.2.1 = some (tyX10 k) := by decide +kernel
def yX10_init : MethodName := ⟨RX10, "<init>", "()V"⟩
abbrev cX10_read : ByteArray := prog_12_method_3_code
def yX10_read : MethodName := ⟨RX10, "read", "()I"⟩
abbrev cX10_asRules : ByteArray := prog_12_method_4_code
def yX10_asRules : MethodName := ⟨RX10, "asRules", "(II)LUnlikeBoats$Rules;"⟩
abbrev cX10_next : ByteArray := prog_12_method_5_code
def yX10_next : MethodName := ⟨RX10, "next", "()I"⟩
abbrev cX10_fail : ByteArray := prog_12_method_6_code
def yX10_fail : MethodName := ⟨RX10, "fail", "()V"⟩
abbrev cX10_take : ByteArray := prog_12_method_7_code
def yX10_take : MethodName := ⟨RX10, "take", "(I)V"⟩
abbrev cX10_add : ByteArray := prog_12_method_8_code
def yX10_add : MethodName := ⟨RX10, "add", "(I)V"⟩
abbrev cX10_readClause : ByteArray := prog_12_method_9_code
def yX10_readClause : MethodName := ⟨RX10, "readClause", "()V"⟩
abbrev cX10_readCondition : ByteArray := prog_12_method_10_code
def yX10_readCondition : MethodName := ⟨RX10, "readCondition", "(IZ)V"⟩
abbrev cX10_readPart : ByteArray := prog_12_method_11_code
def yX10_readPart : MethodName := ⟨RX10, "readPart", "(IZ)V"⟩
abbrev cX10_readUnit : ByteArray := prog_12_method_12_code
def yX10_readUnit : MethodName := ⟨RX10, "readUnit", "(IZ)V"⟩
abbrev cX10_readComparison : ByteArray := prog_12_method_13_code
def yX10_readComparison : MethodName := ⟨RX10, "readComparison", "(I)V"⟩
abbrev cX10_readSum : ByteArray := prog_12_method_14_code
def yX10_readSum : MethodName := ⟨RX10, "readSum", "(I)V"⟩
abbrev cX10_readTerm : ByteArray := prog_12_method_15_code
def yX10_readTerm : MethodName := ⟨RX10, "readTerm", "(I)V"⟩
abbrev cX10_readAtom : ByteArray := prog_12_method_16_code
def yX10_readAtom : MethodName := ⟨RX10, "readAtom", "(I)V"⟩
abbrev cX10_readNumber : ByteArray := prog_12_method_17_code
def yX10_readNumber : MethodName := ⟨RX10, "readNumber", "()V"⟩
abbrev cX10_isDigit : ByteArray := prog_12_method_18_code
def yX10_isDigit : MethodName := ⟨RX10, "isDigit", "(I)Z"⟩
abbrev cX10_goDeeper : ByteArray := prog_12_method_19_code
def yX10_goDeeper : MethodName := ⟨RX10, "goDeeper", "(I)Z"⟩
def RX11 : String := "UnlikeBoats$Word"
def TX11 : u_T := fun k => match k with
  | 0 => ("UnlikeBoats$Word", "race", "I", true)
  | 1 => ("UnlikeBoats$Word", "boat", "I", true)
  | 2 => ("UnlikeBoats$Word", "told", "I", true)
  | 3 => ("UnlikeBoats$Word", "second", "I", false)
  | 4 => ("UnlikeBoats$Word", "x", "I", false)
  | 5 => ("UnlikeBoats$Word", "y", "I", false)
  | 6 => ("UnlikeBoats$Word", "size", "I", false)
  | _ => ("UnlikeBoats$Word", "directions", "I", false)
abbrev wsX110 : List Cond := u_ws RX11 TX11 8
abbrev cX11_init : ByteArray := prog_13_method_1_code
def yX11_init : MethodName := ⟨RX11, "<init>", "(III)V"⟩
abbrev cX11_say : ByteArray := prog_13_method_2_code
def yX11_say : MethodName := ⟨RX11, "say", "(IIIII)V"⟩
def RX12 : String := "UnlikeBoats"
def TX12 : u_T := fun k => match k with
  | 0 => ("UnlikeBoats", "book", "LUnlikeBoats$Book;", true)
  | 1 => ("UnlikeBoats", "tape", "LUnlikeBoats$Tape;", true)
  | 2 => ("UnlikeBoats", "sheet", "LUnlikeBoats$Sheet;", true)
  | 3 => ("UnlikeBoats", "scores", "LUnlikeBoats$Scores;", true)
  | 4 => ("UnlikeBoats", "hearing", "LUnlikeBoats$Hearing;", true)
  | _ => ("UnlikeBoats", "office", "LUnlikeBoats$Office;", true)
abbrev wsX120 : List Cond := u_ws RX12 TX12 6
abbrev cX12_days : ByteArray := prog_1_method_2_code
def yX12_days : MethodName := ⟨RX12, "days", "(I)I"⟩
abbrev cX12_boat : ByteArray := prog_1_method_3_code
def yX12_boat : MethodName := ⟨RX12, "boat", "()I"⟩
abbrev cX12_certificate : ByteArray := prog_1_method_4_code
def yX12_certificate : MethodName := ⟨RX12, "certificate", "(IIIII)I"⟩
abbrev cX12_measured : ByteArray := prog_1_method_5_code
def yX12_measured : MethodName := ⟨RX12, "measured", "(III)I"⟩
abbrev cX12_end : ByteArray := prog_1_method_7_code
def yX12_end : MethodName := ⟨RX12, "end", "(I)Z"⟩
abbrev cX12_fault : ByteArray := prog_1_method_8_code
def yX12_fault : MethodName := ⟨RX12, "fault", "()I"⟩
abbrev cX12_rules : ByteArray := prog_1_method_9_code
def yX12_rules : MethodName := ⟨RX12, "rules", "(I)I"⟩
abbrev cX12_force : ByteArray := prog_1_method_10_code
def yX12_force : MethodName := ⟨RX12, "force", "(II)I"⟩
abbrev cX12_number : ByteArray := prog_1_method_11_code
def yX12_number : MethodName := ⟨RX12, "number", "(III)I"⟩
abbrev cX12_swift : ByteArray := prog_1_method_13_code
def yX12_swift : MethodName := ⟨RX12, "swift", "(II)Z"⟩
abbrev cX12_enter : ByteArray := prog_1_method_14_code
def yX12_enter : MethodName := ⟨RX12, "enter", "(II)Z"⟩
abbrev cX12_result : ByteArray := prog_1_method_15_code
def yX12_result : MethodName := ⟨RX12, "result", "(IIII)Z"⟩
abbrev cX12_coded : ByteArray := prog_1_method_16_code
def yX12_coded : MethodName := ⟨RX12, "coded", "(III)I"⟩
abbrev cX12_corrected : ByteArray := prog_1_method_17_code
def yX12_corrected : MethodName := ⟨RX12, "corrected", "(III)I"⟩
abbrev cX12_placed : ByteArray := prog_1_method_18_code
def yX12_placed : MethodName := ⟨RX12, "placed", "(III)I"⟩
abbrev cX12_redress : ByteArray := prog_1_method_19_code
def yX12_redress : MethodName := ⟨RX12, "redress", "(II)Z"⟩
abbrev cX12_points : ByteArray := prog_1_method_20_code
def yX12_points : MethodName := ⟨RX12, "points", "(III)I"⟩
abbrev cX12_thrown : ByteArray := prog_1_method_21_code
def yX12_thrown : MethodName := ⟨RX12, "thrown", "(III)I"⟩
abbrev cX12_total : ByteArray := prog_1_method_22_code
def yX12_total : MethodName := ⟨RX12, "total", "(II)I"⟩
abbrev cX12_word : ByteArray := prog_1_method_24_code
def yX12_word : MethodName := ⟨RX12, "word", "(IIIIIII)I"⟩
abbrev cX12_protest : ByteArray := prog_1_method_25_code
def yX12_protest : MethodName := ⟨RX12, "protest", "(IIII)I"⟩
abbrev cX12_states : ByteArray := prog_1_method_26_code
def yX12_states : MethodName := ⟨RX12, "states", "(III)I"⟩
abbrev cX12_finding : ByteArray := prog_1_method_27_code
def yX12_finding : MethodName := ⟨RX12, "finding", "(III)I"⟩
abbrev cX12_decide : ByteArray := prog_1_method_28_code
def yX12_decide : MethodName := ⟨RX12, "decide", "(I)I"⟩
abbrev cX12_reopen : ByteArray := prog_1_method_29_code
def yX12_reopen : MethodName := ⟨RX12, "reopen", "(I)Z"⟩
abbrev cX12_even : ByteArray := prog_1_method_30_code
def yX12_even : MethodName := ⟨RX12, "even", "(I)I"⟩
abbrev cX12_change : ByteArray := prog_1_method_31_code
def yX12_change : MethodName := ⟨RX12, "change", "(II)I"⟩
abbrev cX12_middle : ByteArray := prog_1_method_32_code
def yX12_middle : MethodName := ⟨RX12, "middle", "(II)I"⟩
abbrev cX12_fit : ByteArray := prog_1_method_33_code
def yX12_fit : MethodName := ⟨RX12, "fit", "(I)I"⟩
abbrev cX12_suspect : ByteArray := prog_1_method_34_code
def yX12_suspect : MethodName := ⟨RX12, "suspect", "(II)I"⟩
abbrev cX12_start : ByteArray := prog_1_method_35_code
def yX12_start : MethodName := ⟨RX12, "start", "(IIII)Z"⟩
abbrev cX12_lean : ByteArray := prog_1_method_36_code
def yX12_lean : MethodName := ⟨RX12, "lean", "(I)I"⟩
abbrev cX12_count : ByteArray := prog_1_method_39_code
def yX12_count : MethodName := ⟨RX12, "count", "(I)I"⟩
abbrev cX12_within : ByteArray := prog_1_method_40_code
def yX12_within : MethodName := ⟨RX12, "within", "(III)Z"⟩
abbrev cX12_held : ByteArray := prog_1_method_41_code
def yX12_held : MethodName := ⟨RX12, "held", "(III)I"⟩
abbrev cX12_apart : ByteArray := prog_1_method_42_code
def yX12_apart : MethodName := ⟨RX12, "apart", "(II)I"⟩
abbrev cX12_isDay : ByteArray := prog_1_method_43_code
def yX12_isDay : MethodName := ⟨RX12, "isDay", "(I)Z"⟩
abbrev cX12_cell : ByteArray := prog_1_method_44_code
def yX12_cell : MethodName := ⟨RX12, "cell", "(II)I"⟩
abbrev cX12_isOneOf : ByteArray := prog_1_method_46_code
def yX12_isOneOf : MethodName := ⟨RX12, "isOneOf", "(Ljava/lang/String;I)Z"⟩
abbrev cX12_sortIn : ByteArray := prog_1_method_47_code
def yX12_sortIn : MethodName := ⟨RX12, "sortIn", "(I[II)I"⟩
def RX13 : String := "UnlikeBoatsModel"
def TX13 : u_T := fun k => match k with
  | 0 => ("UnlikeBoatsModel", "thrown", "I", false)
  | 1 => ("UnlikeBoatsModel", "now", "I", false)
  | 2 => ("UnlikeBoatsModel", "certBoat", "[I", true)
  | 3 => ("UnlikeBoatsModel", "certFrom", "[I", true)
  | 4 => ("UnlikeBoatsModel", "certLong", "[I", true)
  | 5 => ("UnlikeBoatsModel", "certArea", "[I", true)
  | 6 => ("UnlikeBoatsModel", "certWeight", "[I", true)
  | 7 => ("UnlikeBoatsModel", "certTold", "[I", true)
  | 8 => ("UnlikeBoatsModel", "boats", "I", false)
  | 9 => ("UnlikeBoatsModel", "certs", "I", false)
  | 10 => ("UnlikeBoatsModel", "tape", "[B", true)
  | 11 => ("UnlikeBoatsModel", "ruleText", "[B", true)
  | 12 => ("UnlikeBoatsModel", "ruleLong", "[I", true)
  | 13 => ("UnlikeBoatsModel", "ruleFrom", "[I", true)
  | 14 => ("UnlikeBoatsModel", "ruleTold", "[I", true)
  | 15 => ("UnlikeBoatsModel", "letters", "[I", true)
  | 16 => ("UnlikeBoatsModel", "length", "I", false)
  | 17 => ("UnlikeBoatsModel", "rules", "I", false)
  | 18 => ("UnlikeBoatsModel", "text", "[B", false)
  | 19 => ("UnlikeBoatsModel", "textFrom", "I", false)
  | 20 => ("UnlikeBoatsModel", "textLong", "I", false)
  | 21 => ("UnlikeBoatsModel", "at", "I", false)
  | 22 => ("UnlikeBoatsModel", "fault", "I", false)
  | 23 => ("UnlikeBoatsModel", "deep", "I", false)
  | 24 => ("UnlikeBoatsModel", "label", "I", false)
  | 25 => ("UnlikeBoatsModel", "found", "I", false)
  | 26 => ("UnlikeBoatsModel", "hasFound", "Z", false)
  | 27 => ("UnlikeBoatsModel", "raceDay", "[I", true)
  | 28 => ("UnlikeBoatsModel", "raceMiles", "[I", true)
  | 29 => ("UnlikeBoatsModel", "raceWay", "[I", true)
  | 30 => ("UnlikeBoatsModel", "raceWind", "[I", true)
  | 31 => ("UnlikeBoatsModel", "markX", "[I", true)
  | 32 => ("UnlikeBoatsModel", "markY", "[I", true)
  | 33 => ("UnlikeBoatsModel", "raceSwift", "[I", true)
  | 34 => ("UnlikeBoatsModel", "raceTold", "[I", true)
  | 35 => ("UnlikeBoatsModel", "entered", "[I", true)
  | 36 => ("UnlikeBoatsModel", "startEnd", "[I", true)
  | 37 => ("UnlikeBoatsModel", "startAt", "[I", true)
  | 38 => ("UnlikeBoatsModel", "resultRace", "[I", true)
  | 39 => ("UnlikeBoatsModel", "resultBoat", "[I", true)
  | 40 => ("UnlikeBoatsModel", "resultCode", "[I", true)
  | 41 => ("UnlikeBoatsModel", "resultSeconds", "[I", true)
  | 42 => ("UnlikeBoatsModel", "resultTold", "[I", true)
  | 43 => ("UnlikeBoatsModel", "redressRace", "[I", true)
  | 44 => ("UnlikeBoatsModel", "redressBoat", "[I", true)
  | 45 => ("UnlikeBoatsModel", "redressTold", "[I", true)
  | 46 => ("UnlikeBoatsModel", "races", "I", false)
  | 47 => ("UnlikeBoatsModel", "results", "I", false)
  | 48 => ("UnlikeBoatsModel", "redresses", "I", false)
  | 49 => ("UnlikeBoatsModel", "points", "[I", true)
  | 50 => ("UnlikeBoatsModel", "totals", "[I", true)
  | 51 => ("UnlikeBoatsModel", "left", "[I", true)
  | 52 => ("UnlikeBoatsModel", "otherLeft", "[I", true)
  | 53 => ("UnlikeBoatsModel", "isThrown", "[Z", true)
  | 54 => ("UnlikeBoatsModel", "isScored", "[Z", true)
  | 55 => ("UnlikeBoatsModel", "counting", "I", false)
  | 56 => ("UnlikeBoatsModel", "wordRace", "[I", true)
  | 57 => ("UnlikeBoatsModel", "wordBoat", "[I", true)
  | 58 => ("UnlikeBoatsModel", "wordAt", "[I", true)
  | 59 => ("UnlikeBoatsModel", "wordX", "[I", true)
  | 60 => ("UnlikeBoatsModel", "wordY", "[I", true)
  | 61 => ("UnlikeBoatsModel", "wordSize", "[I", true)
  | 62 => ("UnlikeBoatsModel", "wordWays", "[I", true)
  | 63 => ("UnlikeBoatsModel", "wordTold", "[I", true)
  | 64 => ("UnlikeBoatsModel", "protestRace", "[I", true)
  | 65 => ("UnlikeBoatsModel", "protestA", "[I", true)
  | 66 => ("UnlikeBoatsModel", "protestB", "[I", true)
  | 67 => ("UnlikeBoatsModel", "protestAt", "[I", true)
  | 68 => ("UnlikeBoatsModel", "protestTold", "[I", true)
  | 69 => ("UnlikeBoatsModel", "outs", "[I", true)
  | 70 => ("UnlikeBoatsModel", "outFrom", "[I", true)
  | 71 => ("UnlikeBoatsModel", "outTo", "[I", true)
  | 72 => ("UnlikeBoatsModel", "decisions", "[I", true)
  | 73 => ("UnlikeBoatsModel", "isDecided", "[Z", true)
  | 74 => ("UnlikeBoatsModel", "words", "I", false)
  | 75 => ("UnlikeBoatsModel", "protests", "I", false)
  | 76 => ("UnlikeBoatsModel", "stateX", "[I", true)
  | 77 => ("UnlikeBoatsModel", "stateY", "[I", true)
  | 78 => ("UnlikeBoatsModel", "stateWay", "[I", true)
  | 79 => ("UnlikeBoatsModel", "stateMany", "[I", true)
  | 80 => ("UnlikeBoatsModel", "evenBoat", "[I", true)
  | 81 => ("UnlikeBoatsModel", "evenRace", "[I", true)
  | 82 => ("UnlikeBoatsModel", "evenSeconds", "[I", true)
  | 83 => ("UnlikeBoatsModel", "evenNumber", "[I", true)
  | 84 => ("UnlikeBoatsModel", "tried", "[I", true)
  | 85 => ("UnlikeBoatsModel", "bestChange", "[I", true)
  | 86 => ("UnlikeBoatsModel", "evenMany", "I", false)
  | 87 => ("UnlikeBoatsModel", "evenRaces", "I", false)
  | 88 => ("UnlikeBoatsModel", "bestSpread", "I", false)
  | 89 => ("UnlikeBoatsModel", "bestSum", "I", false)
  | 90 => ("UnlikeBoatsModel", "row", "[I", true)
  | 91 => ("UnlikeBoatsModel", "fitSeconds", "[I", true)
  | 92 => ("UnlikeBoatsModel", "fitMiddle", "[I", true)
  | 93 => ("UnlikeBoatsModel", "ratioRace", "[I", true)
  | 94 => ("UnlikeBoatsModel", "ratio", "[I", true)
  | 95 => ("UnlikeBoatsModel", "jump", "I", false)
  | _ => ("UnlikeBoatsModel", "weight", "[I", true)
def RJ11 : String := "java/lang/Character"
abbrev cJ11_isValidCodePoint_9a6ad : ByteArray := prog_18_method_11_code
def yJ11_isValidCodePoint_9a6ad : MethodName := ⟨RJ11, "isValidCodePoint", "(I)Z"⟩
abbrev cJ11_highSurrogate_5068e : ByteArray := prog_18_method_28_code
def yJ11_highSurrogate_5068e : MethodName := ⟨RJ11, "highSurrogate", "(I)C"⟩
abbrev cJ11_lowSurrogate_5068e : ByteArray := prog_18_method_29_code
def yJ11_lowSurrogate_5068e : MethodName := ⟨RJ11, "lowSurrogate", "(I)C"⟩
def RJ6 : String := "java/lang/Integer"
abbrev cJ6_bitCount_0f7a4 : ByteArray := prog_22_method_49_code
def yJ6_bitCount_0f7a4 : MethodName := ⟨RJ6, "bitCount", "(I)I"⟩
abbrev cJ6_signum_0f7a4 : ByteArray := prog_22_method_56_code
def yJ6_signum_0f7a4 : MethodName := ⟨RJ6, "signum", "(I)I"⟩
def RJ0 : String := "java/lang/String"
abbrev cJ0_length_8abf5 : ByteArray := prog_26_method_54_code
def yJ0_length_8abf5 : MethodName := ⟨RJ0, "length", "()I"⟩
abbrev cJ0_indexOf_0f7a4 : ByteArray := prog_26_method_79_code
def yJ0_indexOf_0f7a4 : MethodName := ⟨RJ0, "indexOf", "(I)I"⟩
abbrev cJ0_indexOf_7cf53 : ByteArray := prog_26_method_80_code
def yJ0_indexOf_7cf53 : MethodName := ⟨RJ0, "indexOf", "(II)I"⟩
abbrev cJ0_coder_7d493 : ByteArray := prog_26_method_152_code
def yJ0_coder_7d493 : MethodName := ⟨RJ0, "coder", "()B"⟩
abbrev cJ0_isLatin1_aae02 : ByteArray := prog_26_method_154_code
def yJ0_isLatin1_aae02 : MethodName := ⟨RJ0, "isLatin1", "()Z"⟩
abbrev cJ0_checkBoundsBeginEnd_23922 : ByteArray := prog_26_method_158_code
def yJ0_checkBoundsBeginEnd_23922 : MethodName := ⟨RJ0, "checkBoundsBeginEnd", "(III)V"⟩
def RJ1 : String := "java/lang/StringLatin1"
abbrev cJ1_canEncode_9a6ad : ByteArray := prog_27_method_4_code
def yJ1_canEncode_9a6ad : MethodName := ⟨RJ1, "canEncode", "(I)Z"⟩
abbrev cJ1_indexOf_4cfef : ByteArray := prog_27_method_22_code
def yJ1_indexOf_4cfef : MethodName := ⟨RJ1, "indexOf", "([BIII)I"⟩
abbrev cJ1_indexOfChar_4cfef : ByteArray := prog_27_method_23_code
def yJ1_indexOfChar_4cfef : MethodName := ⟨RJ1, "indexOfChar", "([BIII)I"⟩
def RJ2 : String := "java/lang/StringUTF16"
abbrev cJ2_getChar_3b067 : ByteArray := prog_28_method_5_code
def yJ2_getChar_3b067 : MethodName := ⟨RJ2, "getChar", "([BI)C"⟩
abbrev cJ2_length_9d52b : ByteArray := prog_28_method_6_code
def yJ2_length_9d52b : MethodName := ⟨RJ2, "length", "([B)I"⟩
abbrev cJ2_indexOf_4cfef : ByteArray := prog_28_method_40_code
def yJ2_indexOf_4cfef : MethodName := ⟨RJ2, "indexOf", "([BIII)I"⟩
abbrev cJ2_indexOfChar_4cfef : ByteArray := prog_28_method_47_code
def yJ2_indexOfChar_4cfef : MethodName := ⟨RJ2, "indexOfChar", "([BIII)I"⟩
abbrev cJ2_indexOfCharUnsafe_4cfef : ByteArray := prog_28_method_48_code
def yJ2_indexOfCharUnsafe_4cfef : MethodName := ⟨RJ2, "indexOfCharUnsafe", "([BIII)I"⟩
abbrev cJ2_indexOfSupplementary_4cfef : ByteArray := prog_28_method_49_code
def yJ2_indexOfSupplementary_4cfef : MethodName := ⟨RJ2, "indexOfSupplementary", "([BIII)I"⟩
abbrev cJ2_checkBoundsBeginEnd_d044e : ByteArray := prog_28_method_93_code
def yJ2_checkBoundsBeginEnd_d044e : MethodName := ⟨RJ2, "checkBoundsBeginEnd", "(II[B)V"⟩
def RJx4a65c : String := "java/util/ArrayList"
def TJx4a65c : u_T := fun k => match k with
  | 0 => ("java/util/AbstractList", "modCount", "I", false)
  | 1 => ("java/util/ArrayList", "elementData", "[Ljava/lang/Object;", false)
  | _ => ("java/util/ArrayList", "size", "I", false)
abbrev wsJx4a65c0 : List Cond := u_ws RJx4a65c TJx4a65c 3
abbrev cJx4a65c_grow_92f84 : ByteArray := prog_35_method_6_code
def yJx4a65c_grow_92f84 : MethodName := ⟨RJx4a65c, "grow", "(I)[Ljava/lang/Object;"⟩
abbrev cJx4a65c_grow_d5877 : ByteArray := prog_35_method_7_code
def yJx4a65c_grow_d5877 : MethodName := ⟨RJx4a65c, "grow", "()[Ljava/lang/Object;"⟩
abbrev cJx4a65c_size_8abf5 : ByteArray := prog_35_method_8_code
def yJx4a65c_size_8abf5 : MethodName := ⟨RJx4a65c, "size", "()I"⟩
abbrev cJx4a65c_elementData_915e3 : ByteArray := prog_35_method_18_code
def yJx4a65c_elementData_915e3 : MethodName := ⟨RJx4a65c, "elementData", "(I)Ljava/lang/Object;"⟩
abbrev cJx4a65c_get_915e3 : ByteArray := prog_35_method_20_code
def yJx4a65c_get_915e3 : MethodName := ⟨RJx4a65c, "get", "(I)Ljava/lang/Object;"⟩
abbrev cJx4a65c_add_72be8 : ByteArray := prog_35_method_24_code
def yJx4a65c_add_72be8 : MethodName := ⟨RJx4a65c, "add", "(Ljava/lang/Object;[Ljava/lang/Object;I)V"⟩
abbrev cJx4a65c_add_9ea2d : ByteArray := prog_35_method_25_code
def yJx4a65c_add_9ea2d : MethodName := ⟨RJx4a65c, "add", "(Ljava/lang/Object;)Z"⟩
def RJ7 : String := "java/util/Arrays"
abbrev cJ7_fill_53178 : ByteArray := prog_36_method_103_code
def yJ7_fill_53178 : MethodName := ⟨RJ7, "fill", "([II)V"⟩
abbrev cJ7_copyOf_1904c : ByteArray := prog_36_method_119_code
def yJ7_copyOf_1904c : MethodName := ⟨RJ7, "copyOf", "([Ljava/lang/Object;I)[Ljava/lang/Object;"⟩
abbrev cJ7_copyOf_6403c : ByteArray := prog_36_method_120_code
def yJ7_copyOf_6403c : MethodName := ⟨RJ7, "copyOf", "([Ljava/lang/Object;ILjava/lang/Class;)[Ljava/lang/Object;"⟩
abbrev cJ7_copyOf_59c91 : ByteArray := prog_36_method_123_code
def yJ7_copyOf_59c91 : MethodName := ⟨RJ7, "copyOf", "([II)[I"⟩
def RJ15 : String := "java/util/Objects"
abbrev cJ15_checkIndex_7cf53 : ByteArray := prog_40_method_17_code
def yJ15_checkIndex_7cf53 : MethodName := ⟨RJ15, "checkIndex", "(II)I"⟩
def RJ8 : String := "jdk/internal/util/ArraysSupport"
abbrev cJ8_newLength_cabcc : ByteArray := prog_43_method_27_code
def yJ8_newLength_cabcc : MethodName := ⟨RJ8, "newLength", "(III)I"⟩
abbrev cJ8_hugeLength_7cf53 : ByteArray := prog_43_method_28_code
def yJ8_hugeLength_7cf53 : MethodName := ⟨RJ8, "hugeLength", "(II)I"⟩
def RJ3 : String := "jdk/internal/util/Preconditions"
abbrev cJ3_checkIndex_8e157 : ByteArray := prog_44_method_11_code
def yJ3_checkIndex_8e157 : MethodName := ⟨RJ3, "checkIndex", "(IILjava/util/function/BiFunction;)I"⟩
abbrev cJ3_checkFromToIndex_8c36e : ByteArray := prog_44_method_12_code
def yJ3_checkFromToIndex_8c36e : MethodName := ⟨RJ3, "checkFromToIndex", "(IIILjava/util/function/BiFunction;)I"⟩
def wsX12_within : List Cond := .code yX12_within cX12_within 3 (some .boolean) :: ([])
def wsX0_isBoat : List Cond := .code yX0_isBoat cX0_isBoat 2 (some .boolean) :: ([.fieldLink RX0 48 "UnlikeBoats$Book" "boats" "I", .static yX12_within, .initialized RX12, .code yX12_within cX12_within 3 (some .boolean)] ++ wsX00)
def wsJx4a65c_size_8abf5 : List Cond := .code yJx4a65c_size_8abf5 cJx4a65c_size_8abf5 1 (some .int) :: ([.fieldLink RJx4a65c 48 "java/util/ArrayList" "size" "I"] ++ wsJx4a65c0)
def wsX0_isRace : List Cond := .code yX0_isRace cX0_isRace 2 (some .boolean) :: ([.fieldLink RX0 21 "UnlikeBoats$Book" "races" "Ljava/util/ArrayList;", .methodLink RX0 56 yJx4a65c_size_8abf5, .instanceMethod yJx4a65c_size_8abf5, .selects RJx4a65c yJx4a65c_size_8abf5 yJx4a65c_size_8abf5, .initialized RJx4a65c, .code yJx4a65c_size_8abf5 cJx4a65c_size_8abf5 1 (some .int), .fieldLink RJx4a65c 48 "java/util/ArrayList" "size" "I", .static yX12_within, .initialized RX12, .code yX12_within cX12_within 3 (some .boolean)] ++ wsX00 ++ wsJx4a65c0)
def wsX0_isKnown : List Cond := .code yX0_isKnown cX0_isKnown 2 (some .boolean) :: ([.fieldLink RX0 59 "UnlikeBoats$Book" "now" "I", .static yX12_within, .initialized RX12, .code yX12_within cX12_within 3 (some .boolean)] ++ wsX00)
def wsX0_isCounted_r1 : List Cond := [Cond.fieldLink RX0 21 "UnlikeBoats$Book" "races" "Ljava/util/ArrayList;", Cond.classLink RX0 73 "UnlikeBoats$Race", Cond.fieldLink RX0 75 "UnlikeBoats$Race" "told" "I", Cond.methodLink RX0 62 yX0_isKnown, Cond.instanceMethod yX0_isKnown, Cond.selects RX0 yX0_isKnown yX0_isKnown, Cond.initialized RX0, Cond.code yX0_isKnown cX0_isKnown 2 (some .boolean), Cond.fieldLink RX0 59 "UnlikeBoats$Book" "now" "I", Cond.static yX12_within, Cond.initialized RX12, Cond.code yX12_within cX12_within 3 (some .boolean), Cond.methodLink RX0 66 yX0_isRace, Cond.instanceMethod yX0_isRace, Cond.selects RX0 yX0_isRace yX0_isRace, Cond.code yX0_isRace cX0_isRace 2 (some .boolean), Cond.methodLink RX0 56 yJx4a65c_size_8abf5, Cond.instanceMethod yJx4a65c_size_8abf5, Cond.selects RJx4a65c yJx4a65c_size_8abf5 yJx4a65c_size_8abf5, Cond.initialized RJx4a65c, Cond.code yJx4a65c_size_8abf5 cJx4a65c_size_8abf5 1 (some .int), Cond.fieldLink RJx4a65c 48 "java/util/ArrayList" "size" "I", Cond.methodLink RX0 69 yJx4a65c_get_915e3, Cond.instanceMethod yJx4a65c_get_915e3]
def wsX0_isCounted_r2 : List Cond := [Cond.selects RJx4a65c yJx4a65c_get_915e3 yJx4a65c_get_915e3, Cond.code yJx4a65c_get_915e3 cJx4a65c_get_915e3 2 (some (.object "java/lang/Object")), Cond.methodLink RJx4a65c 118 yJ15_checkIndex_7cf53, Cond.static yJ15_checkIndex_7cf53, Cond.initialized RJ15, Cond.code yJ15_checkIndex_7cf53 cJ15_checkIndex_7cf53 2 (some .int), Cond.methodLink RJ15 105 yJ3_checkIndex_8e157, Cond.static yJ3_checkIndex_8e157, Cond.initialized RJ3, Cond.code yJ3_checkIndex_8e157 cJ3_checkIndex_8e157 3 (some .int), Cond.methodLink RJx4a65c 123 yJx4a65c_elementData_915e3, Cond.instanceMethod yJx4a65c_elementData_915e3, Cond.selects RJx4a65c yJx4a65c_elementData_915e3 yJx4a65c_elementData_915e3, Cond.code yJx4a65c_elementData_915e3 cJx4a65c_elementData_915e3 2 (some (.object "java/lang/Object")), Cond.fieldLink RJx4a65c 9 "java/util/ArrayList" "elementData" "[Ljava/lang/Object;"]
def wsX0_isCounted : List Cond := .code yX0_isCounted cX0_isCounted 3 (some .boolean) :: ((wsX0_isCounted_r1 ++ wsX0_isCounted_r2) ++ wsX00 ++ wsX50 ++ wsJx4a65c0)
def wsX0_isEntered_r1 : List Cond := [Cond.fieldLink RX0 21 "UnlikeBoats$Book" "races" "Ljava/util/ArrayList;", Cond.classLink RX0 73 "UnlikeBoats$Race", Cond.fieldLink RX0 59 "UnlikeBoats$Book" "now" "I", Cond.methodLink RX0 66 yX0_isRace, Cond.instanceMethod yX0_isRace, Cond.selects RX0 yX0_isRace yX0_isRace, Cond.initialized RX0, Cond.code yX0_isRace cX0_isRace 2 (some .boolean), Cond.methodLink RX0 56 yJx4a65c_size_8abf5, Cond.instanceMethod yJx4a65c_size_8abf5, Cond.selects RJx4a65c yJx4a65c_size_8abf5 yJx4a65c_size_8abf5, Cond.initialized RJx4a65c, Cond.code yJx4a65c_size_8abf5 cJx4a65c_size_8abf5 1 (some .int), Cond.fieldLink RJx4a65c 48 "java/util/ArrayList" "size" "I", Cond.static yX12_within, Cond.initialized RX12, Cond.code yX12_within cX12_within 3 (some .boolean), Cond.methodLink RX0 78 yX0_isBoat, Cond.instanceMethod yX0_isBoat, Cond.selects RX0 yX0_isBoat yX0_isBoat, Cond.code yX0_isBoat cX0_isBoat 2 (some .boolean), Cond.fieldLink RX0 48 "UnlikeBoats$Book" "boats" "I", Cond.methodLink RX0 69 yJx4a65c_get_915e3, Cond.instanceMethod yJx4a65c_get_915e3]
def wsX0_isEntered_r2 : List Cond := [Cond.selects RJx4a65c yJx4a65c_get_915e3 yJx4a65c_get_915e3, Cond.code yJx4a65c_get_915e3 cJx4a65c_get_915e3 2 (some (.object "java/lang/Object")), Cond.methodLink RJx4a65c 118 yJ15_checkIndex_7cf53, Cond.static yJ15_checkIndex_7cf53, Cond.initialized RJ15, Cond.code yJ15_checkIndex_7cf53 cJ15_checkIndex_7cf53 2 (some .int), Cond.methodLink RJ15 105 yJ3_checkIndex_8e157, Cond.static yJ3_checkIndex_8e157, Cond.initialized RJ3, Cond.code yJ3_checkIndex_8e157 cJ3_checkIndex_8e157 3 (some .int), Cond.methodLink RJx4a65c 123 yJx4a65c_elementData_915e3, Cond.instanceMethod yJx4a65c_elementData_915e3, Cond.selects RJx4a65c yJx4a65c_elementData_915e3 yJx4a65c_elementData_915e3, Cond.code yJx4a65c_elementData_915e3 cJx4a65c_elementData_915e3 2 (some (.object "java/lang/Object")), Cond.fieldLink RJx4a65c 9 "java/util/ArrayList" "elementData" "[Ljava/lang/Object;", Cond.methodLink RX0 81 yX5_isEnteredIn, Cond.instanceMethod yX5_isEnteredIn, Cond.selects RX5 yX5_isEnteredIn yX5_isEnteredIn, Cond.initialized RX5, Cond.code yX5_isEnteredIn cX5_isEnteredIn 3 (some .boolean), Cond.fieldLink RX5 9 "UnlikeBoats$Race" "entries" "[I"]
def wsX0_isEntered : List Cond := .code yX0_isEntered cX0_isEntered 3 (some .boolean) :: ((wsX0_isEntered_r1 ++ wsX0_isEntered_r2) ++ wsX00 ++ wsJx4a65c0 ++ wsX50)
def wsX0_isProtested_r1 : List Cond := [Cond.fieldLink RX0 30 "UnlikeBoats$Book" "protests" "Ljava/util/ArrayList;", Cond.classLink RX0 85 "UnlikeBoats$Protest", Cond.fieldLink RX0 87 "UnlikeBoats$Protest" "told" "I", Cond.methodLink RX0 62 yX0_isKnown, Cond.instanceMethod yX0_isKnown, Cond.selects RX0 yX0_isKnown yX0_isKnown, Cond.initialized RX0, Cond.code yX0_isKnown cX0_isKnown 2 (some .boolean), Cond.fieldLink RX0 59 "UnlikeBoats$Book" "now" "I", Cond.static yX12_within, Cond.initialized RX12, Cond.code yX12_within cX12_within 3 (some .boolean), Cond.methodLink RX0 56 yJx4a65c_size_8abf5, Cond.instanceMethod yJx4a65c_size_8abf5, Cond.selects RJx4a65c yJx4a65c_size_8abf5 yJx4a65c_size_8abf5, Cond.initialized RJx4a65c, Cond.code yJx4a65c_size_8abf5 cJx4a65c_size_8abf5 1 (some .int), Cond.fieldLink RJx4a65c 48 "java/util/ArrayList" "size" "I", Cond.methodLink RX0 69 yJx4a65c_get_915e3, Cond.instanceMethod yJx4a65c_get_915e3, Cond.selects RJx4a65c yJx4a65c_get_915e3 yJx4a65c_get_915e3, Cond.code yJx4a65c_get_915e3 cJx4a65c_get_915e3 2 (some (.object "java/lang/Object")), Cond.methodLink RJx4a65c 118 yJ15_checkIndex_7cf53, Cond.static yJ15_checkIndex_7cf53]
def wsX0_isProtested_r2 : List Cond := [Cond.initialized RJ15, Cond.code yJ15_checkIndex_7cf53 cJ15_checkIndex_7cf53 2 (some .int), Cond.methodLink RJ15 105 yJ3_checkIndex_8e157, Cond.static yJ3_checkIndex_8e157, Cond.initialized RJ3, Cond.code yJ3_checkIndex_8e157 cJ3_checkIndex_8e157 3 (some .int), Cond.methodLink RJx4a65c 123 yJx4a65c_elementData_915e3, Cond.instanceMethod yJx4a65c_elementData_915e3, Cond.selects RJx4a65c yJx4a65c_elementData_915e3 yJx4a65c_elementData_915e3, Cond.code yJx4a65c_elementData_915e3 cJx4a65c_elementData_915e3 2 (some (.object "java/lang/Object")), Cond.fieldLink RJx4a65c 9 "java/util/ArrayList" "elementData" "[Ljava/lang/Object;"]
def wsX0_isProtested : List Cond := .code yX0_isProtested cX0_isProtested 3 (some .boolean) :: ((wsX0_isProtested_r1 ++ wsX0_isProtested_r2) ++ wsX00 ++ wsX40 ++ wsJx4a65c0)
def wsJ6_bitCount_0f7a4 : List Cond := .code yJ6_bitCount_0f7a4 cJ6_bitCount_0f7a4 1 (some .int) :: ([.constant RJ6 265 (1431655765), .constant RJ6 266 (858993459), .constant RJ6 267 (252645135)])
def wsX0_areSome : List Cond := .code yX0_areSome cX0_areSome 2 (some .boolean) :: ([.fieldLink RX0 48 "UnlikeBoats$Book" "boats" "I", .static yX12_within, .initialized RX12, .code yX12_within cX12_within 3 (some .boolean), .methodLink RX0 88 yJ6_bitCount_0f7a4, .static yJ6_bitCount_0f7a4, .initialized RJ6, .code yJ6_bitCount_0f7a4 cJ6_bitCount_0f7a4 1 (some .int), .constant RJ6 265 (1431655765), .constant RJ6 266 (858993459), .constant RJ6 267 (252645135)] ++ wsX00)
def wsX0_rulesOn_r1 : List Cond := [Cond.fieldLink RX0 18 "UnlikeBoats$Book" "rules" "Ljava/util/ArrayList;", Cond.classLink RX0 103 "UnlikeBoats$Rules", Cond.fieldLink RX0 105 "UnlikeBoats$Rules" "told" "I", Cond.fieldLink RX0 106 "UnlikeBoats$Rules" "from" "I", Cond.methodLink RX0 56 yJx4a65c_size_8abf5, Cond.instanceMethod yJx4a65c_size_8abf5, Cond.selects RJx4a65c yJx4a65c_size_8abf5 yJx4a65c_size_8abf5, Cond.initialized RJx4a65c, Cond.code yJx4a65c_size_8abf5 cJx4a65c_size_8abf5 1 (some .int), Cond.fieldLink RJx4a65c 48 "java/util/ArrayList" "size" "I", Cond.methodLink RX0 69 yJx4a65c_get_915e3, Cond.instanceMethod yJx4a65c_get_915e3, Cond.selects RJx4a65c yJx4a65c_get_915e3 yJx4a65c_get_915e3, Cond.code yJx4a65c_get_915e3 cJx4a65c_get_915e3 2 (some (.object "java/lang/Object")), Cond.methodLink RJx4a65c 118 yJ15_checkIndex_7cf53, Cond.static yJ15_checkIndex_7cf53, Cond.initialized RJ15, Cond.code yJ15_checkIndex_7cf53 cJ15_checkIndex_7cf53 2 (some .int), Cond.methodLink RJ15 105 yJ3_checkIndex_8e157, Cond.static yJ3_checkIndex_8e157, Cond.initialized RJ3, Cond.code yJ3_checkIndex_8e157 cJ3_checkIndex_8e157 3 (some .int), Cond.methodLink RJx4a65c 123 yJx4a65c_elementData_915e3, Cond.instanceMethod yJx4a65c_elementData_915e3]
def wsX0_rulesOn_r2 : List Cond := [Cond.selects RJx4a65c yJx4a65c_elementData_915e3 yJx4a65c_elementData_915e3, Cond.code yJx4a65c_elementData_915e3 cJx4a65c_elementData_915e3 2 (some (.object "java/lang/Object")), Cond.fieldLink RJx4a65c 9 "java/util/ArrayList" "elementData" "[Ljava/lang/Object;"]
def wsX0_rulesOn : List Cond := .code yX0_rulesOn cX0_rulesOn 7 (some .int) :: ((wsX0_rulesOn_r1 ++ wsX0_rulesOn_r2) ++ wsX00 ++ wsX70 ++ wsJx4a65c0)
def wsX12_held : List Cond := .code yX12_held cX12_held 3 (some .int) :: ([])
def wsX0_worthIn_r1 : List Cond := [Cond.fieldLink RX0 18 "UnlikeBoats$Book" "rules" "Ljava/util/ArrayList;", Cond.classLink RX0 103 "UnlikeBoats$Rules", Cond.fieldLink RX0 41 "UnlikeBoats$Book" "letters" "[I", Cond.fieldLink RX0 45 "UnlikeBoats$Book" "stack" "[I", Cond.methodLink RX0 69 yJx4a65c_get_915e3, Cond.instanceMethod yJx4a65c_get_915e3, Cond.selects RJx4a65c yJx4a65c_get_915e3 yJx4a65c_get_915e3, Cond.initialized RJx4a65c, Cond.code yJx4a65c_get_915e3 cJx4a65c_get_915e3 2 (some (.object "java/lang/Object")), Cond.fieldLink RJx4a65c 48 "java/util/ArrayList" "size" "I", Cond.methodLink RJx4a65c 118 yJ15_checkIndex_7cf53, Cond.static yJ15_checkIndex_7cf53, Cond.initialized RJ15, Cond.code yJ15_checkIndex_7cf53 cJ15_checkIndex_7cf53 2 (some .int), Cond.methodLink RJ15 105 yJ3_checkIndex_8e157, Cond.static yJ3_checkIndex_8e157, Cond.initialized RJ3, Cond.code yJ3_checkIndex_8e157 cJ3_checkIndex_8e157 3 (some .int), Cond.methodLink RJx4a65c 123 yJx4a65c_elementData_915e3, Cond.instanceMethod yJx4a65c_elementData_915e3, Cond.selects RJx4a65c yJx4a65c_elementData_915e3 yJx4a65c_elementData_915e3, Cond.code yJx4a65c_elementData_915e3 cJx4a65c_elementData_915e3 2 (some (.object "java/lang/Object")), Cond.fieldLink RJx4a65c 9 "java/util/ArrayList" "elementData" "[Ljava/lang/Object;", Cond.methodLink RX0 127 yX7_worthOf]
def wsX0_worthIn_r2 : List Cond := [Cond.instanceMethod yX7_worthOf, Cond.selects RX7 yX7_worthOf yX7_worthOf, Cond.initialized RX7, Cond.code yX7_worthOf cX7_worthOf 6 (some .int), Cond.fieldLink RX7 22 "UnlikeBoats$Rules" "labels" "[I", Cond.fieldLink RX7 28 "UnlikeBoats$Rules" "sums" "[I", Cond.fieldLink RX7 25 "UnlikeBoats$Rules" "begins" "[I", Cond.methodLink RX7 31 yX7_run, Cond.instanceMethod yX7_run, Cond.selects RX7 yX7_run yX7_run, Cond.code yX7_run cX7_run 9 (some .int), Cond.fieldLink RX7 18 "UnlikeBoats$Rules" "steps" "[I", Cond.methodLink RX7 35 yX7_asSign, Cond.static yX7_asSign, Cond.code yX7_asSign cX7_asSign 1 (some .int), Cond.methodLink RX7 39 yX7_join, Cond.static yX7_join, Cond.code yX7_join cX7_join 5 (some .int), Cond.constantLong RX7 47 (10000000), Cond.constant RX7 49 (10000000), Cond.constantLong RX7 50 (-10000000), Cond.constant RX7 52 (-10000000), Cond.methodLink RX7 43 yX7_letterAt, Cond.static yX7_letterAt]
def wsX0_worthIn_r3 : List Cond := [Cond.code yX7_letterAt cX7_letterAt 2 (some .int)]
def wsX0_worthIn : List Cond := .code yX0_worthIn cX0_worthIn 3 (some .int) :: ((wsX0_worthIn_r1 ++ (wsX0_worthIn_r2 ++ wsX0_worthIn_r3)) ++ wsX00 ++ wsJx4a65c0 ++ wsX70)
def wsX0_racesIn_r1 : List Cond := [Cond.fieldLink RX0 21 "UnlikeBoats$Book" "races" "Ljava/util/ArrayList;", Cond.classLink RX0 73 "UnlikeBoats$Race", Cond.fieldLink RX0 75 "UnlikeBoats$Race" "told" "I", Cond.methodLink RX0 56 yJx4a65c_size_8abf5, Cond.instanceMethod yJx4a65c_size_8abf5, Cond.selects RJx4a65c yJx4a65c_size_8abf5 yJx4a65c_size_8abf5, Cond.initialized RJx4a65c, Cond.code yJx4a65c_size_8abf5 cJx4a65c_size_8abf5 1 (some .int), Cond.fieldLink RJx4a65c 48 "java/util/ArrayList" "size" "I", Cond.methodLink RX0 69 yJx4a65c_get_915e3, Cond.instanceMethod yJx4a65c_get_915e3, Cond.selects RJx4a65c yJx4a65c_get_915e3 yJx4a65c_get_915e3, Cond.code yJx4a65c_get_915e3 cJx4a65c_get_915e3 2 (some (.object "java/lang/Object")), Cond.methodLink RJx4a65c 118 yJ15_checkIndex_7cf53, Cond.static yJ15_checkIndex_7cf53, Cond.initialized RJ15, Cond.code yJ15_checkIndex_7cf53 cJ15_checkIndex_7cf53 2 (some .int), Cond.methodLink RJ15 105 yJ3_checkIndex_8e157, Cond.static yJ3_checkIndex_8e157, Cond.initialized RJ3, Cond.code yJ3_checkIndex_8e157 cJ3_checkIndex_8e157 3 (some .int), Cond.methodLink RJx4a65c 123 yJx4a65c_elementData_915e3, Cond.instanceMethod yJx4a65c_elementData_915e3, Cond.selects RJx4a65c yJx4a65c_elementData_915e3 yJx4a65c_elementData_915e3]
def wsX0_racesIn_r2 : List Cond := [Cond.code yJx4a65c_elementData_915e3 cJx4a65c_elementData_915e3 2 (some (.object "java/lang/Object")), Cond.fieldLink RJx4a65c 9 "java/util/ArrayList" "elementData" "[Ljava/lang/Object;"]
def wsX0_racesIn : List Cond := .code yX0_racesIn cX0_racesIn 4 (some .int) :: ((wsX0_racesIn_r1 ++ wsX0_racesIn_r2) ++ wsX00 ++ wsX50 ++ wsJx4a65c0)
def wsX0_disqualified_r1 : List Cond := [Cond.fieldLink RX0 21 "UnlikeBoats$Book" "races" "Ljava/util/ArrayList;", Cond.fieldLink RX0 59 "UnlikeBoats$Book" "now" "I", Cond.methodLink RX0 56 yJx4a65c_size_8abf5, Cond.instanceMethod yJx4a65c_size_8abf5, Cond.selects RJx4a65c yJx4a65c_size_8abf5 yJx4a65c_size_8abf5, Cond.initialized RJx4a65c, Cond.code yJx4a65c_size_8abf5 cJx4a65c_size_8abf5 1 (some .int), Cond.fieldLink RJx4a65c 48 "java/util/ArrayList" "size" "I", Cond.methodLink RX0 152 yX0_disqualifiedIn, Cond.instanceMethod yX0_disqualifiedIn, Cond.selects RX0 yX0_disqualifiedIn yX0_disqualifiedIn, Cond.initialized RX0, Cond.code yX0_disqualifiedIn cX0_disqualifiedIn 7 (some .int), Cond.fieldLink RX0 30 "UnlikeBoats$Book" "protests" "Ljava/util/ArrayList;", Cond.classLink RX0 85 "UnlikeBoats$Protest", Cond.fieldLink RX0 140 "UnlikeBoats$Protest" "race" "I", Cond.fieldLink RX0 146 "UnlikeBoats$Protest" "a" "I", Cond.fieldLink RX0 149 "UnlikeBoats$Protest" "b" "I", Cond.methodLink RX0 69 yJx4a65c_get_915e3, Cond.instanceMethod yJx4a65c_get_915e3, Cond.selects RJx4a65c yJx4a65c_get_915e3 yJx4a65c_get_915e3, Cond.code yJx4a65c_get_915e3 cJx4a65c_get_915e3 2 (some (.object "java/lang/Object")), Cond.methodLink RJx4a65c 118 yJ15_checkIndex_7cf53, Cond.static yJ15_checkIndex_7cf53]
def wsX0_disqualified_r2 : List Cond := [Cond.initialized RJ15, Cond.code yJ15_checkIndex_7cf53 cJ15_checkIndex_7cf53 2 (some .int), Cond.methodLink RJ15 105 yJ3_checkIndex_8e157, Cond.static yJ3_checkIndex_8e157, Cond.initialized RJ3, Cond.code yJ3_checkIndex_8e157 cJ3_checkIndex_8e157 3 (some .int), Cond.methodLink RJx4a65c 123 yJx4a65c_elementData_915e3, Cond.instanceMethod yJx4a65c_elementData_915e3, Cond.selects RJx4a65c yJx4a65c_elementData_915e3 yJx4a65c_elementData_915e3, Cond.code yJx4a65c_elementData_915e3 cJx4a65c_elementData_915e3 2 (some (.object "java/lang/Object")), Cond.fieldLink RJx4a65c 9 "java/util/ArrayList" "elementData" "[Ljava/lang/Object;", Cond.methodLink RX0 143 yX4_guiltyIn, Cond.instanceMethod yX4_guiltyIn, Cond.selects RX4 yX4_guiltyIn yX4_guiltyIn, Cond.initialized RX4, Cond.code yX4_guiltyIn cX4_guiltyIn 2 (some .int), Cond.fieldLink RX4 18 "UnlikeBoats$Protest" "decidedAnew" "I", Cond.fieldLink RX4 39 "UnlikeBoats$Protest" "guiltyAnew" "I", Cond.fieldLink RX4 15 "UnlikeBoats$Protest" "reopened" "I", Cond.fieldLink RX4 9 "UnlikeBoats$Protest" "decided" "I", Cond.fieldLink RX4 36 "UnlikeBoats$Protest" "guilty" "I", Cond.methodLink RX0 88 yJ6_bitCount_0f7a4, Cond.static yJ6_bitCount_0f7a4, Cond.initialized RJ6]
def wsX0_disqualified_r3 : List Cond := [Cond.code yJ6_bitCount_0f7a4 cJ6_bitCount_0f7a4 1 (some .int), Cond.constant RJ6 265 (1431655765), Cond.constant RJ6 266 (858993459), Cond.constant RJ6 267 (252645135)]
def wsX0_disqualified : List Cond := .code yX0_disqualified cX0_disqualified 3 (some .int) :: ((wsX0_disqualified_r1 ++ (wsX0_disqualified_r2 ++ wsX0_disqualified_r3)) ++ wsX00 ++ wsJx4a65c0 ++ wsX40)
def wsX10_next : List Cond := .code yX10_next cX10_next 1 (some .int) :: ([.fieldLink RX10 34 "UnlikeBoats$Tape" "fault" "I", .fieldLink RX10 31 "UnlikeBoats$Tape" "at" "I", .fieldLink RX10 27 "UnlikeBoats$Tape" "length" "I", .fieldLink RX10 9 "UnlikeBoats$Tape" "bytes" "[I"] ++ wsX100)
def wsX12_isOneOf_r1 : List Cond := [Cond.methodLink RX12 331 yJ0_indexOf_0f7a4, Cond.instanceMethod yJ0_indexOf_0f7a4, Cond.selects RJ0 yJ0_indexOf_0f7a4 yJ0_indexOf_0f7a4, Cond.initialized RJ0, Cond.code yJ0_indexOf_0f7a4 cJ0_indexOf_0f7a4 2 (some .int), Cond.methodLink RJ0 633 yJ0_indexOf_7cf53, Cond.instanceMethod yJ0_indexOf_7cf53, Cond.selects RJ0 yJ0_indexOf_7cf53 yJ0_indexOf_7cf53, Cond.code yJ0_indexOf_7cf53 cJ0_indexOf_7cf53 3 (some .int), Cond.fieldLink RJ0 9 "java/lang/String" "value" "[B", Cond.methodLink RJ0 492 yJ0_isLatin1_aae02, Cond.instanceMethod yJ0_isLatin1_aae02, Cond.selects RJ0 yJ0_isLatin1_aae02 yJ0_isLatin1_aae02, Cond.code yJ0_isLatin1_aae02 cJ0_isLatin1_aae02 1 (some .boolean), Cond.fieldLink RJ0 38 "java/lang/String" "COMPACT_STRINGS" "Z", Cond.fieldLink RJ0 15 "java/lang/String" "coder" "B", Cond.methodLink RJ0 505 yJ0_length_8abf5, Cond.instanceMethod yJ0_length_8abf5, Cond.selects RJ0 yJ0_length_8abf5 yJ0_length_8abf5, Cond.code yJ0_length_8abf5 cJ0_length_8abf5 1 (some .int), Cond.methodLink RJ0 335 yJ0_coder_7d493, Cond.instanceMethod yJ0_coder_7d493, Cond.selects RJ0 yJ0_coder_7d493 yJ0_coder_7d493, Cond.code yJ0_coder_7d493 cJ0_coder_7d493 1 (some .byte)]
def wsX12_isOneOf_r2 : List Cond := [Cond.methodLink RJ0 637 yJ1_indexOf_4cfef, Cond.static yJ1_indexOf_4cfef, Cond.initialized RJ1, Cond.code yJ1_indexOf_4cfef cJ1_indexOf_4cfef 4 (some .int), Cond.methodLink RJ1 92 Lib.Math.max.name, Cond.static Lib.Math.max.name, Cond.initialized "java/lang/Math", Cond.code Lib.Math.max.name Lib.Math.max.code 2 (some .int), Cond.methodLink RJ1 38 Lib.Math.min.name, Cond.static Lib.Math.min.name, Cond.code Lib.Math.min.name Lib.Math.min.code 2 (some .int), Cond.methodLink RJ1 88 yJ1_canEncode_9a6ad, Cond.static yJ1_canEncode_9a6ad, Cond.code yJ1_canEncode_9a6ad cJ1_canEncode_9a6ad 1 (some .boolean), Cond.methodLink RJ1 95 yJ1_indexOfChar_4cfef, Cond.static yJ1_indexOfChar_4cfef, Cond.code yJ1_indexOfChar_4cfef cJ1_indexOfChar_4cfef 6 (some .int), Cond.methodLink RJ0 640 yJ2_indexOf_4cfef, Cond.static yJ2_indexOf_4cfef, Cond.initialized RJ2, Cond.code yJ2_indexOf_4cfef cJ2_indexOf_4cfef 4 (some .int), Cond.methodLink RJ2 224 Lib.Math.max.name, Cond.methodLink RJ2 183 Lib.Math.min.name, Cond.constant RJ2 227 (65536)]
def wsX12_isOneOf_r3 : List Cond := [Cond.methodLink RJ2 228 yJ2_indexOfChar_4cfef, Cond.static yJ2_indexOfChar_4cfef, Cond.code yJ2_indexOfChar_4cfef cJ2_indexOfChar_4cfef 4 (some .int), Cond.methodLink RJ2 96 yJ2_checkBoundsBeginEnd_d044e, Cond.static yJ2_checkBoundsBeginEnd_d044e, Cond.code yJ2_checkBoundsBeginEnd_d044e cJ2_checkBoundsBeginEnd_d044e 3 none, Cond.methodLink RJ2 48 yJ2_length_9d52b, Cond.static yJ2_length_9d52b, Cond.code yJ2_length_9d52b cJ2_length_9d52b 1 (some .int), Cond.methodLink RJ2 241 yJ0_checkBoundsBeginEnd_23922, Cond.static yJ0_checkBoundsBeginEnd_23922, Cond.code yJ0_checkBoundsBeginEnd_23922 cJ0_checkBoundsBeginEnd_23922 3 none, Cond.fieldLink RJ0 1053 "jdk/internal/util/Preconditions" "SIOOBE_FORMATTER" "Ljava/util/function/BiFunction;", Cond.methodLink RJ0 1062 yJ3_checkFromToIndex_8c36e, Cond.static yJ3_checkFromToIndex_8c36e, Cond.initialized RJ3, Cond.code yJ3_checkFromToIndex_8c36e cJ3_checkFromToIndex_8c36e 4 (some .int), Cond.methodLink RJ2 244 yJ2_indexOfCharUnsafe_4cfef, Cond.static yJ2_indexOfCharUnsafe_4cfef, Cond.code yJ2_indexOfCharUnsafe_4cfef cJ2_indexOfCharUnsafe_4cfef 5 (some .int), Cond.methodLink RJ2 71 yJ2_getChar_3b067, Cond.static yJ2_getChar_3b067, Cond.code yJ2_getChar_3b067 cJ2_getChar_3b067 2 (some .char), Cond.fieldLink RJ2 44 "java/lang/StringUTF16" "$assertionsDisabled" "Z"]
def wsX12_isOneOf_r4 : List Cond := [Cond.fieldLink RJ2 59 "java/lang/StringUTF16" "HI_BYTE_SHIFT" "I", Cond.fieldLink RJ2 63 "java/lang/StringUTF16" "LO_BYTE_SHIFT" "I", Cond.methodLink RJ2 232 yJ2_indexOfSupplementary_4cfef, Cond.static yJ2_indexOfSupplementary_4cfef, Cond.code yJ2_indexOfSupplementary_4cfef cJ2_indexOfSupplementary_4cfef 7 (some .int), Cond.methodLink RJ2 164 yJ11_isValidCodePoint_9a6ad, Cond.static yJ11_isValidCodePoint_9a6ad, Cond.initialized RJ11, Cond.code yJ11_isValidCodePoint_9a6ad cJ11_isValidCodePoint_9a6ad 2 (some .boolean), Cond.methodLink RJ2 157 yJ11_highSurrogate_5068e, Cond.static yJ11_highSurrogate_5068e, Cond.code yJ11_highSurrogate_5068e cJ11_highSurrogate_5068e 1 (some .char), Cond.constant RJ11 110 (55232), Cond.methodLink RJ2 161 yJ11_lowSurrogate_5068e, Cond.static yJ11_lowSurrogate_5068e, Cond.code yJ11_lowSurrogate_5068e cJ11_lowSurrogate_5068e 1 (some .char), Cond.constant RJ11 76 (56320)]
def wsX12_isOneOf : List Cond := .code yX12_isOneOf cX12_isOneOf 2 (some .boolean) :: ((wsX12_isOneOf_r1 ++ (wsX12_isOneOf_r2 ++ (wsX12_isOneOf_r3 ++ wsX12_isOneOf_r4))))
def wsX10_fail : List Cond := .code yX10_fail cX10_fail 1 none :: ([.fieldLink RX10 34 "UnlikeBoats$Tape" "fault" "I", .fieldLink RX10 31 "UnlikeBoats$Tape" "at" "I"] ++ wsX100)
def wsX10_readClause_r1 : List Cond := [Cond.fieldLink RX10 40 "UnlikeBoats$Tape" "clauses" "I", Cond.fieldLink RX10 31 "UnlikeBoats$Tape" "at" "I", Cond.fieldLink RX10 18 "UnlikeBoats$Tape" "labels" "[I", Cond.fieldLink RX10 21 "UnlikeBoats$Tape" "begins" "[I", Cond.fieldLink RX10 37 "UnlikeBoats$Tape" "size" "I", Cond.fieldLink RX10 24 "UnlikeBoats$Tape" "sums" "[I", Cond.methodLink RX10 46 yX10_next, Cond.instanceMethod yX10_next, Cond.selects RX10 yX10_next yX10_next, Cond.initialized RX10, Cond.code yX10_next cX10_next 1 (some .int), Cond.fieldLink RX10 34 "UnlikeBoats$Tape" "fault" "I", Cond.fieldLink RX10 27 "UnlikeBoats$Tape" "length" "I", Cond.fieldLink RX10 9 "UnlikeBoats$Tape" "bytes" "[I", Cond.static yX12_isOneOf, Cond.initialized RX12, Cond.code yX12_isOneOf cX12_isOneOf 2 (some .boolean), Cond.methodLink RX12 331 yJ0_indexOf_0f7a4, Cond.instanceMethod yJ0_indexOf_0f7a4, Cond.selects RJ0 yJ0_indexOf_0f7a4 yJ0_indexOf_0f7a4, Cond.initialized RJ0, Cond.code yJ0_indexOf_0f7a4 cJ0_indexOf_0f7a4 2 (some .int), Cond.methodLink RJ0 633 yJ0_indexOf_7cf53, Cond.instanceMethod yJ0_indexOf_7cf53]
def wsX10_readClause_r2 : List Cond := [Cond.selects RJ0 yJ0_indexOf_7cf53 yJ0_indexOf_7cf53, Cond.code yJ0_indexOf_7cf53 cJ0_indexOf_7cf53 3 (some .int), Cond.fieldLink RJ0 9 "java/lang/String" "value" "[B", Cond.methodLink RJ0 492 yJ0_isLatin1_aae02, Cond.instanceMethod yJ0_isLatin1_aae02, Cond.selects RJ0 yJ0_isLatin1_aae02 yJ0_isLatin1_aae02, Cond.code yJ0_isLatin1_aae02 cJ0_isLatin1_aae02 1 (some .boolean), Cond.fieldLink RJ0 38 "java/lang/String" "COMPACT_STRINGS" "Z", Cond.fieldLink RJ0 15 "java/lang/String" "coder" "B", Cond.methodLink RJ0 505 yJ0_length_8abf5, Cond.instanceMethod yJ0_length_8abf5, Cond.selects RJ0 yJ0_length_8abf5 yJ0_length_8abf5, Cond.code yJ0_length_8abf5 cJ0_length_8abf5 1 (some .int), Cond.methodLink RJ0 335 yJ0_coder_7d493, Cond.instanceMethod yJ0_coder_7d493, Cond.selects RJ0 yJ0_coder_7d493 yJ0_coder_7d493, Cond.code yJ0_coder_7d493 cJ0_coder_7d493 1 (some .byte), Cond.methodLink RJ0 637 yJ1_indexOf_4cfef, Cond.static yJ1_indexOf_4cfef, Cond.initialized RJ1, Cond.code yJ1_indexOf_4cfef cJ1_indexOf_4cfef 4 (some .int), Cond.methodLink RJ1 92 Lib.Math.max.name, Cond.static Lib.Math.max.name, Cond.initialized "java/lang/Math"]
def wsX10_readClause_r3 : List Cond := [Cond.code Lib.Math.max.name Lib.Math.max.code 2 (some .int), Cond.methodLink RJ1 38 Lib.Math.min.name, Cond.static Lib.Math.min.name, Cond.code Lib.Math.min.name Lib.Math.min.code 2 (some .int), Cond.methodLink RJ1 88 yJ1_canEncode_9a6ad, Cond.static yJ1_canEncode_9a6ad, Cond.code yJ1_canEncode_9a6ad cJ1_canEncode_9a6ad 1 (some .boolean), Cond.methodLink RJ1 95 yJ1_indexOfChar_4cfef, Cond.static yJ1_indexOfChar_4cfef, Cond.code yJ1_indexOfChar_4cfef cJ1_indexOfChar_4cfef 6 (some .int), Cond.methodLink RJ0 640 yJ2_indexOf_4cfef, Cond.static yJ2_indexOf_4cfef, Cond.initialized RJ2, Cond.code yJ2_indexOf_4cfef cJ2_indexOf_4cfef 4 (some .int), Cond.methodLink RJ2 224 Lib.Math.max.name, Cond.methodLink RJ2 183 Lib.Math.min.name, Cond.constant RJ2 227 (65536), Cond.methodLink RJ2 228 yJ2_indexOfChar_4cfef, Cond.static yJ2_indexOfChar_4cfef, Cond.code yJ2_indexOfChar_4cfef cJ2_indexOfChar_4cfef 4 (some .int), Cond.methodLink RJ2 96 yJ2_checkBoundsBeginEnd_d044e, Cond.static yJ2_checkBoundsBeginEnd_d044e, Cond.code yJ2_checkBoundsBeginEnd_d044e cJ2_checkBoundsBeginEnd_d044e 3 none, Cond.methodLink RJ2 48 yJ2_length_9d52b]
def wsX10_readClause_r4 : List Cond := [Cond.static yJ2_length_9d52b, Cond.code yJ2_length_9d52b cJ2_length_9d52b 1 (some .int), Cond.methodLink RJ2 241 yJ0_checkBoundsBeginEnd_23922, Cond.static yJ0_checkBoundsBeginEnd_23922, Cond.code yJ0_checkBoundsBeginEnd_23922 cJ0_checkBoundsBeginEnd_23922 3 none, Cond.fieldLink RJ0 1053 "jdk/internal/util/Preconditions" "SIOOBE_FORMATTER" "Ljava/util/function/BiFunction;", Cond.methodLink RJ0 1062 yJ3_checkFromToIndex_8c36e, Cond.static yJ3_checkFromToIndex_8c36e, Cond.initialized RJ3, Cond.code yJ3_checkFromToIndex_8c36e cJ3_checkFromToIndex_8c36e 4 (some .int), Cond.methodLink RJ2 244 yJ2_indexOfCharUnsafe_4cfef, Cond.static yJ2_indexOfCharUnsafe_4cfef, Cond.code yJ2_indexOfCharUnsafe_4cfef cJ2_indexOfCharUnsafe_4cfef 5 (some .int), Cond.methodLink RJ2 71 yJ2_getChar_3b067, Cond.static yJ2_getChar_3b067, Cond.code yJ2_getChar_3b067 cJ2_getChar_3b067 2 (some .char), Cond.fieldLink RJ2 44 "java/lang/StringUTF16" "$assertionsDisabled" "Z", Cond.fieldLink RJ2 59 "java/lang/StringUTF16" "HI_BYTE_SHIFT" "I", Cond.fieldLink RJ2 63 "java/lang/StringUTF16" "LO_BYTE_SHIFT" "I", Cond.methodLink RJ2 232 yJ2_indexOfSupplementary_4cfef, Cond.static yJ2_indexOfSupplementary_4cfef, Cond.code yJ2_indexOfSupplementary_4cfef cJ2_indexOfSupplementary_4cfef 7 (some .int), Cond.methodLink RJ2 164 yJ11_isValidCodePoint_9a6ad, Cond.static yJ11_isValidCodePoint_9a6ad]
def wsX10_readClause_r5 : List Cond := [Cond.initialized RJ11, Cond.code yJ11_isValidCodePoint_9a6ad cJ11_isValidCodePoint_9a6ad 2 (some .boolean), Cond.methodLink RJ2 157 yJ11_highSurrogate_5068e, Cond.static yJ11_highSurrogate_5068e, Cond.code yJ11_highSurrogate_5068e cJ11_highSurrogate_5068e 1 (some .char), Cond.constant RJ11 110 (55232), Cond.methodLink RJ2 161 yJ11_lowSurrogate_5068e, Cond.static yJ11_lowSurrogate_5068e, Cond.code yJ11_lowSurrogate_5068e cJ11_lowSurrogate_5068e 1 (some .char), Cond.constant RJ11 76 (56320), Cond.methodLink RX10 50 yX10_fail, Cond.instanceMethod yX10_fail, Cond.selects RX10 yX10_fail yX10_fail, Cond.code yX10_fail cX10_fail 1 none, Cond.methodLink RX10 70 yX10_take, Cond.instanceMethod yX10_take, Cond.selects RX10 yX10_take yX10_take, Cond.code yX10_take cX10_take 2 none, Cond.methodLink RX10 76 yX10_readSum, Cond.instanceMethod yX10_readSum, Cond.selects RX10 yX10_readSum yX10_readSum, Cond.code yX10_readSum cX10_readSum 4 none, Cond.methodLink RX10 105 yX10_readTerm, Cond.instanceMethod yX10_readTerm]
def wsX10_readClause_r6 : List Cond := [Cond.selects RX10 yX10_readTerm yX10_readTerm, Cond.methodLink RX10 88 yX7_asSign, Cond.static yX7_asSign, Cond.initialized RX7, Cond.code yX7_asSign cX7_asSign 1 (some .int), Cond.methodLink RX10 92 yX10_add, Cond.instanceMethod yX10_add, Cond.selects RX10 yX10_add yX10_add, Cond.code yX10_add cX10_add 2 none, Cond.fieldLink RX10 15 "UnlikeBoats$Tape" "steps" "[I", Cond.code yX10_readAtom cX10_readAtom 3 none, Cond.methodLink RX10 115 yX10_isDigit, Cond.static yX10_isDigit, Cond.code yX10_isDigit cX10_isDigit 1 (some .boolean), Cond.methodLink RX10 118 yX10_readNumber, Cond.instanceMethod yX10_readNumber, Cond.selects RX10 yX10_readNumber yX10_readNumber, Cond.code yX10_readNumber cX10_readNumber 3 none, Cond.methodLink RX10 123 yJ0_indexOf_0f7a4, Cond.methodLink RX10 128 yX7_asLetter, Cond.static yX7_asLetter, Cond.code yX7_asLetter cX7_asLetter 1 (some .int), Cond.methodLink RX10 98 yX10_goDeeper, Cond.instanceMethod yX10_goDeeper]
def wsX10_readClause_r7 : List Cond := [Cond.selects RX10 yX10_goDeeper yX10_goDeeper, Cond.code yX10_goDeeper cX10_goDeeper 2 (some .boolean), Cond.code yX10_readTerm cX10_readTerm 4 none, Cond.methodLink RX10 110 yX10_readAtom, Cond.instanceMethod yX10_readAtom, Cond.selects RX10 yX10_readAtom yX10_readAtom, Cond.methodLink RX10 81 yX10_readCondition, Cond.instanceMethod yX10_readCondition, Cond.selects RX10 yX10_readCondition yX10_readCondition, Cond.code yX10_readCondition cX10_readCondition 4 none, Cond.methodLink RX10 85 yX10_readPart, Cond.instanceMethod yX10_readPart, Cond.selects RX10 yX10_readPart yX10_readPart, Cond.code yX10_readPart cX10_readPart 4 none, Cond.methodLink RX10 95 yX10_readUnit, Cond.instanceMethod yX10_readUnit, Cond.selects RX10 yX10_readUnit yX10_readUnit, Cond.code yX10_readUnit cX10_readUnit 4 none, Cond.methodLink RX10 102 yX10_readComparison, Cond.instanceMethod yX10_readComparison, Cond.selects RX10 yX10_readComparison yX10_readComparison, Cond.code yX10_readComparison cX10_readComparison 3 none]
def wsX10_readClause : List Cond := .code yX10_readClause cX10_readClause 3 none :: ((wsX10_readClause_r1 ++ (wsX10_readClause_r2 ++ (wsX10_readClause_r3 ++ (wsX10_readClause_r4 ++ (wsX10_readClause_r5 ++ (wsX10_readClause_r6 ++ wsX10_readClause_r7)))))) ++ wsX100)
def wsX10_read_r1 : List Cond := [Cond.fieldLink RX10 31 "UnlikeBoats$Tape" "at" "I", Cond.fieldLink RX10 34 "UnlikeBoats$Tape" "fault" "I", Cond.fieldLink RX10 37 "UnlikeBoats$Tape" "size" "I", Cond.fieldLink RX10 40 "UnlikeBoats$Tape" "clauses" "I", Cond.fieldLink RX10 21 "UnlikeBoats$Tape" "begins" "[I", Cond.methodLink RX10 43 yX10_readClause, Cond.instanceMethod yX10_readClause, Cond.selects RX10 yX10_readClause yX10_readClause, Cond.initialized RX10, Cond.code yX10_readClause cX10_readClause 3 none, Cond.fieldLink RX10 18 "UnlikeBoats$Tape" "labels" "[I", Cond.fieldLink RX10 24 "UnlikeBoats$Tape" "sums" "[I", Cond.methodLink RX10 46 yX10_next, Cond.instanceMethod yX10_next, Cond.selects RX10 yX10_next yX10_next, Cond.code yX10_next cX10_next 1 (some .int), Cond.fieldLink RX10 27 "UnlikeBoats$Tape" "length" "I", Cond.fieldLink RX10 9 "UnlikeBoats$Tape" "bytes" "[I", Cond.static yX12_isOneOf, Cond.initialized RX12, Cond.code yX12_isOneOf cX12_isOneOf 2 (some .boolean), Cond.methodLink RX12 331 yJ0_indexOf_0f7a4, Cond.instanceMethod yJ0_indexOf_0f7a4, Cond.selects RJ0 yJ0_indexOf_0f7a4 yJ0_indexOf_0f7a4]
def wsX10_read_r2 : List Cond := [Cond.initialized RJ0, Cond.code yJ0_indexOf_0f7a4 cJ0_indexOf_0f7a4 2 (some .int), Cond.methodLink RJ0 633 yJ0_indexOf_7cf53, Cond.instanceMethod yJ0_indexOf_7cf53, Cond.selects RJ0 yJ0_indexOf_7cf53 yJ0_indexOf_7cf53, Cond.code yJ0_indexOf_7cf53 cJ0_indexOf_7cf53 3 (some .int), Cond.fieldLink RJ0 9 "java/lang/String" "value" "[B", Cond.methodLink RJ0 492 yJ0_isLatin1_aae02, Cond.instanceMethod yJ0_isLatin1_aae02, Cond.selects RJ0 yJ0_isLatin1_aae02 yJ0_isLatin1_aae02, Cond.code yJ0_isLatin1_aae02 cJ0_isLatin1_aae02 1 (some .boolean), Cond.fieldLink RJ0 38 "java/lang/String" "COMPACT_STRINGS" "Z", Cond.fieldLink RJ0 15 "java/lang/String" "coder" "B", Cond.methodLink RJ0 505 yJ0_length_8abf5, Cond.instanceMethod yJ0_length_8abf5, Cond.selects RJ0 yJ0_length_8abf5 yJ0_length_8abf5, Cond.code yJ0_length_8abf5 cJ0_length_8abf5 1 (some .int), Cond.methodLink RJ0 335 yJ0_coder_7d493, Cond.instanceMethod yJ0_coder_7d493, Cond.selects RJ0 yJ0_coder_7d493 yJ0_coder_7d493, Cond.code yJ0_coder_7d493 cJ0_coder_7d493 1 (some .byte), Cond.methodLink RJ0 637 yJ1_indexOf_4cfef, Cond.static yJ1_indexOf_4cfef, Cond.initialized RJ1]
def wsX10_read_r3 : List Cond := [Cond.code yJ1_indexOf_4cfef cJ1_indexOf_4cfef 4 (some .int), Cond.methodLink RJ1 92 Lib.Math.max.name, Cond.static Lib.Math.max.name, Cond.initialized "java/lang/Math", Cond.code Lib.Math.max.name Lib.Math.max.code 2 (some .int), Cond.methodLink RJ1 38 Lib.Math.min.name, Cond.static Lib.Math.min.name, Cond.code Lib.Math.min.name Lib.Math.min.code 2 (some .int), Cond.methodLink RJ1 88 yJ1_canEncode_9a6ad, Cond.static yJ1_canEncode_9a6ad, Cond.code yJ1_canEncode_9a6ad cJ1_canEncode_9a6ad 1 (some .boolean), Cond.methodLink RJ1 95 yJ1_indexOfChar_4cfef, Cond.static yJ1_indexOfChar_4cfef, Cond.code yJ1_indexOfChar_4cfef cJ1_indexOfChar_4cfef 6 (some .int), Cond.methodLink RJ0 640 yJ2_indexOf_4cfef, Cond.static yJ2_indexOf_4cfef, Cond.initialized RJ2, Cond.code yJ2_indexOf_4cfef cJ2_indexOf_4cfef 4 (some .int), Cond.methodLink RJ2 224 Lib.Math.max.name, Cond.methodLink RJ2 183 Lib.Math.min.name, Cond.constant RJ2 227 (65536), Cond.methodLink RJ2 228 yJ2_indexOfChar_4cfef, Cond.static yJ2_indexOfChar_4cfef, Cond.code yJ2_indexOfChar_4cfef cJ2_indexOfChar_4cfef 4 (some .int)]
def wsX10_read_r4 : List Cond := [Cond.methodLink RJ2 96 yJ2_checkBoundsBeginEnd_d044e, Cond.static yJ2_checkBoundsBeginEnd_d044e, Cond.code yJ2_checkBoundsBeginEnd_d044e cJ2_checkBoundsBeginEnd_d044e 3 none, Cond.methodLink RJ2 48 yJ2_length_9d52b, Cond.static yJ2_length_9d52b, Cond.code yJ2_length_9d52b cJ2_length_9d52b 1 (some .int), Cond.methodLink RJ2 241 yJ0_checkBoundsBeginEnd_23922, Cond.static yJ0_checkBoundsBeginEnd_23922, Cond.code yJ0_checkBoundsBeginEnd_23922 cJ0_checkBoundsBeginEnd_23922 3 none, Cond.fieldLink RJ0 1053 "jdk/internal/util/Preconditions" "SIOOBE_FORMATTER" "Ljava/util/function/BiFunction;", Cond.methodLink RJ0 1062 yJ3_checkFromToIndex_8c36e, Cond.static yJ3_checkFromToIndex_8c36e, Cond.initialized RJ3, Cond.code yJ3_checkFromToIndex_8c36e cJ3_checkFromToIndex_8c36e 4 (some .int), Cond.methodLink RJ2 244 yJ2_indexOfCharUnsafe_4cfef, Cond.static yJ2_indexOfCharUnsafe_4cfef, Cond.code yJ2_indexOfCharUnsafe_4cfef cJ2_indexOfCharUnsafe_4cfef 5 (some .int), Cond.methodLink RJ2 71 yJ2_getChar_3b067, Cond.static yJ2_getChar_3b067, Cond.code yJ2_getChar_3b067 cJ2_getChar_3b067 2 (some .char), Cond.fieldLink RJ2 44 "java/lang/StringUTF16" "$assertionsDisabled" "Z", Cond.fieldLink RJ2 59 "java/lang/StringUTF16" "HI_BYTE_SHIFT" "I", Cond.fieldLink RJ2 63 "java/lang/StringUTF16" "LO_BYTE_SHIFT" "I", Cond.methodLink RJ2 232 yJ2_indexOfSupplementary_4cfef]
def wsX10_read_r5 : List Cond := [Cond.static yJ2_indexOfSupplementary_4cfef, Cond.code yJ2_indexOfSupplementary_4cfef cJ2_indexOfSupplementary_4cfef 7 (some .int), Cond.methodLink RJ2 164 yJ11_isValidCodePoint_9a6ad, Cond.static yJ11_isValidCodePoint_9a6ad, Cond.initialized RJ11, Cond.code yJ11_isValidCodePoint_9a6ad cJ11_isValidCodePoint_9a6ad 2 (some .boolean), Cond.methodLink RJ2 157 yJ11_highSurrogate_5068e, Cond.static yJ11_highSurrogate_5068e, Cond.code yJ11_highSurrogate_5068e cJ11_highSurrogate_5068e 1 (some .char), Cond.constant RJ11 110 (55232), Cond.methodLink RJ2 161 yJ11_lowSurrogate_5068e, Cond.static yJ11_lowSurrogate_5068e, Cond.code yJ11_lowSurrogate_5068e cJ11_lowSurrogate_5068e 1 (some .char), Cond.constant RJ11 76 (56320), Cond.methodLink RX10 50 yX10_fail, Cond.instanceMethod yX10_fail, Cond.selects RX10 yX10_fail yX10_fail, Cond.code yX10_fail cX10_fail 1 none, Cond.methodLink RX10 70 yX10_take, Cond.instanceMethod yX10_take, Cond.selects RX10 yX10_take yX10_take, Cond.code yX10_take cX10_take 2 none, Cond.methodLink RX10 76 yX10_readSum, Cond.instanceMethod yX10_readSum]
def wsX10_read_r6 : List Cond := [Cond.selects RX10 yX10_readSum yX10_readSum, Cond.code yX10_readSum cX10_readSum 4 none, Cond.methodLink RX10 105 yX10_readTerm, Cond.instanceMethod yX10_readTerm, Cond.selects RX10 yX10_readTerm yX10_readTerm, Cond.methodLink RX10 88 yX7_asSign, Cond.static yX7_asSign, Cond.initialized RX7, Cond.code yX7_asSign cX7_asSign 1 (some .int), Cond.methodLink RX10 92 yX10_add, Cond.instanceMethod yX10_add, Cond.selects RX10 yX10_add yX10_add, Cond.code yX10_add cX10_add 2 none, Cond.fieldLink RX10 15 "UnlikeBoats$Tape" "steps" "[I", Cond.code yX10_readAtom cX10_readAtom 3 none, Cond.methodLink RX10 115 yX10_isDigit, Cond.static yX10_isDigit, Cond.code yX10_isDigit cX10_isDigit 1 (some .boolean), Cond.methodLink RX10 118 yX10_readNumber, Cond.instanceMethod yX10_readNumber, Cond.selects RX10 yX10_readNumber yX10_readNumber, Cond.code yX10_readNumber cX10_readNumber 3 none, Cond.methodLink RX10 123 yJ0_indexOf_0f7a4, Cond.methodLink RX10 128 yX7_asLetter]
def wsX10_read_r7 : List Cond := [Cond.static yX7_asLetter, Cond.code yX7_asLetter cX7_asLetter 1 (some .int), Cond.methodLink RX10 98 yX10_goDeeper, Cond.instanceMethod yX10_goDeeper, Cond.selects RX10 yX10_goDeeper yX10_goDeeper, Cond.code yX10_goDeeper cX10_goDeeper 2 (some .boolean), Cond.code yX10_readTerm cX10_readTerm 4 none, Cond.methodLink RX10 110 yX10_readAtom, Cond.instanceMethod yX10_readAtom, Cond.selects RX10 yX10_readAtom yX10_readAtom, Cond.methodLink RX10 81 yX10_readCondition, Cond.instanceMethod yX10_readCondition, Cond.selects RX10 yX10_readCondition yX10_readCondition, Cond.code yX10_readCondition cX10_readCondition 4 none, Cond.methodLink RX10 85 yX10_readPart, Cond.instanceMethod yX10_readPart, Cond.selects RX10 yX10_readPart yX10_readPart, Cond.code yX10_readPart cX10_readPart 4 none, Cond.methodLink RX10 95 yX10_readUnit, Cond.instanceMethod yX10_readUnit, Cond.selects RX10 yX10_readUnit yX10_readUnit, Cond.code yX10_readUnit cX10_readUnit 4 none, Cond.methodLink RX10 102 yX10_readComparison, Cond.instanceMethod yX10_readComparison]
def wsX10_read_r8 : List Cond := [Cond.selects RX10 yX10_readComparison yX10_readComparison, Cond.code yX10_readComparison cX10_readComparison 3 none]
def wsX10_read : List Cond := .code yX10_read cX10_read 2 (some .int) :: ((wsX10_read_r1 ++ (wsX10_read_r2 ++ (wsX10_read_r3 ++ (wsX10_read_r4 ++ (wsX10_read_r5 ++ (wsX10_read_r6 ++ (wsX10_read_r7 ++ wsX10_read_r8))))))) ++ wsX100)
def wsX12_days : List Cond := .code yX12_days cX12_days 2 (some .int) :: ([.fieldLink RX12 10 "UnlikeBoats" "book" "LUnlikeBoats$Book;", .fieldLink RX12 55 "UnlikeBoats$Book" "now" "I", .methodLink RX12 59 yX12_within, .static yX12_within, .initialized RX12, .code yX12_within cX12_within 3 (some .boolean)] ++ wsX120 ++ wsX00)
def wsX12_boat : List Cond := .code yX12_boat cX12_boat 1 (some .int) :: ([.fieldLink RX12 10 "UnlikeBoats" "book" "LUnlikeBoats$Book;", .fieldLink RX12 63 "UnlikeBoats$Book" "boats" "I"] ++ wsX120 ++ wsX00)
def wsX12_isDay : List Cond := .code yX12_isDay cX12_isDay 1 (some .boolean) :: ([.methodLink RX12 59 yX12_within, .static yX12_within, .initialized RX12, .code yX12_within cX12_within 3 (some .boolean)])
def wsX12_certificate_r1 : List Cond := [Cond.fieldLink RX12 10 "UnlikeBoats" "book" "LUnlikeBoats$Book;", Cond.fieldLink RX12 73 "UnlikeBoats$Book" "certificates" "Ljava/util/ArrayList;", Cond.classLink RX12 83 RX1, Cond.instantiable RX1 6, Cond.initialized RX1, Cond.fieldLink RX12 55 "UnlikeBoats$Book" "now" "I", Cond.methodLink RX12 66 yX0_isBoat, Cond.instanceMethod yX0_isBoat, Cond.selects RX0 yX0_isBoat yX0_isBoat, Cond.initialized RX0, Cond.code yX0_isBoat cX0_isBoat 2 (some .boolean), Cond.fieldLink RX0 48 "UnlikeBoats$Book" "boats" "I", Cond.static yX12_within, Cond.initialized RX12, Cond.code yX12_within cX12_within 3 (some .boolean), Cond.methodLink RX12 70 yX12_isDay, Cond.static yX12_isDay, Cond.code yX12_isDay cX12_isDay 1 (some .boolean), Cond.methodLink RX12 59 yX12_within, Cond.methodLink RX12 77 yJx4a65c_size_8abf5, Cond.instanceMethod yJx4a65c_size_8abf5, Cond.selects RJx4a65c yJx4a65c_size_8abf5 yJx4a65c_size_8abf5, Cond.initialized RJx4a65c, Cond.code yJx4a65c_size_8abf5 cJx4a65c_size_8abf5 1 (some .int)]
def wsX12_certificate_r2 : List Cond := [Cond.fieldLink RJx4a65c 48 "java/util/ArrayList" "size" "I", Cond.methodLink RX12 85 yX1_init, Cond.instanceMethod yX1_init, Cond.code yX1_init cX1_init 7 none, Cond.methodLink RX1 1 objectInit, Cond.instanceMethod objectInit, Cond.code objectInit ⟨#[0xb1]⟩ 1 none, Cond.fieldLink RX1 7 "UnlikeBoats$Certificate" "boat" "I", Cond.fieldLink RX1 13 "UnlikeBoats$Certificate" "from" "I", Cond.fieldLink RX1 16 "UnlikeBoats$Certificate" "told" "I", Cond.fieldLink RX1 19 "UnlikeBoats$Certificate" "lon" "I", Cond.fieldLink RX1 22 "UnlikeBoats$Certificate" "area" "I", Cond.fieldLink RX1 25 "UnlikeBoats$Certificate" "weight" "I", Cond.methodLink RX12 88 yJx4a65c_add_9ea2d, Cond.instanceMethod yJx4a65c_add_9ea2d, Cond.selects RJx4a65c yJx4a65c_add_9ea2d yJx4a65c_add_9ea2d, Cond.code yJx4a65c_add_9ea2d cJx4a65c_add_9ea2d 2 (some .boolean), Cond.fieldLink RJx4a65c 63 "java/util/ArrayList" "modCount" "I", Cond.sameField "java/util/ArrayList" "java/util/AbstractList" "modCount" "I", Cond.fieldLink RJx4a65c 9 "java/util/ArrayList" "elementData" "[Ljava/lang/Object;", Cond.methodLink RJx4a65c 131 yJx4a65c_add_72be8, Cond.instanceMethod yJx4a65c_add_72be8, Cond.selects RJx4a65c yJx4a65c_add_72be8 yJx4a65c_add_72be8, Cond.code yJx4a65c_add_72be8 cJx4a65c_add_72be8 4 none]
def wsX12_certificate_r3 : List Cond := [Cond.methodLink RJx4a65c 129 yJx4a65c_grow_d5877, Cond.instanceMethod yJx4a65c_grow_d5877, Cond.selects RJx4a65c yJx4a65c_grow_d5877 yJx4a65c_grow_d5877, Cond.code yJx4a65c_grow_d5877 cJx4a65c_grow_d5877 1 (some (.array (.object "java/lang/Object"))), Cond.methodLink RJx4a65c 69 yJx4a65c_grow_92f84, Cond.instanceMethod yJx4a65c_grow_92f84, Cond.selects RJx4a65c yJx4a65c_grow_92f84 yJx4a65c_grow_92f84, Cond.code yJx4a65c_grow_92f84 cJx4a65c_grow_92f84 4 (some (.array (.object "java/lang/Object"))), Cond.fieldLink RJx4a65c 39 "java/util/ArrayList" "DEFAULTCAPACITY_EMPTY_ELEMENTDATA" "[Ljava/lang/Object;", Cond.methodLink RJx4a65c 79 Lib.Math.max.name, Cond.static Lib.Math.max.name, Cond.initialized "java/lang/Math", Cond.code Lib.Math.max.name Lib.Math.max.code 2 (some .int), Cond.classLink RJx4a65c 7 "java/lang/Object", Cond.methodLink RJx4a65c 73 yJ8_newLength_cabcc, Cond.static yJ8_newLength_cabcc, Cond.initialized RJ8, Cond.code yJ8_newLength_cabcc cJ8_newLength_cabcc 4 (some .int), Cond.methodLink RJ8 194 Lib.Math.max.name, Cond.constant RJ8 200 (2147483639), Cond.methodLink RJ8 201 yJ8_hugeLength_7cf53, Cond.static yJ8_hugeLength_7cf53, Cond.code yJ8_hugeLength_7cf53 cJ8_hugeLength_7cf53 3 (some .int), Cond.methodLink RJx4a65c 66 yJ7_copyOf_1904c]
def wsX12_certificate_r4 : List Cond := [Cond.static yJ7_copyOf_1904c, Cond.initialized RJ7, Cond.code yJ7_copyOf_1904c cJ7_copyOf_1904c 2 (some (.array (.object "java/lang/Object"))), Cond.methodLink RJ7 86 ⟨"java/lang/Object", "getClass", "()Ljava/lang/Class;"⟩, Cond.selects "[Ljava/lang/Object;" ⟨"java/lang/Object", "getClass", "()Ljava/lang/Class;"⟩ ⟨"java/lang/Object", "getClass", "()Ljava/lang/Class;"⟩, Cond.instanceMethod ⟨"java/lang/Object", "getClass", "()Ljava/lang/Class;"⟩, Cond.native ⟨"java/lang/Object", "getClass", "()Ljava/lang/Class;"⟩, Cond.methodLink RJ7 300 yJ7_copyOf_6403c, Cond.static yJ7_copyOf_6403c, Cond.code yJ7_copyOf_6403c cJ7_copyOf_6403c 4 (some (.array (.object "java/lang/Object"))), Cond.classLink RJ7 110 "[Ljava/lang/Object;", Cond.classLink RJ7 2 "java/lang/Object", Cond.methodLink RJ7 304 Lib.Math.min.name, Cond.static Lib.Math.min.name, Cond.code Lib.Math.min.name Lib.Math.min.code 2 (some .int), Cond.methodLink RJ7 150 arraycopyName, Cond.native arraycopyName, Cond.static arraycopyName, Cond.initialized "java/lang/System"]
def wsX12_certificate : List Cond := .code yX12_certificate cX12_certificate 6 (some .int) :: ((wsX12_certificate_r1 ++ (wsX12_certificate_r2 ++ (wsX12_certificate_r3 ++ wsX12_certificate_r4))) ++ wsX120 ++ wsX00 ++ wsX10 ++ wsJx4a65c0)
def wsX12_measured_r1 : List Cond := [Cond.fieldLink RX12 10 "UnlikeBoats" "book" "LUnlikeBoats$Book;", Cond.methodLink RX12 66 yX0_isBoat, Cond.instanceMethod yX0_isBoat, Cond.selects RX0 yX0_isBoat yX0_isBoat, Cond.initialized RX0, Cond.code yX0_isBoat cX0_isBoat 2 (some .boolean), Cond.fieldLink RX0 48 "UnlikeBoats$Book" "boats" "I", Cond.static yX12_within, Cond.initialized RX12, Cond.code yX12_within cX12_within 3 (some .boolean), Cond.methodLink RX12 70 yX12_isDay, Cond.static yX12_isDay, Cond.code yX12_isDay cX12_isDay 1 (some .boolean), Cond.methodLink RX12 59 yX12_within, Cond.methodLink RX12 92 yX0_isKnown, Cond.instanceMethod yX0_isKnown, Cond.selects RX0 yX0_isKnown yX0_isKnown, Cond.code yX0_isKnown cX0_isKnown 2 (some .boolean), Cond.fieldLink RX0 59 "UnlikeBoats$Book" "now" "I", Cond.methodLink RX12 95 yX0_certificateOn, Cond.instanceMethod yX0_certificateOn, Cond.selects RX0 yX0_certificateOn yX0_certificateOn, Cond.code yX0_certificateOn cX0_certificateOn 8 (some .int), Cond.fieldLink RX0 12 "UnlikeBoats$Book" "certificates" "Ljava/util/ArrayList;"]
def wsX12_measured_r2 : List Cond := [Cond.classLink RX0 94 "UnlikeBoats$Certificate", Cond.fieldLink RX0 96 "UnlikeBoats$Certificate" "boat" "I", Cond.fieldLink RX0 99 "UnlikeBoats$Certificate" "told" "I", Cond.fieldLink RX0 100 "UnlikeBoats$Certificate" "from" "I", Cond.methodLink RX0 56 yJx4a65c_size_8abf5, Cond.instanceMethod yJx4a65c_size_8abf5, Cond.selects RJx4a65c yJx4a65c_size_8abf5 yJx4a65c_size_8abf5, Cond.initialized RJx4a65c, Cond.code yJx4a65c_size_8abf5 cJx4a65c_size_8abf5 1 (some .int), Cond.fieldLink RJx4a65c 48 "java/util/ArrayList" "size" "I", Cond.methodLink RX0 69 yJx4a65c_get_915e3, Cond.instanceMethod yJx4a65c_get_915e3, Cond.selects RJx4a65c yJx4a65c_get_915e3 yJx4a65c_get_915e3, Cond.code yJx4a65c_get_915e3 cJx4a65c_get_915e3 2 (some (.object "java/lang/Object")), Cond.methodLink RJx4a65c 118 yJ15_checkIndex_7cf53, Cond.static yJ15_checkIndex_7cf53, Cond.initialized RJ15, Cond.code yJ15_checkIndex_7cf53 cJ15_checkIndex_7cf53 2 (some .int), Cond.methodLink RJ15 105 yJ3_checkIndex_8e157, Cond.static yJ3_checkIndex_8e157, Cond.initialized RJ3, Cond.code yJ3_checkIndex_8e157 cJ3_checkIndex_8e157 3 (some .int), Cond.methodLink RJx4a65c 123 yJx4a65c_elementData_915e3, Cond.instanceMethod yJx4a65c_elementData_915e3]
def wsX12_measured_r3 : List Cond := [Cond.selects RJx4a65c yJx4a65c_elementData_915e3 yJx4a65c_elementData_915e3, Cond.code yJx4a65c_elementData_915e3 cJx4a65c_elementData_915e3 2 (some (.object "java/lang/Object")), Cond.fieldLink RJx4a65c 9 "java/util/ArrayList" "elementData" "[Ljava/lang/Object;"]
def wsX12_measured : List Cond := .code yX12_measured cX12_measured 4 (some .int) :: ((wsX12_measured_r1 ++ (wsX12_measured_r2 ++ wsX12_measured_r3)) ++ wsX120 ++ wsX00 ++ wsX10 ++ wsJx4a65c0)
def wsX12_end : List Cond := .code yX12_end cX12_end 2 (some .boolean) :: ([.fieldLink RX12 19 "UnlikeBoats" "tape" "LUnlikeBoats$Tape;", .fieldLink RX12 103 "UnlikeBoats$Tape" "length" "I", .methodLink RX12 59 yX12_within, .static yX12_within, .initialized RX12, .code yX12_within cX12_within 3 (some .boolean)] ++ wsX120 ++ wsX100)
def wsX12_fault_r1 : List Cond := [Cond.fieldLink RX12 19 "UnlikeBoats" "tape" "LUnlikeBoats$Tape;", Cond.methodLink RX12 110 yX10_read, Cond.instanceMethod yX10_read, Cond.selects RX10 yX10_read yX10_read, Cond.initialized RX10, Cond.code yX10_read cX10_read 2 (some .int), Cond.fieldLink RX10 31 "UnlikeBoats$Tape" "at" "I", Cond.fieldLink RX10 34 "UnlikeBoats$Tape" "fault" "I", Cond.fieldLink RX10 37 "UnlikeBoats$Tape" "size" "I", Cond.fieldLink RX10 40 "UnlikeBoats$Tape" "clauses" "I", Cond.fieldLink RX10 21 "UnlikeBoats$Tape" "begins" "[I", Cond.methodLink RX10 43 yX10_readClause, Cond.instanceMethod yX10_readClause, Cond.selects RX10 yX10_readClause yX10_readClause, Cond.code yX10_readClause cX10_readClause 3 none, Cond.fieldLink RX10 18 "UnlikeBoats$Tape" "labels" "[I", Cond.fieldLink RX10 24 "UnlikeBoats$Tape" "sums" "[I", Cond.methodLink RX10 46 yX10_next, Cond.instanceMethod yX10_next, Cond.selects RX10 yX10_next yX10_next, Cond.code yX10_next cX10_next 1 (some .int), Cond.fieldLink RX10 27 "UnlikeBoats$Tape" "length" "I", Cond.fieldLink RX10 9 "UnlikeBoats$Tape" "bytes" "[I", Cond.static yX12_isOneOf]
def wsX12_fault_r2 : List Cond := [Cond.initialized RX12, Cond.code yX12_isOneOf cX12_isOneOf 2 (some .boolean), Cond.methodLink RX12 331 yJ0_indexOf_0f7a4, Cond.instanceMethod yJ0_indexOf_0f7a4, Cond.selects RJ0 yJ0_indexOf_0f7a4 yJ0_indexOf_0f7a4, Cond.initialized RJ0, Cond.code yJ0_indexOf_0f7a4 cJ0_indexOf_0f7a4 2 (some .int), Cond.methodLink RJ0 633 yJ0_indexOf_7cf53, Cond.instanceMethod yJ0_indexOf_7cf53, Cond.selects RJ0 yJ0_indexOf_7cf53 yJ0_indexOf_7cf53, Cond.code yJ0_indexOf_7cf53 cJ0_indexOf_7cf53 3 (some .int), Cond.fieldLink RJ0 9 "java/lang/String" "value" "[B", Cond.methodLink RJ0 492 yJ0_isLatin1_aae02, Cond.instanceMethod yJ0_isLatin1_aae02, Cond.selects RJ0 yJ0_isLatin1_aae02 yJ0_isLatin1_aae02, Cond.code yJ0_isLatin1_aae02 cJ0_isLatin1_aae02 1 (some .boolean), Cond.fieldLink RJ0 38 "java/lang/String" "COMPACT_STRINGS" "Z", Cond.fieldLink RJ0 15 "java/lang/String" "coder" "B", Cond.methodLink RJ0 505 yJ0_length_8abf5, Cond.instanceMethod yJ0_length_8abf5, Cond.selects RJ0 yJ0_length_8abf5 yJ0_length_8abf5, Cond.code yJ0_length_8abf5 cJ0_length_8abf5 1 (some .int), Cond.methodLink RJ0 335 yJ0_coder_7d493, Cond.instanceMethod yJ0_coder_7d493]
def wsX12_fault_r3 : List Cond := [Cond.selects RJ0 yJ0_coder_7d493 yJ0_coder_7d493, Cond.code yJ0_coder_7d493 cJ0_coder_7d493 1 (some .byte), Cond.methodLink RJ0 637 yJ1_indexOf_4cfef, Cond.static yJ1_indexOf_4cfef, Cond.initialized RJ1, Cond.code yJ1_indexOf_4cfef cJ1_indexOf_4cfef 4 (some .int), Cond.methodLink RJ1 92 Lib.Math.max.name, Cond.static Lib.Math.max.name, Cond.initialized "java/lang/Math", Cond.code Lib.Math.max.name Lib.Math.max.code 2 (some .int), Cond.methodLink RJ1 38 Lib.Math.min.name, Cond.static Lib.Math.min.name, Cond.code Lib.Math.min.name Lib.Math.min.code 2 (some .int), Cond.methodLink RJ1 88 yJ1_canEncode_9a6ad, Cond.static yJ1_canEncode_9a6ad, Cond.code yJ1_canEncode_9a6ad cJ1_canEncode_9a6ad 1 (some .boolean), Cond.methodLink RJ1 95 yJ1_indexOfChar_4cfef, Cond.static yJ1_indexOfChar_4cfef, Cond.code yJ1_indexOfChar_4cfef cJ1_indexOfChar_4cfef 6 (some .int), Cond.methodLink RJ0 640 yJ2_indexOf_4cfef, Cond.static yJ2_indexOf_4cfef, Cond.initialized RJ2, Cond.code yJ2_indexOf_4cfef cJ2_indexOf_4cfef 4 (some .int), Cond.methodLink RJ2 224 Lib.Math.max.name]
def wsX12_fault_r4 : List Cond := [Cond.methodLink RJ2 183 Lib.Math.min.name, Cond.constant RJ2 227 (65536), Cond.methodLink RJ2 228 yJ2_indexOfChar_4cfef, Cond.static yJ2_indexOfChar_4cfef, Cond.code yJ2_indexOfChar_4cfef cJ2_indexOfChar_4cfef 4 (some .int), Cond.methodLink RJ2 96 yJ2_checkBoundsBeginEnd_d044e, Cond.static yJ2_checkBoundsBeginEnd_d044e, Cond.code yJ2_checkBoundsBeginEnd_d044e cJ2_checkBoundsBeginEnd_d044e 3 none, Cond.methodLink RJ2 48 yJ2_length_9d52b, Cond.static yJ2_length_9d52b, Cond.code yJ2_length_9d52b cJ2_length_9d52b 1 (some .int), Cond.methodLink RJ2 241 yJ0_checkBoundsBeginEnd_23922, Cond.static yJ0_checkBoundsBeginEnd_23922, Cond.code yJ0_checkBoundsBeginEnd_23922 cJ0_checkBoundsBeginEnd_23922 3 none, Cond.fieldLink RJ0 1053 "jdk/internal/util/Preconditions" "SIOOBE_FORMATTER" "Ljava/util/function/BiFunction;", Cond.methodLink RJ0 1062 yJ3_checkFromToIndex_8c36e, Cond.static yJ3_checkFromToIndex_8c36e, Cond.initialized RJ3, Cond.code yJ3_checkFromToIndex_8c36e cJ3_checkFromToIndex_8c36e 4 (some .int), Cond.methodLink RJ2 244 yJ2_indexOfCharUnsafe_4cfef, Cond.static yJ2_indexOfCharUnsafe_4cfef, Cond.code yJ2_indexOfCharUnsafe_4cfef cJ2_indexOfCharUnsafe_4cfef 5 (some .int), Cond.methodLink RJ2 71 yJ2_getChar_3b067, Cond.static yJ2_getChar_3b067]
def wsX12_fault_r5 : List Cond := [Cond.code yJ2_getChar_3b067 cJ2_getChar_3b067 2 (some .char), Cond.fieldLink RJ2 44 "java/lang/StringUTF16" "$assertionsDisabled" "Z", Cond.fieldLink RJ2 59 "java/lang/StringUTF16" "HI_BYTE_SHIFT" "I", Cond.fieldLink RJ2 63 "java/lang/StringUTF16" "LO_BYTE_SHIFT" "I", Cond.methodLink RJ2 232 yJ2_indexOfSupplementary_4cfef, Cond.static yJ2_indexOfSupplementary_4cfef, Cond.code yJ2_indexOfSupplementary_4cfef cJ2_indexOfSupplementary_4cfef 7 (some .int), Cond.methodLink RJ2 164 yJ11_isValidCodePoint_9a6ad, Cond.static yJ11_isValidCodePoint_9a6ad, Cond.initialized RJ11, Cond.code yJ11_isValidCodePoint_9a6ad cJ11_isValidCodePoint_9a6ad 2 (some .boolean), Cond.methodLink RJ2 157 yJ11_highSurrogate_5068e, Cond.static yJ11_highSurrogate_5068e, Cond.code yJ11_highSurrogate_5068e cJ11_highSurrogate_5068e 1 (some .char), Cond.constant RJ11 110 (55232), Cond.methodLink RJ2 161 yJ11_lowSurrogate_5068e, Cond.static yJ11_lowSurrogate_5068e, Cond.code yJ11_lowSurrogate_5068e cJ11_lowSurrogate_5068e 1 (some .char), Cond.constant RJ11 76 (56320), Cond.methodLink RX10 50 yX10_fail, Cond.instanceMethod yX10_fail, Cond.selects RX10 yX10_fail yX10_fail, Cond.code yX10_fail cX10_fail 1 none, Cond.methodLink RX10 70 yX10_take]
def wsX12_fault_r6 : List Cond := [Cond.instanceMethod yX10_take, Cond.selects RX10 yX10_take yX10_take, Cond.code yX10_take cX10_take 2 none, Cond.methodLink RX10 76 yX10_readSum, Cond.instanceMethod yX10_readSum, Cond.selects RX10 yX10_readSum yX10_readSum, Cond.code yX10_readSum cX10_readSum 4 none, Cond.methodLink RX10 105 yX10_readTerm, Cond.instanceMethod yX10_readTerm, Cond.selects RX10 yX10_readTerm yX10_readTerm, Cond.methodLink RX10 88 yX7_asSign, Cond.static yX7_asSign, Cond.initialized RX7, Cond.code yX7_asSign cX7_asSign 1 (some .int), Cond.methodLink RX10 92 yX10_add, Cond.instanceMethod yX10_add, Cond.selects RX10 yX10_add yX10_add, Cond.code yX10_add cX10_add 2 none, Cond.fieldLink RX10 15 "UnlikeBoats$Tape" "steps" "[I", Cond.code yX10_readAtom cX10_readAtom 3 none, Cond.methodLink RX10 115 yX10_isDigit, Cond.static yX10_isDigit, Cond.code yX10_isDigit cX10_isDigit 1 (some .boolean), Cond.methodLink RX10 118 yX10_readNumber]
def wsX12_fault_r7 : List Cond := [Cond.instanceMethod yX10_readNumber, Cond.selects RX10 yX10_readNumber yX10_readNumber, Cond.code yX10_readNumber cX10_readNumber 3 none, Cond.methodLink RX10 123 yJ0_indexOf_0f7a4, Cond.methodLink RX10 128 yX7_asLetter, Cond.static yX7_asLetter, Cond.code yX7_asLetter cX7_asLetter 1 (some .int), Cond.methodLink RX10 98 yX10_goDeeper, Cond.instanceMethod yX10_goDeeper, Cond.selects RX10 yX10_goDeeper yX10_goDeeper, Cond.code yX10_goDeeper cX10_goDeeper 2 (some .boolean), Cond.code yX10_readTerm cX10_readTerm 4 none, Cond.methodLink RX10 110 yX10_readAtom, Cond.instanceMethod yX10_readAtom, Cond.selects RX10 yX10_readAtom yX10_readAtom, Cond.methodLink RX10 81 yX10_readCondition, Cond.instanceMethod yX10_readCondition, Cond.selects RX10 yX10_readCondition yX10_readCondition, Cond.code yX10_readCondition cX10_readCondition 4 none, Cond.methodLink RX10 85 yX10_readPart, Cond.instanceMethod yX10_readPart, Cond.selects RX10 yX10_readPart yX10_readPart, Cond.code yX10_readPart cX10_readPart 4 none, Cond.methodLink RX10 95 yX10_readUnit]
def wsX12_fault_r8 : List Cond := [Cond.instanceMethod yX10_readUnit, Cond.selects RX10 yX10_readUnit yX10_readUnit, Cond.code yX10_readUnit cX10_readUnit 4 none, Cond.methodLink RX10 102 yX10_readComparison, Cond.instanceMethod yX10_readComparison, Cond.selects RX10 yX10_readComparison yX10_readComparison, Cond.code yX10_readComparison cX10_readComparison 3 none]
def wsX12_fault : List Cond := .code yX12_fault cX12_fault 1 (some .int) :: ((wsX12_fault_r1 ++ (wsX12_fault_r2 ++ (wsX12_fault_r3 ++ (wsX12_fault_r4 ++ (wsX12_fault_r5 ++ (wsX12_fault_r6 ++ (wsX12_fault_r7 ++ wsX12_fault_r8))))))) ++ wsX120 ++ wsX100)
def wsX12_rules_r1 : List Cond := [Cond.fieldLink RX12 10 "UnlikeBoats" "book" "LUnlikeBoats$Book;", Cond.fieldLink RX12 113 "UnlikeBoats$Book" "rules" "Ljava/util/ArrayList;", Cond.fieldLink RX12 19 "UnlikeBoats" "tape" "LUnlikeBoats$Tape;", Cond.fieldLink RX12 55 "UnlikeBoats$Book" "now" "I", Cond.fieldLink RX12 103 "UnlikeBoats$Tape" "length" "I", Cond.methodLink RX12 70 yX12_isDay, Cond.static yX12_isDay, Cond.initialized RX12, Cond.code yX12_isDay cX12_isDay 1 (some .boolean), Cond.methodLink RX12 59 yX12_within, Cond.static yX12_within, Cond.code yX12_within cX12_within 3 (some .boolean), Cond.methodLink RX12 77 yJx4a65c_size_8abf5, Cond.instanceMethod yJx4a65c_size_8abf5, Cond.selects RJx4a65c yJx4a65c_size_8abf5 yJx4a65c_size_8abf5, Cond.initialized RJx4a65c, Cond.code yJx4a65c_size_8abf5 cJx4a65c_size_8abf5 1 (some .int), Cond.fieldLink RJx4a65c 48 "java/util/ArrayList" "size" "I", Cond.methodLink RX12 110 yX10_read, Cond.instanceMethod yX10_read, Cond.selects RX10 yX10_read yX10_read, Cond.initialized RX10, Cond.code yX10_read cX10_read 2 (some .int), Cond.fieldLink RX10 31 "UnlikeBoats$Tape" "at" "I"]
def wsX12_rules_r2 : List Cond := [Cond.fieldLink RX10 34 "UnlikeBoats$Tape" "fault" "I", Cond.fieldLink RX10 37 "UnlikeBoats$Tape" "size" "I", Cond.fieldLink RX10 40 "UnlikeBoats$Tape" "clauses" "I", Cond.fieldLink RX10 21 "UnlikeBoats$Tape" "begins" "[I", Cond.methodLink RX10 43 yX10_readClause, Cond.instanceMethod yX10_readClause, Cond.selects RX10 yX10_readClause yX10_readClause, Cond.code yX10_readClause cX10_readClause 3 none, Cond.fieldLink RX10 18 "UnlikeBoats$Tape" "labels" "[I", Cond.fieldLink RX10 24 "UnlikeBoats$Tape" "sums" "[I", Cond.methodLink RX10 46 yX10_next, Cond.instanceMethod yX10_next, Cond.selects RX10 yX10_next yX10_next, Cond.code yX10_next cX10_next 1 (some .int), Cond.fieldLink RX10 27 "UnlikeBoats$Tape" "length" "I", Cond.fieldLink RX10 9 "UnlikeBoats$Tape" "bytes" "[I", Cond.static yX12_isOneOf, Cond.code yX12_isOneOf cX12_isOneOf 2 (some .boolean), Cond.methodLink RX12 331 yJ0_indexOf_0f7a4, Cond.instanceMethod yJ0_indexOf_0f7a4, Cond.selects RJ0 yJ0_indexOf_0f7a4 yJ0_indexOf_0f7a4, Cond.initialized RJ0, Cond.code yJ0_indexOf_0f7a4 cJ0_indexOf_0f7a4 2 (some .int), Cond.methodLink RJ0 633 yJ0_indexOf_7cf53]
def wsX12_rules_r3 : List Cond := [Cond.instanceMethod yJ0_indexOf_7cf53, Cond.selects RJ0 yJ0_indexOf_7cf53 yJ0_indexOf_7cf53, Cond.code yJ0_indexOf_7cf53 cJ0_indexOf_7cf53 3 (some .int), Cond.fieldLink RJ0 9 "java/lang/String" "value" "[B", Cond.methodLink RJ0 492 yJ0_isLatin1_aae02, Cond.instanceMethod yJ0_isLatin1_aae02, Cond.selects RJ0 yJ0_isLatin1_aae02 yJ0_isLatin1_aae02, Cond.code yJ0_isLatin1_aae02 cJ0_isLatin1_aae02 1 (some .boolean), Cond.fieldLink RJ0 38 "java/lang/String" "COMPACT_STRINGS" "Z", Cond.fieldLink RJ0 15 "java/lang/String" "coder" "B", Cond.methodLink RJ0 505 yJ0_length_8abf5, Cond.instanceMethod yJ0_length_8abf5, Cond.selects RJ0 yJ0_length_8abf5 yJ0_length_8abf5, Cond.code yJ0_length_8abf5 cJ0_length_8abf5 1 (some .int), Cond.methodLink RJ0 335 yJ0_coder_7d493, Cond.instanceMethod yJ0_coder_7d493, Cond.selects RJ0 yJ0_coder_7d493 yJ0_coder_7d493, Cond.code yJ0_coder_7d493 cJ0_coder_7d493 1 (some .byte), Cond.methodLink RJ0 637 yJ1_indexOf_4cfef, Cond.static yJ1_indexOf_4cfef, Cond.initialized RJ1, Cond.code yJ1_indexOf_4cfef cJ1_indexOf_4cfef 4 (some .int), Cond.methodLink RJ1 92 Lib.Math.max.name, Cond.static Lib.Math.max.name]
def wsX12_rules_r4 : List Cond := [Cond.initialized "java/lang/Math", Cond.code Lib.Math.max.name Lib.Math.max.code 2 (some .int), Cond.methodLink RJ1 38 Lib.Math.min.name, Cond.static Lib.Math.min.name, Cond.code Lib.Math.min.name Lib.Math.min.code 2 (some .int), Cond.methodLink RJ1 88 yJ1_canEncode_9a6ad, Cond.static yJ1_canEncode_9a6ad, Cond.code yJ1_canEncode_9a6ad cJ1_canEncode_9a6ad 1 (some .boolean), Cond.methodLink RJ1 95 yJ1_indexOfChar_4cfef, Cond.static yJ1_indexOfChar_4cfef, Cond.code yJ1_indexOfChar_4cfef cJ1_indexOfChar_4cfef 6 (some .int), Cond.methodLink RJ0 640 yJ2_indexOf_4cfef, Cond.static yJ2_indexOf_4cfef, Cond.initialized RJ2, Cond.code yJ2_indexOf_4cfef cJ2_indexOf_4cfef 4 (some .int), Cond.methodLink RJ2 224 Lib.Math.max.name, Cond.methodLink RJ2 183 Lib.Math.min.name, Cond.constant RJ2 227 (65536), Cond.methodLink RJ2 228 yJ2_indexOfChar_4cfef, Cond.static yJ2_indexOfChar_4cfef, Cond.code yJ2_indexOfChar_4cfef cJ2_indexOfChar_4cfef 4 (some .int), Cond.methodLink RJ2 96 yJ2_checkBoundsBeginEnd_d044e, Cond.static yJ2_checkBoundsBeginEnd_d044e, Cond.code yJ2_checkBoundsBeginEnd_d044e cJ2_checkBoundsBeginEnd_d044e 3 none]
def wsX12_rules_r5 : List Cond := [Cond.methodLink RJ2 48 yJ2_length_9d52b, Cond.static yJ2_length_9d52b, Cond.code yJ2_length_9d52b cJ2_length_9d52b 1 (some .int), Cond.methodLink RJ2 241 yJ0_checkBoundsBeginEnd_23922, Cond.static yJ0_checkBoundsBeginEnd_23922, Cond.code yJ0_checkBoundsBeginEnd_23922 cJ0_checkBoundsBeginEnd_23922 3 none, Cond.fieldLink RJ0 1053 "jdk/internal/util/Preconditions" "SIOOBE_FORMATTER" "Ljava/util/function/BiFunction;", Cond.methodLink RJ0 1062 yJ3_checkFromToIndex_8c36e, Cond.static yJ3_checkFromToIndex_8c36e, Cond.initialized RJ3, Cond.code yJ3_checkFromToIndex_8c36e cJ3_checkFromToIndex_8c36e 4 (some .int), Cond.methodLink RJ2 244 yJ2_indexOfCharUnsafe_4cfef, Cond.static yJ2_indexOfCharUnsafe_4cfef, Cond.code yJ2_indexOfCharUnsafe_4cfef cJ2_indexOfCharUnsafe_4cfef 5 (some .int), Cond.methodLink RJ2 71 yJ2_getChar_3b067, Cond.static yJ2_getChar_3b067, Cond.code yJ2_getChar_3b067 cJ2_getChar_3b067 2 (some .char), Cond.fieldLink RJ2 44 "java/lang/StringUTF16" "$assertionsDisabled" "Z", Cond.fieldLink RJ2 59 "java/lang/StringUTF16" "HI_BYTE_SHIFT" "I", Cond.fieldLink RJ2 63 "java/lang/StringUTF16" "LO_BYTE_SHIFT" "I", Cond.methodLink RJ2 232 yJ2_indexOfSupplementary_4cfef, Cond.static yJ2_indexOfSupplementary_4cfef, Cond.code yJ2_indexOfSupplementary_4cfef cJ2_indexOfSupplementary_4cfef 7 (some .int), Cond.methodLink RJ2 164 yJ11_isValidCodePoint_9a6ad]
def wsX12_rules_r6 : List Cond := [Cond.static yJ11_isValidCodePoint_9a6ad, Cond.initialized RJ11, Cond.code yJ11_isValidCodePoint_9a6ad cJ11_isValidCodePoint_9a6ad 2 (some .boolean), Cond.methodLink RJ2 157 yJ11_highSurrogate_5068e, Cond.static yJ11_highSurrogate_5068e, Cond.code yJ11_highSurrogate_5068e cJ11_highSurrogate_5068e 1 (some .char), Cond.constant RJ11 110 (55232), Cond.methodLink RJ2 161 yJ11_lowSurrogate_5068e, Cond.static yJ11_lowSurrogate_5068e, Cond.code yJ11_lowSurrogate_5068e cJ11_lowSurrogate_5068e 1 (some .char), Cond.constant RJ11 76 (56320), Cond.methodLink RX10 50 yX10_fail, Cond.instanceMethod yX10_fail, Cond.selects RX10 yX10_fail yX10_fail, Cond.code yX10_fail cX10_fail 1 none, Cond.methodLink RX10 70 yX10_take, Cond.instanceMethod yX10_take, Cond.selects RX10 yX10_take yX10_take, Cond.code yX10_take cX10_take 2 none, Cond.methodLink RX10 76 yX10_readSum, Cond.instanceMethod yX10_readSum, Cond.selects RX10 yX10_readSum yX10_readSum, Cond.code yX10_readSum cX10_readSum 4 none, Cond.methodLink RX10 105 yX10_readTerm]
def wsX12_rules_r7 : List Cond := [Cond.instanceMethod yX10_readTerm, Cond.selects RX10 yX10_readTerm yX10_readTerm, Cond.methodLink RX10 88 yX7_asSign, Cond.static yX7_asSign, Cond.initialized RX7, Cond.code yX7_asSign cX7_asSign 1 (some .int), Cond.methodLink RX10 92 yX10_add, Cond.instanceMethod yX10_add, Cond.selects RX10 yX10_add yX10_add, Cond.code yX10_add cX10_add 2 none, Cond.fieldLink RX10 15 "UnlikeBoats$Tape" "steps" "[I", Cond.code yX10_readAtom cX10_readAtom 3 none, Cond.methodLink RX10 115 yX10_isDigit, Cond.static yX10_isDigit, Cond.code yX10_isDigit cX10_isDigit 1 (some .boolean), Cond.methodLink RX10 118 yX10_readNumber, Cond.instanceMethod yX10_readNumber, Cond.selects RX10 yX10_readNumber yX10_readNumber, Cond.code yX10_readNumber cX10_readNumber 3 none, Cond.methodLink RX10 123 yJ0_indexOf_0f7a4, Cond.methodLink RX10 128 yX7_asLetter, Cond.static yX7_asLetter, Cond.code yX7_asLetter cX7_asLetter 1 (some .int), Cond.methodLink RX10 98 yX10_goDeeper]
def wsX12_rules_r8 : List Cond := [Cond.instanceMethod yX10_goDeeper, Cond.selects RX10 yX10_goDeeper yX10_goDeeper, Cond.code yX10_goDeeper cX10_goDeeper 2 (some .boolean), Cond.code yX10_readTerm cX10_readTerm 4 none, Cond.methodLink RX10 110 yX10_readAtom, Cond.instanceMethod yX10_readAtom, Cond.selects RX10 yX10_readAtom yX10_readAtom, Cond.methodLink RX10 81 yX10_readCondition, Cond.instanceMethod yX10_readCondition, Cond.selects RX10 yX10_readCondition yX10_readCondition, Cond.code yX10_readCondition cX10_readCondition 4 none, Cond.methodLink RX10 85 yX10_readPart, Cond.instanceMethod yX10_readPart, Cond.selects RX10 yX10_readPart yX10_readPart, Cond.code yX10_readPart cX10_readPart 4 none, Cond.methodLink RX10 95 yX10_readUnit, Cond.instanceMethod yX10_readUnit, Cond.selects RX10 yX10_readUnit yX10_readUnit, Cond.code yX10_readUnit cX10_readUnit 4 none, Cond.methodLink RX10 102 yX10_readComparison, Cond.instanceMethod yX10_readComparison, Cond.selects RX10 yX10_readComparison yX10_readComparison, Cond.code yX10_readComparison cX10_readComparison 3 none, Cond.methodLink RX12 116 yX10_asRules]
def wsX12_rules_r9 : List Cond := [Cond.instanceMethod yX10_asRules, Cond.selects RX10 yX10_asRules yX10_asRules, Cond.code yX10_asRules cX10_asRules 3 (some (.object "UnlikeBoats$Rules")), Cond.classLink RX10 53 RX7, Cond.instantiable RX7 6, Cond.methodLink RX10 55 yJ7_copyOf_59c91, Cond.static yJ7_copyOf_59c91, Cond.initialized RJ7, Cond.code yJ7_copyOf_59c91 cJ7_copyOf_59c91 3 (some (.array .int)), Cond.methodLink RJ7 316 ⟨"[I", "clone", "()Ljava/lang/Object;"⟩, Cond.sameMethod "[I" "java/lang/Object" "clone" "()Ljava/lang/Object;", Cond.native ⟨"java/lang/Object", "clone", "()Ljava/lang/Object;"⟩, Cond.instanceMethod ⟨"java/lang/Object", "clone", "()Ljava/lang/Object;"⟩, Cond.selects "[I" ⟨"[I", "clone", "()Ljava/lang/Object;"⟩ ⟨"java/lang/Object", "clone", "()Ljava/lang/Object;"⟩, Cond.classLink RJ7 317 "[I", Cond.arrayClass .int, Cond.methodLink RJ7 304 Lib.Math.min.name, Cond.methodLink RJ7 150 arraycopyName, Cond.native arraycopyName, Cond.static arraycopyName, Cond.initialized "java/lang/System", Cond.methodLink RX10 61 yX7_init, Cond.instanceMethod yX7_init, Cond.code yX7_init cX7_init 7 none]
def wsX12_rules_r10 : List Cond := [Cond.methodLink RX7 3 objectInit, Cond.instanceMethod objectInit, Cond.code objectInit ⟨#[0xb1]⟩ 1 none, Cond.fieldLink RX7 9 "UnlikeBoats$Rules" "from" "I", Cond.fieldLink RX7 15 "UnlikeBoats$Rules" "told" "I", Cond.fieldLink RX7 18 "UnlikeBoats$Rules" "steps" "[I", Cond.fieldLink RX7 22 "UnlikeBoats$Rules" "labels" "[I", Cond.fieldLink RX7 25 "UnlikeBoats$Rules" "begins" "[I", Cond.fieldLink RX7 28 "UnlikeBoats$Rules" "sums" "[I", Cond.methodLink RX12 88 yJx4a65c_add_9ea2d, Cond.instanceMethod yJx4a65c_add_9ea2d, Cond.selects RJx4a65c yJx4a65c_add_9ea2d yJx4a65c_add_9ea2d, Cond.code yJx4a65c_add_9ea2d cJx4a65c_add_9ea2d 2 (some .boolean), Cond.fieldLink RJx4a65c 63 "java/util/ArrayList" "modCount" "I", Cond.sameField "java/util/ArrayList" "java/util/AbstractList" "modCount" "I", Cond.fieldLink RJx4a65c 9 "java/util/ArrayList" "elementData" "[Ljava/lang/Object;", Cond.methodLink RJx4a65c 131 yJx4a65c_add_72be8, Cond.instanceMethod yJx4a65c_add_72be8, Cond.selects RJx4a65c yJx4a65c_add_72be8 yJx4a65c_add_72be8, Cond.code yJx4a65c_add_72be8 cJx4a65c_add_72be8 4 none, Cond.methodLink RJx4a65c 129 yJx4a65c_grow_d5877, Cond.instanceMethod yJx4a65c_grow_d5877, Cond.selects RJx4a65c yJx4a65c_grow_d5877 yJx4a65c_grow_d5877, Cond.code yJx4a65c_grow_d5877 cJx4a65c_grow_d5877 1 (some (.array (.object "java/lang/Object")))]
def wsX12_rules_r11 : List Cond := [Cond.methodLink RJx4a65c 69 yJx4a65c_grow_92f84, Cond.instanceMethod yJx4a65c_grow_92f84, Cond.selects RJx4a65c yJx4a65c_grow_92f84 yJx4a65c_grow_92f84, Cond.code yJx4a65c_grow_92f84 cJx4a65c_grow_92f84 4 (some (.array (.object "java/lang/Object"))), Cond.fieldLink RJx4a65c 39 "java/util/ArrayList" "DEFAULTCAPACITY_EMPTY_ELEMENTDATA" "[Ljava/lang/Object;", Cond.methodLink RJx4a65c 79 Lib.Math.max.name, Cond.classLink RJx4a65c 7 "java/lang/Object", Cond.methodLink RJx4a65c 73 yJ8_newLength_cabcc, Cond.static yJ8_newLength_cabcc, Cond.initialized RJ8, Cond.code yJ8_newLength_cabcc cJ8_newLength_cabcc 4 (some .int), Cond.methodLink RJ8 194 Lib.Math.max.name, Cond.constant RJ8 200 (2147483639), Cond.methodLink RJ8 201 yJ8_hugeLength_7cf53, Cond.static yJ8_hugeLength_7cf53, Cond.code yJ8_hugeLength_7cf53 cJ8_hugeLength_7cf53 3 (some .int), Cond.methodLink RJx4a65c 66 yJ7_copyOf_1904c, Cond.static yJ7_copyOf_1904c, Cond.code yJ7_copyOf_1904c cJ7_copyOf_1904c 2 (some (.array (.object "java/lang/Object"))), Cond.methodLink RJ7 86 ⟨"java/lang/Object", "getClass", "()Ljava/lang/Class;"⟩, Cond.selects "[Ljava/lang/Object;" ⟨"java/lang/Object", "getClass", "()Ljava/lang/Class;"⟩ ⟨"java/lang/Object", "getClass", "()Ljava/lang/Class;"⟩, Cond.instanceMethod ⟨"java/lang/Object", "getClass", "()Ljava/lang/Class;"⟩, Cond.native ⟨"java/lang/Object", "getClass", "()Ljava/lang/Class;"⟩, Cond.methodLink RJ7 300 yJ7_copyOf_6403c]
def wsX12_rules_r12 : List Cond := [Cond.static yJ7_copyOf_6403c, Cond.code yJ7_copyOf_6403c cJ7_copyOf_6403c 4 (some (.array (.object "java/lang/Object"))), Cond.classLink RJ7 110 "[Ljava/lang/Object;", Cond.classLink RJ7 2 "java/lang/Object"]
def wsX12_rules : List Cond := .code yX12_rules cX12_rules 2 (some .int) :: ((wsX12_rules_r1 ++ (wsX12_rules_r2 ++ (wsX12_rules_r3 ++ (wsX12_rules_r4 ++ (wsX12_rules_r5 ++ (wsX12_rules_r6 ++ (wsX12_rules_r7 ++ (wsX12_rules_r8 ++ (wsX12_rules_r9 ++ (wsX12_rules_r10 ++ (wsX12_rules_r11 ++ wsX12_rules_r12))))))))))) ++ wsX120 ++ wsX00 ++ wsX100 ++ wsJx4a65c0 ++ wsX70)
def wsX12_force_r1 : List Cond := [Cond.fieldLink RX12 10 "UnlikeBoats" "book" "LUnlikeBoats$Book;", Cond.methodLink RX12 70 yX12_isDay, Cond.static yX12_isDay, Cond.initialized RX12, Cond.code yX12_isDay cX12_isDay 1 (some .boolean), Cond.methodLink RX12 59 yX12_within, Cond.static yX12_within, Cond.code yX12_within cX12_within 3 (some .boolean), Cond.methodLink RX12 92 yX0_isKnown, Cond.instanceMethod yX0_isKnown, Cond.selects RX0 yX0_isKnown yX0_isKnown, Cond.initialized RX0, Cond.code yX0_isKnown cX0_isKnown 2 (some .boolean), Cond.fieldLink RX0 59 "UnlikeBoats$Book" "now" "I", Cond.methodLink RX12 120 yX0_rulesOn, Cond.instanceMethod yX0_rulesOn, Cond.selects RX0 yX0_rulesOn yX0_rulesOn, Cond.code yX0_rulesOn cX0_rulesOn 7 (some .int), Cond.fieldLink RX0 18 "UnlikeBoats$Book" "rules" "Ljava/util/ArrayList;", Cond.classLink RX0 103 "UnlikeBoats$Rules", Cond.fieldLink RX0 105 "UnlikeBoats$Rules" "told" "I", Cond.fieldLink RX0 106 "UnlikeBoats$Rules" "from" "I", Cond.methodLink RX0 56 yJx4a65c_size_8abf5, Cond.instanceMethod yJx4a65c_size_8abf5]
def wsX12_force_r2 : List Cond := [Cond.selects RJx4a65c yJx4a65c_size_8abf5 yJx4a65c_size_8abf5, Cond.initialized RJx4a65c, Cond.code yJx4a65c_size_8abf5 cJx4a65c_size_8abf5 1 (some .int), Cond.fieldLink RJx4a65c 48 "java/util/ArrayList" "size" "I", Cond.methodLink RX0 69 yJx4a65c_get_915e3, Cond.instanceMethod yJx4a65c_get_915e3, Cond.selects RJx4a65c yJx4a65c_get_915e3 yJx4a65c_get_915e3, Cond.code yJx4a65c_get_915e3 cJx4a65c_get_915e3 2 (some (.object "java/lang/Object")), Cond.methodLink RJx4a65c 118 yJ15_checkIndex_7cf53, Cond.static yJ15_checkIndex_7cf53, Cond.initialized RJ15, Cond.code yJ15_checkIndex_7cf53 cJ15_checkIndex_7cf53 2 (some .int), Cond.methodLink RJ15 105 yJ3_checkIndex_8e157, Cond.static yJ3_checkIndex_8e157, Cond.initialized RJ3, Cond.code yJ3_checkIndex_8e157 cJ3_checkIndex_8e157 3 (some .int), Cond.methodLink RJx4a65c 123 yJx4a65c_elementData_915e3, Cond.instanceMethod yJx4a65c_elementData_915e3, Cond.selects RJx4a65c yJx4a65c_elementData_915e3 yJx4a65c_elementData_915e3, Cond.code yJx4a65c_elementData_915e3 cJx4a65c_elementData_915e3 2 (some (.object "java/lang/Object")), Cond.fieldLink RJx4a65c 9 "java/util/ArrayList" "elementData" "[Ljava/lang/Object;"]
def wsX12_force : List Cond := .code yX12_force cX12_force 3 (some .int) :: ((wsX12_force_r1 ++ wsX12_force_r2) ++ wsX120 ++ wsX00 ++ wsX70 ++ wsJx4a65c0)
def wsX12_number_r1 : List Cond := [Cond.fieldLink RX12 10 "UnlikeBoats" "book" "LUnlikeBoats$Book;", Cond.methodLink RX12 66 yX0_isBoat, Cond.instanceMethod yX0_isBoat, Cond.selects RX0 yX0_isBoat yX0_isBoat, Cond.initialized RX0, Cond.code yX0_isBoat cX0_isBoat 2 (some .boolean), Cond.fieldLink RX0 48 "UnlikeBoats$Book" "boats" "I", Cond.static yX12_within, Cond.initialized RX12, Cond.code yX12_within cX12_within 3 (some .boolean), Cond.methodLink RX12 70 yX12_isDay, Cond.static yX12_isDay, Cond.code yX12_isDay cX12_isDay 1 (some .boolean), Cond.methodLink RX12 59 yX12_within, Cond.methodLink RX12 92 yX0_isKnown, Cond.instanceMethod yX0_isKnown, Cond.selects RX0 yX0_isKnown yX0_isKnown, Cond.code yX0_isKnown cX0_isKnown 2 (some .boolean), Cond.fieldLink RX0 59 "UnlikeBoats$Book" "now" "I", Cond.methodLink RX12 124 yX0_numberOf, Cond.instanceMethod yX0_numberOf, Cond.selects RX0 yX0_numberOf yX0_numberOf, Cond.code yX0_numberOf cX0_numberOf 7 (some .int), Cond.fieldLink RX0 12 "UnlikeBoats$Book" "certificates" "Ljava/util/ArrayList;"]
def wsX12_number_r2 : List Cond := [Cond.classLink RX0 94 "UnlikeBoats$Certificate", Cond.fieldLink RX0 41 "UnlikeBoats$Book" "letters" "[I", Cond.fieldLink RX0 118 "UnlikeBoats$Certificate" "lon" "I", Cond.fieldLink RX0 121 "UnlikeBoats$Certificate" "area" "I", Cond.fieldLink RX0 124 "UnlikeBoats$Certificate" "weight" "I", Cond.fieldLink RX0 18 "UnlikeBoats$Book" "rules" "Ljava/util/ArrayList;", Cond.classLink RX0 103 "UnlikeBoats$Rules", Cond.fieldLink RX0 45 "UnlikeBoats$Book" "stack" "[I", Cond.methodLink RX0 107 yX0_rulesOn, Cond.instanceMethod yX0_rulesOn, Cond.selects RX0 yX0_rulesOn yX0_rulesOn, Cond.code yX0_rulesOn cX0_rulesOn 7 (some .int), Cond.fieldLink RX0 105 "UnlikeBoats$Rules" "told" "I", Cond.fieldLink RX0 106 "UnlikeBoats$Rules" "from" "I", Cond.methodLink RX0 56 yJx4a65c_size_8abf5, Cond.instanceMethod yJx4a65c_size_8abf5, Cond.selects RJx4a65c yJx4a65c_size_8abf5 yJx4a65c_size_8abf5, Cond.initialized RJx4a65c, Cond.code yJx4a65c_size_8abf5 cJx4a65c_size_8abf5 1 (some .int), Cond.fieldLink RJx4a65c 48 "java/util/ArrayList" "size" "I", Cond.methodLink RX0 69 yJx4a65c_get_915e3, Cond.instanceMethod yJx4a65c_get_915e3, Cond.selects RJx4a65c yJx4a65c_get_915e3 yJx4a65c_get_915e3, Cond.code yJx4a65c_get_915e3 cJx4a65c_get_915e3 2 (some (.object "java/lang/Object"))]
def wsX12_number_r3 : List Cond := [Cond.methodLink RJx4a65c 118 yJ15_checkIndex_7cf53, Cond.static yJ15_checkIndex_7cf53, Cond.initialized RJ15, Cond.code yJ15_checkIndex_7cf53 cJ15_checkIndex_7cf53 2 (some .int), Cond.methodLink RJ15 105 yJ3_checkIndex_8e157, Cond.static yJ3_checkIndex_8e157, Cond.initialized RJ3, Cond.code yJ3_checkIndex_8e157 cJ3_checkIndex_8e157 3 (some .int), Cond.methodLink RJx4a65c 123 yJx4a65c_elementData_915e3, Cond.instanceMethod yJx4a65c_elementData_915e3, Cond.selects RJx4a65c yJx4a65c_elementData_915e3 yJx4a65c_elementData_915e3, Cond.code yJx4a65c_elementData_915e3 cJx4a65c_elementData_915e3 2 (some (.object "java/lang/Object")), Cond.fieldLink RJx4a65c 9 "java/util/ArrayList" "elementData" "[Ljava/lang/Object;", Cond.methodLink RX0 111 yX0_certificateOn, Cond.instanceMethod yX0_certificateOn, Cond.selects RX0 yX0_certificateOn yX0_certificateOn, Cond.code yX0_certificateOn cX0_certificateOn 8 (some .int), Cond.fieldLink RX0 96 "UnlikeBoats$Certificate" "boat" "I", Cond.fieldLink RX0 99 "UnlikeBoats$Certificate" "told" "I", Cond.fieldLink RX0 100 "UnlikeBoats$Certificate" "from" "I", Cond.methodLink RX0 115 yX0_forgetLetters, Cond.instanceMethod yX0_forgetLetters, Cond.selects RX0 yX0_forgetLetters yX0_forgetLetters, Cond.code yX0_forgetLetters cX0_forgetLetters 1 none]
def wsX12_number_r4 : List Cond := [Cond.methodLink RX0 134 yJ7_fill_53178, Cond.static yJ7_fill_53178, Cond.initialized RJ7, Cond.code yJ7_fill_53178 cJ7_fill_53178 4 none, Cond.methodLink RX0 127 yX7_worthOf, Cond.instanceMethod yX7_worthOf, Cond.selects RX7 yX7_worthOf yX7_worthOf, Cond.initialized RX7, Cond.code yX7_worthOf cX7_worthOf 6 (some .int), Cond.fieldLink RX7 22 "UnlikeBoats$Rules" "labels" "[I", Cond.fieldLink RX7 28 "UnlikeBoats$Rules" "sums" "[I", Cond.fieldLink RX7 25 "UnlikeBoats$Rules" "begins" "[I", Cond.methodLink RX7 31 yX7_run, Cond.instanceMethod yX7_run, Cond.selects RX7 yX7_run yX7_run, Cond.code yX7_run cX7_run 9 (some .int), Cond.fieldLink RX7 18 "UnlikeBoats$Rules" "steps" "[I", Cond.methodLink RX7 35 yX7_asSign, Cond.static yX7_asSign, Cond.code yX7_asSign cX7_asSign 1 (some .int), Cond.methodLink RX7 39 yX7_join, Cond.static yX7_join, Cond.code yX7_join cX7_join 5 (some .int), Cond.constantLong RX7 47 (10000000)]
def wsX12_number_r5 : List Cond := [Cond.constant RX7 49 (10000000), Cond.constantLong RX7 50 (-10000000), Cond.constant RX7 52 (-10000000), Cond.methodLink RX7 43 yX7_letterAt, Cond.static yX7_letterAt, Cond.code yX7_letterAt cX7_letterAt 2 (some .int), Cond.static yX12_held, Cond.code yX12_held cX12_held 3 (some .int)]
def wsX12_number : List Cond := .code yX12_number cX12_number 4 (some .int) :: ((wsX12_number_r1 ++ (wsX12_number_r2 ++ (wsX12_number_r3 ++ (wsX12_number_r4 ++ wsX12_number_r5)))) ++ wsX120 ++ wsX00 ++ wsX10 ++ wsX70 ++ wsJx4a65c0)
def wsX12_swift_r1 : List Cond := [Cond.fieldLink RX12 10 "UnlikeBoats" "book" "LUnlikeBoats$Book;", Cond.fieldLink RX12 127 "UnlikeBoats$Book" "races" "Ljava/util/ArrayList;", Cond.classLink RX12 130 "UnlikeBoats$Race", Cond.fieldLink RX12 142 "UnlikeBoats$Race" "swifts" "[I", Cond.fieldLink RX12 55 "UnlikeBoats$Book" "now" "I", Cond.methodLink RX12 135 yX0_isRace, Cond.instanceMethod yX0_isRace, Cond.selects RX0 yX0_isRace yX0_isRace, Cond.initialized RX0, Cond.code yX0_isRace cX0_isRace 2 (some .boolean), Cond.fieldLink RX0 21 "UnlikeBoats$Book" "races" "Ljava/util/ArrayList;", Cond.methodLink RX0 56 yJx4a65c_size_8abf5, Cond.instanceMethod yJx4a65c_size_8abf5, Cond.selects RJx4a65c yJx4a65c_size_8abf5 yJx4a65c_size_8abf5, Cond.initialized RJx4a65c, Cond.code yJx4a65c_size_8abf5 cJx4a65c_size_8abf5 1 (some .int), Cond.fieldLink RJx4a65c 48 "java/util/ArrayList" "size" "I", Cond.static yX12_within, Cond.initialized RX12, Cond.code yX12_within cX12_within 3 (some .boolean), Cond.methodLink RX12 59 yX12_within, Cond.methodLink RX12 138 yJx4a65c_get_915e3, Cond.instanceMethod yJx4a65c_get_915e3, Cond.selects RJx4a65c yJx4a65c_get_915e3 yJx4a65c_get_915e3]
def wsX12_swift_r2 : List Cond := [Cond.code yJx4a65c_get_915e3 cJx4a65c_get_915e3 2 (some (.object "java/lang/Object")), Cond.methodLink RJx4a65c 118 yJ15_checkIndex_7cf53, Cond.static yJ15_checkIndex_7cf53, Cond.initialized RJ15, Cond.code yJ15_checkIndex_7cf53 cJ15_checkIndex_7cf53 2 (some .int), Cond.methodLink RJ15 105 yJ3_checkIndex_8e157, Cond.static yJ3_checkIndex_8e157, Cond.initialized RJ3, Cond.code yJ3_checkIndex_8e157 cJ3_checkIndex_8e157 3 (some .int), Cond.methodLink RJx4a65c 123 yJx4a65c_elementData_915e3, Cond.instanceMethod yJx4a65c_elementData_915e3, Cond.selects RJx4a65c yJx4a65c_elementData_915e3 yJx4a65c_elementData_915e3, Cond.code yJx4a65c_elementData_915e3 cJx4a65c_elementData_915e3 2 (some (.object "java/lang/Object")), Cond.fieldLink RJx4a65c 9 "java/util/ArrayList" "elementData" "[Ljava/lang/Object;"]
def wsX12_swift : List Cond := .code yX12_swift cX12_swift 3 (some .boolean) :: ((wsX12_swift_r1 ++ wsX12_swift_r2) ++ wsX120 ++ wsX00 ++ wsX50 ++ wsJx4a65c0)
def wsX12_enter_r1 : List Cond := [Cond.fieldLink RX12 10 "UnlikeBoats" "book" "LUnlikeBoats$Book;", Cond.fieldLink RX12 127 "UnlikeBoats$Book" "races" "Ljava/util/ArrayList;", Cond.classLink RX12 130 "UnlikeBoats$Race", Cond.fieldLink RX12 150 "UnlikeBoats$Race" "entries" "[I", Cond.fieldLink RX12 55 "UnlikeBoats$Book" "now" "I", Cond.methodLink RX12 135 yX0_isRace, Cond.instanceMethod yX0_isRace, Cond.selects RX0 yX0_isRace yX0_isRace, Cond.initialized RX0, Cond.code yX0_isRace cX0_isRace 2 (some .boolean), Cond.fieldLink RX0 21 "UnlikeBoats$Book" "races" "Ljava/util/ArrayList;", Cond.methodLink RX0 56 yJx4a65c_size_8abf5, Cond.instanceMethod yJx4a65c_size_8abf5, Cond.selects RJx4a65c yJx4a65c_size_8abf5 yJx4a65c_size_8abf5, Cond.initialized RJx4a65c, Cond.code yJx4a65c_size_8abf5 cJx4a65c_size_8abf5 1 (some .int), Cond.fieldLink RJx4a65c 48 "java/util/ArrayList" "size" "I", Cond.static yX12_within, Cond.initialized RX12, Cond.code yX12_within cX12_within 3 (some .boolean), Cond.methodLink RX12 66 yX0_isBoat, Cond.instanceMethod yX0_isBoat, Cond.selects RX0 yX0_isBoat yX0_isBoat, Cond.code yX0_isBoat cX0_isBoat 2 (some .boolean)]
def wsX12_enter_r2 : List Cond := [Cond.fieldLink RX0 48 "UnlikeBoats$Book" "boats" "I", Cond.methodLink RX12 146 yX0_isEntered, Cond.instanceMethod yX0_isEntered, Cond.selects RX0 yX0_isEntered yX0_isEntered, Cond.code yX0_isEntered cX0_isEntered 3 (some .boolean), Cond.classLink RX0 73 "UnlikeBoats$Race", Cond.fieldLink RX0 59 "UnlikeBoats$Book" "now" "I", Cond.methodLink RX0 66 yX0_isRace, Cond.methodLink RX0 78 yX0_isBoat, Cond.methodLink RX0 69 yJx4a65c_get_915e3, Cond.instanceMethod yJx4a65c_get_915e3, Cond.selects RJx4a65c yJx4a65c_get_915e3 yJx4a65c_get_915e3, Cond.code yJx4a65c_get_915e3 cJx4a65c_get_915e3 2 (some (.object "java/lang/Object")), Cond.methodLink RJx4a65c 118 yJ15_checkIndex_7cf53, Cond.static yJ15_checkIndex_7cf53, Cond.initialized RJ15, Cond.code yJ15_checkIndex_7cf53 cJ15_checkIndex_7cf53 2 (some .int), Cond.methodLink RJ15 105 yJ3_checkIndex_8e157, Cond.static yJ3_checkIndex_8e157, Cond.initialized RJ3, Cond.code yJ3_checkIndex_8e157 cJ3_checkIndex_8e157 3 (some .int), Cond.methodLink RJx4a65c 123 yJx4a65c_elementData_915e3, Cond.instanceMethod yJx4a65c_elementData_915e3, Cond.selects RJx4a65c yJx4a65c_elementData_915e3 yJx4a65c_elementData_915e3]
def wsX12_enter_r3 : List Cond := [Cond.code yJx4a65c_elementData_915e3 cJx4a65c_elementData_915e3 2 (some (.object "java/lang/Object")), Cond.fieldLink RJx4a65c 9 "java/util/ArrayList" "elementData" "[Ljava/lang/Object;", Cond.methodLink RX0 81 yX5_isEnteredIn, Cond.instanceMethod yX5_isEnteredIn, Cond.selects RX5 yX5_isEnteredIn yX5_isEnteredIn, Cond.initialized RX5, Cond.code yX5_isEnteredIn cX5_isEnteredIn 3 (some .boolean), Cond.fieldLink RX5 9 "UnlikeBoats$Race" "entries" "[I", Cond.methodLink RX12 138 yJx4a65c_get_915e3]
def wsX12_enter : List Cond := .code yX12_enter cX12_enter 3 (some .boolean) :: ((wsX12_enter_r1 ++ (wsX12_enter_r2 ++ wsX12_enter_r3)) ++ wsX120 ++ wsX00 ++ wsX50 ++ wsJx4a65c0)
def wsX12_result_r1 : List Cond := [Cond.fieldLink RX12 10 "UnlikeBoats" "book" "LUnlikeBoats$Book;", Cond.constant RX12 153 (200000), Cond.fieldLink RX12 154 "UnlikeBoats$Book" "results" "Ljava/util/ArrayList;", Cond.classLink RX12 157 RX6, Cond.instantiable RX6 5, Cond.initialized RX6, Cond.fieldLink RX12 55 "UnlikeBoats$Book" "now" "I", Cond.methodLink RX12 146 yX0_isEntered, Cond.instanceMethod yX0_isEntered, Cond.selects RX0 yX0_isEntered yX0_isEntered, Cond.initialized RX0, Cond.code yX0_isEntered cX0_isEntered 3 (some .boolean), Cond.fieldLink RX0 21 "UnlikeBoats$Book" "races" "Ljava/util/ArrayList;", Cond.classLink RX0 73 "UnlikeBoats$Race", Cond.fieldLink RX0 59 "UnlikeBoats$Book" "now" "I", Cond.methodLink RX0 66 yX0_isRace, Cond.instanceMethod yX0_isRace, Cond.selects RX0 yX0_isRace yX0_isRace, Cond.code yX0_isRace cX0_isRace 2 (some .boolean), Cond.methodLink RX0 56 yJx4a65c_size_8abf5, Cond.instanceMethod yJx4a65c_size_8abf5, Cond.selects RJx4a65c yJx4a65c_size_8abf5 yJx4a65c_size_8abf5, Cond.initialized RJx4a65c, Cond.code yJx4a65c_size_8abf5 cJx4a65c_size_8abf5 1 (some .int)]
def wsX12_result_r2 : List Cond := [Cond.fieldLink RJx4a65c 48 "java/util/ArrayList" "size" "I", Cond.static yX12_within, Cond.initialized RX12, Cond.code yX12_within cX12_within 3 (some .boolean), Cond.methodLink RX0 78 yX0_isBoat, Cond.instanceMethod yX0_isBoat, Cond.selects RX0 yX0_isBoat yX0_isBoat, Cond.code yX0_isBoat cX0_isBoat 2 (some .boolean), Cond.fieldLink RX0 48 "UnlikeBoats$Book" "boats" "I", Cond.methodLink RX0 69 yJx4a65c_get_915e3, Cond.instanceMethod yJx4a65c_get_915e3, Cond.selects RJx4a65c yJx4a65c_get_915e3 yJx4a65c_get_915e3, Cond.code yJx4a65c_get_915e3 cJx4a65c_get_915e3 2 (some (.object "java/lang/Object")), Cond.methodLink RJx4a65c 118 yJ15_checkIndex_7cf53, Cond.static yJ15_checkIndex_7cf53, Cond.initialized RJ15, Cond.code yJ15_checkIndex_7cf53 cJ15_checkIndex_7cf53 2 (some .int), Cond.methodLink RJ15 105 yJ3_checkIndex_8e157, Cond.static yJ3_checkIndex_8e157, Cond.initialized RJ3, Cond.code yJ3_checkIndex_8e157 cJ3_checkIndex_8e157 3 (some .int), Cond.methodLink RJx4a65c 123 yJx4a65c_elementData_915e3, Cond.instanceMethod yJx4a65c_elementData_915e3, Cond.selects RJx4a65c yJx4a65c_elementData_915e3 yJx4a65c_elementData_915e3]
def wsX12_result_r3 : List Cond := [Cond.code yJx4a65c_elementData_915e3 cJx4a65c_elementData_915e3 2 (some (.object "java/lang/Object")), Cond.fieldLink RJx4a65c 9 "java/util/ArrayList" "elementData" "[Ljava/lang/Object;", Cond.methodLink RX0 81 yX5_isEnteredIn, Cond.instanceMethod yX5_isEnteredIn, Cond.selects RX5 yX5_isEnteredIn yX5_isEnteredIn, Cond.initialized RX5, Cond.code yX5_isEnteredIn cX5_isEnteredIn 3 (some .boolean), Cond.fieldLink RX5 9 "UnlikeBoats$Race" "entries" "[I", Cond.methodLink RX12 59 yX12_within, Cond.methodLink RX12 77 yJx4a65c_size_8abf5, Cond.methodLink RX12 159 yX6_init, Cond.instanceMethod yX6_init, Cond.code yX6_init cX6_init 6 none, Cond.methodLink RX6 1 objectInit, Cond.instanceMethod objectInit, Cond.code objectInit ⟨#[0xb1]⟩ 1 none, Cond.fieldLink RX6 7 "UnlikeBoats$Result" "race" "I", Cond.fieldLink RX6 13 "UnlikeBoats$Result" "boat" "I", Cond.fieldLink RX6 16 "UnlikeBoats$Result" "code" "I", Cond.fieldLink RX6 19 "UnlikeBoats$Result" "seconds" "I", Cond.fieldLink RX6 22 "UnlikeBoats$Result" "told" "I", Cond.methodLink RX12 88 yJx4a65c_add_9ea2d, Cond.instanceMethod yJx4a65c_add_9ea2d, Cond.selects RJx4a65c yJx4a65c_add_9ea2d yJx4a65c_add_9ea2d]
def wsX12_result_r4 : List Cond := [Cond.code yJx4a65c_add_9ea2d cJx4a65c_add_9ea2d 2 (some .boolean), Cond.fieldLink RJx4a65c 63 "java/util/ArrayList" "modCount" "I", Cond.sameField "java/util/ArrayList" "java/util/AbstractList" "modCount" "I", Cond.methodLink RJx4a65c 131 yJx4a65c_add_72be8, Cond.instanceMethod yJx4a65c_add_72be8, Cond.selects RJx4a65c yJx4a65c_add_72be8 yJx4a65c_add_72be8, Cond.code yJx4a65c_add_72be8 cJx4a65c_add_72be8 4 none, Cond.methodLink RJx4a65c 129 yJx4a65c_grow_d5877, Cond.instanceMethod yJx4a65c_grow_d5877, Cond.selects RJx4a65c yJx4a65c_grow_d5877 yJx4a65c_grow_d5877, Cond.code yJx4a65c_grow_d5877 cJx4a65c_grow_d5877 1 (some (.array (.object "java/lang/Object"))), Cond.methodLink RJx4a65c 69 yJx4a65c_grow_92f84, Cond.instanceMethod yJx4a65c_grow_92f84, Cond.selects RJx4a65c yJx4a65c_grow_92f84 yJx4a65c_grow_92f84, Cond.code yJx4a65c_grow_92f84 cJx4a65c_grow_92f84 4 (some (.array (.object "java/lang/Object"))), Cond.fieldLink RJx4a65c 39 "java/util/ArrayList" "DEFAULTCAPACITY_EMPTY_ELEMENTDATA" "[Ljava/lang/Object;", Cond.methodLink RJx4a65c 79 Lib.Math.max.name, Cond.static Lib.Math.max.name, Cond.initialized "java/lang/Math", Cond.code Lib.Math.max.name Lib.Math.max.code 2 (some .int), Cond.classLink RJx4a65c 7 "java/lang/Object", Cond.methodLink RJx4a65c 73 yJ8_newLength_cabcc, Cond.static yJ8_newLength_cabcc, Cond.initialized RJ8]
def wsX12_result_r5 : List Cond := [Cond.code yJ8_newLength_cabcc cJ8_newLength_cabcc 4 (some .int), Cond.methodLink RJ8 194 Lib.Math.max.name, Cond.constant RJ8 200 (2147483639), Cond.methodLink RJ8 201 yJ8_hugeLength_7cf53, Cond.static yJ8_hugeLength_7cf53, Cond.code yJ8_hugeLength_7cf53 cJ8_hugeLength_7cf53 3 (some .int), Cond.methodLink RJx4a65c 66 yJ7_copyOf_1904c, Cond.static yJ7_copyOf_1904c, Cond.initialized RJ7, Cond.code yJ7_copyOf_1904c cJ7_copyOf_1904c 2 (some (.array (.object "java/lang/Object"))), Cond.methodLink RJ7 86 ⟨"java/lang/Object", "getClass", "()Ljava/lang/Class;"⟩, Cond.selects "[Ljava/lang/Object;" ⟨"java/lang/Object", "getClass", "()Ljava/lang/Class;"⟩ ⟨"java/lang/Object", "getClass", "()Ljava/lang/Class;"⟩, Cond.instanceMethod ⟨"java/lang/Object", "getClass", "()Ljava/lang/Class;"⟩, Cond.native ⟨"java/lang/Object", "getClass", "()Ljava/lang/Class;"⟩, Cond.methodLink RJ7 300 yJ7_copyOf_6403c, Cond.static yJ7_copyOf_6403c, Cond.code yJ7_copyOf_6403c cJ7_copyOf_6403c 4 (some (.array (.object "java/lang/Object"))), Cond.classLink RJ7 110 "[Ljava/lang/Object;", Cond.classLink RJ7 2 "java/lang/Object", Cond.methodLink RJ7 304 Lib.Math.min.name, Cond.static Lib.Math.min.name, Cond.code Lib.Math.min.name Lib.Math.min.code 2 (some .int), Cond.methodLink RJ7 150 arraycopyName, Cond.native arraycopyName]
def wsX12_result_r6 : List Cond := [Cond.static arraycopyName, Cond.initialized "java/lang/System"]
def wsX12_result : List Cond := .code yX12_result cX12_result 6 (some .boolean) :: ((wsX12_result_r1 ++ (wsX12_result_r2 ++ (wsX12_result_r3 ++ (wsX12_result_r4 ++ (wsX12_result_r5 ++ wsX12_result_r6))))) ++ wsX120 ++ wsX00 ++ wsX60 ++ wsJx4a65c0 ++ wsX50)
def wsX12_coded_r1 : List Cond := [Cond.fieldLink RX12 10 "UnlikeBoats" "book" "LUnlikeBoats$Book;", Cond.fieldLink RX12 28 "UnlikeBoats" "sheet" "LUnlikeBoats$Sheet;", Cond.fieldLink RX12 169 "UnlikeBoats$Sheet" "codes" "[I", Cond.methodLink RX12 162 yX0_isCounted, Cond.instanceMethod yX0_isCounted, Cond.selects RX0 yX0_isCounted yX0_isCounted, Cond.initialized RX0, Cond.code yX0_isCounted cX0_isCounted 3 (some .boolean), Cond.fieldLink RX0 21 "UnlikeBoats$Book" "races" "Ljava/util/ArrayList;", Cond.classLink RX0 73 "UnlikeBoats$Race", Cond.fieldLink RX0 75 "UnlikeBoats$Race" "told" "I", Cond.methodLink RX0 62 yX0_isKnown, Cond.instanceMethod yX0_isKnown, Cond.selects RX0 yX0_isKnown yX0_isKnown, Cond.code yX0_isKnown cX0_isKnown 2 (some .boolean), Cond.fieldLink RX0 59 "UnlikeBoats$Book" "now" "I", Cond.static yX12_within, Cond.initialized RX12, Cond.code yX12_within cX12_within 3 (some .boolean), Cond.methodLink RX0 66 yX0_isRace, Cond.instanceMethod yX0_isRace, Cond.selects RX0 yX0_isRace yX0_isRace, Cond.code yX0_isRace cX0_isRace 2 (some .boolean), Cond.methodLink RX0 56 yJx4a65c_size_8abf5]
def wsX12_coded_r2 : List Cond := [Cond.instanceMethod yJx4a65c_size_8abf5, Cond.selects RJx4a65c yJx4a65c_size_8abf5 yJx4a65c_size_8abf5, Cond.initialized RJx4a65c, Cond.code yJx4a65c_size_8abf5 cJx4a65c_size_8abf5 1 (some .int), Cond.fieldLink RJx4a65c 48 "java/util/ArrayList" "size" "I", Cond.methodLink RX0 69 yJx4a65c_get_915e3, Cond.instanceMethod yJx4a65c_get_915e3, Cond.selects RJx4a65c yJx4a65c_get_915e3 yJx4a65c_get_915e3, Cond.code yJx4a65c_get_915e3 cJx4a65c_get_915e3 2 (some (.object "java/lang/Object")), Cond.methodLink RJx4a65c 118 yJ15_checkIndex_7cf53, Cond.static yJ15_checkIndex_7cf53, Cond.initialized RJ15, Cond.code yJ15_checkIndex_7cf53 cJ15_checkIndex_7cf53 2 (some .int), Cond.methodLink RJ15 105 yJ3_checkIndex_8e157, Cond.static yJ3_checkIndex_8e157, Cond.initialized RJ3, Cond.code yJ3_checkIndex_8e157 cJ3_checkIndex_8e157 3 (some .int), Cond.methodLink RJx4a65c 123 yJx4a65c_elementData_915e3, Cond.instanceMethod yJx4a65c_elementData_915e3, Cond.selects RJx4a65c yJx4a65c_elementData_915e3 yJx4a65c_elementData_915e3, Cond.code yJx4a65c_elementData_915e3 cJx4a65c_elementData_915e3 2 (some (.object "java/lang/Object")), Cond.fieldLink RJx4a65c 9 "java/util/ArrayList" "elementData" "[Ljava/lang/Object;", Cond.methodLink RX12 66 yX0_isBoat, Cond.instanceMethod yX0_isBoat]
def wsX12_coded_r3 : List Cond := [Cond.selects RX0 yX0_isBoat yX0_isBoat, Cond.code yX0_isBoat cX0_isBoat 2 (some .boolean), Cond.fieldLink RX0 48 "UnlikeBoats$Book" "boats" "I", Cond.methodLink RX12 165 yX9_readCodes, Cond.instanceMethod yX9_readCodes, Cond.selects RX9 yX9_readCodes yX9_readCodes, Cond.initialized RX9, Cond.code yX9_readCodes cX9_readCodes 6 none, Cond.fieldLink RX9 27 "UnlikeBoats$Sheet" "book" "LUnlikeBoats$Book;", Cond.fieldLink RX9 31 "UnlikeBoats$Book" "races" "Ljava/util/ArrayList;", Cond.classLink RX9 43 "UnlikeBoats$Race", Cond.fieldLink RX9 9 "UnlikeBoats$Sheet" "codes" "[I", Cond.fieldLink RX9 49 "UnlikeBoats$Book" "results" "Ljava/util/ArrayList;", Cond.classLink RX9 56 "UnlikeBoats$Result", Cond.fieldLink RX9 58 "UnlikeBoats$Result" "race" "I", Cond.fieldLink RX9 62 "UnlikeBoats$Result" "told" "I", Cond.fieldLink RX9 65 "UnlikeBoats$Result" "boat" "I", Cond.fieldLink RX9 68 "UnlikeBoats$Result" "code" "I", Cond.fieldLink RX9 15 "UnlikeBoats$Sheet" "seconds" "[I", Cond.fieldLink RX9 71 "UnlikeBoats$Result" "seconds" "I", Cond.methodLink RX9 37 yJx4a65c_get_915e3, Cond.methodLink RX9 45 yX5_isEnteredIn, Cond.instanceMethod yX5_isEnteredIn, Cond.selects RX5 yX5_isEnteredIn yX5_isEnteredIn]
def wsX12_coded_r4 : List Cond := [Cond.initialized RX5, Cond.code yX5_isEnteredIn cX5_isEnteredIn 3 (some .boolean), Cond.fieldLink RX5 9 "UnlikeBoats$Race" "entries" "[I", Cond.methodLink RX9 52 yJx4a65c_size_8abf5, Cond.methodLink RX9 73 yX0_disqualifiedIn, Cond.instanceMethod yX0_disqualifiedIn, Cond.selects RX0 yX0_disqualifiedIn yX0_disqualifiedIn, Cond.code yX0_disqualifiedIn cX0_disqualifiedIn 7 (some .int), Cond.fieldLink RX0 30 "UnlikeBoats$Book" "protests" "Ljava/util/ArrayList;", Cond.classLink RX0 85 "UnlikeBoats$Protest", Cond.fieldLink RX0 140 "UnlikeBoats$Protest" "race" "I", Cond.fieldLink RX0 146 "UnlikeBoats$Protest" "a" "I", Cond.fieldLink RX0 149 "UnlikeBoats$Protest" "b" "I", Cond.methodLink RX0 143 yX4_guiltyIn, Cond.instanceMethod yX4_guiltyIn, Cond.selects RX4 yX4_guiltyIn yX4_guiltyIn, Cond.initialized RX4, Cond.code yX4_guiltyIn cX4_guiltyIn 2 (some .int), Cond.fieldLink RX4 18 "UnlikeBoats$Protest" "decidedAnew" "I", Cond.fieldLink RX4 39 "UnlikeBoats$Protest" "guiltyAnew" "I", Cond.fieldLink RX4 15 "UnlikeBoats$Protest" "reopened" "I", Cond.fieldLink RX4 9 "UnlikeBoats$Protest" "decided" "I", Cond.fieldLink RX4 36 "UnlikeBoats$Protest" "guilty" "I"]
def wsX12_coded : List Cond := .code yX12_coded cX12_coded 4 (some .int) :: ((wsX12_coded_r1 ++ (wsX12_coded_r2 ++ (wsX12_coded_r3 ++ wsX12_coded_r4))) ++ wsX120 ++ wsX90 ++ wsX00 ++ wsX50 ++ wsJx4a65c0 ++ wsX60 ++ wsX40)
def wsX12_corrected_r1 : List Cond := [Cond.fieldLink RX12 10 "UnlikeBoats" "book" "LUnlikeBoats$Book;", Cond.constant RX12 172 (-1000000000), Cond.fieldLink RX12 28 "UnlikeBoats" "sheet" "LUnlikeBoats$Sheet;", Cond.fieldLink RX12 169 "UnlikeBoats$Sheet" "codes" "[I", Cond.fieldLink RX12 175 "UnlikeBoats$Sheet" "times" "[I", Cond.methodLink RX12 162 yX0_isCounted, Cond.instanceMethod yX0_isCounted, Cond.selects RX0 yX0_isCounted yX0_isCounted, Cond.initialized RX0, Cond.code yX0_isCounted cX0_isCounted 3 (some .boolean), Cond.fieldLink RX0 21 "UnlikeBoats$Book" "races" "Ljava/util/ArrayList;", Cond.classLink RX0 73 "UnlikeBoats$Race", Cond.fieldLink RX0 75 "UnlikeBoats$Race" "told" "I", Cond.methodLink RX0 62 yX0_isKnown, Cond.instanceMethod yX0_isKnown, Cond.selects RX0 yX0_isKnown yX0_isKnown, Cond.code yX0_isKnown cX0_isKnown 2 (some .boolean), Cond.fieldLink RX0 59 "UnlikeBoats$Book" "now" "I", Cond.static yX12_within, Cond.initialized RX12, Cond.code yX12_within cX12_within 3 (some .boolean), Cond.methodLink RX0 66 yX0_isRace, Cond.instanceMethod yX0_isRace, Cond.selects RX0 yX0_isRace yX0_isRace]
def wsX12_corrected_r2 : List Cond := [Cond.code yX0_isRace cX0_isRace 2 (some .boolean), Cond.methodLink RX0 56 yJx4a65c_size_8abf5, Cond.instanceMethod yJx4a65c_size_8abf5, Cond.selects RJx4a65c yJx4a65c_size_8abf5 yJx4a65c_size_8abf5, Cond.initialized RJx4a65c, Cond.code yJx4a65c_size_8abf5 cJx4a65c_size_8abf5 1 (some .int), Cond.fieldLink RJx4a65c 48 "java/util/ArrayList" "size" "I", Cond.methodLink RX0 69 yJx4a65c_get_915e3, Cond.instanceMethod yJx4a65c_get_915e3, Cond.selects RJx4a65c yJx4a65c_get_915e3 yJx4a65c_get_915e3, Cond.code yJx4a65c_get_915e3 cJx4a65c_get_915e3 2 (some (.object "java/lang/Object")), Cond.methodLink RJx4a65c 118 yJ15_checkIndex_7cf53, Cond.static yJ15_checkIndex_7cf53, Cond.initialized RJ15, Cond.code yJ15_checkIndex_7cf53 cJ15_checkIndex_7cf53 2 (some .int), Cond.methodLink RJ15 105 yJ3_checkIndex_8e157, Cond.static yJ3_checkIndex_8e157, Cond.initialized RJ3, Cond.code yJ3_checkIndex_8e157 cJ3_checkIndex_8e157 3 (some .int), Cond.methodLink RJx4a65c 123 yJx4a65c_elementData_915e3, Cond.instanceMethod yJx4a65c_elementData_915e3, Cond.selects RJx4a65c yJx4a65c_elementData_915e3 yJx4a65c_elementData_915e3, Cond.code yJx4a65c_elementData_915e3 cJx4a65c_elementData_915e3 2 (some (.object "java/lang/Object")), Cond.fieldLink RJx4a65c 9 "java/util/ArrayList" "elementData" "[Ljava/lang/Object;"]
def wsX12_corrected_r3 : List Cond := [Cond.methodLink RX12 66 yX0_isBoat, Cond.instanceMethod yX0_isBoat, Cond.selects RX0 yX0_isBoat yX0_isBoat, Cond.code yX0_isBoat cX0_isBoat 2 (some .boolean), Cond.fieldLink RX0 48 "UnlikeBoats$Book" "boats" "I", Cond.methodLink RX12 173 yX9_read, Cond.instanceMethod yX9_read, Cond.selects RX9 yX9_read yX9_read, Cond.initialized RX9, Cond.code yX9_read cX9_read 5 none, Cond.fieldLink RX9 27 "UnlikeBoats$Sheet" "book" "LUnlikeBoats$Book;", Cond.fieldLink RX9 31 "UnlikeBoats$Book" "races" "Ljava/util/ArrayList;", Cond.classLink RX9 43 "UnlikeBoats$Race", Cond.fieldLink RX9 81 "UnlikeBoats$Race" "day" "I", Cond.fieldLink RX9 87 "UnlikeBoats$Sheet" "law" "I", Cond.fieldLink RX9 94 "UnlikeBoats$Sheet" "entered" "I", Cond.fieldLink RX9 97 "UnlikeBoats$Sheet" "finished" "I", Cond.fieldLink RX9 9 "UnlikeBoats$Sheet" "codes" "[I", Cond.fieldLink RX9 18 "UnlikeBoats$Sheet" "numbers" "[I", Cond.fieldLink RX9 21 "UnlikeBoats$Sheet" "times" "[I", Cond.fieldLink RX9 104 "UnlikeBoats$Race" "way" "I", Cond.fieldLink RX9 15 "UnlikeBoats$Sheet" "seconds" "[I", Cond.fieldLink RX9 107 "UnlikeBoats$Race" "miles" "I", Cond.fieldLink RX9 24 "UnlikeBoats$Sheet" "places" "[I"]
def wsX12_corrected_r4 : List Cond := [Cond.methodLink RX9 77 yX9_readCodes, Cond.instanceMethod yX9_readCodes, Cond.selects RX9 yX9_readCodes yX9_readCodes, Cond.code yX9_readCodes cX9_readCodes 6 none, Cond.fieldLink RX9 49 "UnlikeBoats$Book" "results" "Ljava/util/ArrayList;", Cond.classLink RX9 56 "UnlikeBoats$Result", Cond.fieldLink RX9 58 "UnlikeBoats$Result" "race" "I", Cond.fieldLink RX9 62 "UnlikeBoats$Result" "told" "I", Cond.fieldLink RX9 65 "UnlikeBoats$Result" "boat" "I", Cond.fieldLink RX9 68 "UnlikeBoats$Result" "code" "I", Cond.fieldLink RX9 71 "UnlikeBoats$Result" "seconds" "I", Cond.methodLink RX9 37 yJx4a65c_get_915e3, Cond.methodLink RX9 45 yX5_isEnteredIn, Cond.instanceMethod yX5_isEnteredIn, Cond.selects RX5 yX5_isEnteredIn yX5_isEnteredIn, Cond.initialized RX5, Cond.code yX5_isEnteredIn cX5_isEnteredIn 3 (some .boolean), Cond.fieldLink RX5 9 "UnlikeBoats$Race" "entries" "[I", Cond.methodLink RX9 52 yJx4a65c_size_8abf5, Cond.methodLink RX9 73 yX0_disqualifiedIn, Cond.instanceMethod yX0_disqualifiedIn, Cond.selects RX0 yX0_disqualifiedIn yX0_disqualifiedIn, Cond.code yX0_disqualifiedIn cX0_disqualifiedIn 7 (some .int), Cond.fieldLink RX0 30 "UnlikeBoats$Book" "protests" "Ljava/util/ArrayList;"]
def wsX12_corrected_r5 : List Cond := [Cond.classLink RX0 85 "UnlikeBoats$Protest", Cond.fieldLink RX0 140 "UnlikeBoats$Protest" "race" "I", Cond.fieldLink RX0 146 "UnlikeBoats$Protest" "a" "I", Cond.fieldLink RX0 149 "UnlikeBoats$Protest" "b" "I", Cond.methodLink RX0 143 yX4_guiltyIn, Cond.instanceMethod yX4_guiltyIn, Cond.selects RX4 yX4_guiltyIn yX4_guiltyIn, Cond.initialized RX4, Cond.code yX4_guiltyIn cX4_guiltyIn 2 (some .int), Cond.fieldLink RX4 18 "UnlikeBoats$Protest" "decidedAnew" "I", Cond.fieldLink RX4 39 "UnlikeBoats$Protest" "guiltyAnew" "I", Cond.fieldLink RX4 15 "UnlikeBoats$Protest" "reopened" "I", Cond.fieldLink RX4 9 "UnlikeBoats$Protest" "decided" "I", Cond.fieldLink RX4 36 "UnlikeBoats$Protest" "guilty" "I", Cond.methodLink RX9 84 yX0_rulesOn, Cond.instanceMethod yX0_rulesOn, Cond.selects RX0 yX0_rulesOn yX0_rulesOn, Cond.code yX0_rulesOn cX0_rulesOn 7 (some .int), Cond.fieldLink RX0 18 "UnlikeBoats$Book" "rules" "Ljava/util/ArrayList;", Cond.classLink RX0 103 "UnlikeBoats$Rules", Cond.fieldLink RX0 105 "UnlikeBoats$Rules" "told" "I", Cond.fieldLink RX0 106 "UnlikeBoats$Rules" "from" "I", Cond.methodLink RX9 90 yX5_enteredIn, Cond.instanceMethod yX5_enteredIn]
def wsX12_corrected_r6 : List Cond := [Cond.selects RX5 yX5_enteredIn yX5_enteredIn, Cond.code yX5_enteredIn cX5_enteredIn 4 (some .int), Cond.methodLink RX5 55 yX5_isEnteredIn, Cond.methodLink RX9 100 yX0_numberOf, Cond.instanceMethod yX0_numberOf, Cond.selects RX0 yX0_numberOf yX0_numberOf, Cond.code yX0_numberOf cX0_numberOf 7 (some .int), Cond.fieldLink RX0 12 "UnlikeBoats$Book" "certificates" "Ljava/util/ArrayList;", Cond.classLink RX0 94 "UnlikeBoats$Certificate", Cond.fieldLink RX0 41 "UnlikeBoats$Book" "letters" "[I", Cond.fieldLink RX0 118 "UnlikeBoats$Certificate" "lon" "I", Cond.fieldLink RX0 121 "UnlikeBoats$Certificate" "area" "I", Cond.fieldLink RX0 124 "UnlikeBoats$Certificate" "weight" "I", Cond.fieldLink RX0 45 "UnlikeBoats$Book" "stack" "[I", Cond.methodLink RX0 107 yX0_rulesOn, Cond.methodLink RX0 111 yX0_certificateOn, Cond.instanceMethod yX0_certificateOn, Cond.selects RX0 yX0_certificateOn yX0_certificateOn, Cond.code yX0_certificateOn cX0_certificateOn 8 (some .int), Cond.fieldLink RX0 96 "UnlikeBoats$Certificate" "boat" "I", Cond.fieldLink RX0 99 "UnlikeBoats$Certificate" "told" "I", Cond.fieldLink RX0 100 "UnlikeBoats$Certificate" "from" "I", Cond.methodLink RX0 115 yX0_forgetLetters, Cond.instanceMethod yX0_forgetLetters]
def wsX12_corrected_r7 : List Cond := [Cond.selects RX0 yX0_forgetLetters yX0_forgetLetters, Cond.code yX0_forgetLetters cX0_forgetLetters 1 none, Cond.methodLink RX0 134 yJ7_fill_53178, Cond.static yJ7_fill_53178, Cond.initialized RJ7, Cond.code yJ7_fill_53178 cJ7_fill_53178 4 none, Cond.methodLink RX0 127 yX7_worthOf, Cond.instanceMethod yX7_worthOf, Cond.selects RX7 yX7_worthOf yX7_worthOf, Cond.initialized RX7, Cond.code yX7_worthOf cX7_worthOf 6 (some .int), Cond.fieldLink RX7 22 "UnlikeBoats$Rules" "labels" "[I", Cond.fieldLink RX7 28 "UnlikeBoats$Rules" "sums" "[I", Cond.fieldLink RX7 25 "UnlikeBoats$Rules" "begins" "[I", Cond.methodLink RX7 31 yX7_run, Cond.instanceMethod yX7_run, Cond.selects RX7 yX7_run yX7_run, Cond.code yX7_run cX7_run 9 (some .int), Cond.fieldLink RX7 18 "UnlikeBoats$Rules" "steps" "[I", Cond.methodLink RX7 35 yX7_asSign, Cond.static yX7_asSign, Cond.code yX7_asSign cX7_asSign 1 (some .int), Cond.methodLink RX7 39 yX7_join, Cond.static yX7_join]
def wsX12_corrected_r8 : List Cond := [Cond.code yX7_join cX7_join 5 (some .int), Cond.constantLong RX7 47 (10000000), Cond.constant RX7 49 (10000000), Cond.constantLong RX7 50 (-10000000), Cond.constant RX7 52 (-10000000), Cond.methodLink RX7 43 yX7_letterAt, Cond.static yX7_letterAt, Cond.code yX7_letterAt cX7_letterAt 2 (some .int), Cond.static yX12_held, Cond.code yX12_held cX12_held 3 (some .int), Cond.methodLink RX9 110 yX9_placeOf, Cond.instanceMethod yX9_placeOf, Cond.selects RX9 yX9_placeOf yX9_placeOf, Cond.code yX9_placeOf cX9_placeOf 5 (some .int)]
def wsX12_corrected : List Cond := .code yX12_corrected cX12_corrected 4 (some .int) :: ((wsX12_corrected_r1 ++ (wsX12_corrected_r2 ++ (wsX12_corrected_r3 ++ (wsX12_corrected_r4 ++ (wsX12_corrected_r5 ++ (wsX12_corrected_r6 ++ (wsX12_corrected_r7 ++ wsX12_corrected_r8))))))) ++ wsX120 ++ wsX90 ++ wsX00 ++ wsX50 ++ wsJx4a65c0 ++ wsX60 ++ wsX40 ++ wsX70 ++ wsX10)
def wsX12_placed_r1 : List Cond := [Cond.fieldLink RX12 10 "UnlikeBoats" "book" "LUnlikeBoats$Book;", Cond.fieldLink RX12 28 "UnlikeBoats" "sheet" "LUnlikeBoats$Sheet;", Cond.fieldLink RX12 169 "UnlikeBoats$Sheet" "codes" "[I", Cond.fieldLink RX12 178 "UnlikeBoats$Sheet" "places" "[I", Cond.methodLink RX12 162 yX0_isCounted, Cond.instanceMethod yX0_isCounted, Cond.selects RX0 yX0_isCounted yX0_isCounted, Cond.initialized RX0, Cond.code yX0_isCounted cX0_isCounted 3 (some .boolean), Cond.fieldLink RX0 21 "UnlikeBoats$Book" "races" "Ljava/util/ArrayList;", Cond.classLink RX0 73 "UnlikeBoats$Race", Cond.fieldLink RX0 75 "UnlikeBoats$Race" "told" "I", Cond.methodLink RX0 62 yX0_isKnown, Cond.instanceMethod yX0_isKnown, Cond.selects RX0 yX0_isKnown yX0_isKnown, Cond.code yX0_isKnown cX0_isKnown 2 (some .boolean), Cond.fieldLink RX0 59 "UnlikeBoats$Book" "now" "I", Cond.static yX12_within, Cond.initialized RX12, Cond.code yX12_within cX12_within 3 (some .boolean), Cond.methodLink RX0 66 yX0_isRace, Cond.instanceMethod yX0_isRace, Cond.selects RX0 yX0_isRace yX0_isRace, Cond.code yX0_isRace cX0_isRace 2 (some .boolean)]
def wsX12_placed_r2 : List Cond := [Cond.methodLink RX0 56 yJx4a65c_size_8abf5, Cond.instanceMethod yJx4a65c_size_8abf5, Cond.selects RJx4a65c yJx4a65c_size_8abf5 yJx4a65c_size_8abf5, Cond.initialized RJx4a65c, Cond.code yJx4a65c_size_8abf5 cJx4a65c_size_8abf5 1 (some .int), Cond.fieldLink RJx4a65c 48 "java/util/ArrayList" "size" "I", Cond.methodLink RX0 69 yJx4a65c_get_915e3, Cond.instanceMethod yJx4a65c_get_915e3, Cond.selects RJx4a65c yJx4a65c_get_915e3 yJx4a65c_get_915e3, Cond.code yJx4a65c_get_915e3 cJx4a65c_get_915e3 2 (some (.object "java/lang/Object")), Cond.methodLink RJx4a65c 118 yJ15_checkIndex_7cf53, Cond.static yJ15_checkIndex_7cf53, Cond.initialized RJ15, Cond.code yJ15_checkIndex_7cf53 cJ15_checkIndex_7cf53 2 (some .int), Cond.methodLink RJ15 105 yJ3_checkIndex_8e157, Cond.static yJ3_checkIndex_8e157, Cond.initialized RJ3, Cond.code yJ3_checkIndex_8e157 cJ3_checkIndex_8e157 3 (some .int), Cond.methodLink RJx4a65c 123 yJx4a65c_elementData_915e3, Cond.instanceMethod yJx4a65c_elementData_915e3, Cond.selects RJx4a65c yJx4a65c_elementData_915e3 yJx4a65c_elementData_915e3, Cond.code yJx4a65c_elementData_915e3 cJx4a65c_elementData_915e3 2 (some (.object "java/lang/Object")), Cond.fieldLink RJx4a65c 9 "java/util/ArrayList" "elementData" "[Ljava/lang/Object;", Cond.methodLink RX12 66 yX0_isBoat]
def wsX12_placed_r3 : List Cond := [Cond.instanceMethod yX0_isBoat, Cond.selects RX0 yX0_isBoat yX0_isBoat, Cond.code yX0_isBoat cX0_isBoat 2 (some .boolean), Cond.fieldLink RX0 48 "UnlikeBoats$Book" "boats" "I", Cond.methodLink RX12 173 yX9_read, Cond.instanceMethod yX9_read, Cond.selects RX9 yX9_read yX9_read, Cond.initialized RX9, Cond.code yX9_read cX9_read 5 none, Cond.fieldLink RX9 27 "UnlikeBoats$Sheet" "book" "LUnlikeBoats$Book;", Cond.fieldLink RX9 31 "UnlikeBoats$Book" "races" "Ljava/util/ArrayList;", Cond.classLink RX9 43 "UnlikeBoats$Race", Cond.fieldLink RX9 81 "UnlikeBoats$Race" "day" "I", Cond.fieldLink RX9 87 "UnlikeBoats$Sheet" "law" "I", Cond.fieldLink RX9 94 "UnlikeBoats$Sheet" "entered" "I", Cond.fieldLink RX9 97 "UnlikeBoats$Sheet" "finished" "I", Cond.fieldLink RX9 9 "UnlikeBoats$Sheet" "codes" "[I", Cond.fieldLink RX9 18 "UnlikeBoats$Sheet" "numbers" "[I", Cond.fieldLink RX9 21 "UnlikeBoats$Sheet" "times" "[I", Cond.fieldLink RX9 104 "UnlikeBoats$Race" "way" "I", Cond.fieldLink RX9 15 "UnlikeBoats$Sheet" "seconds" "[I", Cond.fieldLink RX9 107 "UnlikeBoats$Race" "miles" "I", Cond.fieldLink RX9 24 "UnlikeBoats$Sheet" "places" "[I", Cond.methodLink RX9 77 yX9_readCodes]
def wsX12_placed_r4 : List Cond := [Cond.instanceMethod yX9_readCodes, Cond.selects RX9 yX9_readCodes yX9_readCodes, Cond.code yX9_readCodes cX9_readCodes 6 none, Cond.fieldLink RX9 49 "UnlikeBoats$Book" "results" "Ljava/util/ArrayList;", Cond.classLink RX9 56 "UnlikeBoats$Result", Cond.fieldLink RX9 58 "UnlikeBoats$Result" "race" "I", Cond.fieldLink RX9 62 "UnlikeBoats$Result" "told" "I", Cond.fieldLink RX9 65 "UnlikeBoats$Result" "boat" "I", Cond.fieldLink RX9 68 "UnlikeBoats$Result" "code" "I", Cond.fieldLink RX9 71 "UnlikeBoats$Result" "seconds" "I", Cond.methodLink RX9 37 yJx4a65c_get_915e3, Cond.methodLink RX9 45 yX5_isEnteredIn, Cond.instanceMethod yX5_isEnteredIn, Cond.selects RX5 yX5_isEnteredIn yX5_isEnteredIn, Cond.initialized RX5, Cond.code yX5_isEnteredIn cX5_isEnteredIn 3 (some .boolean), Cond.fieldLink RX5 9 "UnlikeBoats$Race" "entries" "[I", Cond.methodLink RX9 52 yJx4a65c_size_8abf5, Cond.methodLink RX9 73 yX0_disqualifiedIn, Cond.instanceMethod yX0_disqualifiedIn, Cond.selects RX0 yX0_disqualifiedIn yX0_disqualifiedIn, Cond.code yX0_disqualifiedIn cX0_disqualifiedIn 7 (some .int), Cond.fieldLink RX0 30 "UnlikeBoats$Book" "protests" "Ljava/util/ArrayList;", Cond.classLink RX0 85 "UnlikeBoats$Protest"]
def wsX12_placed_r5 : List Cond := [Cond.fieldLink RX0 140 "UnlikeBoats$Protest" "race" "I", Cond.fieldLink RX0 146 "UnlikeBoats$Protest" "a" "I", Cond.fieldLink RX0 149 "UnlikeBoats$Protest" "b" "I", Cond.methodLink RX0 143 yX4_guiltyIn, Cond.instanceMethod yX4_guiltyIn, Cond.selects RX4 yX4_guiltyIn yX4_guiltyIn, Cond.initialized RX4, Cond.code yX4_guiltyIn cX4_guiltyIn 2 (some .int), Cond.fieldLink RX4 18 "UnlikeBoats$Protest" "decidedAnew" "I", Cond.fieldLink RX4 39 "UnlikeBoats$Protest" "guiltyAnew" "I", Cond.fieldLink RX4 15 "UnlikeBoats$Protest" "reopened" "I", Cond.fieldLink RX4 9 "UnlikeBoats$Protest" "decided" "I", Cond.fieldLink RX4 36 "UnlikeBoats$Protest" "guilty" "I", Cond.methodLink RX9 84 yX0_rulesOn, Cond.instanceMethod yX0_rulesOn, Cond.selects RX0 yX0_rulesOn yX0_rulesOn, Cond.code yX0_rulesOn cX0_rulesOn 7 (some .int), Cond.fieldLink RX0 18 "UnlikeBoats$Book" "rules" "Ljava/util/ArrayList;", Cond.classLink RX0 103 "UnlikeBoats$Rules", Cond.fieldLink RX0 105 "UnlikeBoats$Rules" "told" "I", Cond.fieldLink RX0 106 "UnlikeBoats$Rules" "from" "I", Cond.methodLink RX9 90 yX5_enteredIn, Cond.instanceMethod yX5_enteredIn, Cond.selects RX5 yX5_enteredIn yX5_enteredIn]
def wsX12_placed_r6 : List Cond := [Cond.code yX5_enteredIn cX5_enteredIn 4 (some .int), Cond.methodLink RX5 55 yX5_isEnteredIn, Cond.methodLink RX9 100 yX0_numberOf, Cond.instanceMethod yX0_numberOf, Cond.selects RX0 yX0_numberOf yX0_numberOf, Cond.code yX0_numberOf cX0_numberOf 7 (some .int), Cond.fieldLink RX0 12 "UnlikeBoats$Book" "certificates" "Ljava/util/ArrayList;", Cond.classLink RX0 94 "UnlikeBoats$Certificate", Cond.fieldLink RX0 41 "UnlikeBoats$Book" "letters" "[I", Cond.fieldLink RX0 118 "UnlikeBoats$Certificate" "lon" "I", Cond.fieldLink RX0 121 "UnlikeBoats$Certificate" "area" "I", Cond.fieldLink RX0 124 "UnlikeBoats$Certificate" "weight" "I", Cond.fieldLink RX0 45 "UnlikeBoats$Book" "stack" "[I", Cond.methodLink RX0 107 yX0_rulesOn, Cond.methodLink RX0 111 yX0_certificateOn, Cond.instanceMethod yX0_certificateOn, Cond.selects RX0 yX0_certificateOn yX0_certificateOn, Cond.code yX0_certificateOn cX0_certificateOn 8 (some .int), Cond.fieldLink RX0 96 "UnlikeBoats$Certificate" "boat" "I", Cond.fieldLink RX0 99 "UnlikeBoats$Certificate" "told" "I", Cond.fieldLink RX0 100 "UnlikeBoats$Certificate" "from" "I", Cond.methodLink RX0 115 yX0_forgetLetters, Cond.instanceMethod yX0_forgetLetters, Cond.selects RX0 yX0_forgetLetters yX0_forgetLetters]
def wsX12_placed_r7 : List Cond := [Cond.code yX0_forgetLetters cX0_forgetLetters 1 none, Cond.methodLink RX0 134 yJ7_fill_53178, Cond.static yJ7_fill_53178, Cond.initialized RJ7, Cond.code yJ7_fill_53178 cJ7_fill_53178 4 none, Cond.methodLink RX0 127 yX7_worthOf, Cond.instanceMethod yX7_worthOf, Cond.selects RX7 yX7_worthOf yX7_worthOf, Cond.initialized RX7, Cond.code yX7_worthOf cX7_worthOf 6 (some .int), Cond.fieldLink RX7 22 "UnlikeBoats$Rules" "labels" "[I", Cond.fieldLink RX7 28 "UnlikeBoats$Rules" "sums" "[I", Cond.fieldLink RX7 25 "UnlikeBoats$Rules" "begins" "[I", Cond.methodLink RX7 31 yX7_run, Cond.instanceMethod yX7_run, Cond.selects RX7 yX7_run yX7_run, Cond.code yX7_run cX7_run 9 (some .int), Cond.fieldLink RX7 18 "UnlikeBoats$Rules" "steps" "[I", Cond.methodLink RX7 35 yX7_asSign, Cond.static yX7_asSign, Cond.code yX7_asSign cX7_asSign 1 (some .int), Cond.methodLink RX7 39 yX7_join, Cond.static yX7_join, Cond.code yX7_join cX7_join 5 (some .int)]
def wsX12_placed_r8 : List Cond := [Cond.constantLong RX7 47 (10000000), Cond.constant RX7 49 (10000000), Cond.constantLong RX7 50 (-10000000), Cond.constant RX7 52 (-10000000), Cond.methodLink RX7 43 yX7_letterAt, Cond.static yX7_letterAt, Cond.code yX7_letterAt cX7_letterAt 2 (some .int), Cond.static yX12_held, Cond.code yX12_held cX12_held 3 (some .int), Cond.methodLink RX9 110 yX9_placeOf, Cond.instanceMethod yX9_placeOf, Cond.selects RX9 yX9_placeOf yX9_placeOf, Cond.code yX9_placeOf cX9_placeOf 5 (some .int)]
def wsX12_placed : List Cond := .code yX12_placed cX12_placed 4 (some .int) :: ((wsX12_placed_r1 ++ (wsX12_placed_r2 ++ (wsX12_placed_r3 ++ (wsX12_placed_r4 ++ (wsX12_placed_r5 ++ (wsX12_placed_r6 ++ (wsX12_placed_r7 ++ wsX12_placed_r8))))))) ++ wsX120 ++ wsX90 ++ wsX00 ++ wsX50 ++ wsJx4a65c0 ++ wsX60 ++ wsX40 ++ wsX70 ++ wsX10)
def wsX12_redress_r1 : List Cond := [Cond.fieldLink RX12 10 "UnlikeBoats" "book" "LUnlikeBoats$Book;", Cond.fieldLink RX12 181 "UnlikeBoats$Book" "redresses" "I", Cond.fieldLink RX12 127 "UnlikeBoats$Book" "races" "Ljava/util/ArrayList;", Cond.classLink RX12 130 "UnlikeBoats$Race", Cond.fieldLink RX12 184 "UnlikeBoats$Race" "redresses" "[I", Cond.fieldLink RX12 55 "UnlikeBoats$Book" "now" "I", Cond.methodLink RX12 146 yX0_isEntered, Cond.instanceMethod yX0_isEntered, Cond.selects RX0 yX0_isEntered yX0_isEntered, Cond.initialized RX0, Cond.code yX0_isEntered cX0_isEntered 3 (some .boolean), Cond.fieldLink RX0 21 "UnlikeBoats$Book" "races" "Ljava/util/ArrayList;", Cond.classLink RX0 73 "UnlikeBoats$Race", Cond.fieldLink RX0 59 "UnlikeBoats$Book" "now" "I", Cond.methodLink RX0 66 yX0_isRace, Cond.instanceMethod yX0_isRace, Cond.selects RX0 yX0_isRace yX0_isRace, Cond.code yX0_isRace cX0_isRace 2 (some .boolean), Cond.methodLink RX0 56 yJx4a65c_size_8abf5, Cond.instanceMethod yJx4a65c_size_8abf5, Cond.selects RJx4a65c yJx4a65c_size_8abf5 yJx4a65c_size_8abf5, Cond.initialized RJx4a65c, Cond.code yJx4a65c_size_8abf5 cJx4a65c_size_8abf5 1 (some .int), Cond.fieldLink RJx4a65c 48 "java/util/ArrayList" "size" "I"]
def wsX12_redress_r2 : List Cond := [Cond.static yX12_within, Cond.initialized RX12, Cond.code yX12_within cX12_within 3 (some .boolean), Cond.methodLink RX0 78 yX0_isBoat, Cond.instanceMethod yX0_isBoat, Cond.selects RX0 yX0_isBoat yX0_isBoat, Cond.code yX0_isBoat cX0_isBoat 2 (some .boolean), Cond.fieldLink RX0 48 "UnlikeBoats$Book" "boats" "I", Cond.methodLink RX0 69 yJx4a65c_get_915e3, Cond.instanceMethod yJx4a65c_get_915e3, Cond.selects RJx4a65c yJx4a65c_get_915e3 yJx4a65c_get_915e3, Cond.code yJx4a65c_get_915e3 cJx4a65c_get_915e3 2 (some (.object "java/lang/Object")), Cond.methodLink RJx4a65c 118 yJ15_checkIndex_7cf53, Cond.static yJ15_checkIndex_7cf53, Cond.initialized RJ15, Cond.code yJ15_checkIndex_7cf53 cJ15_checkIndex_7cf53 2 (some .int), Cond.methodLink RJ15 105 yJ3_checkIndex_8e157, Cond.static yJ3_checkIndex_8e157, Cond.initialized RJ3, Cond.code yJ3_checkIndex_8e157 cJ3_checkIndex_8e157 3 (some .int), Cond.methodLink RJx4a65c 123 yJx4a65c_elementData_915e3, Cond.instanceMethod yJx4a65c_elementData_915e3, Cond.selects RJx4a65c yJx4a65c_elementData_915e3 yJx4a65c_elementData_915e3, Cond.code yJx4a65c_elementData_915e3 cJx4a65c_elementData_915e3 2 (some (.object "java/lang/Object"))]
def wsX12_redress_r3 : List Cond := [Cond.fieldLink RJx4a65c 9 "java/util/ArrayList" "elementData" "[Ljava/lang/Object;", Cond.methodLink RX0 81 yX5_isEnteredIn, Cond.instanceMethod yX5_isEnteredIn, Cond.selects RX5 yX5_isEnteredIn yX5_isEnteredIn, Cond.initialized RX5, Cond.code yX5_isEnteredIn cX5_isEnteredIn 3 (some .boolean), Cond.fieldLink RX5 9 "UnlikeBoats$Race" "entries" "[I", Cond.methodLink RX12 138 yJx4a65c_get_915e3]
def wsX12_redress : List Cond := .code yX12_redress cX12_redress 4 (some .boolean) :: ((wsX12_redress_r1 ++ (wsX12_redress_r2 ++ wsX12_redress_r3)) ++ wsX120 ++ wsX00 ++ wsX50 ++ wsJx4a65c0)
def wsX12_points_r1 : List Cond := [Cond.fieldLink RX12 10 "UnlikeBoats" "book" "LUnlikeBoats$Book;", Cond.fieldLink RX12 37 "UnlikeBoats" "scores" "LUnlikeBoats$Scores;", Cond.methodLink RX12 162 yX0_isCounted, Cond.instanceMethod yX0_isCounted, Cond.selects RX0 yX0_isCounted yX0_isCounted, Cond.initialized RX0, Cond.code yX0_isCounted cX0_isCounted 3 (some .boolean), Cond.fieldLink RX0 21 "UnlikeBoats$Book" "races" "Ljava/util/ArrayList;", Cond.classLink RX0 73 "UnlikeBoats$Race", Cond.fieldLink RX0 75 "UnlikeBoats$Race" "told" "I", Cond.methodLink RX0 62 yX0_isKnown, Cond.instanceMethod yX0_isKnown, Cond.selects RX0 yX0_isKnown yX0_isKnown, Cond.code yX0_isKnown cX0_isKnown 2 (some .boolean), Cond.fieldLink RX0 59 "UnlikeBoats$Book" "now" "I", Cond.static yX12_within, Cond.initialized RX12, Cond.code yX12_within cX12_within 3 (some .boolean), Cond.methodLink RX0 66 yX0_isRace, Cond.instanceMethod yX0_isRace, Cond.selects RX0 yX0_isRace yX0_isRace, Cond.code yX0_isRace cX0_isRace 2 (some .boolean), Cond.methodLink RX0 56 yJx4a65c_size_8abf5, Cond.instanceMethod yJx4a65c_size_8abf5]
def wsX12_points_r2 : List Cond := [Cond.selects RJx4a65c yJx4a65c_size_8abf5 yJx4a65c_size_8abf5, Cond.initialized RJx4a65c, Cond.code yJx4a65c_size_8abf5 cJx4a65c_size_8abf5 1 (some .int), Cond.fieldLink RJx4a65c 48 "java/util/ArrayList" "size" "I", Cond.methodLink RX0 69 yJx4a65c_get_915e3, Cond.instanceMethod yJx4a65c_get_915e3, Cond.selects RJx4a65c yJx4a65c_get_915e3 yJx4a65c_get_915e3, Cond.code yJx4a65c_get_915e3 cJx4a65c_get_915e3 2 (some (.object "java/lang/Object")), Cond.methodLink RJx4a65c 118 yJ15_checkIndex_7cf53, Cond.static yJ15_checkIndex_7cf53, Cond.initialized RJ15, Cond.code yJ15_checkIndex_7cf53 cJ15_checkIndex_7cf53 2 (some .int), Cond.methodLink RJ15 105 yJ3_checkIndex_8e157, Cond.static yJ3_checkIndex_8e157, Cond.initialized RJ3, Cond.code yJ3_checkIndex_8e157 cJ3_checkIndex_8e157 3 (some .int), Cond.methodLink RJx4a65c 123 yJx4a65c_elementData_915e3, Cond.instanceMethod yJx4a65c_elementData_915e3, Cond.selects RJx4a65c yJx4a65c_elementData_915e3 yJx4a65c_elementData_915e3, Cond.code yJx4a65c_elementData_915e3 cJx4a65c_elementData_915e3 2 (some (.object "java/lang/Object")), Cond.fieldLink RJx4a65c 9 "java/util/ArrayList" "elementData" "[Ljava/lang/Object;", Cond.methodLink RX12 66 yX0_isBoat, Cond.instanceMethod yX0_isBoat, Cond.selects RX0 yX0_isBoat yX0_isBoat]
def wsX12_points_r3 : List Cond := [Cond.code yX0_isBoat cX0_isBoat 2 (some .boolean), Cond.fieldLink RX0 48 "UnlikeBoats$Book" "boats" "I", Cond.methodLink RX12 186 yX8_pointsIn, Cond.instanceMethod yX8_pointsIn, Cond.selects RX8 yX8_pointsIn yX8_pointsIn, Cond.initialized RX8, Cond.code yX8_pointsIn cX8_pointsIn 5 (some .int), Cond.fieldLink RX8 34 "UnlikeBoats$Scores" "book" "LUnlikeBoats$Book;", Cond.fieldLink RX8 42 "UnlikeBoats$Book" "races" "Ljava/util/ArrayList;", Cond.classLink RX8 54 "UnlikeBoats$Race", Cond.fieldLink RX8 38 "UnlikeBoats$Scores" "sheet" "LUnlikeBoats$Sheet;", Cond.fieldLink RX8 73 "UnlikeBoats$Scores" "races" "I", Cond.fieldLink RX8 9 "UnlikeBoats$Scores" "plain" "[I", Cond.methodLink RX8 48 yJx4a65c_get_915e3, Cond.methodLink RX8 56 yX5_isRedressedIn, Cond.instanceMethod yX5_isRedressedIn, Cond.selects RX5 yX5_isRedressedIn yX5_isRedressedIn, Cond.initialized RX5, Cond.code yX5_isRedressedIn cX5_isRedressedIn 3 (some .boolean), Cond.fieldLink RX5 15 "UnlikeBoats$Race" "redresses" "[I", Cond.methodLink RX8 60 yX9_read, Cond.instanceMethod yX9_read, Cond.selects RX9 yX9_read yX9_read, Cond.initialized RX9]
def wsX12_points_r4 : List Cond := [Cond.code yX9_read cX9_read 5 none, Cond.fieldLink RX9 27 "UnlikeBoats$Sheet" "book" "LUnlikeBoats$Book;", Cond.fieldLink RX9 31 "UnlikeBoats$Book" "races" "Ljava/util/ArrayList;", Cond.classLink RX9 43 "UnlikeBoats$Race", Cond.fieldLink RX9 81 "UnlikeBoats$Race" "day" "I", Cond.fieldLink RX9 87 "UnlikeBoats$Sheet" "law" "I", Cond.fieldLink RX9 94 "UnlikeBoats$Sheet" "entered" "I", Cond.fieldLink RX9 97 "UnlikeBoats$Sheet" "finished" "I", Cond.fieldLink RX9 9 "UnlikeBoats$Sheet" "codes" "[I", Cond.fieldLink RX9 18 "UnlikeBoats$Sheet" "numbers" "[I", Cond.fieldLink RX9 21 "UnlikeBoats$Sheet" "times" "[I", Cond.fieldLink RX9 104 "UnlikeBoats$Race" "way" "I", Cond.fieldLink RX9 15 "UnlikeBoats$Sheet" "seconds" "[I", Cond.fieldLink RX9 107 "UnlikeBoats$Race" "miles" "I", Cond.fieldLink RX9 24 "UnlikeBoats$Sheet" "places" "[I", Cond.methodLink RX9 77 yX9_readCodes, Cond.instanceMethod yX9_readCodes, Cond.selects RX9 yX9_readCodes yX9_readCodes, Cond.code yX9_readCodes cX9_readCodes 6 none, Cond.fieldLink RX9 49 "UnlikeBoats$Book" "results" "Ljava/util/ArrayList;", Cond.classLink RX9 56 "UnlikeBoats$Result", Cond.fieldLink RX9 58 "UnlikeBoats$Result" "race" "I", Cond.fieldLink RX9 62 "UnlikeBoats$Result" "told" "I", Cond.fieldLink RX9 65 "UnlikeBoats$Result" "boat" "I"]
def wsX12_points_r5 : List Cond := [Cond.fieldLink RX9 68 "UnlikeBoats$Result" "code" "I", Cond.fieldLink RX9 71 "UnlikeBoats$Result" "seconds" "I", Cond.methodLink RX9 37 yJx4a65c_get_915e3, Cond.methodLink RX9 45 yX5_isEnteredIn, Cond.instanceMethod yX5_isEnteredIn, Cond.selects RX5 yX5_isEnteredIn yX5_isEnteredIn, Cond.code yX5_isEnteredIn cX5_isEnteredIn 3 (some .boolean), Cond.fieldLink RX5 9 "UnlikeBoats$Race" "entries" "[I", Cond.methodLink RX9 52 yJx4a65c_size_8abf5, Cond.methodLink RX9 73 yX0_disqualifiedIn, Cond.instanceMethod yX0_disqualifiedIn, Cond.selects RX0 yX0_disqualifiedIn yX0_disqualifiedIn, Cond.code yX0_disqualifiedIn cX0_disqualifiedIn 7 (some .int), Cond.fieldLink RX0 30 "UnlikeBoats$Book" "protests" "Ljava/util/ArrayList;", Cond.classLink RX0 85 "UnlikeBoats$Protest", Cond.fieldLink RX0 140 "UnlikeBoats$Protest" "race" "I", Cond.fieldLink RX0 146 "UnlikeBoats$Protest" "a" "I", Cond.fieldLink RX0 149 "UnlikeBoats$Protest" "b" "I", Cond.methodLink RX0 143 yX4_guiltyIn, Cond.instanceMethod yX4_guiltyIn, Cond.selects RX4 yX4_guiltyIn yX4_guiltyIn, Cond.initialized RX4, Cond.code yX4_guiltyIn cX4_guiltyIn 2 (some .int), Cond.fieldLink RX4 18 "UnlikeBoats$Protest" "decidedAnew" "I"]
def wsX12_points_r6 : List Cond := [Cond.fieldLink RX4 39 "UnlikeBoats$Protest" "guiltyAnew" "I", Cond.fieldLink RX4 15 "UnlikeBoats$Protest" "reopened" "I", Cond.fieldLink RX4 9 "UnlikeBoats$Protest" "decided" "I", Cond.fieldLink RX4 36 "UnlikeBoats$Protest" "guilty" "I", Cond.methodLink RX9 84 yX0_rulesOn, Cond.instanceMethod yX0_rulesOn, Cond.selects RX0 yX0_rulesOn yX0_rulesOn, Cond.code yX0_rulesOn cX0_rulesOn 7 (some .int), Cond.fieldLink RX0 18 "UnlikeBoats$Book" "rules" "Ljava/util/ArrayList;", Cond.classLink RX0 103 "UnlikeBoats$Rules", Cond.fieldLink RX0 105 "UnlikeBoats$Rules" "told" "I", Cond.fieldLink RX0 106 "UnlikeBoats$Rules" "from" "I", Cond.methodLink RX9 90 yX5_enteredIn, Cond.instanceMethod yX5_enteredIn, Cond.selects RX5 yX5_enteredIn yX5_enteredIn, Cond.code yX5_enteredIn cX5_enteredIn 4 (some .int), Cond.methodLink RX5 55 yX5_isEnteredIn, Cond.methodLink RX9 100 yX0_numberOf, Cond.instanceMethod yX0_numberOf, Cond.selects RX0 yX0_numberOf yX0_numberOf, Cond.code yX0_numberOf cX0_numberOf 7 (some .int), Cond.fieldLink RX0 12 "UnlikeBoats$Book" "certificates" "Ljava/util/ArrayList;", Cond.classLink RX0 94 "UnlikeBoats$Certificate", Cond.fieldLink RX0 41 "UnlikeBoats$Book" "letters" "[I"]
def wsX12_points_r7 : List Cond := [Cond.fieldLink RX0 118 "UnlikeBoats$Certificate" "lon" "I", Cond.fieldLink RX0 121 "UnlikeBoats$Certificate" "area" "I", Cond.fieldLink RX0 124 "UnlikeBoats$Certificate" "weight" "I", Cond.fieldLink RX0 45 "UnlikeBoats$Book" "stack" "[I", Cond.methodLink RX0 107 yX0_rulesOn, Cond.methodLink RX0 111 yX0_certificateOn, Cond.instanceMethod yX0_certificateOn, Cond.selects RX0 yX0_certificateOn yX0_certificateOn, Cond.code yX0_certificateOn cX0_certificateOn 8 (some .int), Cond.fieldLink RX0 96 "UnlikeBoats$Certificate" "boat" "I", Cond.fieldLink RX0 99 "UnlikeBoats$Certificate" "told" "I", Cond.fieldLink RX0 100 "UnlikeBoats$Certificate" "from" "I", Cond.methodLink RX0 115 yX0_forgetLetters, Cond.instanceMethod yX0_forgetLetters, Cond.selects RX0 yX0_forgetLetters yX0_forgetLetters, Cond.code yX0_forgetLetters cX0_forgetLetters 1 none, Cond.methodLink RX0 134 yJ7_fill_53178, Cond.static yJ7_fill_53178, Cond.initialized RJ7, Cond.code yJ7_fill_53178 cJ7_fill_53178 4 none, Cond.methodLink RX0 127 yX7_worthOf, Cond.instanceMethod yX7_worthOf, Cond.selects RX7 yX7_worthOf yX7_worthOf, Cond.initialized RX7]
def wsX12_points_r8 : List Cond := [Cond.code yX7_worthOf cX7_worthOf 6 (some .int), Cond.fieldLink RX7 22 "UnlikeBoats$Rules" "labels" "[I", Cond.fieldLink RX7 28 "UnlikeBoats$Rules" "sums" "[I", Cond.fieldLink RX7 25 "UnlikeBoats$Rules" "begins" "[I", Cond.methodLink RX7 31 yX7_run, Cond.instanceMethod yX7_run, Cond.selects RX7 yX7_run yX7_run, Cond.code yX7_run cX7_run 9 (some .int), Cond.fieldLink RX7 18 "UnlikeBoats$Rules" "steps" "[I", Cond.methodLink RX7 35 yX7_asSign, Cond.static yX7_asSign, Cond.code yX7_asSign cX7_asSign 1 (some .int), Cond.methodLink RX7 39 yX7_join, Cond.static yX7_join, Cond.code yX7_join cX7_join 5 (some .int), Cond.constantLong RX7 47 (10000000), Cond.constant RX7 49 (10000000), Cond.constantLong RX7 50 (-10000000), Cond.constant RX7 52 (-10000000), Cond.methodLink RX7 43 yX7_letterAt, Cond.static yX7_letterAt, Cond.code yX7_letterAt cX7_letterAt 2 (some .int), Cond.static yX12_held, Cond.code yX12_held cX12_held 3 (some .int)]
def wsX12_points_r9 : List Cond := [Cond.methodLink RX9 110 yX9_placeOf, Cond.instanceMethod yX9_placeOf, Cond.selects RX9 yX9_placeOf yX9_placeOf, Cond.code yX9_placeOf cX9_placeOf 5 (some .int), Cond.methodLink RX8 66 yX9_plainPointsOf, Cond.instanceMethod yX9_plainPointsOf, Cond.selects RX9 yX9_plainPointsOf yX9_plainPointsOf, Cond.code yX9_plainPointsOf cX9_plainPointsOf 2 (some .int), Cond.fieldLink RX9 116 "UnlikeBoats$Book" "letters" "[I", Cond.methodLink RX9 113 yX0_forgetLetters, Cond.methodLink RX9 119 yX0_worthIn, Cond.instanceMethod yX0_worthIn, Cond.selects RX0 yX0_worthIn yX0_worthIn, Cond.code yX0_worthIn cX0_worthIn 3 (some .int), Cond.methodLink RX8 70 yX0_racesIn, Cond.instanceMethod yX0_racesIn, Cond.selects RX0 yX0_racesIn yX0_racesIn, Cond.code yX0_racesIn cX0_racesIn 4 (some .int), Cond.static yX12_cell, Cond.code yX12_cell cX12_cell 2 (some .int), Cond.methodLink RX8 80 yX8_meanBeside, Cond.instanceMethod yX8_meanBeside, Cond.selects RX8 yX8_meanBeside yX8_meanBeside, Cond.code yX8_meanBeside cX8_meanBeside 7 (some .int)]
def wsX12_points : List Cond := .code yX12_points cX12_points 4 (some .int) :: ((wsX12_points_r1 ++ (wsX12_points_r2 ++ (wsX12_points_r3 ++ (wsX12_points_r4 ++ (wsX12_points_r5 ++ (wsX12_points_r6 ++ (wsX12_points_r7 ++ (wsX12_points_r8 ++ wsX12_points_r9)))))))) ++ wsX120 ++ wsX00 ++ wsX50 ++ wsJx4a65c0 ++ wsX80 ++ wsX90 ++ wsX60 ++ wsX40 ++ wsX70 ++ wsX10)
def wsX12_thrown_r1 : List Cond := [Cond.fieldLink RX12 10 "UnlikeBoats" "book" "LUnlikeBoats$Book;", Cond.fieldLink RX12 37 "UnlikeBoats" "scores" "LUnlikeBoats$Scores;", Cond.fieldLink RX12 192 "UnlikeBoats$Scores" "scored" "[Z", Cond.fieldLink RX12 196 "UnlikeBoats$Scores" "out" "[Z", Cond.methodLink RX12 162 yX0_isCounted, Cond.instanceMethod yX0_isCounted, Cond.selects RX0 yX0_isCounted yX0_isCounted, Cond.initialized RX0, Cond.code yX0_isCounted cX0_isCounted 3 (some .boolean), Cond.fieldLink RX0 21 "UnlikeBoats$Book" "races" "Ljava/util/ArrayList;", Cond.classLink RX0 73 "UnlikeBoats$Race", Cond.fieldLink RX0 75 "UnlikeBoats$Race" "told" "I", Cond.methodLink RX0 62 yX0_isKnown, Cond.instanceMethod yX0_isKnown, Cond.selects RX0 yX0_isKnown yX0_isKnown, Cond.code yX0_isKnown cX0_isKnown 2 (some .boolean), Cond.fieldLink RX0 59 "UnlikeBoats$Book" "now" "I", Cond.static yX12_within, Cond.initialized RX12, Cond.code yX12_within cX12_within 3 (some .boolean), Cond.methodLink RX0 66 yX0_isRace, Cond.instanceMethod yX0_isRace, Cond.selects RX0 yX0_isRace yX0_isRace, Cond.code yX0_isRace cX0_isRace 2 (some .boolean)]
def wsX12_thrown_r2 : List Cond := [Cond.methodLink RX0 56 yJx4a65c_size_8abf5, Cond.instanceMethod yJx4a65c_size_8abf5, Cond.selects RJx4a65c yJx4a65c_size_8abf5 yJx4a65c_size_8abf5, Cond.initialized RJx4a65c, Cond.code yJx4a65c_size_8abf5 cJx4a65c_size_8abf5 1 (some .int), Cond.fieldLink RJx4a65c 48 "java/util/ArrayList" "size" "I", Cond.methodLink RX0 69 yJx4a65c_get_915e3, Cond.instanceMethod yJx4a65c_get_915e3, Cond.selects RJx4a65c yJx4a65c_get_915e3 yJx4a65c_get_915e3, Cond.code yJx4a65c_get_915e3 cJx4a65c_get_915e3 2 (some (.object "java/lang/Object")), Cond.methodLink RJx4a65c 118 yJ15_checkIndex_7cf53, Cond.static yJ15_checkIndex_7cf53, Cond.initialized RJ15, Cond.code yJ15_checkIndex_7cf53 cJ15_checkIndex_7cf53 2 (some .int), Cond.methodLink RJ15 105 yJ3_checkIndex_8e157, Cond.static yJ3_checkIndex_8e157, Cond.initialized RJ3, Cond.code yJ3_checkIndex_8e157 cJ3_checkIndex_8e157 3 (some .int), Cond.methodLink RJx4a65c 123 yJx4a65c_elementData_915e3, Cond.instanceMethod yJx4a65c_elementData_915e3, Cond.selects RJx4a65c yJx4a65c_elementData_915e3 yJx4a65c_elementData_915e3, Cond.code yJx4a65c_elementData_915e3 cJx4a65c_elementData_915e3 2 (some (.object "java/lang/Object")), Cond.fieldLink RJx4a65c 9 "java/util/ArrayList" "elementData" "[Ljava/lang/Object;", Cond.methodLink RX12 66 yX0_isBoat]
def wsX12_thrown_r3 : List Cond := [Cond.instanceMethod yX0_isBoat, Cond.selects RX0 yX0_isBoat yX0_isBoat, Cond.code yX0_isBoat cX0_isBoat 2 (some .boolean), Cond.fieldLink RX0 48 "UnlikeBoats$Book" "boats" "I", Cond.methodLink RX12 189 yX8_tally, Cond.instanceMethod yX8_tally, Cond.selects RX8 yX8_tally yX8_tally, Cond.initialized RX8, Cond.code yX8_tally cX8_tally 6 none, Cond.fieldLink RX8 34 "UnlikeBoats$Scores" "book" "LUnlikeBoats$Book;", Cond.fieldLink RX8 73 "UnlikeBoats$Scores" "races" "I", Cond.fieldLink RX8 22 "UnlikeBoats$Scores" "scored" "[Z", Cond.fieldLink RX8 38 "UnlikeBoats$Scores" "sheet" "LUnlikeBoats$Sheet;", Cond.fieldLink RX8 84 "UnlikeBoats$Book" "boats" "I", Cond.fieldLink RX8 87 "UnlikeBoats$Sheet" "codes" "[I", Cond.fieldLink RX8 9 "UnlikeBoats$Scores" "plain" "[I", Cond.fieldLink RX8 42 "UnlikeBoats$Book" "races" "Ljava/util/ArrayList;", Cond.classLink RX8 54 "UnlikeBoats$Race", Cond.fieldLink RX8 15 "UnlikeBoats$Scores" "points" "[I", Cond.methodLink RX8 70 yX0_racesIn, Cond.instanceMethod yX0_racesIn, Cond.selects RX0 yX0_racesIn yX0_racesIn, Cond.code yX0_racesIn cX0_racesIn 4 (some .int), Cond.methodLink RX8 60 yX9_read]
def wsX12_thrown_r4 : List Cond := [Cond.instanceMethod yX9_read, Cond.selects RX9 yX9_read yX9_read, Cond.initialized RX9, Cond.code yX9_read cX9_read 5 none, Cond.fieldLink RX9 27 "UnlikeBoats$Sheet" "book" "LUnlikeBoats$Book;", Cond.fieldLink RX9 31 "UnlikeBoats$Book" "races" "Ljava/util/ArrayList;", Cond.classLink RX9 43 "UnlikeBoats$Race", Cond.fieldLink RX9 81 "UnlikeBoats$Race" "day" "I", Cond.fieldLink RX9 87 "UnlikeBoats$Sheet" "law" "I", Cond.fieldLink RX9 94 "UnlikeBoats$Sheet" "entered" "I", Cond.fieldLink RX9 97 "UnlikeBoats$Sheet" "finished" "I", Cond.fieldLink RX9 9 "UnlikeBoats$Sheet" "codes" "[I", Cond.fieldLink RX9 18 "UnlikeBoats$Sheet" "numbers" "[I", Cond.fieldLink RX9 21 "UnlikeBoats$Sheet" "times" "[I", Cond.fieldLink RX9 104 "UnlikeBoats$Race" "way" "I", Cond.fieldLink RX9 15 "UnlikeBoats$Sheet" "seconds" "[I", Cond.fieldLink RX9 107 "UnlikeBoats$Race" "miles" "I", Cond.fieldLink RX9 24 "UnlikeBoats$Sheet" "places" "[I", Cond.methodLink RX9 77 yX9_readCodes, Cond.instanceMethod yX9_readCodes, Cond.selects RX9 yX9_readCodes yX9_readCodes, Cond.code yX9_readCodes cX9_readCodes 6 none, Cond.fieldLink RX9 49 "UnlikeBoats$Book" "results" "Ljava/util/ArrayList;", Cond.classLink RX9 56 "UnlikeBoats$Result"]
def wsX12_thrown_r5 : List Cond := [Cond.fieldLink RX9 58 "UnlikeBoats$Result" "race" "I", Cond.fieldLink RX9 62 "UnlikeBoats$Result" "told" "I", Cond.fieldLink RX9 65 "UnlikeBoats$Result" "boat" "I", Cond.fieldLink RX9 68 "UnlikeBoats$Result" "code" "I", Cond.fieldLink RX9 71 "UnlikeBoats$Result" "seconds" "I", Cond.methodLink RX9 37 yJx4a65c_get_915e3, Cond.methodLink RX9 45 yX5_isEnteredIn, Cond.instanceMethod yX5_isEnteredIn, Cond.selects RX5 yX5_isEnteredIn yX5_isEnteredIn, Cond.initialized RX5, Cond.code yX5_isEnteredIn cX5_isEnteredIn 3 (some .boolean), Cond.fieldLink RX5 9 "UnlikeBoats$Race" "entries" "[I", Cond.methodLink RX9 52 yJx4a65c_size_8abf5, Cond.methodLink RX9 73 yX0_disqualifiedIn, Cond.instanceMethod yX0_disqualifiedIn, Cond.selects RX0 yX0_disqualifiedIn yX0_disqualifiedIn, Cond.code yX0_disqualifiedIn cX0_disqualifiedIn 7 (some .int), Cond.fieldLink RX0 30 "UnlikeBoats$Book" "protests" "Ljava/util/ArrayList;", Cond.classLink RX0 85 "UnlikeBoats$Protest", Cond.fieldLink RX0 140 "UnlikeBoats$Protest" "race" "I", Cond.fieldLink RX0 146 "UnlikeBoats$Protest" "a" "I", Cond.fieldLink RX0 149 "UnlikeBoats$Protest" "b" "I", Cond.methodLink RX0 143 yX4_guiltyIn, Cond.instanceMethod yX4_guiltyIn]
def wsX12_thrown_r6 : List Cond := [Cond.selects RX4 yX4_guiltyIn yX4_guiltyIn, Cond.initialized RX4, Cond.code yX4_guiltyIn cX4_guiltyIn 2 (some .int), Cond.fieldLink RX4 18 "UnlikeBoats$Protest" "decidedAnew" "I", Cond.fieldLink RX4 39 "UnlikeBoats$Protest" "guiltyAnew" "I", Cond.fieldLink RX4 15 "UnlikeBoats$Protest" "reopened" "I", Cond.fieldLink RX4 9 "UnlikeBoats$Protest" "decided" "I", Cond.fieldLink RX4 36 "UnlikeBoats$Protest" "guilty" "I", Cond.methodLink RX9 84 yX0_rulesOn, Cond.instanceMethod yX0_rulesOn, Cond.selects RX0 yX0_rulesOn yX0_rulesOn, Cond.code yX0_rulesOn cX0_rulesOn 7 (some .int), Cond.fieldLink RX0 18 "UnlikeBoats$Book" "rules" "Ljava/util/ArrayList;", Cond.classLink RX0 103 "UnlikeBoats$Rules", Cond.fieldLink RX0 105 "UnlikeBoats$Rules" "told" "I", Cond.fieldLink RX0 106 "UnlikeBoats$Rules" "from" "I", Cond.methodLink RX9 90 yX5_enteredIn, Cond.instanceMethod yX5_enteredIn, Cond.selects RX5 yX5_enteredIn yX5_enteredIn, Cond.code yX5_enteredIn cX5_enteredIn 4 (some .int), Cond.methodLink RX5 55 yX5_isEnteredIn, Cond.methodLink RX9 100 yX0_numberOf, Cond.instanceMethod yX0_numberOf, Cond.selects RX0 yX0_numberOf yX0_numberOf]
def wsX12_thrown_r7 : List Cond := [Cond.code yX0_numberOf cX0_numberOf 7 (some .int), Cond.fieldLink RX0 12 "UnlikeBoats$Book" "certificates" "Ljava/util/ArrayList;", Cond.classLink RX0 94 "UnlikeBoats$Certificate", Cond.fieldLink RX0 41 "UnlikeBoats$Book" "letters" "[I", Cond.fieldLink RX0 118 "UnlikeBoats$Certificate" "lon" "I", Cond.fieldLink RX0 121 "UnlikeBoats$Certificate" "area" "I", Cond.fieldLink RX0 124 "UnlikeBoats$Certificate" "weight" "I", Cond.fieldLink RX0 45 "UnlikeBoats$Book" "stack" "[I", Cond.methodLink RX0 107 yX0_rulesOn, Cond.methodLink RX0 111 yX0_certificateOn, Cond.instanceMethod yX0_certificateOn, Cond.selects RX0 yX0_certificateOn yX0_certificateOn, Cond.code yX0_certificateOn cX0_certificateOn 8 (some .int), Cond.fieldLink RX0 96 "UnlikeBoats$Certificate" "boat" "I", Cond.fieldLink RX0 99 "UnlikeBoats$Certificate" "told" "I", Cond.fieldLink RX0 100 "UnlikeBoats$Certificate" "from" "I", Cond.methodLink RX0 115 yX0_forgetLetters, Cond.instanceMethod yX0_forgetLetters, Cond.selects RX0 yX0_forgetLetters yX0_forgetLetters, Cond.code yX0_forgetLetters cX0_forgetLetters 1 none, Cond.methodLink RX0 134 yJ7_fill_53178, Cond.static yJ7_fill_53178, Cond.initialized RJ7, Cond.code yJ7_fill_53178 cJ7_fill_53178 4 none]
def wsX12_thrown_r8 : List Cond := [Cond.methodLink RX0 127 yX7_worthOf, Cond.instanceMethod yX7_worthOf, Cond.selects RX7 yX7_worthOf yX7_worthOf, Cond.initialized RX7, Cond.code yX7_worthOf cX7_worthOf 6 (some .int), Cond.fieldLink RX7 22 "UnlikeBoats$Rules" "labels" "[I", Cond.fieldLink RX7 28 "UnlikeBoats$Rules" "sums" "[I", Cond.fieldLink RX7 25 "UnlikeBoats$Rules" "begins" "[I", Cond.methodLink RX7 31 yX7_run, Cond.instanceMethod yX7_run, Cond.selects RX7 yX7_run yX7_run, Cond.code yX7_run cX7_run 9 (some .int), Cond.fieldLink RX7 18 "UnlikeBoats$Rules" "steps" "[I", Cond.methodLink RX7 35 yX7_asSign, Cond.static yX7_asSign, Cond.code yX7_asSign cX7_asSign 1 (some .int), Cond.methodLink RX7 39 yX7_join, Cond.static yX7_join, Cond.code yX7_join cX7_join 5 (some .int), Cond.constantLong RX7 47 (10000000), Cond.constant RX7 49 (10000000), Cond.constantLong RX7 50 (-10000000), Cond.constant RX7 52 (-10000000), Cond.methodLink RX7 43 yX7_letterAt]
def wsX12_thrown_r9 : List Cond := [Cond.static yX7_letterAt, Cond.code yX7_letterAt cX7_letterAt 2 (some .int), Cond.static yX12_held, Cond.code yX12_held cX12_held 3 (some .int), Cond.methodLink RX9 110 yX9_placeOf, Cond.instanceMethod yX9_placeOf, Cond.selects RX9 yX9_placeOf yX9_placeOf, Cond.code yX9_placeOf cX9_placeOf 5 (some .int), Cond.static yX12_cell, Cond.code yX12_cell cX12_cell 2 (some .int), Cond.methodLink RX8 66 yX9_plainPointsOf, Cond.instanceMethod yX9_plainPointsOf, Cond.selects RX9 yX9_plainPointsOf yX9_plainPointsOf, Cond.code yX9_plainPointsOf cX9_plainPointsOf 2 (some .int), Cond.fieldLink RX9 116 "UnlikeBoats$Book" "letters" "[I", Cond.methodLink RX9 113 yX0_forgetLetters, Cond.methodLink RX9 119 yX0_worthIn, Cond.instanceMethod yX0_worthIn, Cond.selects RX0 yX0_worthIn yX0_worthIn, Cond.code yX0_worthIn cX0_worthIn 3 (some .int), Cond.methodLink RX8 90 yX8_throwOutsIn, Cond.instanceMethod yX8_throwOutsIn, Cond.selects RX8 yX8_throwOutsIn yX8_throwOutsIn, Cond.code yX8_throwOutsIn cX8_throwOutsIn 3 (some .int)]
def wsX12_thrown_r10 : List Cond := [Cond.fieldLink RX8 99 "UnlikeBoats$Book" "letters" "[I", Cond.methodLink RX8 109 Lib.Math.max.name, Cond.static Lib.Math.max.name, Cond.initialized "java/lang/Math", Cond.code Lib.Math.max.name Lib.Math.max.code 2 (some .int), Cond.methodLink RX8 96 yX0_forgetLetters, Cond.methodLink RX8 102 yX0_rulesOn, Cond.methodLink RX8 105 yX0_worthIn, Cond.methodLink RX8 48 yJx4a65c_get_915e3, Cond.methodLink RX8 56 yX5_isRedressedIn, Cond.instanceMethod yX5_isRedressedIn, Cond.selects RX5 yX5_isRedressedIn yX5_isRedressedIn, Cond.code yX5_isRedressedIn cX5_isRedressedIn 3 (some .boolean), Cond.fieldLink RX5 15 "UnlikeBoats$Race" "redresses" "[I", Cond.methodLink RX8 80 yX8_meanBeside, Cond.instanceMethod yX8_meanBeside, Cond.selects RX8 yX8_meanBeside yX8_meanBeside, Cond.code yX8_meanBeside cX8_meanBeside 7 (some .int), Cond.methodLink RX8 93 yX8_throwOut, Cond.instanceMethod yX8_throwOut, Cond.selects RX8 yX8_throwOut yX8_throwOut, Cond.code yX8_throwOut cX8_throwOut 6 none, Cond.fieldLink RX8 18 "UnlikeBoats$Scores" "out" "[Z", Cond.fieldLink RX8 25 "UnlikeBoats$Scores" "totals" "[I"]
def wsX12_thrown_r11 : List Cond := [Cond.methodLink RX8 117 yX8_worstOf, Cond.instanceMethod yX8_worstOf, Cond.selects RX8 yX8_worstOf yX8_worstOf, Cond.code yX8_worstOf cX8_worstOf 6 (some .int), Cond.methodLink RX12 199 yX12_cell]
def wsX12_thrown : List Cond := .code yX12_thrown cX12_thrown 4 (some .int) :: ((wsX12_thrown_r1 ++ (wsX12_thrown_r2 ++ (wsX12_thrown_r3 ++ (wsX12_thrown_r4 ++ (wsX12_thrown_r5 ++ (wsX12_thrown_r6 ++ (wsX12_thrown_r7 ++ (wsX12_thrown_r8 ++ (wsX12_thrown_r9 ++ (wsX12_thrown_r10 ++ wsX12_thrown_r11)))))))))) ++ wsX120 ++ wsX80 ++ wsX00 ++ wsX50 ++ wsJx4a65c0 ++ wsX90 ++ wsX60 ++ wsX40 ++ wsX70 ++ wsX10)
def wsX12_total_r1 : List Cond := [Cond.fieldLink RX12 10 "UnlikeBoats" "book" "LUnlikeBoats$Book;", Cond.fieldLink RX12 37 "UnlikeBoats" "scores" "LUnlikeBoats$Scores;", Cond.fieldLink RX12 192 "UnlikeBoats$Scores" "scored" "[Z", Cond.fieldLink RX12 202 "UnlikeBoats$Scores" "totals" "[I", Cond.methodLink RX12 66 yX0_isBoat, Cond.instanceMethod yX0_isBoat, Cond.selects RX0 yX0_isBoat yX0_isBoat, Cond.initialized RX0, Cond.code yX0_isBoat cX0_isBoat 2 (some .boolean), Cond.fieldLink RX0 48 "UnlikeBoats$Book" "boats" "I", Cond.static yX12_within, Cond.initialized RX12, Cond.code yX12_within cX12_within 3 (some .boolean), Cond.methodLink RX12 92 yX0_isKnown, Cond.instanceMethod yX0_isKnown, Cond.selects RX0 yX0_isKnown yX0_isKnown, Cond.code yX0_isKnown cX0_isKnown 2 (some .boolean), Cond.fieldLink RX0 59 "UnlikeBoats$Book" "now" "I", Cond.methodLink RX12 189 yX8_tally, Cond.instanceMethod yX8_tally, Cond.selects RX8 yX8_tally yX8_tally, Cond.initialized RX8, Cond.code yX8_tally cX8_tally 6 none, Cond.fieldLink RX8 34 "UnlikeBoats$Scores" "book" "LUnlikeBoats$Book;"]
def wsX12_total_r2 : List Cond := [Cond.fieldLink RX8 73 "UnlikeBoats$Scores" "races" "I", Cond.fieldLink RX8 22 "UnlikeBoats$Scores" "scored" "[Z", Cond.fieldLink RX8 38 "UnlikeBoats$Scores" "sheet" "LUnlikeBoats$Sheet;", Cond.fieldLink RX8 84 "UnlikeBoats$Book" "boats" "I", Cond.fieldLink RX8 87 "UnlikeBoats$Sheet" "codes" "[I", Cond.fieldLink RX8 9 "UnlikeBoats$Scores" "plain" "[I", Cond.fieldLink RX8 42 "UnlikeBoats$Book" "races" "Ljava/util/ArrayList;", Cond.classLink RX8 54 "UnlikeBoats$Race", Cond.fieldLink RX8 15 "UnlikeBoats$Scores" "points" "[I", Cond.methodLink RX8 70 yX0_racesIn, Cond.instanceMethod yX0_racesIn, Cond.selects RX0 yX0_racesIn yX0_racesIn, Cond.code yX0_racesIn cX0_racesIn 4 (some .int), Cond.fieldLink RX0 21 "UnlikeBoats$Book" "races" "Ljava/util/ArrayList;", Cond.classLink RX0 73 "UnlikeBoats$Race", Cond.fieldLink RX0 75 "UnlikeBoats$Race" "told" "I", Cond.methodLink RX0 56 yJx4a65c_size_8abf5, Cond.instanceMethod yJx4a65c_size_8abf5, Cond.selects RJx4a65c yJx4a65c_size_8abf5 yJx4a65c_size_8abf5, Cond.initialized RJx4a65c, Cond.code yJx4a65c_size_8abf5 cJx4a65c_size_8abf5 1 (some .int), Cond.fieldLink RJx4a65c 48 "java/util/ArrayList" "size" "I", Cond.methodLink RX0 69 yJx4a65c_get_915e3, Cond.instanceMethod yJx4a65c_get_915e3]
def wsX12_total_r3 : List Cond := [Cond.selects RJx4a65c yJx4a65c_get_915e3 yJx4a65c_get_915e3, Cond.code yJx4a65c_get_915e3 cJx4a65c_get_915e3 2 (some (.object "java/lang/Object")), Cond.methodLink RJx4a65c 118 yJ15_checkIndex_7cf53, Cond.static yJ15_checkIndex_7cf53, Cond.initialized RJ15, Cond.code yJ15_checkIndex_7cf53 cJ15_checkIndex_7cf53 2 (some .int), Cond.methodLink RJ15 105 yJ3_checkIndex_8e157, Cond.static yJ3_checkIndex_8e157, Cond.initialized RJ3, Cond.code yJ3_checkIndex_8e157 cJ3_checkIndex_8e157 3 (some .int), Cond.methodLink RJx4a65c 123 yJx4a65c_elementData_915e3, Cond.instanceMethod yJx4a65c_elementData_915e3, Cond.selects RJx4a65c yJx4a65c_elementData_915e3 yJx4a65c_elementData_915e3, Cond.code yJx4a65c_elementData_915e3 cJx4a65c_elementData_915e3 2 (some (.object "java/lang/Object")), Cond.fieldLink RJx4a65c 9 "java/util/ArrayList" "elementData" "[Ljava/lang/Object;", Cond.methodLink RX8 60 yX9_read, Cond.instanceMethod yX9_read, Cond.selects RX9 yX9_read yX9_read, Cond.initialized RX9, Cond.code yX9_read cX9_read 5 none, Cond.fieldLink RX9 27 "UnlikeBoats$Sheet" "book" "LUnlikeBoats$Book;", Cond.fieldLink RX9 31 "UnlikeBoats$Book" "races" "Ljava/util/ArrayList;", Cond.classLink RX9 43 "UnlikeBoats$Race", Cond.fieldLink RX9 81 "UnlikeBoats$Race" "day" "I"]
def wsX12_total_r4 : List Cond := [Cond.fieldLink RX9 87 "UnlikeBoats$Sheet" "law" "I", Cond.fieldLink RX9 94 "UnlikeBoats$Sheet" "entered" "I", Cond.fieldLink RX9 97 "UnlikeBoats$Sheet" "finished" "I", Cond.fieldLink RX9 9 "UnlikeBoats$Sheet" "codes" "[I", Cond.fieldLink RX9 18 "UnlikeBoats$Sheet" "numbers" "[I", Cond.fieldLink RX9 21 "UnlikeBoats$Sheet" "times" "[I", Cond.fieldLink RX9 104 "UnlikeBoats$Race" "way" "I", Cond.fieldLink RX9 15 "UnlikeBoats$Sheet" "seconds" "[I", Cond.fieldLink RX9 107 "UnlikeBoats$Race" "miles" "I", Cond.fieldLink RX9 24 "UnlikeBoats$Sheet" "places" "[I", Cond.methodLink RX9 77 yX9_readCodes, Cond.instanceMethod yX9_readCodes, Cond.selects RX9 yX9_readCodes yX9_readCodes, Cond.code yX9_readCodes cX9_readCodes 6 none, Cond.fieldLink RX9 49 "UnlikeBoats$Book" "results" "Ljava/util/ArrayList;", Cond.classLink RX9 56 "UnlikeBoats$Result", Cond.fieldLink RX9 58 "UnlikeBoats$Result" "race" "I", Cond.fieldLink RX9 62 "UnlikeBoats$Result" "told" "I", Cond.fieldLink RX9 65 "UnlikeBoats$Result" "boat" "I", Cond.fieldLink RX9 68 "UnlikeBoats$Result" "code" "I", Cond.fieldLink RX9 71 "UnlikeBoats$Result" "seconds" "I", Cond.methodLink RX9 37 yJx4a65c_get_915e3, Cond.methodLink RX9 45 yX5_isEnteredIn, Cond.instanceMethod yX5_isEnteredIn]
def wsX12_total_r5 : List Cond := [Cond.selects RX5 yX5_isEnteredIn yX5_isEnteredIn, Cond.initialized RX5, Cond.code yX5_isEnteredIn cX5_isEnteredIn 3 (some .boolean), Cond.fieldLink RX5 9 "UnlikeBoats$Race" "entries" "[I", Cond.methodLink RX9 52 yJx4a65c_size_8abf5, Cond.methodLink RX9 73 yX0_disqualifiedIn, Cond.instanceMethod yX0_disqualifiedIn, Cond.selects RX0 yX0_disqualifiedIn yX0_disqualifiedIn, Cond.code yX0_disqualifiedIn cX0_disqualifiedIn 7 (some .int), Cond.fieldLink RX0 30 "UnlikeBoats$Book" "protests" "Ljava/util/ArrayList;", Cond.classLink RX0 85 "UnlikeBoats$Protest", Cond.fieldLink RX0 140 "UnlikeBoats$Protest" "race" "I", Cond.fieldLink RX0 146 "UnlikeBoats$Protest" "a" "I", Cond.fieldLink RX0 149 "UnlikeBoats$Protest" "b" "I", Cond.methodLink RX0 143 yX4_guiltyIn, Cond.instanceMethod yX4_guiltyIn, Cond.selects RX4 yX4_guiltyIn yX4_guiltyIn, Cond.initialized RX4, Cond.code yX4_guiltyIn cX4_guiltyIn 2 (some .int), Cond.fieldLink RX4 18 "UnlikeBoats$Protest" "decidedAnew" "I", Cond.fieldLink RX4 39 "UnlikeBoats$Protest" "guiltyAnew" "I", Cond.fieldLink RX4 15 "UnlikeBoats$Protest" "reopened" "I", Cond.fieldLink RX4 9 "UnlikeBoats$Protest" "decided" "I", Cond.fieldLink RX4 36 "UnlikeBoats$Protest" "guilty" "I"]
def wsX12_total_r6 : List Cond := [Cond.methodLink RX9 84 yX0_rulesOn, Cond.instanceMethod yX0_rulesOn, Cond.selects RX0 yX0_rulesOn yX0_rulesOn, Cond.code yX0_rulesOn cX0_rulesOn 7 (some .int), Cond.fieldLink RX0 18 "UnlikeBoats$Book" "rules" "Ljava/util/ArrayList;", Cond.classLink RX0 103 "UnlikeBoats$Rules", Cond.fieldLink RX0 105 "UnlikeBoats$Rules" "told" "I", Cond.fieldLink RX0 106 "UnlikeBoats$Rules" "from" "I", Cond.methodLink RX9 90 yX5_enteredIn, Cond.instanceMethod yX5_enteredIn, Cond.selects RX5 yX5_enteredIn yX5_enteredIn, Cond.code yX5_enteredIn cX5_enteredIn 4 (some .int), Cond.methodLink RX5 55 yX5_isEnteredIn, Cond.methodLink RX9 100 yX0_numberOf, Cond.instanceMethod yX0_numberOf, Cond.selects RX0 yX0_numberOf yX0_numberOf, Cond.code yX0_numberOf cX0_numberOf 7 (some .int), Cond.fieldLink RX0 12 "UnlikeBoats$Book" "certificates" "Ljava/util/ArrayList;", Cond.classLink RX0 94 "UnlikeBoats$Certificate", Cond.fieldLink RX0 41 "UnlikeBoats$Book" "letters" "[I", Cond.fieldLink RX0 118 "UnlikeBoats$Certificate" "lon" "I", Cond.fieldLink RX0 121 "UnlikeBoats$Certificate" "area" "I", Cond.fieldLink RX0 124 "UnlikeBoats$Certificate" "weight" "I", Cond.fieldLink RX0 45 "UnlikeBoats$Book" "stack" "[I"]
def wsX12_total_r7 : List Cond := [Cond.methodLink RX0 107 yX0_rulesOn, Cond.methodLink RX0 111 yX0_certificateOn, Cond.instanceMethod yX0_certificateOn, Cond.selects RX0 yX0_certificateOn yX0_certificateOn, Cond.code yX0_certificateOn cX0_certificateOn 8 (some .int), Cond.fieldLink RX0 96 "UnlikeBoats$Certificate" "boat" "I", Cond.fieldLink RX0 99 "UnlikeBoats$Certificate" "told" "I", Cond.fieldLink RX0 100 "UnlikeBoats$Certificate" "from" "I", Cond.methodLink RX0 115 yX0_forgetLetters, Cond.instanceMethod yX0_forgetLetters, Cond.selects RX0 yX0_forgetLetters yX0_forgetLetters, Cond.code yX0_forgetLetters cX0_forgetLetters 1 none, Cond.methodLink RX0 134 yJ7_fill_53178, Cond.static yJ7_fill_53178, Cond.initialized RJ7, Cond.code yJ7_fill_53178 cJ7_fill_53178 4 none, Cond.methodLink RX0 127 yX7_worthOf, Cond.instanceMethod yX7_worthOf, Cond.selects RX7 yX7_worthOf yX7_worthOf, Cond.initialized RX7, Cond.code yX7_worthOf cX7_worthOf 6 (some .int), Cond.fieldLink RX7 22 "UnlikeBoats$Rules" "labels" "[I", Cond.fieldLink RX7 28 "UnlikeBoats$Rules" "sums" "[I", Cond.fieldLink RX7 25 "UnlikeBoats$Rules" "begins" "[I"]
def wsX12_total_r8 : List Cond := [Cond.methodLink RX7 31 yX7_run, Cond.instanceMethod yX7_run, Cond.selects RX7 yX7_run yX7_run, Cond.code yX7_run cX7_run 9 (some .int), Cond.fieldLink RX7 18 "UnlikeBoats$Rules" "steps" "[I", Cond.methodLink RX7 35 yX7_asSign, Cond.static yX7_asSign, Cond.code yX7_asSign cX7_asSign 1 (some .int), Cond.methodLink RX7 39 yX7_join, Cond.static yX7_join, Cond.code yX7_join cX7_join 5 (some .int), Cond.constantLong RX7 47 (10000000), Cond.constant RX7 49 (10000000), Cond.constantLong RX7 50 (-10000000), Cond.constant RX7 52 (-10000000), Cond.methodLink RX7 43 yX7_letterAt, Cond.static yX7_letterAt, Cond.code yX7_letterAt cX7_letterAt 2 (some .int), Cond.static yX12_held, Cond.code yX12_held cX12_held 3 (some .int), Cond.methodLink RX9 110 yX9_placeOf, Cond.instanceMethod yX9_placeOf, Cond.selects RX9 yX9_placeOf yX9_placeOf, Cond.code yX9_placeOf cX9_placeOf 5 (some .int)]
def wsX12_total_r9 : List Cond := [Cond.static yX12_cell, Cond.code yX12_cell cX12_cell 2 (some .int), Cond.methodLink RX8 66 yX9_plainPointsOf, Cond.instanceMethod yX9_plainPointsOf, Cond.selects RX9 yX9_plainPointsOf yX9_plainPointsOf, Cond.code yX9_plainPointsOf cX9_plainPointsOf 2 (some .int), Cond.fieldLink RX9 116 "UnlikeBoats$Book" "letters" "[I", Cond.methodLink RX9 113 yX0_forgetLetters, Cond.methodLink RX9 119 yX0_worthIn, Cond.instanceMethod yX0_worthIn, Cond.selects RX0 yX0_worthIn yX0_worthIn, Cond.code yX0_worthIn cX0_worthIn 3 (some .int), Cond.methodLink RX8 90 yX8_throwOutsIn, Cond.instanceMethod yX8_throwOutsIn, Cond.selects RX8 yX8_throwOutsIn yX8_throwOutsIn, Cond.code yX8_throwOutsIn cX8_throwOutsIn 3 (some .int), Cond.fieldLink RX8 99 "UnlikeBoats$Book" "letters" "[I", Cond.methodLink RX8 109 Lib.Math.max.name, Cond.static Lib.Math.max.name, Cond.initialized "java/lang/Math", Cond.code Lib.Math.max.name Lib.Math.max.code 2 (some .int), Cond.methodLink RX8 96 yX0_forgetLetters, Cond.methodLink RX8 102 yX0_rulesOn, Cond.methodLink RX8 105 yX0_worthIn]
def wsX12_total_r10 : List Cond := [Cond.methodLink RX8 48 yJx4a65c_get_915e3, Cond.methodLink RX8 56 yX5_isRedressedIn, Cond.instanceMethod yX5_isRedressedIn, Cond.selects RX5 yX5_isRedressedIn yX5_isRedressedIn, Cond.code yX5_isRedressedIn cX5_isRedressedIn 3 (some .boolean), Cond.fieldLink RX5 15 "UnlikeBoats$Race" "redresses" "[I", Cond.methodLink RX8 80 yX8_meanBeside, Cond.instanceMethod yX8_meanBeside, Cond.selects RX8 yX8_meanBeside yX8_meanBeside, Cond.code yX8_meanBeside cX8_meanBeside 7 (some .int), Cond.methodLink RX8 93 yX8_throwOut, Cond.instanceMethod yX8_throwOut, Cond.selects RX8 yX8_throwOut yX8_throwOut, Cond.code yX8_throwOut cX8_throwOut 6 none, Cond.fieldLink RX8 18 "UnlikeBoats$Scores" "out" "[Z", Cond.fieldLink RX8 25 "UnlikeBoats$Scores" "totals" "[I", Cond.methodLink RX8 117 yX8_worstOf, Cond.instanceMethod yX8_worstOf, Cond.selects RX8 yX8_worstOf yX8_worstOf, Cond.code yX8_worstOf cX8_worstOf 6 (some .int)]
def wsX12_total : List Cond := .code yX12_total cX12_total 3 (some .int) :: ((wsX12_total_r1 ++ (wsX12_total_r2 ++ (wsX12_total_r3 ++ (wsX12_total_r4 ++ (wsX12_total_r5 ++ (wsX12_total_r6 ++ (wsX12_total_r7 ++ (wsX12_total_r8 ++ (wsX12_total_r9 ++ wsX12_total_r10))))))))) ++ wsX120 ++ wsX80 ++ wsX00 ++ wsX90 ++ wsX50 ++ wsJx4a65c0 ++ wsX60 ++ wsX40 ++ wsX70 ++ wsX10)
def wsX12_word_r1 : List Cond := [Cond.fieldLink RX12 10 "UnlikeBoats" "book" "LUnlikeBoats$Book;", Cond.constant RX12 208 (100000), Cond.fieldLink RX12 209 "UnlikeBoats$Book" "words" "Ljava/util/ArrayList;", Cond.classLink RX12 212 RX11, Cond.instantiable RX11 8, Cond.initialized RX11, Cond.fieldLink RX12 55 "UnlikeBoats$Book" "now" "I", Cond.methodLink RX12 146 yX0_isEntered, Cond.instanceMethod yX0_isEntered, Cond.selects RX0 yX0_isEntered yX0_isEntered, Cond.initialized RX0, Cond.code yX0_isEntered cX0_isEntered 3 (some .boolean), Cond.fieldLink RX0 21 "UnlikeBoats$Book" "races" "Ljava/util/ArrayList;", Cond.classLink RX0 73 "UnlikeBoats$Race", Cond.fieldLink RX0 59 "UnlikeBoats$Book" "now" "I", Cond.methodLink RX0 66 yX0_isRace, Cond.instanceMethod yX0_isRace, Cond.selects RX0 yX0_isRace yX0_isRace, Cond.code yX0_isRace cX0_isRace 2 (some .boolean), Cond.methodLink RX0 56 yJx4a65c_size_8abf5, Cond.instanceMethod yJx4a65c_size_8abf5, Cond.selects RJx4a65c yJx4a65c_size_8abf5 yJx4a65c_size_8abf5, Cond.initialized RJx4a65c, Cond.code yJx4a65c_size_8abf5 cJx4a65c_size_8abf5 1 (some .int)]
def wsX12_word_r2 : List Cond := [Cond.fieldLink RJx4a65c 48 "java/util/ArrayList" "size" "I", Cond.static yX12_within, Cond.initialized RX12, Cond.code yX12_within cX12_within 3 (some .boolean), Cond.methodLink RX0 78 yX0_isBoat, Cond.instanceMethod yX0_isBoat, Cond.selects RX0 yX0_isBoat yX0_isBoat, Cond.code yX0_isBoat cX0_isBoat 2 (some .boolean), Cond.fieldLink RX0 48 "UnlikeBoats$Book" "boats" "I", Cond.methodLink RX0 69 yJx4a65c_get_915e3, Cond.instanceMethod yJx4a65c_get_915e3, Cond.selects RJx4a65c yJx4a65c_get_915e3 yJx4a65c_get_915e3, Cond.code yJx4a65c_get_915e3 cJx4a65c_get_915e3 2 (some (.object "java/lang/Object")), Cond.methodLink RJx4a65c 118 yJ15_checkIndex_7cf53, Cond.static yJ15_checkIndex_7cf53, Cond.initialized RJ15, Cond.code yJ15_checkIndex_7cf53 cJ15_checkIndex_7cf53 2 (some .int), Cond.methodLink RJ15 105 yJ3_checkIndex_8e157, Cond.static yJ3_checkIndex_8e157, Cond.initialized RJ3, Cond.code yJ3_checkIndex_8e157 cJ3_checkIndex_8e157 3 (some .int), Cond.methodLink RJx4a65c 123 yJx4a65c_elementData_915e3, Cond.instanceMethod yJx4a65c_elementData_915e3, Cond.selects RJx4a65c yJx4a65c_elementData_915e3 yJx4a65c_elementData_915e3]
def wsX12_word_r3 : List Cond := [Cond.code yJx4a65c_elementData_915e3 cJx4a65c_elementData_915e3 2 (some (.object "java/lang/Object")), Cond.fieldLink RJx4a65c 9 "java/util/ArrayList" "elementData" "[Ljava/lang/Object;", Cond.methodLink RX0 81 yX5_isEnteredIn, Cond.instanceMethod yX5_isEnteredIn, Cond.selects RX5 yX5_isEnteredIn yX5_isEnteredIn, Cond.initialized RX5, Cond.code yX5_isEnteredIn cX5_isEnteredIn 3 (some .boolean), Cond.fieldLink RX5 9 "UnlikeBoats$Race" "entries" "[I", Cond.methodLink RX12 59 yX12_within, Cond.methodLink RX12 77 yJx4a65c_size_8abf5, Cond.methodLink RX12 214 yX11_init, Cond.instanceMethod yX11_init, Cond.code yX11_init cX11_init 4 none, Cond.methodLink RX11 1 objectInit, Cond.instanceMethod objectInit, Cond.code objectInit ⟨#[0xb1]⟩ 1 none, Cond.fieldLink RX11 7 "UnlikeBoats$Word" "race" "I", Cond.fieldLink RX11 13 "UnlikeBoats$Word" "boat" "I", Cond.fieldLink RX11 16 "UnlikeBoats$Word" "told" "I", Cond.methodLink RX12 217 yX11_say, Cond.instanceMethod yX11_say, Cond.selects RX11 yX11_say yX11_say, Cond.code yX11_say cX11_say 6 none, Cond.fieldLink RX11 19 "UnlikeBoats$Word" "second" "I"]
def wsX12_word_r4 : List Cond := [Cond.fieldLink RX11 22 "UnlikeBoats$Word" "x" "I", Cond.fieldLink RX11 25 "UnlikeBoats$Word" "y" "I", Cond.fieldLink RX11 28 "UnlikeBoats$Word" "size" "I", Cond.fieldLink RX11 31 "UnlikeBoats$Word" "directions" "I", Cond.methodLink RX12 88 yJx4a65c_add_9ea2d, Cond.instanceMethod yJx4a65c_add_9ea2d, Cond.selects RJx4a65c yJx4a65c_add_9ea2d yJx4a65c_add_9ea2d, Cond.code yJx4a65c_add_9ea2d cJx4a65c_add_9ea2d 2 (some .boolean), Cond.fieldLink RJx4a65c 63 "java/util/ArrayList" "modCount" "I", Cond.sameField "java/util/ArrayList" "java/util/AbstractList" "modCount" "I", Cond.methodLink RJx4a65c 131 yJx4a65c_add_72be8, Cond.instanceMethod yJx4a65c_add_72be8, Cond.selects RJx4a65c yJx4a65c_add_72be8 yJx4a65c_add_72be8, Cond.code yJx4a65c_add_72be8 cJx4a65c_add_72be8 4 none, Cond.methodLink RJx4a65c 129 yJx4a65c_grow_d5877, Cond.instanceMethod yJx4a65c_grow_d5877, Cond.selects RJx4a65c yJx4a65c_grow_d5877 yJx4a65c_grow_d5877, Cond.code yJx4a65c_grow_d5877 cJx4a65c_grow_d5877 1 (some (.array (.object "java/lang/Object"))), Cond.methodLink RJx4a65c 69 yJx4a65c_grow_92f84, Cond.instanceMethod yJx4a65c_grow_92f84, Cond.selects RJx4a65c yJx4a65c_grow_92f84 yJx4a65c_grow_92f84, Cond.code yJx4a65c_grow_92f84 cJx4a65c_grow_92f84 4 (some (.array (.object "java/lang/Object"))), Cond.fieldLink RJx4a65c 39 "java/util/ArrayList" "DEFAULTCAPACITY_EMPTY_ELEMENTDATA" "[Ljava/lang/Object;", Cond.methodLink RJx4a65c 79 Lib.Math.max.name]
def wsX12_word_r5 : List Cond := [Cond.static Lib.Math.max.name, Cond.initialized "java/lang/Math", Cond.code Lib.Math.max.name Lib.Math.max.code 2 (some .int), Cond.classLink RJx4a65c 7 "java/lang/Object", Cond.methodLink RJx4a65c 73 yJ8_newLength_cabcc, Cond.static yJ8_newLength_cabcc, Cond.initialized RJ8, Cond.code yJ8_newLength_cabcc cJ8_newLength_cabcc 4 (some .int), Cond.methodLink RJ8 194 Lib.Math.max.name, Cond.constant RJ8 200 (2147483639), Cond.methodLink RJ8 201 yJ8_hugeLength_7cf53, Cond.static yJ8_hugeLength_7cf53, Cond.code yJ8_hugeLength_7cf53 cJ8_hugeLength_7cf53 3 (some .int), Cond.methodLink RJx4a65c 66 yJ7_copyOf_1904c, Cond.static yJ7_copyOf_1904c, Cond.initialized RJ7, Cond.code yJ7_copyOf_1904c cJ7_copyOf_1904c 2 (some (.array (.object "java/lang/Object"))), Cond.methodLink RJ7 86 ⟨"java/lang/Object", "getClass", "()Ljava/lang/Class;"⟩, Cond.selects "[Ljava/lang/Object;" ⟨"java/lang/Object", "getClass", "()Ljava/lang/Class;"⟩ ⟨"java/lang/Object", "getClass", "()Ljava/lang/Class;"⟩, Cond.instanceMethod ⟨"java/lang/Object", "getClass", "()Ljava/lang/Class;"⟩, Cond.native ⟨"java/lang/Object", "getClass", "()Ljava/lang/Class;"⟩, Cond.methodLink RJ7 300 yJ7_copyOf_6403c, Cond.static yJ7_copyOf_6403c, Cond.code yJ7_copyOf_6403c cJ7_copyOf_6403c 4 (some (.array (.object "java/lang/Object")))]
def wsX12_word_r6 : List Cond := [Cond.classLink RJ7 110 "[Ljava/lang/Object;", Cond.classLink RJ7 2 "java/lang/Object", Cond.methodLink RJ7 304 Lib.Math.min.name, Cond.static Lib.Math.min.name, Cond.code Lib.Math.min.name Lib.Math.min.code 2 (some .int), Cond.methodLink RJ7 150 arraycopyName, Cond.native arraycopyName, Cond.static arraycopyName, Cond.initialized "java/lang/System"]
def wsX12_word : List Cond := .code yX12_word cX12_word 9 (some .int) :: ((wsX12_word_r1 ++ (wsX12_word_r2 ++ (wsX12_word_r3 ++ (wsX12_word_r4 ++ (wsX12_word_r5 ++ wsX12_word_r6))))) ++ wsX120 ++ wsX00 ++ wsX110 ++ wsJx4a65c0 ++ wsX50)
def wsX12_protest_r1 : List Cond := [Cond.fieldLink RX12 10 "UnlikeBoats" "book" "LUnlikeBoats$Book;", Cond.constant RX12 208 (100000), Cond.fieldLink RX12 220 "UnlikeBoats$Book" "protests" "Ljava/util/ArrayList;", Cond.classLink RX12 223 RX4, Cond.instantiable RX4 10, Cond.initialized RX4, Cond.fieldLink RX12 55 "UnlikeBoats$Book" "now" "I", Cond.methodLink RX12 146 yX0_isEntered, Cond.instanceMethod yX0_isEntered, Cond.selects RX0 yX0_isEntered yX0_isEntered, Cond.initialized RX0, Cond.code yX0_isEntered cX0_isEntered 3 (some .boolean), Cond.fieldLink RX0 21 "UnlikeBoats$Book" "races" "Ljava/util/ArrayList;", Cond.classLink RX0 73 "UnlikeBoats$Race", Cond.fieldLink RX0 59 "UnlikeBoats$Book" "now" "I", Cond.methodLink RX0 66 yX0_isRace, Cond.instanceMethod yX0_isRace, Cond.selects RX0 yX0_isRace yX0_isRace, Cond.code yX0_isRace cX0_isRace 2 (some .boolean), Cond.methodLink RX0 56 yJx4a65c_size_8abf5, Cond.instanceMethod yJx4a65c_size_8abf5, Cond.selects RJx4a65c yJx4a65c_size_8abf5 yJx4a65c_size_8abf5, Cond.initialized RJx4a65c, Cond.code yJx4a65c_size_8abf5 cJx4a65c_size_8abf5 1 (some .int)]
def wsX12_protest_r2 : List Cond := [Cond.fieldLink RJx4a65c 48 "java/util/ArrayList" "size" "I", Cond.static yX12_within, Cond.initialized RX12, Cond.code yX12_within cX12_within 3 (some .boolean), Cond.methodLink RX0 78 yX0_isBoat, Cond.instanceMethod yX0_isBoat, Cond.selects RX0 yX0_isBoat yX0_isBoat, Cond.code yX0_isBoat cX0_isBoat 2 (some .boolean), Cond.fieldLink RX0 48 "UnlikeBoats$Book" "boats" "I", Cond.methodLink RX0 69 yJx4a65c_get_915e3, Cond.instanceMethod yJx4a65c_get_915e3, Cond.selects RJx4a65c yJx4a65c_get_915e3 yJx4a65c_get_915e3, Cond.code yJx4a65c_get_915e3 cJx4a65c_get_915e3 2 (some (.object "java/lang/Object")), Cond.methodLink RJx4a65c 118 yJ15_checkIndex_7cf53, Cond.static yJ15_checkIndex_7cf53, Cond.initialized RJ15, Cond.code yJ15_checkIndex_7cf53 cJ15_checkIndex_7cf53 2 (some .int), Cond.methodLink RJ15 105 yJ3_checkIndex_8e157, Cond.static yJ3_checkIndex_8e157, Cond.initialized RJ3, Cond.code yJ3_checkIndex_8e157 cJ3_checkIndex_8e157 3 (some .int), Cond.methodLink RJx4a65c 123 yJx4a65c_elementData_915e3, Cond.instanceMethod yJx4a65c_elementData_915e3, Cond.selects RJx4a65c yJx4a65c_elementData_915e3 yJx4a65c_elementData_915e3]
def wsX12_protest_r3 : List Cond := [Cond.code yJx4a65c_elementData_915e3 cJx4a65c_elementData_915e3 2 (some (.object "java/lang/Object")), Cond.fieldLink RJx4a65c 9 "java/util/ArrayList" "elementData" "[Ljava/lang/Object;", Cond.methodLink RX0 81 yX5_isEnteredIn, Cond.instanceMethod yX5_isEnteredIn, Cond.selects RX5 yX5_isEnteredIn yX5_isEnteredIn, Cond.initialized RX5, Cond.code yX5_isEnteredIn cX5_isEnteredIn 3 (some .boolean), Cond.fieldLink RX5 9 "UnlikeBoats$Race" "entries" "[I", Cond.methodLink RX12 59 yX12_within, Cond.methodLink RX12 77 yJx4a65c_size_8abf5, Cond.methodLink RX12 225 yX4_init, Cond.instanceMethod yX4_init, Cond.code yX4_init cX4_init 6 none, Cond.methodLink RX4 3 objectInit, Cond.instanceMethod objectInit, Cond.code objectInit ⟨#[0xb1]⟩ 1 none, Cond.fieldLink RX4 9 "UnlikeBoats$Protest" "decided" "I", Cond.fieldLink RX4 15 "UnlikeBoats$Protest" "reopened" "I", Cond.fieldLink RX4 18 "UnlikeBoats$Protest" "decidedAnew" "I", Cond.fieldLink RX4 21 "UnlikeBoats$Protest" "race" "I", Cond.fieldLink RX4 24 "UnlikeBoats$Protest" "a" "I", Cond.fieldLink RX4 27 "UnlikeBoats$Protest" "b" "I", Cond.fieldLink RX4 30 "UnlikeBoats$Protest" "second" "I", Cond.fieldLink RX4 33 "UnlikeBoats$Protest" "told" "I"]
def wsX12_protest_r4 : List Cond := [Cond.methodLink RX12 88 yJx4a65c_add_9ea2d, Cond.instanceMethod yJx4a65c_add_9ea2d, Cond.selects RJx4a65c yJx4a65c_add_9ea2d yJx4a65c_add_9ea2d, Cond.code yJx4a65c_add_9ea2d cJx4a65c_add_9ea2d 2 (some .boolean), Cond.fieldLink RJx4a65c 63 "java/util/ArrayList" "modCount" "I", Cond.sameField "java/util/ArrayList" "java/util/AbstractList" "modCount" "I", Cond.methodLink RJx4a65c 131 yJx4a65c_add_72be8, Cond.instanceMethod yJx4a65c_add_72be8, Cond.selects RJx4a65c yJx4a65c_add_72be8 yJx4a65c_add_72be8, Cond.code yJx4a65c_add_72be8 cJx4a65c_add_72be8 4 none, Cond.methodLink RJx4a65c 129 yJx4a65c_grow_d5877, Cond.instanceMethod yJx4a65c_grow_d5877, Cond.selects RJx4a65c yJx4a65c_grow_d5877 yJx4a65c_grow_d5877, Cond.code yJx4a65c_grow_d5877 cJx4a65c_grow_d5877 1 (some (.array (.object "java/lang/Object"))), Cond.methodLink RJx4a65c 69 yJx4a65c_grow_92f84, Cond.instanceMethod yJx4a65c_grow_92f84, Cond.selects RJx4a65c yJx4a65c_grow_92f84 yJx4a65c_grow_92f84, Cond.code yJx4a65c_grow_92f84 cJx4a65c_grow_92f84 4 (some (.array (.object "java/lang/Object"))), Cond.fieldLink RJx4a65c 39 "java/util/ArrayList" "DEFAULTCAPACITY_EMPTY_ELEMENTDATA" "[Ljava/lang/Object;", Cond.methodLink RJx4a65c 79 Lib.Math.max.name, Cond.static Lib.Math.max.name, Cond.initialized "java/lang/Math", Cond.code Lib.Math.max.name Lib.Math.max.code 2 (some .int), Cond.classLink RJx4a65c 7 "java/lang/Object"]
def wsX12_protest_r5 : List Cond := [Cond.methodLink RJx4a65c 73 yJ8_newLength_cabcc, Cond.static yJ8_newLength_cabcc, Cond.initialized RJ8, Cond.code yJ8_newLength_cabcc cJ8_newLength_cabcc 4 (some .int), Cond.methodLink RJ8 194 Lib.Math.max.name, Cond.constant RJ8 200 (2147483639), Cond.methodLink RJ8 201 yJ8_hugeLength_7cf53, Cond.static yJ8_hugeLength_7cf53, Cond.code yJ8_hugeLength_7cf53 cJ8_hugeLength_7cf53 3 (some .int), Cond.methodLink RJx4a65c 66 yJ7_copyOf_1904c, Cond.static yJ7_copyOf_1904c, Cond.initialized RJ7, Cond.code yJ7_copyOf_1904c cJ7_copyOf_1904c 2 (some (.array (.object "java/lang/Object"))), Cond.methodLink RJ7 86 ⟨"java/lang/Object", "getClass", "()Ljava/lang/Class;"⟩, Cond.selects "[Ljava/lang/Object;" ⟨"java/lang/Object", "getClass", "()Ljava/lang/Class;"⟩ ⟨"java/lang/Object", "getClass", "()Ljava/lang/Class;"⟩, Cond.instanceMethod ⟨"java/lang/Object", "getClass", "()Ljava/lang/Class;"⟩, Cond.native ⟨"java/lang/Object", "getClass", "()Ljava/lang/Class;"⟩, Cond.methodLink RJ7 300 yJ7_copyOf_6403c, Cond.static yJ7_copyOf_6403c, Cond.code yJ7_copyOf_6403c cJ7_copyOf_6403c 4 (some (.array (.object "java/lang/Object"))), Cond.classLink RJ7 110 "[Ljava/lang/Object;", Cond.classLink RJ7 2 "java/lang/Object", Cond.methodLink RJ7 304 Lib.Math.min.name, Cond.static Lib.Math.min.name]
def wsX12_protest_r6 : List Cond := [Cond.code Lib.Math.min.name Lib.Math.min.code 2 (some .int), Cond.methodLink RJ7 150 arraycopyName, Cond.native arraycopyName, Cond.static arraycopyName, Cond.initialized "java/lang/System"]
def wsX12_protest : List Cond := .code yX12_protest cX12_protest 5 (some .int) :: ((wsX12_protest_r1 ++ (wsX12_protest_r2 ++ (wsX12_protest_r3 ++ (wsX12_protest_r4 ++ (wsX12_protest_r5 ++ wsX12_protest_r6))))) ++ wsX120 ++ wsX00 ++ wsX40 ++ wsJx4a65c0 ++ wsX50)
def wsX12_states_r1 : List Cond := [Cond.fieldLink RX12 10 "UnlikeBoats" "book" "LUnlikeBoats$Book;", Cond.fieldLink RX12 44 "UnlikeBoats" "hearing" "LUnlikeBoats$Hearing;", Cond.fieldLink RX12 220 "UnlikeBoats$Book" "protests" "Ljava/util/ArrayList;", Cond.classLink RX12 223 "UnlikeBoats$Protest", Cond.methodLink RX12 226 yX0_isProtested, Cond.instanceMethod yX0_isProtested, Cond.selects RX0 yX0_isProtested yX0_isProtested, Cond.initialized RX0, Cond.code yX0_isProtested cX0_isProtested 3 (some .boolean), Cond.fieldLink RX0 30 "UnlikeBoats$Book" "protests" "Ljava/util/ArrayList;", Cond.classLink RX0 85 "UnlikeBoats$Protest", Cond.fieldLink RX0 87 "UnlikeBoats$Protest" "told" "I", Cond.methodLink RX0 62 yX0_isKnown, Cond.instanceMethod yX0_isKnown, Cond.selects RX0 yX0_isKnown yX0_isKnown, Cond.code yX0_isKnown cX0_isKnown 2 (some .boolean), Cond.fieldLink RX0 59 "UnlikeBoats$Book" "now" "I", Cond.static yX12_within, Cond.initialized RX12, Cond.code yX12_within cX12_within 3 (some .boolean), Cond.methodLink RX0 56 yJx4a65c_size_8abf5, Cond.instanceMethod yJx4a65c_size_8abf5, Cond.selects RJx4a65c yJx4a65c_size_8abf5 yJx4a65c_size_8abf5, Cond.initialized RJx4a65c]
def wsX12_states_r2 : List Cond := [Cond.code yJx4a65c_size_8abf5 cJx4a65c_size_8abf5 1 (some .int), Cond.fieldLink RJx4a65c 48 "java/util/ArrayList" "size" "I", Cond.methodLink RX0 69 yJx4a65c_get_915e3, Cond.instanceMethod yJx4a65c_get_915e3, Cond.selects RJx4a65c yJx4a65c_get_915e3 yJx4a65c_get_915e3, Cond.code yJx4a65c_get_915e3 cJx4a65c_get_915e3 2 (some (.object "java/lang/Object")), Cond.methodLink RJx4a65c 118 yJ15_checkIndex_7cf53, Cond.static yJ15_checkIndex_7cf53, Cond.initialized RJ15, Cond.code yJ15_checkIndex_7cf53 cJ15_checkIndex_7cf53 2 (some .int), Cond.methodLink RJ15 105 yJ3_checkIndex_8e157, Cond.static yJ3_checkIndex_8e157, Cond.initialized RJ3, Cond.code yJ3_checkIndex_8e157 cJ3_checkIndex_8e157 3 (some .int), Cond.methodLink RJx4a65c 123 yJx4a65c_elementData_915e3, Cond.instanceMethod yJx4a65c_elementData_915e3, Cond.selects RJx4a65c yJx4a65c_elementData_915e3 yJx4a65c_elementData_915e3, Cond.code yJx4a65c_elementData_915e3 cJx4a65c_elementData_915e3 2 (some (.object "java/lang/Object")), Cond.fieldLink RJx4a65c 9 "java/util/ArrayList" "elementData" "[Ljava/lang/Object;", Cond.methodLink RX12 59 yX12_within, Cond.methodLink RX12 138 yJx4a65c_get_915e3, Cond.methodLink RX12 229 yX2_statesOf, Cond.instanceMethod yX2_statesOf, Cond.selects RX2 yX2_statesOf yX2_statesOf]
def wsX12_states_r3 : List Cond := [Cond.initialized RX2, Cond.code yX2_statesOf cX2_statesOf 9 (some .int), Cond.fieldLink RX2 31 "UnlikeBoats$Protest" "a" "I", Cond.fieldLink RX2 37 "UnlikeBoats$Protest" "b" "I", Cond.fieldLink RX2 27 "UnlikeBoats$Hearing" "book" "LUnlikeBoats$Book;", Cond.fieldLink RX2 40 "UnlikeBoats$Book" "races" "Ljava/util/ArrayList;", Cond.fieldLink RX2 46 "UnlikeBoats$Protest" "race" "I", Cond.classLink RX2 55 "UnlikeBoats$Race", Cond.fieldLink RX2 9 "UnlikeBoats$Hearing" "lowX" "[I", Cond.fieldLink RX2 18 "UnlikeBoats$Hearing" "lowY" "[I", Cond.fieldLink RX2 15 "UnlikeBoats$Hearing" "highX" "[I", Cond.fieldLink RX2 21 "UnlikeBoats$Hearing" "highY" "[I", Cond.fieldLink RX2 24 "UnlikeBoats$Hearing" "ways" "[I", Cond.fieldLink RX2 61 "UnlikeBoats$Book" "words" "Ljava/util/ArrayList;", Cond.classLink RX2 68 "UnlikeBoats$Word", Cond.fieldLink RX2 70 "UnlikeBoats$Word" "race" "I", Cond.fieldLink RX2 71 "UnlikeBoats$Word" "boat" "I", Cond.fieldLink RX2 74 "UnlikeBoats$Word" "told" "I", Cond.fieldLink RX2 77 "UnlikeBoats$Word" "second" "I", Cond.fieldLink RX2 80 "UnlikeBoats$Protest" "second" "I", Cond.fieldLink RX2 89 "UnlikeBoats$Word" "directions" "I", Cond.methodLink RX2 49 yJx4a65c_get_915e3, Cond.methodLink RX2 57 yX5_swiftIn, Cond.instanceMethod yX5_swiftIn]
def wsX12_states_r4 : List Cond := [Cond.selects RX5 yX5_swiftIn yX5_swiftIn, Cond.initialized RX5, Cond.code yX5_swiftIn cX5_swiftIn 3 (some .int), Cond.fieldLink RX5 27 "UnlikeBoats$Race" "told" "I", Cond.fieldLink RX5 24 "UnlikeBoats$Race" "swifts" "[I", Cond.methodLink RX2 64 yJx4a65c_size_8abf5, Cond.static yX12_apart, Cond.code yX12_apart cX12_apart 2 (some .int), Cond.methodLink RX2 85 yX2_narrow, Cond.instanceMethod yX2_narrow, Cond.selects RX2 yX2_narrow yX2_narrow, Cond.code yX2_narrow cX2_narrow 4 none, Cond.fieldLink RX2 97 "UnlikeBoats$Word" "x" "I", Cond.methodLink RX2 100 Lib.Math.max.name, Cond.static Lib.Math.max.name, Cond.initialized "java/lang/Math", Cond.code Lib.Math.max.name Lib.Math.max.code 2 (some .int), Cond.fieldLink RX2 105 "UnlikeBoats$Word" "y" "I", Cond.fieldLink RX2 108 "UnlikeBoats$Word" "size" "I", Cond.methodLink RX2 110 Lib.Math.min.name, Cond.static Lib.Math.min.name, Cond.code Lib.Math.min.name Lib.Math.min.code 2 (some .int), Cond.methodLink RX2 92 yJ6_bitCount_0f7a4, Cond.static yJ6_bitCount_0f7a4]
def wsX12_states_r5 : List Cond := [Cond.initialized RJ6, Cond.code yJ6_bitCount_0f7a4 cJ6_bitCount_0f7a4 1 (some .int), Cond.constant RJ6 265 (1431655765), Cond.constant RJ6 266 (858993459), Cond.constant RJ6 267 (252645135)]
def wsX12_states : List Cond := .code yX12_states cX12_states 4 (some .int) :: ((wsX12_states_r1 ++ (wsX12_states_r2 ++ (wsX12_states_r3 ++ (wsX12_states_r4 ++ wsX12_states_r5)))) ++ wsX120 ++ wsX00 ++ wsX40 ++ wsJx4a65c0 ++ wsX20 ++ wsX110 ++ wsX50)
def wsX12_finding_r1 : List Cond := [Cond.fieldLink RX12 10 "UnlikeBoats" "book" "LUnlikeBoats$Book;", Cond.fieldLink RX12 44 "UnlikeBoats" "hearing" "LUnlikeBoats$Hearing;", Cond.fieldLink RX12 220 "UnlikeBoats$Book" "protests" "Ljava/util/ArrayList;", Cond.classLink RX12 223 "UnlikeBoats$Protest", Cond.methodLink RX12 226 yX0_isProtested, Cond.instanceMethod yX0_isProtested, Cond.selects RX0 yX0_isProtested yX0_isProtested, Cond.initialized RX0, Cond.code yX0_isProtested cX0_isProtested 3 (some .boolean), Cond.fieldLink RX0 30 "UnlikeBoats$Book" "protests" "Ljava/util/ArrayList;", Cond.classLink RX0 85 "UnlikeBoats$Protest", Cond.fieldLink RX0 87 "UnlikeBoats$Protest" "told" "I", Cond.methodLink RX0 62 yX0_isKnown, Cond.instanceMethod yX0_isKnown, Cond.selects RX0 yX0_isKnown yX0_isKnown, Cond.code yX0_isKnown cX0_isKnown 2 (some .boolean), Cond.fieldLink RX0 59 "UnlikeBoats$Book" "now" "I", Cond.static yX12_within, Cond.initialized RX12, Cond.code yX12_within cX12_within 3 (some .boolean), Cond.methodLink RX0 56 yJx4a65c_size_8abf5, Cond.instanceMethod yJx4a65c_size_8abf5, Cond.selects RJx4a65c yJx4a65c_size_8abf5 yJx4a65c_size_8abf5, Cond.initialized RJx4a65c]
def wsX12_finding_r2 : List Cond := [Cond.code yJx4a65c_size_8abf5 cJx4a65c_size_8abf5 1 (some .int), Cond.fieldLink RJx4a65c 48 "java/util/ArrayList" "size" "I", Cond.methodLink RX0 69 yJx4a65c_get_915e3, Cond.instanceMethod yJx4a65c_get_915e3, Cond.selects RJx4a65c yJx4a65c_get_915e3 yJx4a65c_get_915e3, Cond.code yJx4a65c_get_915e3 cJx4a65c_get_915e3 2 (some (.object "java/lang/Object")), Cond.methodLink RJx4a65c 118 yJ15_checkIndex_7cf53, Cond.static yJ15_checkIndex_7cf53, Cond.initialized RJ15, Cond.code yJ15_checkIndex_7cf53 cJ15_checkIndex_7cf53 2 (some .int), Cond.methodLink RJ15 105 yJ3_checkIndex_8e157, Cond.static yJ3_checkIndex_8e157, Cond.initialized RJ3, Cond.code yJ3_checkIndex_8e157 cJ3_checkIndex_8e157 3 (some .int), Cond.methodLink RJx4a65c 123 yJx4a65c_elementData_915e3, Cond.instanceMethod yJx4a65c_elementData_915e3, Cond.selects RJx4a65c yJx4a65c_elementData_915e3 yJx4a65c_elementData_915e3, Cond.code yJx4a65c_elementData_915e3 cJx4a65c_elementData_915e3 2 (some (.object "java/lang/Object")), Cond.fieldLink RJx4a65c 9 "java/util/ArrayList" "elementData" "[Ljava/lang/Object;", Cond.methodLink RX12 59 yX12_within, Cond.methodLink RX12 138 yJx4a65c_get_915e3, Cond.methodLink RX12 233 yX2_find, Cond.instanceMethod yX2_find, Cond.selects RX2 yX2_find yX2_find]
def wsX12_finding_r3 : List Cond := [Cond.initialized RX2, Cond.code yX2_find cX2_find 7 (some .int), Cond.fieldLink RX2 27 "UnlikeBoats$Hearing" "book" "LUnlikeBoats$Book;", Cond.fieldLink RX2 40 "UnlikeBoats$Book" "races" "Ljava/util/ArrayList;", Cond.fieldLink RX2 46 "UnlikeBoats$Protest" "race" "I", Cond.classLink RX2 55 "UnlikeBoats$Race", Cond.fieldLink RX2 117 "UnlikeBoats$Hearing" "race" "LUnlikeBoats$Race;", Cond.fieldLink RX2 120 "UnlikeBoats$Race" "day" "I", Cond.fieldLink RX2 126 "UnlikeBoats$Hearing" "law" "I", Cond.fieldLink RX2 129 "UnlikeBoats$Hearing" "label" "C", Cond.fieldLink RX2 9 "UnlikeBoats$Hearing" "lowX" "[I", Cond.fieldLink RX2 15 "UnlikeBoats$Hearing" "highX" "[I", Cond.fieldLink RX2 18 "UnlikeBoats$Hearing" "lowY" "[I", Cond.fieldLink RX2 21 "UnlikeBoats$Hearing" "highY" "[I", Cond.methodLink RX2 113 yX2_statesOf, Cond.instanceMethod yX2_statesOf, Cond.selects RX2 yX2_statesOf yX2_statesOf, Cond.code yX2_statesOf cX2_statesOf 9 (some .int), Cond.fieldLink RX2 31 "UnlikeBoats$Protest" "a" "I", Cond.fieldLink RX2 37 "UnlikeBoats$Protest" "b" "I", Cond.fieldLink RX2 24 "UnlikeBoats$Hearing" "ways" "[I", Cond.fieldLink RX2 61 "UnlikeBoats$Book" "words" "Ljava/util/ArrayList;", Cond.classLink RX2 68 "UnlikeBoats$Word", Cond.fieldLink RX2 70 "UnlikeBoats$Word" "race" "I"]
def wsX12_finding_r4 : List Cond := [Cond.fieldLink RX2 71 "UnlikeBoats$Word" "boat" "I", Cond.fieldLink RX2 74 "UnlikeBoats$Word" "told" "I", Cond.fieldLink RX2 77 "UnlikeBoats$Word" "second" "I", Cond.fieldLink RX2 80 "UnlikeBoats$Protest" "second" "I", Cond.fieldLink RX2 89 "UnlikeBoats$Word" "directions" "I", Cond.methodLink RX2 49 yJx4a65c_get_915e3, Cond.methodLink RX2 57 yX5_swiftIn, Cond.instanceMethod yX5_swiftIn, Cond.selects RX5 yX5_swiftIn yX5_swiftIn, Cond.initialized RX5, Cond.code yX5_swiftIn cX5_swiftIn 3 (some .int), Cond.fieldLink RX5 27 "UnlikeBoats$Race" "told" "I", Cond.fieldLink RX5 24 "UnlikeBoats$Race" "swifts" "[I", Cond.methodLink RX2 64 yJx4a65c_size_8abf5, Cond.static yX12_apart, Cond.code yX12_apart cX12_apart 2 (some .int), Cond.methodLink RX2 85 yX2_narrow, Cond.instanceMethod yX2_narrow, Cond.selects RX2 yX2_narrow yX2_narrow, Cond.code yX2_narrow cX2_narrow 4 none, Cond.fieldLink RX2 97 "UnlikeBoats$Word" "x" "I", Cond.methodLink RX2 100 Lib.Math.max.name, Cond.static Lib.Math.max.name, Cond.initialized "java/lang/Math"]
def wsX12_finding_r5 : List Cond := [Cond.code Lib.Math.max.name Lib.Math.max.code 2 (some .int), Cond.fieldLink RX2 105 "UnlikeBoats$Word" "y" "I", Cond.fieldLink RX2 108 "UnlikeBoats$Word" "size" "I", Cond.methodLink RX2 110 Lib.Math.min.name, Cond.static Lib.Math.min.name, Cond.code Lib.Math.min.name Lib.Math.min.code 2 (some .int), Cond.methodLink RX2 92 yJ6_bitCount_0f7a4, Cond.static yJ6_bitCount_0f7a4, Cond.initialized RJ6, Cond.code yJ6_bitCount_0f7a4 cJ6_bitCount_0f7a4 1 (some .int), Cond.constant RJ6 265 (1431655765), Cond.constant RJ6 266 (858993459), Cond.constant RJ6 267 (252645135), Cond.methodLink RX2 123 yX0_rulesOn, Cond.instanceMethod yX0_rulesOn, Cond.selects RX0 yX0_rulesOn yX0_rulesOn, Cond.code yX0_rulesOn cX0_rulesOn 7 (some .int), Cond.fieldLink RX0 18 "UnlikeBoats$Book" "rules" "Ljava/util/ArrayList;", Cond.classLink RX0 103 "UnlikeBoats$Rules", Cond.fieldLink RX0 105 "UnlikeBoats$Rules" "told" "I", Cond.fieldLink RX0 106 "UnlikeBoats$Rules" "from" "I", Cond.methodLink RX2 133 yX2_gatherTacks, Cond.instanceMethod yX2_gatherTacks, Cond.selects RX2 yX2_gatherTacks yX2_gatherTacks]
def wsX12_finding_r6 : List Cond := [Cond.code yX2_gatherTacks cX2_gatherTacks 3 none, Cond.fieldLink RX2 139 "UnlikeBoats$Hearing" "tacks" "I", Cond.methodLink RX2 142 yX2_starboard, Cond.instanceMethod yX2_starboard, Cond.selects RX2 yX2_starboard yX2_starboard, Cond.code yX2_starboard cX2_starboard 2 (some .int), Cond.fieldLink RX2 145 "UnlikeBoats$Race" "wind" "I", Cond.methodLink RX2 136 yX2_faultsFrom, Cond.instanceMethod yX2_faultsFrom, Cond.selects RX2 yX2_faultsFrom yX2_faultsFrom, Cond.code yX2_faultsFrom cX2_faultsFrom 7 (some .int), Cond.fieldLink RX2 157 "UnlikeBoats$Book" "letters" "[I", Cond.fieldLink RX2 164 "UnlikeBoats$Race" "x" "I", Cond.fieldLink RX2 165 "UnlikeBoats$Race" "y" "I", Cond.methodLink RX2 148 yX0_forgetLetters, Cond.instanceMethod yX0_forgetLetters, Cond.selects RX0 yX0_forgetLetters yX0_forgetLetters, Cond.code yX0_forgetLetters cX0_forgetLetters 1 none, Cond.fieldLink RX0 41 "UnlikeBoats$Book" "letters" "[I", Cond.methodLink RX0 134 yJ7_fill_53178, Cond.static yJ7_fill_53178, Cond.initialized RJ7, Cond.code yJ7_fill_53178 cJ7_fill_53178 4 none, Cond.methodLink RX2 160 yX2_far]
def wsX12_finding_r7 : List Cond := [Cond.static yX2_far, Cond.code yX2_far cX2_far 4 (some .int), Cond.methodLink RX2 166 yX2_faultsOnTacks, Cond.instanceMethod yX2_faultsOnTacks, Cond.selects RX2 yX2_faultsOnTacks yX2_faultsOnTacks, Cond.code yX2_faultsOnTacks cX2_faultsOnTacks 3 (some .int), Cond.methodLink RX2 169 yX0_worthIn, Cond.instanceMethod yX0_worthIn, Cond.selects RX0 yX0_worthIn yX0_worthIn, Cond.code yX0_worthIn cX0_worthIn 3 (some .int), Cond.fieldLink RX0 45 "UnlikeBoats$Book" "stack" "[I", Cond.methodLink RX0 127 yX7_worthOf, Cond.instanceMethod yX7_worthOf, Cond.selects RX7 yX7_worthOf yX7_worthOf, Cond.initialized RX7, Cond.code yX7_worthOf cX7_worthOf 6 (some .int), Cond.fieldLink RX7 22 "UnlikeBoats$Rules" "labels" "[I", Cond.fieldLink RX7 28 "UnlikeBoats$Rules" "sums" "[I", Cond.fieldLink RX7 25 "UnlikeBoats$Rules" "begins" "[I", Cond.methodLink RX7 31 yX7_run, Cond.instanceMethod yX7_run, Cond.selects RX7 yX7_run yX7_run, Cond.code yX7_run cX7_run 9 (some .int), Cond.fieldLink RX7 18 "UnlikeBoats$Rules" "steps" "[I"]
def wsX12_finding_r8 : List Cond := [Cond.methodLink RX7 35 yX7_asSign, Cond.static yX7_asSign, Cond.code yX7_asSign cX7_asSign 1 (some .int), Cond.methodLink RX7 39 yX7_join, Cond.static yX7_join, Cond.code yX7_join cX7_join 5 (some .int), Cond.constantLong RX7 47 (10000000), Cond.constant RX7 49 (10000000), Cond.constantLong RX7 50 (-10000000), Cond.constant RX7 52 (-10000000), Cond.methodLink RX7 43 yX7_letterAt, Cond.static yX7_letterAt, Cond.code yX7_letterAt cX7_letterAt 2 (some .int)]
def wsX12_finding : List Cond := .code yX12_finding cX12_finding 4 (some .int) :: ((wsX12_finding_r1 ++ (wsX12_finding_r2 ++ (wsX12_finding_r3 ++ (wsX12_finding_r4 ++ (wsX12_finding_r5 ++ (wsX12_finding_r6 ++ (wsX12_finding_r7 ++ wsX12_finding_r8))))))) ++ wsX120 ++ wsX00 ++ wsX40 ++ wsJx4a65c0 ++ wsX20 ++ wsX50 ++ wsX110 ++ wsX70)
def wsX12_decide_r1 : List Cond := [Cond.fieldLink RX12 10 "UnlikeBoats" "book" "LUnlikeBoats$Book;", Cond.fieldLink RX12 55 "UnlikeBoats$Book" "now" "I", Cond.fieldLink RX12 220 "UnlikeBoats$Book" "protests" "Ljava/util/ArrayList;", Cond.classLink RX12 223 "UnlikeBoats$Protest", Cond.fieldLink RX12 44 "UnlikeBoats" "hearing" "LUnlikeBoats$Hearing;", Cond.methodLink RX12 226 yX0_isProtested, Cond.instanceMethod yX0_isProtested, Cond.selects RX0 yX0_isProtested yX0_isProtested, Cond.initialized RX0, Cond.code yX0_isProtested cX0_isProtested 3 (some .boolean), Cond.fieldLink RX0 30 "UnlikeBoats$Book" "protests" "Ljava/util/ArrayList;", Cond.classLink RX0 85 "UnlikeBoats$Protest", Cond.fieldLink RX0 87 "UnlikeBoats$Protest" "told" "I", Cond.methodLink RX0 62 yX0_isKnown, Cond.instanceMethod yX0_isKnown, Cond.selects RX0 yX0_isKnown yX0_isKnown, Cond.code yX0_isKnown cX0_isKnown 2 (some .boolean), Cond.fieldLink RX0 59 "UnlikeBoats$Book" "now" "I", Cond.static yX12_within, Cond.initialized RX12, Cond.code yX12_within cX12_within 3 (some .boolean), Cond.methodLink RX0 56 yJx4a65c_size_8abf5, Cond.instanceMethod yJx4a65c_size_8abf5, Cond.selects RJx4a65c yJx4a65c_size_8abf5 yJx4a65c_size_8abf5]
def wsX12_decide_r2 : List Cond := [Cond.initialized RJx4a65c, Cond.code yJx4a65c_size_8abf5 cJx4a65c_size_8abf5 1 (some .int), Cond.fieldLink RJx4a65c 48 "java/util/ArrayList" "size" "I", Cond.methodLink RX0 69 yJx4a65c_get_915e3, Cond.instanceMethod yJx4a65c_get_915e3, Cond.selects RJx4a65c yJx4a65c_get_915e3 yJx4a65c_get_915e3, Cond.code yJx4a65c_get_915e3 cJx4a65c_get_915e3 2 (some (.object "java/lang/Object")), Cond.methodLink RJx4a65c 118 yJ15_checkIndex_7cf53, Cond.static yJ15_checkIndex_7cf53, Cond.initialized RJ15, Cond.code yJ15_checkIndex_7cf53 cJ15_checkIndex_7cf53 2 (some .int), Cond.methodLink RJ15 105 yJ3_checkIndex_8e157, Cond.static yJ3_checkIndex_8e157, Cond.initialized RJ3, Cond.code yJ3_checkIndex_8e157 cJ3_checkIndex_8e157 3 (some .int), Cond.methodLink RJx4a65c 123 yJx4a65c_elementData_915e3, Cond.instanceMethod yJx4a65c_elementData_915e3, Cond.selects RJx4a65c yJx4a65c_elementData_915e3 yJx4a65c_elementData_915e3, Cond.code yJx4a65c_elementData_915e3 cJx4a65c_elementData_915e3 2 (some (.object "java/lang/Object")), Cond.fieldLink RJx4a65c 9 "java/util/ArrayList" "elementData" "[Ljava/lang/Object;", Cond.methodLink RX12 138 yJx4a65c_get_915e3, Cond.methodLink RX12 236 yX4_isDecided, Cond.instanceMethod yX4_isDecided, Cond.selects RX4 yX4_isDecided yX4_isDecided]
def wsX12_decide_r3 : List Cond := [Cond.initialized RX4, Cond.code yX4_isDecided cX4_isDecided 1 (some .boolean), Cond.fieldLink RX4 15 "UnlikeBoats$Protest" "reopened" "I", Cond.fieldLink RX4 9 "UnlikeBoats$Protest" "decided" "I", Cond.fieldLink RX4 18 "UnlikeBoats$Protest" "decidedAnew" "I", Cond.methodLink RX12 233 yX2_find, Cond.instanceMethod yX2_find, Cond.selects RX2 yX2_find yX2_find, Cond.initialized RX2, Cond.code yX2_find cX2_find 7 (some .int), Cond.fieldLink RX2 27 "UnlikeBoats$Hearing" "book" "LUnlikeBoats$Book;", Cond.fieldLink RX2 40 "UnlikeBoats$Book" "races" "Ljava/util/ArrayList;", Cond.fieldLink RX2 46 "UnlikeBoats$Protest" "race" "I", Cond.classLink RX2 55 "UnlikeBoats$Race", Cond.fieldLink RX2 117 "UnlikeBoats$Hearing" "race" "LUnlikeBoats$Race;", Cond.fieldLink RX2 120 "UnlikeBoats$Race" "day" "I", Cond.fieldLink RX2 126 "UnlikeBoats$Hearing" "law" "I", Cond.fieldLink RX2 129 "UnlikeBoats$Hearing" "label" "C", Cond.fieldLink RX2 9 "UnlikeBoats$Hearing" "lowX" "[I", Cond.fieldLink RX2 15 "UnlikeBoats$Hearing" "highX" "[I", Cond.fieldLink RX2 18 "UnlikeBoats$Hearing" "lowY" "[I", Cond.fieldLink RX2 21 "UnlikeBoats$Hearing" "highY" "[I", Cond.methodLink RX2 113 yX2_statesOf, Cond.instanceMethod yX2_statesOf]
def wsX12_decide_r4 : List Cond := [Cond.selects RX2 yX2_statesOf yX2_statesOf, Cond.code yX2_statesOf cX2_statesOf 9 (some .int), Cond.fieldLink RX2 31 "UnlikeBoats$Protest" "a" "I", Cond.fieldLink RX2 37 "UnlikeBoats$Protest" "b" "I", Cond.fieldLink RX2 24 "UnlikeBoats$Hearing" "ways" "[I", Cond.fieldLink RX2 61 "UnlikeBoats$Book" "words" "Ljava/util/ArrayList;", Cond.classLink RX2 68 "UnlikeBoats$Word", Cond.fieldLink RX2 70 "UnlikeBoats$Word" "race" "I", Cond.fieldLink RX2 71 "UnlikeBoats$Word" "boat" "I", Cond.fieldLink RX2 74 "UnlikeBoats$Word" "told" "I", Cond.fieldLink RX2 77 "UnlikeBoats$Word" "second" "I", Cond.fieldLink RX2 80 "UnlikeBoats$Protest" "second" "I", Cond.fieldLink RX2 89 "UnlikeBoats$Word" "directions" "I", Cond.methodLink RX2 49 yJx4a65c_get_915e3, Cond.methodLink RX2 57 yX5_swiftIn, Cond.instanceMethod yX5_swiftIn, Cond.selects RX5 yX5_swiftIn yX5_swiftIn, Cond.initialized RX5, Cond.code yX5_swiftIn cX5_swiftIn 3 (some .int), Cond.fieldLink RX5 27 "UnlikeBoats$Race" "told" "I", Cond.fieldLink RX5 24 "UnlikeBoats$Race" "swifts" "[I", Cond.methodLink RX2 64 yJx4a65c_size_8abf5, Cond.static yX12_apart, Cond.code yX12_apart cX12_apart 2 (some .int)]
def wsX12_decide_r5 : List Cond := [Cond.methodLink RX2 85 yX2_narrow, Cond.instanceMethod yX2_narrow, Cond.selects RX2 yX2_narrow yX2_narrow, Cond.code yX2_narrow cX2_narrow 4 none, Cond.fieldLink RX2 97 "UnlikeBoats$Word" "x" "I", Cond.methodLink RX2 100 Lib.Math.max.name, Cond.static Lib.Math.max.name, Cond.initialized "java/lang/Math", Cond.code Lib.Math.max.name Lib.Math.max.code 2 (some .int), Cond.fieldLink RX2 105 "UnlikeBoats$Word" "y" "I", Cond.fieldLink RX2 108 "UnlikeBoats$Word" "size" "I", Cond.methodLink RX2 110 Lib.Math.min.name, Cond.static Lib.Math.min.name, Cond.code Lib.Math.min.name Lib.Math.min.code 2 (some .int), Cond.methodLink RX2 92 yJ6_bitCount_0f7a4, Cond.static yJ6_bitCount_0f7a4, Cond.initialized RJ6, Cond.code yJ6_bitCount_0f7a4 cJ6_bitCount_0f7a4 1 (some .int), Cond.constant RJ6 265 (1431655765), Cond.constant RJ6 266 (858993459), Cond.constant RJ6 267 (252645135), Cond.methodLink RX2 123 yX0_rulesOn, Cond.instanceMethod yX0_rulesOn, Cond.selects RX0 yX0_rulesOn yX0_rulesOn]
def wsX12_decide_r6 : List Cond := [Cond.code yX0_rulesOn cX0_rulesOn 7 (some .int), Cond.fieldLink RX0 18 "UnlikeBoats$Book" "rules" "Ljava/util/ArrayList;", Cond.classLink RX0 103 "UnlikeBoats$Rules", Cond.fieldLink RX0 105 "UnlikeBoats$Rules" "told" "I", Cond.fieldLink RX0 106 "UnlikeBoats$Rules" "from" "I", Cond.methodLink RX2 133 yX2_gatherTacks, Cond.instanceMethod yX2_gatherTacks, Cond.selects RX2 yX2_gatherTacks yX2_gatherTacks, Cond.code yX2_gatherTacks cX2_gatherTacks 3 none, Cond.fieldLink RX2 139 "UnlikeBoats$Hearing" "tacks" "I", Cond.methodLink RX2 142 yX2_starboard, Cond.instanceMethod yX2_starboard, Cond.selects RX2 yX2_starboard yX2_starboard, Cond.code yX2_starboard cX2_starboard 2 (some .int), Cond.fieldLink RX2 145 "UnlikeBoats$Race" "wind" "I", Cond.methodLink RX2 136 yX2_faultsFrom, Cond.instanceMethod yX2_faultsFrom, Cond.selects RX2 yX2_faultsFrom yX2_faultsFrom, Cond.code yX2_faultsFrom cX2_faultsFrom 7 (some .int), Cond.fieldLink RX2 157 "UnlikeBoats$Book" "letters" "[I", Cond.fieldLink RX2 164 "UnlikeBoats$Race" "x" "I", Cond.fieldLink RX2 165 "UnlikeBoats$Race" "y" "I", Cond.methodLink RX2 148 yX0_forgetLetters, Cond.instanceMethod yX0_forgetLetters]
def wsX12_decide_r7 : List Cond := [Cond.selects RX0 yX0_forgetLetters yX0_forgetLetters, Cond.code yX0_forgetLetters cX0_forgetLetters 1 none, Cond.fieldLink RX0 41 "UnlikeBoats$Book" "letters" "[I", Cond.methodLink RX0 134 yJ7_fill_53178, Cond.static yJ7_fill_53178, Cond.initialized RJ7, Cond.code yJ7_fill_53178 cJ7_fill_53178 4 none, Cond.methodLink RX2 160 yX2_far, Cond.static yX2_far, Cond.code yX2_far cX2_far 4 (some .int), Cond.methodLink RX2 166 yX2_faultsOnTacks, Cond.instanceMethod yX2_faultsOnTacks, Cond.selects RX2 yX2_faultsOnTacks yX2_faultsOnTacks, Cond.code yX2_faultsOnTacks cX2_faultsOnTacks 3 (some .int), Cond.methodLink RX2 169 yX0_worthIn, Cond.instanceMethod yX0_worthIn, Cond.selects RX0 yX0_worthIn yX0_worthIn, Cond.code yX0_worthIn cX0_worthIn 3 (some .int), Cond.fieldLink RX0 45 "UnlikeBoats$Book" "stack" "[I", Cond.methodLink RX0 127 yX7_worthOf, Cond.instanceMethod yX7_worthOf, Cond.selects RX7 yX7_worthOf yX7_worthOf, Cond.initialized RX7, Cond.code yX7_worthOf cX7_worthOf 6 (some .int)]
def wsX12_decide_r8 : List Cond := [Cond.fieldLink RX7 22 "UnlikeBoats$Rules" "labels" "[I", Cond.fieldLink RX7 28 "UnlikeBoats$Rules" "sums" "[I", Cond.fieldLink RX7 25 "UnlikeBoats$Rules" "begins" "[I", Cond.methodLink RX7 31 yX7_run, Cond.instanceMethod yX7_run, Cond.selects RX7 yX7_run yX7_run, Cond.code yX7_run cX7_run 9 (some .int), Cond.fieldLink RX7 18 "UnlikeBoats$Rules" "steps" "[I", Cond.methodLink RX7 35 yX7_asSign, Cond.static yX7_asSign, Cond.code yX7_asSign cX7_asSign 1 (some .int), Cond.methodLink RX7 39 yX7_join, Cond.static yX7_join, Cond.code yX7_join cX7_join 5 (some .int), Cond.constantLong RX7 47 (10000000), Cond.constant RX7 49 (10000000), Cond.constantLong RX7 50 (-10000000), Cond.constant RX7 52 (-10000000), Cond.methodLink RX7 43 yX7_letterAt, Cond.static yX7_letterAt, Cond.code yX7_letterAt cX7_letterAt 2 (some .int), Cond.methodLink RX12 240 yX4_settle, Cond.instanceMethod yX4_settle, Cond.selects RX4 yX4_settle yX4_settle]
def wsX12_decide_r9 : List Cond := [Cond.code yX4_settle cX4_settle 3 none, Cond.fieldLink RX4 36 "UnlikeBoats$Protest" "guilty" "I", Cond.fieldLink RX4 39 "UnlikeBoats$Protest" "guiltyAnew" "I"]
def wsX12_decide : List Cond := .code yX12_decide cX12_decide 4 (some .int) :: ((wsX12_decide_r1 ++ (wsX12_decide_r2 ++ (wsX12_decide_r3 ++ (wsX12_decide_r4 ++ (wsX12_decide_r5 ++ (wsX12_decide_r6 ++ (wsX12_decide_r7 ++ (wsX12_decide_r8 ++ wsX12_decide_r9)))))))) ++ wsX120 ++ wsX00 ++ wsX40 ++ wsJx4a65c0 ++ wsX20 ++ wsX50 ++ wsX110 ++ wsX70)
def wsX12_reopen_r1 : List Cond := [Cond.fieldLink RX12 10 "UnlikeBoats" "book" "LUnlikeBoats$Book;", Cond.fieldLink RX12 55 "UnlikeBoats$Book" "now" "I", Cond.fieldLink RX12 220 "UnlikeBoats$Book" "protests" "Ljava/util/ArrayList;", Cond.classLink RX12 223 "UnlikeBoats$Protest", Cond.fieldLink RX12 243 "UnlikeBoats$Protest" "reopened" "I", Cond.methodLink RX12 226 yX0_isProtested, Cond.instanceMethod yX0_isProtested, Cond.selects RX0 yX0_isProtested yX0_isProtested, Cond.initialized RX0, Cond.code yX0_isProtested cX0_isProtested 3 (some .boolean), Cond.fieldLink RX0 30 "UnlikeBoats$Book" "protests" "Ljava/util/ArrayList;", Cond.classLink RX0 85 "UnlikeBoats$Protest", Cond.fieldLink RX0 87 "UnlikeBoats$Protest" "told" "I", Cond.methodLink RX0 62 yX0_isKnown, Cond.instanceMethod yX0_isKnown, Cond.selects RX0 yX0_isKnown yX0_isKnown, Cond.code yX0_isKnown cX0_isKnown 2 (some .boolean), Cond.fieldLink RX0 59 "UnlikeBoats$Book" "now" "I", Cond.static yX12_within, Cond.initialized RX12, Cond.code yX12_within cX12_within 3 (some .boolean), Cond.methodLink RX0 56 yJx4a65c_size_8abf5, Cond.instanceMethod yJx4a65c_size_8abf5, Cond.selects RJx4a65c yJx4a65c_size_8abf5 yJx4a65c_size_8abf5]
def wsX12_reopen_r2 : List Cond := [Cond.initialized RJx4a65c, Cond.code yJx4a65c_size_8abf5 cJx4a65c_size_8abf5 1 (some .int), Cond.fieldLink RJx4a65c 48 "java/util/ArrayList" "size" "I", Cond.methodLink RX0 69 yJx4a65c_get_915e3, Cond.instanceMethod yJx4a65c_get_915e3, Cond.selects RJx4a65c yJx4a65c_get_915e3 yJx4a65c_get_915e3, Cond.code yJx4a65c_get_915e3 cJx4a65c_get_915e3 2 (some (.object "java/lang/Object")), Cond.methodLink RJx4a65c 118 yJ15_checkIndex_7cf53, Cond.static yJ15_checkIndex_7cf53, Cond.initialized RJ15, Cond.code yJ15_checkIndex_7cf53 cJ15_checkIndex_7cf53 2 (some .int), Cond.methodLink RJ15 105 yJ3_checkIndex_8e157, Cond.static yJ3_checkIndex_8e157, Cond.initialized RJ3, Cond.code yJ3_checkIndex_8e157 cJ3_checkIndex_8e157 3 (some .int), Cond.methodLink RJx4a65c 123 yJx4a65c_elementData_915e3, Cond.instanceMethod yJx4a65c_elementData_915e3, Cond.selects RJx4a65c yJx4a65c_elementData_915e3 yJx4a65c_elementData_915e3, Cond.code yJx4a65c_elementData_915e3 cJx4a65c_elementData_915e3 2 (some (.object "java/lang/Object")), Cond.fieldLink RJx4a65c 9 "java/util/ArrayList" "elementData" "[Ljava/lang/Object;", Cond.methodLink RX12 138 yJx4a65c_get_915e3, Cond.methodLink RX12 236 yX4_isDecided, Cond.instanceMethod yX4_isDecided, Cond.selects RX4 yX4_isDecided yX4_isDecided]
def wsX12_reopen_r3 : List Cond := [Cond.initialized RX4, Cond.code yX4_isDecided cX4_isDecided 1 (some .boolean), Cond.fieldLink RX4 15 "UnlikeBoats$Protest" "reopened" "I", Cond.fieldLink RX4 9 "UnlikeBoats$Protest" "decided" "I", Cond.fieldLink RX4 18 "UnlikeBoats$Protest" "decidedAnew" "I"]
def wsX12_reopen : List Cond := .code yX12_reopen cX12_reopen 3 (some .boolean) :: ((wsX12_reopen_r1 ++ (wsX12_reopen_r2 ++ wsX12_reopen_r3)) ++ wsX120 ++ wsX00 ++ wsX40 ++ wsJx4a65c0)
def wsX12_even_r1 : List Cond := [Cond.fieldLink RX12 10 "UnlikeBoats" "book" "LUnlikeBoats$Book;", Cond.fieldLink RX12 51 "UnlikeBoats" "office" "LUnlikeBoats$Office;", Cond.fieldLink RX12 255 "UnlikeBoats$Office" "bestSpread" "I", Cond.methodLink RX12 246 yX0_areSome, Cond.instanceMethod yX0_areSome, Cond.selects RX0 yX0_areSome yX0_areSome, Cond.initialized RX0, Cond.code yX0_areSome cX0_areSome 2 (some .boolean), Cond.fieldLink RX0 48 "UnlikeBoats$Book" "boats" "I", Cond.static yX12_within, Cond.initialized RX12, Cond.code yX12_within cX12_within 3 (some .boolean), Cond.methodLink RX0 88 yJ6_bitCount_0f7a4, Cond.static yJ6_bitCount_0f7a4, Cond.initialized RJ6, Cond.code yJ6_bitCount_0f7a4 cJ6_bitCount_0f7a4 1 (some .int), Cond.constant RJ6 265 (1431655765), Cond.constant RJ6 266 (858993459), Cond.constant RJ6 267 (252645135), Cond.methodLink RX12 249 yX3_loadAll, Cond.instanceMethod yX3_loadAll, Cond.selects RX3 yX3_loadAll yX3_loadAll, Cond.initialized RX3, Cond.code yX3_loadAll cX3_loadAll 2 none]
def wsX12_even_r2 : List Cond := [Cond.fieldLink RX3 55 "UnlikeBoats$Office" "book" "LUnlikeBoats$Book;", Cond.fieldLink RX3 63 "UnlikeBoats$Book" "races" "Ljava/util/ArrayList;", Cond.methodLink RX3 69 yJx4a65c_size_8abf5, Cond.instanceMethod yJx4a65c_size_8abf5, Cond.selects RJx4a65c yJx4a65c_size_8abf5 yJx4a65c_size_8abf5, Cond.initialized RJx4a65c, Cond.code yJx4a65c_size_8abf5 cJx4a65c_size_8abf5 1 (some .int), Cond.fieldLink RJx4a65c 48 "java/util/ArrayList" "size" "I", Cond.methodLink RX3 75 yX3_load, Cond.instanceMethod yX3_load, Cond.selects RX3 yX3_load yX3_load, Cond.code yX3_load cX3_load 4 none, Cond.fieldLink RX3 59 "UnlikeBoats$Office" "sheet" "LUnlikeBoats$Sheet;", Cond.fieldLink RX3 79 "UnlikeBoats$Book" "now" "I", Cond.fieldLink RX3 11 "UnlikeBoats$Office" "finished" "[Z", Cond.fieldLink RX3 93 "UnlikeBoats$Sheet" "codes" "[I", Cond.fieldLink RX3 15 "UnlikeBoats$Office" "seconds" "[I", Cond.fieldLink RX3 96 "UnlikeBoats$Sheet" "seconds" "[I", Cond.fieldLink RX3 19 "UnlikeBoats$Office" "numbers" "[I", Cond.fieldLink RX3 97 "UnlikeBoats$Sheet" "numbers" "[I", Cond.fieldLink RX3 22 "UnlikeBoats$Office" "times" "[I", Cond.fieldLink RX3 98 "UnlikeBoats$Sheet" "times" "[I", Cond.methodLink RX3 83 yX9_read, Cond.instanceMethod yX9_read]
def wsX12_even_r3 : List Cond := [Cond.selects RX9 yX9_read yX9_read, Cond.initialized RX9, Cond.code yX9_read cX9_read 5 none, Cond.fieldLink RX9 27 "UnlikeBoats$Sheet" "book" "LUnlikeBoats$Book;", Cond.fieldLink RX9 31 "UnlikeBoats$Book" "races" "Ljava/util/ArrayList;", Cond.classLink RX9 43 "UnlikeBoats$Race", Cond.fieldLink RX9 81 "UnlikeBoats$Race" "day" "I", Cond.fieldLink RX9 87 "UnlikeBoats$Sheet" "law" "I", Cond.fieldLink RX9 94 "UnlikeBoats$Sheet" "entered" "I", Cond.fieldLink RX9 97 "UnlikeBoats$Sheet" "finished" "I", Cond.fieldLink RX9 9 "UnlikeBoats$Sheet" "codes" "[I", Cond.fieldLink RX9 18 "UnlikeBoats$Sheet" "numbers" "[I", Cond.fieldLink RX9 21 "UnlikeBoats$Sheet" "times" "[I", Cond.fieldLink RX9 104 "UnlikeBoats$Race" "way" "I", Cond.fieldLink RX9 15 "UnlikeBoats$Sheet" "seconds" "[I", Cond.fieldLink RX9 107 "UnlikeBoats$Race" "miles" "I", Cond.fieldLink RX9 24 "UnlikeBoats$Sheet" "places" "[I", Cond.methodLink RX9 77 yX9_readCodes, Cond.instanceMethod yX9_readCodes, Cond.selects RX9 yX9_readCodes yX9_readCodes, Cond.code yX9_readCodes cX9_readCodes 6 none, Cond.fieldLink RX9 49 "UnlikeBoats$Book" "results" "Ljava/util/ArrayList;", Cond.classLink RX9 56 "UnlikeBoats$Result", Cond.fieldLink RX9 58 "UnlikeBoats$Result" "race" "I"]
def wsX12_even_r4 : List Cond := [Cond.fieldLink RX9 62 "UnlikeBoats$Result" "told" "I", Cond.fieldLink RX9 65 "UnlikeBoats$Result" "boat" "I", Cond.fieldLink RX9 68 "UnlikeBoats$Result" "code" "I", Cond.fieldLink RX9 71 "UnlikeBoats$Result" "seconds" "I", Cond.methodLink RX9 37 yJx4a65c_get_915e3, Cond.instanceMethod yJx4a65c_get_915e3, Cond.selects RJx4a65c yJx4a65c_get_915e3 yJx4a65c_get_915e3, Cond.code yJx4a65c_get_915e3 cJx4a65c_get_915e3 2 (some (.object "java/lang/Object")), Cond.methodLink RJx4a65c 118 yJ15_checkIndex_7cf53, Cond.static yJ15_checkIndex_7cf53, Cond.initialized RJ15, Cond.code yJ15_checkIndex_7cf53 cJ15_checkIndex_7cf53 2 (some .int), Cond.methodLink RJ15 105 yJ3_checkIndex_8e157, Cond.static yJ3_checkIndex_8e157, Cond.initialized RJ3, Cond.code yJ3_checkIndex_8e157 cJ3_checkIndex_8e157 3 (some .int), Cond.methodLink RJx4a65c 123 yJx4a65c_elementData_915e3, Cond.instanceMethod yJx4a65c_elementData_915e3, Cond.selects RJx4a65c yJx4a65c_elementData_915e3 yJx4a65c_elementData_915e3, Cond.code yJx4a65c_elementData_915e3 cJx4a65c_elementData_915e3 2 (some (.object "java/lang/Object")), Cond.fieldLink RJx4a65c 9 "java/util/ArrayList" "elementData" "[Ljava/lang/Object;", Cond.methodLink RX9 45 yX5_isEnteredIn, Cond.instanceMethod yX5_isEnteredIn, Cond.selects RX5 yX5_isEnteredIn yX5_isEnteredIn]
def wsX12_even_r5 : List Cond := [Cond.initialized RX5, Cond.code yX5_isEnteredIn cX5_isEnteredIn 3 (some .boolean), Cond.fieldLink RX5 9 "UnlikeBoats$Race" "entries" "[I", Cond.methodLink RX9 52 yJx4a65c_size_8abf5, Cond.methodLink RX9 73 yX0_disqualifiedIn, Cond.instanceMethod yX0_disqualifiedIn, Cond.selects RX0 yX0_disqualifiedIn yX0_disqualifiedIn, Cond.code yX0_disqualifiedIn cX0_disqualifiedIn 7 (some .int), Cond.fieldLink RX0 30 "UnlikeBoats$Book" "protests" "Ljava/util/ArrayList;", Cond.classLink RX0 85 "UnlikeBoats$Protest", Cond.fieldLink RX0 140 "UnlikeBoats$Protest" "race" "I", Cond.fieldLink RX0 146 "UnlikeBoats$Protest" "a" "I", Cond.fieldLink RX0 149 "UnlikeBoats$Protest" "b" "I", Cond.methodLink RX0 56 yJx4a65c_size_8abf5, Cond.methodLink RX0 69 yJx4a65c_get_915e3, Cond.methodLink RX0 143 yX4_guiltyIn, Cond.instanceMethod yX4_guiltyIn, Cond.selects RX4 yX4_guiltyIn yX4_guiltyIn, Cond.initialized RX4, Cond.code yX4_guiltyIn cX4_guiltyIn 2 (some .int), Cond.fieldLink RX4 18 "UnlikeBoats$Protest" "decidedAnew" "I", Cond.fieldLink RX4 39 "UnlikeBoats$Protest" "guiltyAnew" "I", Cond.fieldLink RX4 15 "UnlikeBoats$Protest" "reopened" "I", Cond.fieldLink RX4 9 "UnlikeBoats$Protest" "decided" "I"]
def wsX12_even_r6 : List Cond := [Cond.fieldLink RX4 36 "UnlikeBoats$Protest" "guilty" "I", Cond.methodLink RX9 84 yX0_rulesOn, Cond.instanceMethod yX0_rulesOn, Cond.selects RX0 yX0_rulesOn yX0_rulesOn, Cond.code yX0_rulesOn cX0_rulesOn 7 (some .int), Cond.fieldLink RX0 18 "UnlikeBoats$Book" "rules" "Ljava/util/ArrayList;", Cond.classLink RX0 103 "UnlikeBoats$Rules", Cond.fieldLink RX0 105 "UnlikeBoats$Rules" "told" "I", Cond.fieldLink RX0 106 "UnlikeBoats$Rules" "from" "I", Cond.methodLink RX9 90 yX5_enteredIn, Cond.instanceMethod yX5_enteredIn, Cond.selects RX5 yX5_enteredIn yX5_enteredIn, Cond.code yX5_enteredIn cX5_enteredIn 4 (some .int), Cond.methodLink RX5 55 yX5_isEnteredIn, Cond.methodLink RX9 100 yX0_numberOf, Cond.instanceMethod yX0_numberOf, Cond.selects RX0 yX0_numberOf yX0_numberOf, Cond.code yX0_numberOf cX0_numberOf 7 (some .int), Cond.fieldLink RX0 12 "UnlikeBoats$Book" "certificates" "Ljava/util/ArrayList;", Cond.classLink RX0 94 "UnlikeBoats$Certificate", Cond.fieldLink RX0 41 "UnlikeBoats$Book" "letters" "[I", Cond.fieldLink RX0 118 "UnlikeBoats$Certificate" "lon" "I", Cond.fieldLink RX0 121 "UnlikeBoats$Certificate" "area" "I", Cond.fieldLink RX0 124 "UnlikeBoats$Certificate" "weight" "I"]
def wsX12_even_r7 : List Cond := [Cond.fieldLink RX0 45 "UnlikeBoats$Book" "stack" "[I", Cond.methodLink RX0 107 yX0_rulesOn, Cond.methodLink RX0 111 yX0_certificateOn, Cond.instanceMethod yX0_certificateOn, Cond.selects RX0 yX0_certificateOn yX0_certificateOn, Cond.code yX0_certificateOn cX0_certificateOn 8 (some .int), Cond.fieldLink RX0 96 "UnlikeBoats$Certificate" "boat" "I", Cond.fieldLink RX0 99 "UnlikeBoats$Certificate" "told" "I", Cond.fieldLink RX0 100 "UnlikeBoats$Certificate" "from" "I", Cond.methodLink RX0 115 yX0_forgetLetters, Cond.instanceMethod yX0_forgetLetters, Cond.selects RX0 yX0_forgetLetters yX0_forgetLetters, Cond.code yX0_forgetLetters cX0_forgetLetters 1 none, Cond.methodLink RX0 134 yJ7_fill_53178, Cond.static yJ7_fill_53178, Cond.initialized RJ7, Cond.code yJ7_fill_53178 cJ7_fill_53178 4 none, Cond.methodLink RX0 127 yX7_worthOf, Cond.instanceMethod yX7_worthOf, Cond.selects RX7 yX7_worthOf yX7_worthOf, Cond.initialized RX7, Cond.code yX7_worthOf cX7_worthOf 6 (some .int), Cond.fieldLink RX7 22 "UnlikeBoats$Rules" "labels" "[I", Cond.fieldLink RX7 28 "UnlikeBoats$Rules" "sums" "[I"]
def wsX12_even_r8 : List Cond := [Cond.fieldLink RX7 25 "UnlikeBoats$Rules" "begins" "[I", Cond.methodLink RX7 31 yX7_run, Cond.instanceMethod yX7_run, Cond.selects RX7 yX7_run yX7_run, Cond.code yX7_run cX7_run 9 (some .int), Cond.fieldLink RX7 18 "UnlikeBoats$Rules" "steps" "[I", Cond.methodLink RX7 35 yX7_asSign, Cond.static yX7_asSign, Cond.code yX7_asSign cX7_asSign 1 (some .int), Cond.methodLink RX7 39 yX7_join, Cond.static yX7_join, Cond.code yX7_join cX7_join 5 (some .int), Cond.constantLong RX7 47 (10000000), Cond.constant RX7 49 (10000000), Cond.constantLong RX7 50 (-10000000), Cond.constant RX7 52 (-10000000), Cond.methodLink RX7 43 yX7_letterAt, Cond.static yX7_letterAt, Cond.code yX7_letterAt cX7_letterAt 2 (some .int), Cond.static yX12_held, Cond.code yX12_held cX12_held 3 (some .int), Cond.methodLink RX9 110 yX9_placeOf, Cond.instanceMethod yX9_placeOf, Cond.selects RX9 yX9_placeOf yX9_placeOf]
def wsX12_even_r9 : List Cond := [Cond.code yX9_placeOf cX9_placeOf 5 (some .int), Cond.static yX12_cell, Cond.code yX12_cell cX12_cell 2 (some .int), Cond.methodLink RX12 252 yX3_evenOut, Cond.instanceMethod yX3_evenOut, Cond.selects RX3 yX3_evenOut yX3_evenOut, Cond.code yX3_evenOut cX3_evenOut 9 none, Cond.fieldLink RX3 43 "UnlikeBoats$Office" "evened" "[I", Cond.constant RX3 125 (2147483647), Cond.fieldLink RX3 146 "UnlikeBoats$Office" "bestSpread" "I", Cond.fieldLink RX3 46 "UnlikeBoats$Office" "tried" "[I", Cond.fieldLink RX3 49 "UnlikeBoats$Office" "best" "[I", Cond.methodLink RX3 152 arraycopyName, Cond.native arraycopyName, Cond.static arraycopyName, Cond.initialized "java/lang/System", Cond.methodLink RX3 143 yX3_gatherChanged, Cond.instanceMethod yX3_gatherChanged, Cond.selects RX3 yX3_gatherChanged yX3_gatherChanged, Cond.code yX3_gatherChanged cX3_gatherChanged 8 none, Cond.fieldLink RX3 158 "UnlikeBoats$Office" "spreading" "I", Cond.classLink RX3 103 "UnlikeBoats$Race", Cond.fieldLink RX3 105 "UnlikeBoats$Race" "way" "I", Cond.methodLink RX3 129 Lib.Math.max.name]
def wsX12_even_r10 : List Cond := [Cond.static Lib.Math.max.name, Cond.initialized "java/lang/Math", Cond.code Lib.Math.max.name Lib.Math.max.code 2 (some .int), Cond.fieldLink RX3 40 "UnlikeBoats$Office" "changed" "[I", Cond.methodLink RX3 99 yJx4a65c_get_915e3, Cond.methodLink RX3 161 yX3_rowOf, Cond.static yX3_rowOf, Cond.code yX3_rowOf cX3_rowOf 2 (some .int), Cond.static yX12_apart, Cond.code yX12_apart cX12_apart 2 (some .int), Cond.methodLink RX3 149 yX3_spreadTried, Cond.instanceMethod yX3_spreadTried, Cond.selects RX3 yX3_spreadTried yX3_spreadTried, Cond.code yX3_spreadTried cX3_spreadTried 8 (some .int)]
def wsX12_even : List Cond := .code yX12_even cX12_even 2 (some .int) :: ((wsX12_even_r1 ++ (wsX12_even_r2 ++ (wsX12_even_r3 ++ (wsX12_even_r4 ++ (wsX12_even_r5 ++ (wsX12_even_r6 ++ (wsX12_even_r7 ++ (wsX12_even_r8 ++ (wsX12_even_r9 ++ wsX12_even_r10))))))))) ++ wsX120 ++ wsX30 ++ wsX00 ++ wsJx4a65c0 ++ wsX90 ++ wsX50 ++ wsX60 ++ wsX40 ++ wsX70 ++ wsX10)
def wsX12_change_r1 : List Cond := [Cond.fieldLink RX12 10 "UnlikeBoats" "book" "LUnlikeBoats$Book;", Cond.constant RX12 172 (-1000000000), Cond.fieldLink RX12 51 "UnlikeBoats" "office" "LUnlikeBoats$Office;", Cond.methodLink RX12 246 yX0_areSome, Cond.instanceMethod yX0_areSome, Cond.selects RX0 yX0_areSome yX0_areSome, Cond.initialized RX0, Cond.code yX0_areSome cX0_areSome 2 (some .boolean), Cond.fieldLink RX0 48 "UnlikeBoats$Book" "boats" "I", Cond.static yX12_within, Cond.initialized RX12, Cond.code yX12_within cX12_within 3 (some .boolean), Cond.methodLink RX0 88 yJ6_bitCount_0f7a4, Cond.static yJ6_bitCount_0f7a4, Cond.initialized RJ6, Cond.code yJ6_bitCount_0f7a4 cJ6_bitCount_0f7a4 1 (some .int), Cond.constant RJ6 265 (1431655765), Cond.constant RJ6 266 (858993459), Cond.constant RJ6 267 (252645135), Cond.methodLink RX12 66 yX0_isBoat, Cond.instanceMethod yX0_isBoat, Cond.selects RX0 yX0_isBoat yX0_isBoat, Cond.code yX0_isBoat cX0_isBoat 2 (some .boolean), Cond.methodLink RX12 249 yX3_loadAll]
def wsX12_change_r2 : List Cond := [Cond.instanceMethod yX3_loadAll, Cond.selects RX3 yX3_loadAll yX3_loadAll, Cond.initialized RX3, Cond.code yX3_loadAll cX3_loadAll 2 none, Cond.fieldLink RX3 55 "UnlikeBoats$Office" "book" "LUnlikeBoats$Book;", Cond.fieldLink RX3 63 "UnlikeBoats$Book" "races" "Ljava/util/ArrayList;", Cond.methodLink RX3 69 yJx4a65c_size_8abf5, Cond.instanceMethod yJx4a65c_size_8abf5, Cond.selects RJx4a65c yJx4a65c_size_8abf5 yJx4a65c_size_8abf5, Cond.initialized RJx4a65c, Cond.code yJx4a65c_size_8abf5 cJx4a65c_size_8abf5 1 (some .int), Cond.fieldLink RJx4a65c 48 "java/util/ArrayList" "size" "I", Cond.methodLink RX3 75 yX3_load, Cond.instanceMethod yX3_load, Cond.selects RX3 yX3_load yX3_load, Cond.code yX3_load cX3_load 4 none, Cond.fieldLink RX3 59 "UnlikeBoats$Office" "sheet" "LUnlikeBoats$Sheet;", Cond.fieldLink RX3 79 "UnlikeBoats$Book" "now" "I", Cond.fieldLink RX3 11 "UnlikeBoats$Office" "finished" "[Z", Cond.fieldLink RX3 93 "UnlikeBoats$Sheet" "codes" "[I", Cond.fieldLink RX3 15 "UnlikeBoats$Office" "seconds" "[I", Cond.fieldLink RX3 96 "UnlikeBoats$Sheet" "seconds" "[I", Cond.fieldLink RX3 19 "UnlikeBoats$Office" "numbers" "[I", Cond.fieldLink RX3 97 "UnlikeBoats$Sheet" "numbers" "[I"]
def wsX12_change_r3 : List Cond := [Cond.fieldLink RX3 22 "UnlikeBoats$Office" "times" "[I", Cond.fieldLink RX3 98 "UnlikeBoats$Sheet" "times" "[I", Cond.methodLink RX3 83 yX9_read, Cond.instanceMethod yX9_read, Cond.selects RX9 yX9_read yX9_read, Cond.initialized RX9, Cond.code yX9_read cX9_read 5 none, Cond.fieldLink RX9 27 "UnlikeBoats$Sheet" "book" "LUnlikeBoats$Book;", Cond.fieldLink RX9 31 "UnlikeBoats$Book" "races" "Ljava/util/ArrayList;", Cond.classLink RX9 43 "UnlikeBoats$Race", Cond.fieldLink RX9 81 "UnlikeBoats$Race" "day" "I", Cond.fieldLink RX9 87 "UnlikeBoats$Sheet" "law" "I", Cond.fieldLink RX9 94 "UnlikeBoats$Sheet" "entered" "I", Cond.fieldLink RX9 97 "UnlikeBoats$Sheet" "finished" "I", Cond.fieldLink RX9 9 "UnlikeBoats$Sheet" "codes" "[I", Cond.fieldLink RX9 18 "UnlikeBoats$Sheet" "numbers" "[I", Cond.fieldLink RX9 21 "UnlikeBoats$Sheet" "times" "[I", Cond.fieldLink RX9 104 "UnlikeBoats$Race" "way" "I", Cond.fieldLink RX9 15 "UnlikeBoats$Sheet" "seconds" "[I", Cond.fieldLink RX9 107 "UnlikeBoats$Race" "miles" "I", Cond.fieldLink RX9 24 "UnlikeBoats$Sheet" "places" "[I", Cond.methodLink RX9 77 yX9_readCodes, Cond.instanceMethod yX9_readCodes, Cond.selects RX9 yX9_readCodes yX9_readCodes]
def wsX12_change_r4 : List Cond := [Cond.code yX9_readCodes cX9_readCodes 6 none, Cond.fieldLink RX9 49 "UnlikeBoats$Book" "results" "Ljava/util/ArrayList;", Cond.classLink RX9 56 "UnlikeBoats$Result", Cond.fieldLink RX9 58 "UnlikeBoats$Result" "race" "I", Cond.fieldLink RX9 62 "UnlikeBoats$Result" "told" "I", Cond.fieldLink RX9 65 "UnlikeBoats$Result" "boat" "I", Cond.fieldLink RX9 68 "UnlikeBoats$Result" "code" "I", Cond.fieldLink RX9 71 "UnlikeBoats$Result" "seconds" "I", Cond.methodLink RX9 37 yJx4a65c_get_915e3, Cond.instanceMethod yJx4a65c_get_915e3, Cond.selects RJx4a65c yJx4a65c_get_915e3 yJx4a65c_get_915e3, Cond.code yJx4a65c_get_915e3 cJx4a65c_get_915e3 2 (some (.object "java/lang/Object")), Cond.methodLink RJx4a65c 118 yJ15_checkIndex_7cf53, Cond.static yJ15_checkIndex_7cf53, Cond.initialized RJ15, Cond.code yJ15_checkIndex_7cf53 cJ15_checkIndex_7cf53 2 (some .int), Cond.methodLink RJ15 105 yJ3_checkIndex_8e157, Cond.static yJ3_checkIndex_8e157, Cond.initialized RJ3, Cond.code yJ3_checkIndex_8e157 cJ3_checkIndex_8e157 3 (some .int), Cond.methodLink RJx4a65c 123 yJx4a65c_elementData_915e3, Cond.instanceMethod yJx4a65c_elementData_915e3, Cond.selects RJx4a65c yJx4a65c_elementData_915e3 yJx4a65c_elementData_915e3, Cond.code yJx4a65c_elementData_915e3 cJx4a65c_elementData_915e3 2 (some (.object "java/lang/Object"))]
def wsX12_change_r5 : List Cond := [Cond.fieldLink RJx4a65c 9 "java/util/ArrayList" "elementData" "[Ljava/lang/Object;", Cond.methodLink RX9 45 yX5_isEnteredIn, Cond.instanceMethod yX5_isEnteredIn, Cond.selects RX5 yX5_isEnteredIn yX5_isEnteredIn, Cond.initialized RX5, Cond.code yX5_isEnteredIn cX5_isEnteredIn 3 (some .boolean), Cond.fieldLink RX5 9 "UnlikeBoats$Race" "entries" "[I", Cond.methodLink RX9 52 yJx4a65c_size_8abf5, Cond.methodLink RX9 73 yX0_disqualifiedIn, Cond.instanceMethod yX0_disqualifiedIn, Cond.selects RX0 yX0_disqualifiedIn yX0_disqualifiedIn, Cond.code yX0_disqualifiedIn cX0_disqualifiedIn 7 (some .int), Cond.fieldLink RX0 30 "UnlikeBoats$Book" "protests" "Ljava/util/ArrayList;", Cond.classLink RX0 85 "UnlikeBoats$Protest", Cond.fieldLink RX0 140 "UnlikeBoats$Protest" "race" "I", Cond.fieldLink RX0 146 "UnlikeBoats$Protest" "a" "I", Cond.fieldLink RX0 149 "UnlikeBoats$Protest" "b" "I", Cond.methodLink RX0 56 yJx4a65c_size_8abf5, Cond.methodLink RX0 69 yJx4a65c_get_915e3, Cond.methodLink RX0 143 yX4_guiltyIn, Cond.instanceMethod yX4_guiltyIn, Cond.selects RX4 yX4_guiltyIn yX4_guiltyIn, Cond.initialized RX4, Cond.code yX4_guiltyIn cX4_guiltyIn 2 (some .int)]
def wsX12_change_r6 : List Cond := [Cond.fieldLink RX4 18 "UnlikeBoats$Protest" "decidedAnew" "I", Cond.fieldLink RX4 39 "UnlikeBoats$Protest" "guiltyAnew" "I", Cond.fieldLink RX4 15 "UnlikeBoats$Protest" "reopened" "I", Cond.fieldLink RX4 9 "UnlikeBoats$Protest" "decided" "I", Cond.fieldLink RX4 36 "UnlikeBoats$Protest" "guilty" "I", Cond.methodLink RX9 84 yX0_rulesOn, Cond.instanceMethod yX0_rulesOn, Cond.selects RX0 yX0_rulesOn yX0_rulesOn, Cond.code yX0_rulesOn cX0_rulesOn 7 (some .int), Cond.fieldLink RX0 18 "UnlikeBoats$Book" "rules" "Ljava/util/ArrayList;", Cond.classLink RX0 103 "UnlikeBoats$Rules", Cond.fieldLink RX0 105 "UnlikeBoats$Rules" "told" "I", Cond.fieldLink RX0 106 "UnlikeBoats$Rules" "from" "I", Cond.methodLink RX9 90 yX5_enteredIn, Cond.instanceMethod yX5_enteredIn, Cond.selects RX5 yX5_enteredIn yX5_enteredIn, Cond.code yX5_enteredIn cX5_enteredIn 4 (some .int), Cond.methodLink RX5 55 yX5_isEnteredIn, Cond.methodLink RX9 100 yX0_numberOf, Cond.instanceMethod yX0_numberOf, Cond.selects RX0 yX0_numberOf yX0_numberOf, Cond.code yX0_numberOf cX0_numberOf 7 (some .int), Cond.fieldLink RX0 12 "UnlikeBoats$Book" "certificates" "Ljava/util/ArrayList;", Cond.classLink RX0 94 "UnlikeBoats$Certificate"]
def wsX12_change_r7 : List Cond := [Cond.fieldLink RX0 41 "UnlikeBoats$Book" "letters" "[I", Cond.fieldLink RX0 118 "UnlikeBoats$Certificate" "lon" "I", Cond.fieldLink RX0 121 "UnlikeBoats$Certificate" "area" "I", Cond.fieldLink RX0 124 "UnlikeBoats$Certificate" "weight" "I", Cond.fieldLink RX0 45 "UnlikeBoats$Book" "stack" "[I", Cond.methodLink RX0 107 yX0_rulesOn, Cond.methodLink RX0 111 yX0_certificateOn, Cond.instanceMethod yX0_certificateOn, Cond.selects RX0 yX0_certificateOn yX0_certificateOn, Cond.code yX0_certificateOn cX0_certificateOn 8 (some .int), Cond.fieldLink RX0 96 "UnlikeBoats$Certificate" "boat" "I", Cond.fieldLink RX0 99 "UnlikeBoats$Certificate" "told" "I", Cond.fieldLink RX0 100 "UnlikeBoats$Certificate" "from" "I", Cond.methodLink RX0 115 yX0_forgetLetters, Cond.instanceMethod yX0_forgetLetters, Cond.selects RX0 yX0_forgetLetters yX0_forgetLetters, Cond.code yX0_forgetLetters cX0_forgetLetters 1 none, Cond.methodLink RX0 134 yJ7_fill_53178, Cond.static yJ7_fill_53178, Cond.initialized RJ7, Cond.code yJ7_fill_53178 cJ7_fill_53178 4 none, Cond.methodLink RX0 127 yX7_worthOf, Cond.instanceMethod yX7_worthOf, Cond.selects RX7 yX7_worthOf yX7_worthOf]
def wsX12_change_r8 : List Cond := [Cond.initialized RX7, Cond.code yX7_worthOf cX7_worthOf 6 (some .int), Cond.fieldLink RX7 22 "UnlikeBoats$Rules" "labels" "[I", Cond.fieldLink RX7 28 "UnlikeBoats$Rules" "sums" "[I", Cond.fieldLink RX7 25 "UnlikeBoats$Rules" "begins" "[I", Cond.methodLink RX7 31 yX7_run, Cond.instanceMethod yX7_run, Cond.selects RX7 yX7_run yX7_run, Cond.code yX7_run cX7_run 9 (some .int), Cond.fieldLink RX7 18 "UnlikeBoats$Rules" "steps" "[I", Cond.methodLink RX7 35 yX7_asSign, Cond.static yX7_asSign, Cond.code yX7_asSign cX7_asSign 1 (some .int), Cond.methodLink RX7 39 yX7_join, Cond.static yX7_join, Cond.code yX7_join cX7_join 5 (some .int), Cond.constantLong RX7 47 (10000000), Cond.constant RX7 49 (10000000), Cond.constantLong RX7 50 (-10000000), Cond.constant RX7 52 (-10000000), Cond.methodLink RX7 43 yX7_letterAt, Cond.static yX7_letterAt, Cond.code yX7_letterAt cX7_letterAt 2 (some .int), Cond.static yX12_held]
def wsX12_change_r9 : List Cond := [Cond.code yX12_held cX12_held 3 (some .int), Cond.methodLink RX9 110 yX9_placeOf, Cond.instanceMethod yX9_placeOf, Cond.selects RX9 yX9_placeOf yX9_placeOf, Cond.code yX9_placeOf cX9_placeOf 5 (some .int), Cond.static yX12_cell, Cond.code yX12_cell cX12_cell 2 (some .int), Cond.methodLink RX12 252 yX3_evenOut, Cond.instanceMethod yX3_evenOut, Cond.selects RX3 yX3_evenOut yX3_evenOut, Cond.code yX3_evenOut cX3_evenOut 9 none, Cond.fieldLink RX3 43 "UnlikeBoats$Office" "evened" "[I", Cond.constant RX3 125 (2147483647), Cond.fieldLink RX3 146 "UnlikeBoats$Office" "bestSpread" "I", Cond.fieldLink RX3 46 "UnlikeBoats$Office" "tried" "[I", Cond.fieldLink RX3 49 "UnlikeBoats$Office" "best" "[I", Cond.methodLink RX3 152 arraycopyName, Cond.native arraycopyName, Cond.static arraycopyName, Cond.initialized "java/lang/System", Cond.methodLink RX3 143 yX3_gatherChanged, Cond.instanceMethod yX3_gatherChanged, Cond.selects RX3 yX3_gatherChanged yX3_gatherChanged, Cond.code yX3_gatherChanged cX3_gatherChanged 8 none]
def wsX12_change_r10 : List Cond := [Cond.fieldLink RX3 158 "UnlikeBoats$Office" "spreading" "I", Cond.classLink RX3 103 "UnlikeBoats$Race", Cond.fieldLink RX3 105 "UnlikeBoats$Race" "way" "I", Cond.methodLink RX3 129 Lib.Math.max.name, Cond.static Lib.Math.max.name, Cond.initialized "java/lang/Math", Cond.code Lib.Math.max.name Lib.Math.max.code 2 (some .int), Cond.fieldLink RX3 40 "UnlikeBoats$Office" "changed" "[I", Cond.methodLink RX3 99 yJx4a65c_get_915e3, Cond.methodLink RX3 161 yX3_rowOf, Cond.static yX3_rowOf, Cond.code yX3_rowOf cX3_rowOf 2 (some .int), Cond.static yX12_apart, Cond.code yX12_apart cX12_apart 2 (some .int), Cond.methodLink RX3 149 yX3_spreadTried, Cond.instanceMethod yX3_spreadTried, Cond.selects RX3 yX3_spreadTried yX3_spreadTried, Cond.code yX3_spreadTried cX3_spreadTried 8 (some .int), Cond.methodLink RX12 258 yX3_bestChangeOf, Cond.instanceMethod yX3_bestChangeOf, Cond.selects RX3 yX3_bestChangeOf yX3_bestChangeOf, Cond.code yX3_bestChangeOf cX3_bestChangeOf 3 (some .int), Cond.constant RX3 108 (-1000000000)]
def wsX12_change : List Cond := .code yX12_change cX12_change 3 (some .int) :: ((wsX12_change_r1 ++ (wsX12_change_r2 ++ (wsX12_change_r3 ++ (wsX12_change_r4 ++ (wsX12_change_r5 ++ (wsX12_change_r6 ++ (wsX12_change_r7 ++ (wsX12_change_r8 ++ (wsX12_change_r9 ++ wsX12_change_r10))))))))) ++ wsX120 ++ wsX00 ++ wsX30 ++ wsJx4a65c0 ++ wsX90 ++ wsX50 ++ wsX60 ++ wsX40 ++ wsX70 ++ wsX10)
def wsX12_middle_r1 : List Cond := [Cond.fieldLink RX12 10 "UnlikeBoats" "book" "LUnlikeBoats$Book;", Cond.constant RX12 172 (-1000000000), Cond.fieldLink RX12 51 "UnlikeBoats" "office" "LUnlikeBoats$Office;", Cond.methodLink RX12 135 yX0_isRace, Cond.instanceMethod yX0_isRace, Cond.selects RX0 yX0_isRace yX0_isRace, Cond.initialized RX0, Cond.code yX0_isRace cX0_isRace 2 (some .boolean), Cond.fieldLink RX0 21 "UnlikeBoats$Book" "races" "Ljava/util/ArrayList;", Cond.methodLink RX0 56 yJx4a65c_size_8abf5, Cond.instanceMethod yJx4a65c_size_8abf5, Cond.selects RJx4a65c yJx4a65c_size_8abf5 yJx4a65c_size_8abf5, Cond.initialized RJx4a65c, Cond.code yJx4a65c_size_8abf5 cJx4a65c_size_8abf5 1 (some .int), Cond.fieldLink RJx4a65c 48 "java/util/ArrayList" "size" "I", Cond.static yX12_within, Cond.initialized RX12, Cond.code yX12_within cX12_within 3 (some .boolean), Cond.methodLink RX12 66 yX0_isBoat, Cond.instanceMethod yX0_isBoat, Cond.selects RX0 yX0_isBoat yX0_isBoat, Cond.code yX0_isBoat cX0_isBoat 2 (some .boolean), Cond.fieldLink RX0 48 "UnlikeBoats$Book" "boats" "I", Cond.methodLink RX12 261 yX3_load]
def wsX12_middle_r2 : List Cond := [Cond.instanceMethod yX3_load, Cond.selects RX3 yX3_load yX3_load, Cond.initialized RX3, Cond.code yX3_load cX3_load 4 none, Cond.fieldLink RX3 59 "UnlikeBoats$Office" "sheet" "LUnlikeBoats$Sheet;", Cond.fieldLink RX3 55 "UnlikeBoats$Office" "book" "LUnlikeBoats$Book;", Cond.fieldLink RX3 79 "UnlikeBoats$Book" "now" "I", Cond.fieldLink RX3 11 "UnlikeBoats$Office" "finished" "[Z", Cond.fieldLink RX3 93 "UnlikeBoats$Sheet" "codes" "[I", Cond.fieldLink RX3 15 "UnlikeBoats$Office" "seconds" "[I", Cond.fieldLink RX3 96 "UnlikeBoats$Sheet" "seconds" "[I", Cond.fieldLink RX3 19 "UnlikeBoats$Office" "numbers" "[I", Cond.fieldLink RX3 97 "UnlikeBoats$Sheet" "numbers" "[I", Cond.fieldLink RX3 22 "UnlikeBoats$Office" "times" "[I", Cond.fieldLink RX3 98 "UnlikeBoats$Sheet" "times" "[I", Cond.methodLink RX3 83 yX9_read, Cond.instanceMethod yX9_read, Cond.selects RX9 yX9_read yX9_read, Cond.initialized RX9, Cond.code yX9_read cX9_read 5 none, Cond.fieldLink RX9 27 "UnlikeBoats$Sheet" "book" "LUnlikeBoats$Book;", Cond.fieldLink RX9 31 "UnlikeBoats$Book" "races" "Ljava/util/ArrayList;", Cond.classLink RX9 43 "UnlikeBoats$Race", Cond.fieldLink RX9 81 "UnlikeBoats$Race" "day" "I"]
def wsX12_middle_r3 : List Cond := [Cond.fieldLink RX9 87 "UnlikeBoats$Sheet" "law" "I", Cond.fieldLink RX9 94 "UnlikeBoats$Sheet" "entered" "I", Cond.fieldLink RX9 97 "UnlikeBoats$Sheet" "finished" "I", Cond.fieldLink RX9 9 "UnlikeBoats$Sheet" "codes" "[I", Cond.fieldLink RX9 18 "UnlikeBoats$Sheet" "numbers" "[I", Cond.fieldLink RX9 21 "UnlikeBoats$Sheet" "times" "[I", Cond.fieldLink RX9 104 "UnlikeBoats$Race" "way" "I", Cond.fieldLink RX9 15 "UnlikeBoats$Sheet" "seconds" "[I", Cond.fieldLink RX9 107 "UnlikeBoats$Race" "miles" "I", Cond.fieldLink RX9 24 "UnlikeBoats$Sheet" "places" "[I", Cond.methodLink RX9 77 yX9_readCodes, Cond.instanceMethod yX9_readCodes, Cond.selects RX9 yX9_readCodes yX9_readCodes, Cond.code yX9_readCodes cX9_readCodes 6 none, Cond.fieldLink RX9 49 "UnlikeBoats$Book" "results" "Ljava/util/ArrayList;", Cond.classLink RX9 56 "UnlikeBoats$Result", Cond.fieldLink RX9 58 "UnlikeBoats$Result" "race" "I", Cond.fieldLink RX9 62 "UnlikeBoats$Result" "told" "I", Cond.fieldLink RX9 65 "UnlikeBoats$Result" "boat" "I", Cond.fieldLink RX9 68 "UnlikeBoats$Result" "code" "I", Cond.fieldLink RX9 71 "UnlikeBoats$Result" "seconds" "I", Cond.methodLink RX9 37 yJx4a65c_get_915e3, Cond.instanceMethod yJx4a65c_get_915e3, Cond.selects RJx4a65c yJx4a65c_get_915e3 yJx4a65c_get_915e3]
def wsX12_middle_r4 : List Cond := [Cond.code yJx4a65c_get_915e3 cJx4a65c_get_915e3 2 (some (.object "java/lang/Object")), Cond.methodLink RJx4a65c 118 yJ15_checkIndex_7cf53, Cond.static yJ15_checkIndex_7cf53, Cond.initialized RJ15, Cond.code yJ15_checkIndex_7cf53 cJ15_checkIndex_7cf53 2 (some .int), Cond.methodLink RJ15 105 yJ3_checkIndex_8e157, Cond.static yJ3_checkIndex_8e157, Cond.initialized RJ3, Cond.code yJ3_checkIndex_8e157 cJ3_checkIndex_8e157 3 (some .int), Cond.methodLink RJx4a65c 123 yJx4a65c_elementData_915e3, Cond.instanceMethod yJx4a65c_elementData_915e3, Cond.selects RJx4a65c yJx4a65c_elementData_915e3 yJx4a65c_elementData_915e3, Cond.code yJx4a65c_elementData_915e3 cJx4a65c_elementData_915e3 2 (some (.object "java/lang/Object")), Cond.fieldLink RJx4a65c 9 "java/util/ArrayList" "elementData" "[Ljava/lang/Object;", Cond.methodLink RX9 45 yX5_isEnteredIn, Cond.instanceMethod yX5_isEnteredIn, Cond.selects RX5 yX5_isEnteredIn yX5_isEnteredIn, Cond.initialized RX5, Cond.code yX5_isEnteredIn cX5_isEnteredIn 3 (some .boolean), Cond.fieldLink RX5 9 "UnlikeBoats$Race" "entries" "[I", Cond.methodLink RX9 52 yJx4a65c_size_8abf5, Cond.methodLink RX9 73 yX0_disqualifiedIn, Cond.instanceMethod yX0_disqualifiedIn, Cond.selects RX0 yX0_disqualifiedIn yX0_disqualifiedIn]
def wsX12_middle_r5 : List Cond := [Cond.code yX0_disqualifiedIn cX0_disqualifiedIn 7 (some .int), Cond.fieldLink RX0 30 "UnlikeBoats$Book" "protests" "Ljava/util/ArrayList;", Cond.classLink RX0 85 "UnlikeBoats$Protest", Cond.fieldLink RX0 140 "UnlikeBoats$Protest" "race" "I", Cond.fieldLink RX0 146 "UnlikeBoats$Protest" "a" "I", Cond.fieldLink RX0 149 "UnlikeBoats$Protest" "b" "I", Cond.methodLink RX0 69 yJx4a65c_get_915e3, Cond.methodLink RX0 143 yX4_guiltyIn, Cond.instanceMethod yX4_guiltyIn, Cond.selects RX4 yX4_guiltyIn yX4_guiltyIn, Cond.initialized RX4, Cond.code yX4_guiltyIn cX4_guiltyIn 2 (some .int), Cond.fieldLink RX4 18 "UnlikeBoats$Protest" "decidedAnew" "I", Cond.fieldLink RX4 39 "UnlikeBoats$Protest" "guiltyAnew" "I", Cond.fieldLink RX4 15 "UnlikeBoats$Protest" "reopened" "I", Cond.fieldLink RX4 9 "UnlikeBoats$Protest" "decided" "I", Cond.fieldLink RX4 36 "UnlikeBoats$Protest" "guilty" "I", Cond.methodLink RX9 84 yX0_rulesOn, Cond.instanceMethod yX0_rulesOn, Cond.selects RX0 yX0_rulesOn yX0_rulesOn, Cond.code yX0_rulesOn cX0_rulesOn 7 (some .int), Cond.fieldLink RX0 18 "UnlikeBoats$Book" "rules" "Ljava/util/ArrayList;", Cond.classLink RX0 103 "UnlikeBoats$Rules", Cond.fieldLink RX0 105 "UnlikeBoats$Rules" "told" "I"]
def wsX12_middle_r6 : List Cond := [Cond.fieldLink RX0 106 "UnlikeBoats$Rules" "from" "I", Cond.methodLink RX9 90 yX5_enteredIn, Cond.instanceMethod yX5_enteredIn, Cond.selects RX5 yX5_enteredIn yX5_enteredIn, Cond.code yX5_enteredIn cX5_enteredIn 4 (some .int), Cond.methodLink RX5 55 yX5_isEnteredIn, Cond.methodLink RX9 100 yX0_numberOf, Cond.instanceMethod yX0_numberOf, Cond.selects RX0 yX0_numberOf yX0_numberOf, Cond.code yX0_numberOf cX0_numberOf 7 (some .int), Cond.fieldLink RX0 12 "UnlikeBoats$Book" "certificates" "Ljava/util/ArrayList;", Cond.classLink RX0 94 "UnlikeBoats$Certificate", Cond.fieldLink RX0 41 "UnlikeBoats$Book" "letters" "[I", Cond.fieldLink RX0 118 "UnlikeBoats$Certificate" "lon" "I", Cond.fieldLink RX0 121 "UnlikeBoats$Certificate" "area" "I", Cond.fieldLink RX0 124 "UnlikeBoats$Certificate" "weight" "I", Cond.fieldLink RX0 45 "UnlikeBoats$Book" "stack" "[I", Cond.methodLink RX0 107 yX0_rulesOn, Cond.methodLink RX0 111 yX0_certificateOn, Cond.instanceMethod yX0_certificateOn, Cond.selects RX0 yX0_certificateOn yX0_certificateOn, Cond.code yX0_certificateOn cX0_certificateOn 8 (some .int), Cond.fieldLink RX0 96 "UnlikeBoats$Certificate" "boat" "I", Cond.fieldLink RX0 99 "UnlikeBoats$Certificate" "told" "I"]
def wsX12_middle_r7 : List Cond := [Cond.fieldLink RX0 100 "UnlikeBoats$Certificate" "from" "I", Cond.methodLink RX0 115 yX0_forgetLetters, Cond.instanceMethod yX0_forgetLetters, Cond.selects RX0 yX0_forgetLetters yX0_forgetLetters, Cond.code yX0_forgetLetters cX0_forgetLetters 1 none, Cond.methodLink RX0 134 yJ7_fill_53178, Cond.static yJ7_fill_53178, Cond.initialized RJ7, Cond.code yJ7_fill_53178 cJ7_fill_53178 4 none, Cond.methodLink RX0 127 yX7_worthOf, Cond.instanceMethod yX7_worthOf, Cond.selects RX7 yX7_worthOf yX7_worthOf, Cond.initialized RX7, Cond.code yX7_worthOf cX7_worthOf 6 (some .int), Cond.fieldLink RX7 22 "UnlikeBoats$Rules" "labels" "[I", Cond.fieldLink RX7 28 "UnlikeBoats$Rules" "sums" "[I", Cond.fieldLink RX7 25 "UnlikeBoats$Rules" "begins" "[I", Cond.methodLink RX7 31 yX7_run, Cond.instanceMethod yX7_run, Cond.selects RX7 yX7_run yX7_run, Cond.code yX7_run cX7_run 9 (some .int), Cond.fieldLink RX7 18 "UnlikeBoats$Rules" "steps" "[I", Cond.methodLink RX7 35 yX7_asSign, Cond.static yX7_asSign]
def wsX12_middle_r8 : List Cond := [Cond.code yX7_asSign cX7_asSign 1 (some .int), Cond.methodLink RX7 39 yX7_join, Cond.static yX7_join, Cond.code yX7_join cX7_join 5 (some .int), Cond.constantLong RX7 47 (10000000), Cond.constant RX7 49 (10000000), Cond.constantLong RX7 50 (-10000000), Cond.constant RX7 52 (-10000000), Cond.methodLink RX7 43 yX7_letterAt, Cond.static yX7_letterAt, Cond.code yX7_letterAt cX7_letterAt 2 (some .int), Cond.static yX12_held, Cond.code yX12_held cX12_held 3 (some .int), Cond.methodLink RX9 110 yX9_placeOf, Cond.instanceMethod yX9_placeOf, Cond.selects RX9 yX9_placeOf yX9_placeOf, Cond.code yX9_placeOf cX9_placeOf 5 (some .int), Cond.static yX12_cell, Cond.code yX12_cell cX12_cell 2 (some .int), Cond.methodLink RX12 264 yX3_middleOf, Cond.instanceMethod yX3_middleOf, Cond.selects RX3 yX3_middleOf yX3_middleOf, Cond.code yX3_middleOf cX3_middleOf 5 (some .int), Cond.fieldLink RX3 63 "UnlikeBoats$Book" "races" "Ljava/util/ArrayList;"]
def wsX12_middle_r9 : List Cond := [Cond.classLink RX3 103 "UnlikeBoats$Race", Cond.fieldLink RX3 105 "UnlikeBoats$Race" "way" "I", Cond.constant RX3 108 (-1000000000), Cond.fieldLink RX3 37 "UnlikeBoats$Office" "row" "[I", Cond.methodLink RX3 99 yJx4a65c_get_915e3, Cond.static yX12_sortIn, Cond.code yX12_sortIn cX12_sortIn 4 (some .int)]
def wsX12_middle : List Cond := .code yX12_middle cX12_middle 3 (some .int) :: ((wsX12_middle_r1 ++ (wsX12_middle_r2 ++ (wsX12_middle_r3 ++ (wsX12_middle_r4 ++ (wsX12_middle_r5 ++ (wsX12_middle_r6 ++ (wsX12_middle_r7 ++ (wsX12_middle_r8 ++ wsX12_middle_r9)))))))) ++ wsX120 ++ wsX00 ++ wsJx4a65c0 ++ wsX30 ++ wsX90 ++ wsX50 ++ wsX60 ++ wsX40 ++ wsX70 ++ wsX10)
def wsX12_fit_r1 : List Cond := [Cond.fieldLink RX12 10 "UnlikeBoats" "book" "LUnlikeBoats$Book;", Cond.fieldLink RX12 51 "UnlikeBoats" "office" "LUnlikeBoats$Office;", Cond.methodLink RX12 66 yX0_isBoat, Cond.instanceMethod yX0_isBoat, Cond.selects RX0 yX0_isBoat yX0_isBoat, Cond.initialized RX0, Cond.code yX0_isBoat cX0_isBoat 2 (some .boolean), Cond.fieldLink RX0 48 "UnlikeBoats$Book" "boats" "I", Cond.static yX12_within, Cond.initialized RX12, Cond.code yX12_within cX12_within 3 (some .boolean), Cond.methodLink RX12 249 yX3_loadAll, Cond.instanceMethod yX3_loadAll, Cond.selects RX3 yX3_loadAll yX3_loadAll, Cond.initialized RX3, Cond.code yX3_loadAll cX3_loadAll 2 none, Cond.fieldLink RX3 55 "UnlikeBoats$Office" "book" "LUnlikeBoats$Book;", Cond.fieldLink RX3 63 "UnlikeBoats$Book" "races" "Ljava/util/ArrayList;", Cond.methodLink RX3 69 yJx4a65c_size_8abf5, Cond.instanceMethod yJx4a65c_size_8abf5, Cond.selects RJx4a65c yJx4a65c_size_8abf5 yJx4a65c_size_8abf5, Cond.initialized RJx4a65c, Cond.code yJx4a65c_size_8abf5 cJx4a65c_size_8abf5 1 (some .int), Cond.fieldLink RJx4a65c 48 "java/util/ArrayList" "size" "I"]
def wsX12_fit_r2 : List Cond := [Cond.methodLink RX3 75 yX3_load, Cond.instanceMethod yX3_load, Cond.selects RX3 yX3_load yX3_load, Cond.code yX3_load cX3_load 4 none, Cond.fieldLink RX3 59 "UnlikeBoats$Office" "sheet" "LUnlikeBoats$Sheet;", Cond.fieldLink RX3 79 "UnlikeBoats$Book" "now" "I", Cond.fieldLink RX3 11 "UnlikeBoats$Office" "finished" "[Z", Cond.fieldLink RX3 93 "UnlikeBoats$Sheet" "codes" "[I", Cond.fieldLink RX3 15 "UnlikeBoats$Office" "seconds" "[I", Cond.fieldLink RX3 96 "UnlikeBoats$Sheet" "seconds" "[I", Cond.fieldLink RX3 19 "UnlikeBoats$Office" "numbers" "[I", Cond.fieldLink RX3 97 "UnlikeBoats$Sheet" "numbers" "[I", Cond.fieldLink RX3 22 "UnlikeBoats$Office" "times" "[I", Cond.fieldLink RX3 98 "UnlikeBoats$Sheet" "times" "[I", Cond.methodLink RX3 83 yX9_read, Cond.instanceMethod yX9_read, Cond.selects RX9 yX9_read yX9_read, Cond.initialized RX9, Cond.code yX9_read cX9_read 5 none, Cond.fieldLink RX9 27 "UnlikeBoats$Sheet" "book" "LUnlikeBoats$Book;", Cond.fieldLink RX9 31 "UnlikeBoats$Book" "races" "Ljava/util/ArrayList;", Cond.classLink RX9 43 "UnlikeBoats$Race", Cond.fieldLink RX9 81 "UnlikeBoats$Race" "day" "I", Cond.fieldLink RX9 87 "UnlikeBoats$Sheet" "law" "I"]
def wsX12_fit_r3 : List Cond := [Cond.fieldLink RX9 94 "UnlikeBoats$Sheet" "entered" "I", Cond.fieldLink RX9 97 "UnlikeBoats$Sheet" "finished" "I", Cond.fieldLink RX9 9 "UnlikeBoats$Sheet" "codes" "[I", Cond.fieldLink RX9 18 "UnlikeBoats$Sheet" "numbers" "[I", Cond.fieldLink RX9 21 "UnlikeBoats$Sheet" "times" "[I", Cond.fieldLink RX9 104 "UnlikeBoats$Race" "way" "I", Cond.fieldLink RX9 15 "UnlikeBoats$Sheet" "seconds" "[I", Cond.fieldLink RX9 107 "UnlikeBoats$Race" "miles" "I", Cond.fieldLink RX9 24 "UnlikeBoats$Sheet" "places" "[I", Cond.methodLink RX9 77 yX9_readCodes, Cond.instanceMethod yX9_readCodes, Cond.selects RX9 yX9_readCodes yX9_readCodes, Cond.code yX9_readCodes cX9_readCodes 6 none, Cond.fieldLink RX9 49 "UnlikeBoats$Book" "results" "Ljava/util/ArrayList;", Cond.classLink RX9 56 "UnlikeBoats$Result", Cond.fieldLink RX9 58 "UnlikeBoats$Result" "race" "I", Cond.fieldLink RX9 62 "UnlikeBoats$Result" "told" "I", Cond.fieldLink RX9 65 "UnlikeBoats$Result" "boat" "I", Cond.fieldLink RX9 68 "UnlikeBoats$Result" "code" "I", Cond.fieldLink RX9 71 "UnlikeBoats$Result" "seconds" "I", Cond.methodLink RX9 37 yJx4a65c_get_915e3, Cond.instanceMethod yJx4a65c_get_915e3, Cond.selects RJx4a65c yJx4a65c_get_915e3 yJx4a65c_get_915e3, Cond.code yJx4a65c_get_915e3 cJx4a65c_get_915e3 2 (some (.object "java/lang/Object"))]
def wsX12_fit_r4 : List Cond := [Cond.methodLink RJx4a65c 118 yJ15_checkIndex_7cf53, Cond.static yJ15_checkIndex_7cf53, Cond.initialized RJ15, Cond.code yJ15_checkIndex_7cf53 cJ15_checkIndex_7cf53 2 (some .int), Cond.methodLink RJ15 105 yJ3_checkIndex_8e157, Cond.static yJ3_checkIndex_8e157, Cond.initialized RJ3, Cond.code yJ3_checkIndex_8e157 cJ3_checkIndex_8e157 3 (some .int), Cond.methodLink RJx4a65c 123 yJx4a65c_elementData_915e3, Cond.instanceMethod yJx4a65c_elementData_915e3, Cond.selects RJx4a65c yJx4a65c_elementData_915e3 yJx4a65c_elementData_915e3, Cond.code yJx4a65c_elementData_915e3 cJx4a65c_elementData_915e3 2 (some (.object "java/lang/Object")), Cond.fieldLink RJx4a65c 9 "java/util/ArrayList" "elementData" "[Ljava/lang/Object;", Cond.methodLink RX9 45 yX5_isEnteredIn, Cond.instanceMethod yX5_isEnteredIn, Cond.selects RX5 yX5_isEnteredIn yX5_isEnteredIn, Cond.initialized RX5, Cond.code yX5_isEnteredIn cX5_isEnteredIn 3 (some .boolean), Cond.fieldLink RX5 9 "UnlikeBoats$Race" "entries" "[I", Cond.methodLink RX9 52 yJx4a65c_size_8abf5, Cond.methodLink RX9 73 yX0_disqualifiedIn, Cond.instanceMethod yX0_disqualifiedIn, Cond.selects RX0 yX0_disqualifiedIn yX0_disqualifiedIn, Cond.code yX0_disqualifiedIn cX0_disqualifiedIn 7 (some .int)]
def wsX12_fit_r5 : List Cond := [Cond.fieldLink RX0 30 "UnlikeBoats$Book" "protests" "Ljava/util/ArrayList;", Cond.classLink RX0 85 "UnlikeBoats$Protest", Cond.fieldLink RX0 140 "UnlikeBoats$Protest" "race" "I", Cond.fieldLink RX0 146 "UnlikeBoats$Protest" "a" "I", Cond.fieldLink RX0 149 "UnlikeBoats$Protest" "b" "I", Cond.methodLink RX0 56 yJx4a65c_size_8abf5, Cond.methodLink RX0 69 yJx4a65c_get_915e3, Cond.methodLink RX0 143 yX4_guiltyIn, Cond.instanceMethod yX4_guiltyIn, Cond.selects RX4 yX4_guiltyIn yX4_guiltyIn, Cond.initialized RX4, Cond.code yX4_guiltyIn cX4_guiltyIn 2 (some .int), Cond.fieldLink RX4 18 "UnlikeBoats$Protest" "decidedAnew" "I", Cond.fieldLink RX4 39 "UnlikeBoats$Protest" "guiltyAnew" "I", Cond.fieldLink RX4 15 "UnlikeBoats$Protest" "reopened" "I", Cond.fieldLink RX4 9 "UnlikeBoats$Protest" "decided" "I", Cond.fieldLink RX4 36 "UnlikeBoats$Protest" "guilty" "I", Cond.methodLink RX9 84 yX0_rulesOn, Cond.instanceMethod yX0_rulesOn, Cond.selects RX0 yX0_rulesOn yX0_rulesOn, Cond.code yX0_rulesOn cX0_rulesOn 7 (some .int), Cond.fieldLink RX0 18 "UnlikeBoats$Book" "rules" "Ljava/util/ArrayList;", Cond.classLink RX0 103 "UnlikeBoats$Rules", Cond.fieldLink RX0 105 "UnlikeBoats$Rules" "told" "I"]
def wsX12_fit_r6 : List Cond := [Cond.fieldLink RX0 106 "UnlikeBoats$Rules" "from" "I", Cond.methodLink RX9 90 yX5_enteredIn, Cond.instanceMethod yX5_enteredIn, Cond.selects RX5 yX5_enteredIn yX5_enteredIn, Cond.code yX5_enteredIn cX5_enteredIn 4 (some .int), Cond.methodLink RX5 55 yX5_isEnteredIn, Cond.methodLink RX9 100 yX0_numberOf, Cond.instanceMethod yX0_numberOf, Cond.selects RX0 yX0_numberOf yX0_numberOf, Cond.code yX0_numberOf cX0_numberOf 7 (some .int), Cond.fieldLink RX0 12 "UnlikeBoats$Book" "certificates" "Ljava/util/ArrayList;", Cond.classLink RX0 94 "UnlikeBoats$Certificate", Cond.fieldLink RX0 41 "UnlikeBoats$Book" "letters" "[I", Cond.fieldLink RX0 118 "UnlikeBoats$Certificate" "lon" "I", Cond.fieldLink RX0 121 "UnlikeBoats$Certificate" "area" "I", Cond.fieldLink RX0 124 "UnlikeBoats$Certificate" "weight" "I", Cond.fieldLink RX0 45 "UnlikeBoats$Book" "stack" "[I", Cond.methodLink RX0 107 yX0_rulesOn, Cond.methodLink RX0 111 yX0_certificateOn, Cond.instanceMethod yX0_certificateOn, Cond.selects RX0 yX0_certificateOn yX0_certificateOn, Cond.code yX0_certificateOn cX0_certificateOn 8 (some .int), Cond.fieldLink RX0 96 "UnlikeBoats$Certificate" "boat" "I", Cond.fieldLink RX0 99 "UnlikeBoats$Certificate" "told" "I"]
def wsX12_fit_r7 : List Cond := [Cond.fieldLink RX0 100 "UnlikeBoats$Certificate" "from" "I", Cond.methodLink RX0 115 yX0_forgetLetters, Cond.instanceMethod yX0_forgetLetters, Cond.selects RX0 yX0_forgetLetters yX0_forgetLetters, Cond.code yX0_forgetLetters cX0_forgetLetters 1 none, Cond.methodLink RX0 134 yJ7_fill_53178, Cond.static yJ7_fill_53178, Cond.initialized RJ7, Cond.code yJ7_fill_53178 cJ7_fill_53178 4 none, Cond.methodLink RX0 127 yX7_worthOf, Cond.instanceMethod yX7_worthOf, Cond.selects RX7 yX7_worthOf yX7_worthOf, Cond.initialized RX7, Cond.code yX7_worthOf cX7_worthOf 6 (some .int), Cond.fieldLink RX7 22 "UnlikeBoats$Rules" "labels" "[I", Cond.fieldLink RX7 28 "UnlikeBoats$Rules" "sums" "[I", Cond.fieldLink RX7 25 "UnlikeBoats$Rules" "begins" "[I", Cond.methodLink RX7 31 yX7_run, Cond.instanceMethod yX7_run, Cond.selects RX7 yX7_run yX7_run, Cond.code yX7_run cX7_run 9 (some .int), Cond.fieldLink RX7 18 "UnlikeBoats$Rules" "steps" "[I", Cond.methodLink RX7 35 yX7_asSign, Cond.static yX7_asSign]
def wsX12_fit_r8 : List Cond := [Cond.code yX7_asSign cX7_asSign 1 (some .int), Cond.methodLink RX7 39 yX7_join, Cond.static yX7_join, Cond.code yX7_join cX7_join 5 (some .int), Cond.constantLong RX7 47 (10000000), Cond.constant RX7 49 (10000000), Cond.constantLong RX7 50 (-10000000), Cond.constant RX7 52 (-10000000), Cond.methodLink RX7 43 yX7_letterAt, Cond.static yX7_letterAt, Cond.code yX7_letterAt cX7_letterAt 2 (some .int), Cond.static yX12_held, Cond.code yX12_held cX12_held 3 (some .int), Cond.methodLink RX9 110 yX9_placeOf, Cond.instanceMethod yX9_placeOf, Cond.selects RX9 yX9_placeOf yX9_placeOf, Cond.code yX9_placeOf cX9_placeOf 5 (some .int), Cond.static yX12_cell, Cond.code yX12_cell cX12_cell 2 (some .int), Cond.methodLink RX12 267 yX3_fitOf, Cond.instanceMethod yX3_fitOf, Cond.selects RX3 yX3_fitOf yX3_fitOf, Cond.code yX3_fitOf cX3_fitOf 8 (some .int), Cond.fieldLink RX3 31 "UnlikeBoats$Office" "own" "[I"]
def wsX12_fit_r9 : List Cond := [Cond.fieldLink RX3 25 "UnlikeBoats$Office" "counted" "[I", Cond.constant RX3 125 (2147483647), Cond.fieldLink RX3 28 "UnlikeBoats$Office" "middles" "[I", Cond.methodLink RX3 119 yX3_gather, Cond.instanceMethod yX3_gather, Cond.selects RX3 yX3_gather yX3_gather, Cond.code yX3_gather cX3_gather 6 (some .int), Cond.constant RX3 108 (-1000000000), Cond.classLink RX3 103 "UnlikeBoats$Race", Cond.fieldLink RX3 116 "UnlikeBoats$Race" "day" "I", Cond.methodLink RX3 113 yX3_middleOf, Cond.instanceMethod yX3_middleOf, Cond.selects RX3 yX3_middleOf yX3_middleOf, Cond.code yX3_middleOf cX3_middleOf 5 (some .int), Cond.fieldLink RX3 105 "UnlikeBoats$Race" "way" "I", Cond.fieldLink RX3 37 "UnlikeBoats$Office" "row" "[I", Cond.methodLink RX3 99 yJx4a65c_get_915e3, Cond.static yX12_sortIn, Cond.code yX12_sortIn cX12_sortIn 4 (some .int), Cond.static yX12_apart, Cond.code yX12_apart cX12_apart 2 (some .int)]
def wsX12_fit : List Cond := .code yX12_fit cX12_fit 2 (some .int) :: ((wsX12_fit_r1 ++ (wsX12_fit_r2 ++ (wsX12_fit_r3 ++ (wsX12_fit_r4 ++ (wsX12_fit_r5 ++ (wsX12_fit_r6 ++ (wsX12_fit_r7 ++ (wsX12_fit_r8 ++ wsX12_fit_r9)))))))) ++ wsX120 ++ wsX00 ++ wsX30 ++ wsJx4a65c0 ++ wsX90 ++ wsX50 ++ wsX60 ++ wsX40 ++ wsX70 ++ wsX10)
def wsX12_suspect_r1 : List Cond := [Cond.fieldLink RX12 10 "UnlikeBoats" "book" "LUnlikeBoats$Book;", Cond.constant RX12 172 (-1000000000), Cond.fieldLink RX12 51 "UnlikeBoats" "office" "LUnlikeBoats$Office;", Cond.methodLink RX12 66 yX0_isBoat, Cond.instanceMethod yX0_isBoat, Cond.selects RX0 yX0_isBoat yX0_isBoat, Cond.initialized RX0, Cond.code yX0_isBoat cX0_isBoat 2 (some .boolean), Cond.fieldLink RX0 48 "UnlikeBoats$Book" "boats" "I", Cond.static yX12_within, Cond.initialized RX12, Cond.code yX12_within cX12_within 3 (some .boolean), Cond.methodLink RX12 59 yX12_within, Cond.methodLink RX12 249 yX3_loadAll, Cond.instanceMethod yX3_loadAll, Cond.selects RX3 yX3_loadAll yX3_loadAll, Cond.initialized RX3, Cond.code yX3_loadAll cX3_loadAll 2 none, Cond.fieldLink RX3 55 "UnlikeBoats$Office" "book" "LUnlikeBoats$Book;", Cond.fieldLink RX3 63 "UnlikeBoats$Book" "races" "Ljava/util/ArrayList;", Cond.methodLink RX3 69 yJx4a65c_size_8abf5, Cond.instanceMethod yJx4a65c_size_8abf5, Cond.selects RJx4a65c yJx4a65c_size_8abf5 yJx4a65c_size_8abf5, Cond.initialized RJx4a65c]
def wsX12_suspect_r2 : List Cond := [Cond.code yJx4a65c_size_8abf5 cJx4a65c_size_8abf5 1 (some .int), Cond.fieldLink RJx4a65c 48 "java/util/ArrayList" "size" "I", Cond.methodLink RX3 75 yX3_load, Cond.instanceMethod yX3_load, Cond.selects RX3 yX3_load yX3_load, Cond.code yX3_load cX3_load 4 none, Cond.fieldLink RX3 59 "UnlikeBoats$Office" "sheet" "LUnlikeBoats$Sheet;", Cond.fieldLink RX3 79 "UnlikeBoats$Book" "now" "I", Cond.fieldLink RX3 11 "UnlikeBoats$Office" "finished" "[Z", Cond.fieldLink RX3 93 "UnlikeBoats$Sheet" "codes" "[I", Cond.fieldLink RX3 15 "UnlikeBoats$Office" "seconds" "[I", Cond.fieldLink RX3 96 "UnlikeBoats$Sheet" "seconds" "[I", Cond.fieldLink RX3 19 "UnlikeBoats$Office" "numbers" "[I", Cond.fieldLink RX3 97 "UnlikeBoats$Sheet" "numbers" "[I", Cond.fieldLink RX3 22 "UnlikeBoats$Office" "times" "[I", Cond.fieldLink RX3 98 "UnlikeBoats$Sheet" "times" "[I", Cond.methodLink RX3 83 yX9_read, Cond.instanceMethod yX9_read, Cond.selects RX9 yX9_read yX9_read, Cond.initialized RX9, Cond.code yX9_read cX9_read 5 none, Cond.fieldLink RX9 27 "UnlikeBoats$Sheet" "book" "LUnlikeBoats$Book;", Cond.fieldLink RX9 31 "UnlikeBoats$Book" "races" "Ljava/util/ArrayList;", Cond.classLink RX9 43 "UnlikeBoats$Race"]
def wsX12_suspect_r3 : List Cond := [Cond.fieldLink RX9 81 "UnlikeBoats$Race" "day" "I", Cond.fieldLink RX9 87 "UnlikeBoats$Sheet" "law" "I", Cond.fieldLink RX9 94 "UnlikeBoats$Sheet" "entered" "I", Cond.fieldLink RX9 97 "UnlikeBoats$Sheet" "finished" "I", Cond.fieldLink RX9 9 "UnlikeBoats$Sheet" "codes" "[I", Cond.fieldLink RX9 18 "UnlikeBoats$Sheet" "numbers" "[I", Cond.fieldLink RX9 21 "UnlikeBoats$Sheet" "times" "[I", Cond.fieldLink RX9 104 "UnlikeBoats$Race" "way" "I", Cond.fieldLink RX9 15 "UnlikeBoats$Sheet" "seconds" "[I", Cond.fieldLink RX9 107 "UnlikeBoats$Race" "miles" "I", Cond.fieldLink RX9 24 "UnlikeBoats$Sheet" "places" "[I", Cond.methodLink RX9 77 yX9_readCodes, Cond.instanceMethod yX9_readCodes, Cond.selects RX9 yX9_readCodes yX9_readCodes, Cond.code yX9_readCodes cX9_readCodes 6 none, Cond.fieldLink RX9 49 "UnlikeBoats$Book" "results" "Ljava/util/ArrayList;", Cond.classLink RX9 56 "UnlikeBoats$Result", Cond.fieldLink RX9 58 "UnlikeBoats$Result" "race" "I", Cond.fieldLink RX9 62 "UnlikeBoats$Result" "told" "I", Cond.fieldLink RX9 65 "UnlikeBoats$Result" "boat" "I", Cond.fieldLink RX9 68 "UnlikeBoats$Result" "code" "I", Cond.fieldLink RX9 71 "UnlikeBoats$Result" "seconds" "I", Cond.methodLink RX9 37 yJx4a65c_get_915e3, Cond.instanceMethod yJx4a65c_get_915e3]
def wsX12_suspect_r4 : List Cond := [Cond.selects RJx4a65c yJx4a65c_get_915e3 yJx4a65c_get_915e3, Cond.code yJx4a65c_get_915e3 cJx4a65c_get_915e3 2 (some (.object "java/lang/Object")), Cond.methodLink RJx4a65c 118 yJ15_checkIndex_7cf53, Cond.static yJ15_checkIndex_7cf53, Cond.initialized RJ15, Cond.code yJ15_checkIndex_7cf53 cJ15_checkIndex_7cf53 2 (some .int), Cond.methodLink RJ15 105 yJ3_checkIndex_8e157, Cond.static yJ3_checkIndex_8e157, Cond.initialized RJ3, Cond.code yJ3_checkIndex_8e157 cJ3_checkIndex_8e157 3 (some .int), Cond.methodLink RJx4a65c 123 yJx4a65c_elementData_915e3, Cond.instanceMethod yJx4a65c_elementData_915e3, Cond.selects RJx4a65c yJx4a65c_elementData_915e3 yJx4a65c_elementData_915e3, Cond.code yJx4a65c_elementData_915e3 cJx4a65c_elementData_915e3 2 (some (.object "java/lang/Object")), Cond.fieldLink RJx4a65c 9 "java/util/ArrayList" "elementData" "[Ljava/lang/Object;", Cond.methodLink RX9 45 yX5_isEnteredIn, Cond.instanceMethod yX5_isEnteredIn, Cond.selects RX5 yX5_isEnteredIn yX5_isEnteredIn, Cond.initialized RX5, Cond.code yX5_isEnteredIn cX5_isEnteredIn 3 (some .boolean), Cond.fieldLink RX5 9 "UnlikeBoats$Race" "entries" "[I", Cond.methodLink RX9 52 yJx4a65c_size_8abf5, Cond.methodLink RX9 73 yX0_disqualifiedIn, Cond.instanceMethod yX0_disqualifiedIn]
def wsX12_suspect_r5 : List Cond := [Cond.selects RX0 yX0_disqualifiedIn yX0_disqualifiedIn, Cond.code yX0_disqualifiedIn cX0_disqualifiedIn 7 (some .int), Cond.fieldLink RX0 30 "UnlikeBoats$Book" "protests" "Ljava/util/ArrayList;", Cond.classLink RX0 85 "UnlikeBoats$Protest", Cond.fieldLink RX0 140 "UnlikeBoats$Protest" "race" "I", Cond.fieldLink RX0 146 "UnlikeBoats$Protest" "a" "I", Cond.fieldLink RX0 149 "UnlikeBoats$Protest" "b" "I", Cond.methodLink RX0 56 yJx4a65c_size_8abf5, Cond.methodLink RX0 69 yJx4a65c_get_915e3, Cond.methodLink RX0 143 yX4_guiltyIn, Cond.instanceMethod yX4_guiltyIn, Cond.selects RX4 yX4_guiltyIn yX4_guiltyIn, Cond.initialized RX4, Cond.code yX4_guiltyIn cX4_guiltyIn 2 (some .int), Cond.fieldLink RX4 18 "UnlikeBoats$Protest" "decidedAnew" "I", Cond.fieldLink RX4 39 "UnlikeBoats$Protest" "guiltyAnew" "I", Cond.fieldLink RX4 15 "UnlikeBoats$Protest" "reopened" "I", Cond.fieldLink RX4 9 "UnlikeBoats$Protest" "decided" "I", Cond.fieldLink RX4 36 "UnlikeBoats$Protest" "guilty" "I", Cond.methodLink RX9 84 yX0_rulesOn, Cond.instanceMethod yX0_rulesOn, Cond.selects RX0 yX0_rulesOn yX0_rulesOn, Cond.code yX0_rulesOn cX0_rulesOn 7 (some .int), Cond.fieldLink RX0 18 "UnlikeBoats$Book" "rules" "Ljava/util/ArrayList;"]
def wsX12_suspect_r6 : List Cond := [Cond.classLink RX0 103 "UnlikeBoats$Rules", Cond.fieldLink RX0 105 "UnlikeBoats$Rules" "told" "I", Cond.fieldLink RX0 106 "UnlikeBoats$Rules" "from" "I", Cond.methodLink RX9 90 yX5_enteredIn, Cond.instanceMethod yX5_enteredIn, Cond.selects RX5 yX5_enteredIn yX5_enteredIn, Cond.code yX5_enteredIn cX5_enteredIn 4 (some .int), Cond.methodLink RX5 55 yX5_isEnteredIn, Cond.methodLink RX9 100 yX0_numberOf, Cond.instanceMethod yX0_numberOf, Cond.selects RX0 yX0_numberOf yX0_numberOf, Cond.code yX0_numberOf cX0_numberOf 7 (some .int), Cond.fieldLink RX0 12 "UnlikeBoats$Book" "certificates" "Ljava/util/ArrayList;", Cond.classLink RX0 94 "UnlikeBoats$Certificate", Cond.fieldLink RX0 41 "UnlikeBoats$Book" "letters" "[I", Cond.fieldLink RX0 118 "UnlikeBoats$Certificate" "lon" "I", Cond.fieldLink RX0 121 "UnlikeBoats$Certificate" "area" "I", Cond.fieldLink RX0 124 "UnlikeBoats$Certificate" "weight" "I", Cond.fieldLink RX0 45 "UnlikeBoats$Book" "stack" "[I", Cond.methodLink RX0 107 yX0_rulesOn, Cond.methodLink RX0 111 yX0_certificateOn, Cond.instanceMethod yX0_certificateOn, Cond.selects RX0 yX0_certificateOn yX0_certificateOn, Cond.code yX0_certificateOn cX0_certificateOn 8 (some .int)]
def wsX12_suspect_r7 : List Cond := [Cond.fieldLink RX0 96 "UnlikeBoats$Certificate" "boat" "I", Cond.fieldLink RX0 99 "UnlikeBoats$Certificate" "told" "I", Cond.fieldLink RX0 100 "UnlikeBoats$Certificate" "from" "I", Cond.methodLink RX0 115 yX0_forgetLetters, Cond.instanceMethod yX0_forgetLetters, Cond.selects RX0 yX0_forgetLetters yX0_forgetLetters, Cond.code yX0_forgetLetters cX0_forgetLetters 1 none, Cond.methodLink RX0 134 yJ7_fill_53178, Cond.static yJ7_fill_53178, Cond.initialized RJ7, Cond.code yJ7_fill_53178 cJ7_fill_53178 4 none, Cond.methodLink RX0 127 yX7_worthOf, Cond.instanceMethod yX7_worthOf, Cond.selects RX7 yX7_worthOf yX7_worthOf, Cond.initialized RX7, Cond.code yX7_worthOf cX7_worthOf 6 (some .int), Cond.fieldLink RX7 22 "UnlikeBoats$Rules" "labels" "[I", Cond.fieldLink RX7 28 "UnlikeBoats$Rules" "sums" "[I", Cond.fieldLink RX7 25 "UnlikeBoats$Rules" "begins" "[I", Cond.methodLink RX7 31 yX7_run, Cond.instanceMethod yX7_run, Cond.selects RX7 yX7_run yX7_run, Cond.code yX7_run cX7_run 9 (some .int), Cond.fieldLink RX7 18 "UnlikeBoats$Rules" "steps" "[I"]
def wsX12_suspect_r8 : List Cond := [Cond.methodLink RX7 35 yX7_asSign, Cond.static yX7_asSign, Cond.code yX7_asSign cX7_asSign 1 (some .int), Cond.methodLink RX7 39 yX7_join, Cond.static yX7_join, Cond.code yX7_join cX7_join 5 (some .int), Cond.constantLong RX7 47 (10000000), Cond.constant RX7 49 (10000000), Cond.constantLong RX7 50 (-10000000), Cond.constant RX7 52 (-10000000), Cond.methodLink RX7 43 yX7_letterAt, Cond.static yX7_letterAt, Cond.code yX7_letterAt cX7_letterAt 2 (some .int), Cond.static yX12_held, Cond.code yX12_held cX12_held 3 (some .int), Cond.methodLink RX9 110 yX9_placeOf, Cond.instanceMethod yX9_placeOf, Cond.selects RX9 yX9_placeOf yX9_placeOf, Cond.code yX9_placeOf cX9_placeOf 5 (some .int), Cond.static yX12_cell, Cond.code yX12_cell cX12_cell 2 (some .int), Cond.methodLink RX12 270 yX3_suspectedOf, Cond.instanceMethod yX3_suspectedOf, Cond.selects RX3 yX3_suspectedOf yX3_suspectedOf]
def wsX12_suspect_r9 : List Cond := [Cond.code yX3_suspectedOf cX3_suspectedOf 8 (some .int), Cond.constant RX3 108 (-1000000000), Cond.fieldLink RX3 34 "UnlikeBoats$Office" "ratios" "[I", Cond.fieldLink RX3 28 "UnlikeBoats$Office" "middles" "[I", Cond.fieldLink RX3 25 "UnlikeBoats$Office" "counted" "[I", Cond.methodLink RX3 129 Lib.Math.max.name, Cond.static Lib.Math.max.name, Cond.initialized "java/lang/Math", Cond.code Lib.Math.max.name Lib.Math.max.code 2 (some .int), Cond.methodLink RX3 137 Lib.Math.abs.name, Cond.static Lib.Math.abs.name, Cond.code Lib.Math.abs.name Lib.Math.abs.code 1 (some .int), Cond.methodLink RX3 119 yX3_gather, Cond.instanceMethod yX3_gather, Cond.selects RX3 yX3_gather yX3_gather, Cond.code yX3_gather cX3_gather 6 (some .int), Cond.classLink RX3 103 "UnlikeBoats$Race", Cond.fieldLink RX3 116 "UnlikeBoats$Race" "day" "I", Cond.methodLink RX3 113 yX3_middleOf, Cond.instanceMethod yX3_middleOf, Cond.selects RX3 yX3_middleOf yX3_middleOf, Cond.code yX3_middleOf cX3_middleOf 5 (some .int), Cond.fieldLink RX3 105 "UnlikeBoats$Race" "way" "I", Cond.fieldLink RX3 37 "UnlikeBoats$Office" "row" "[I"]
def wsX12_suspect_r10 : List Cond := [Cond.methodLink RX3 99 yJx4a65c_get_915e3, Cond.static yX12_sortIn, Cond.code yX12_sortIn cX12_sortIn 4 (some .int), Cond.methodLink RX3 134 yX3_jumpAt, Cond.instanceMethod yX3_jumpAt, Cond.selects RX3 yX3_jumpAt yX3_jumpAt, Cond.code yX3_jumpAt cX3_jumpAt 3 (some .int), Cond.methodLink RX3 140 yX3_meanOf, Cond.instanceMethod yX3_meanOf, Cond.selects RX3 yX3_meanOf yX3_meanOf, Cond.code yX3_meanOf cX3_meanOf 6 (some .int)]
def wsX12_suspect : List Cond := .code yX12_suspect cX12_suspect 3 (some .int) :: ((wsX12_suspect_r1 ++ (wsX12_suspect_r2 ++ (wsX12_suspect_r3 ++ (wsX12_suspect_r4 ++ (wsX12_suspect_r5 ++ (wsX12_suspect_r6 ++ (wsX12_suspect_r7 ++ (wsX12_suspect_r8 ++ (wsX12_suspect_r9 ++ wsX12_suspect_r10))))))))) ++ wsX120 ++ wsX00 ++ wsX30 ++ wsJx4a65c0 ++ wsX90 ++ wsX50 ++ wsX60 ++ wsX40 ++ wsX70 ++ wsX10)
def wsX12_start_r1 : List Cond := [Cond.fieldLink RX12 10 "UnlikeBoats" "book" "LUnlikeBoats$Book;", Cond.fieldLink RX12 127 "UnlikeBoats$Book" "races" "Ljava/util/ArrayList;", Cond.classLink RX12 130 "UnlikeBoats$Race", Cond.fieldLink RX12 273 "UnlikeBoats$Race" "ends" "[I", Cond.fieldLink RX12 276 "UnlikeBoats$Race" "behind" "[I", Cond.methodLink RX12 146 yX0_isEntered, Cond.instanceMethod yX0_isEntered, Cond.selects RX0 yX0_isEntered yX0_isEntered, Cond.initialized RX0, Cond.code yX0_isEntered cX0_isEntered 3 (some .boolean), Cond.fieldLink RX0 21 "UnlikeBoats$Book" "races" "Ljava/util/ArrayList;", Cond.classLink RX0 73 "UnlikeBoats$Race", Cond.fieldLink RX0 59 "UnlikeBoats$Book" "now" "I", Cond.methodLink RX0 66 yX0_isRace, Cond.instanceMethod yX0_isRace, Cond.selects RX0 yX0_isRace yX0_isRace, Cond.code yX0_isRace cX0_isRace 2 (some .boolean), Cond.methodLink RX0 56 yJx4a65c_size_8abf5, Cond.instanceMethod yJx4a65c_size_8abf5, Cond.selects RJx4a65c yJx4a65c_size_8abf5 yJx4a65c_size_8abf5, Cond.initialized RJx4a65c, Cond.code yJx4a65c_size_8abf5 cJx4a65c_size_8abf5 1 (some .int), Cond.fieldLink RJx4a65c 48 "java/util/ArrayList" "size" "I", Cond.static yX12_within]
def wsX12_start_r2 : List Cond := [Cond.initialized RX12, Cond.code yX12_within cX12_within 3 (some .boolean), Cond.methodLink RX0 78 yX0_isBoat, Cond.instanceMethod yX0_isBoat, Cond.selects RX0 yX0_isBoat yX0_isBoat, Cond.code yX0_isBoat cX0_isBoat 2 (some .boolean), Cond.fieldLink RX0 48 "UnlikeBoats$Book" "boats" "I", Cond.methodLink RX0 69 yJx4a65c_get_915e3, Cond.instanceMethod yJx4a65c_get_915e3, Cond.selects RJx4a65c yJx4a65c_get_915e3 yJx4a65c_get_915e3, Cond.code yJx4a65c_get_915e3 cJx4a65c_get_915e3 2 (some (.object "java/lang/Object")), Cond.methodLink RJx4a65c 118 yJ15_checkIndex_7cf53, Cond.static yJ15_checkIndex_7cf53, Cond.initialized RJ15, Cond.code yJ15_checkIndex_7cf53 cJ15_checkIndex_7cf53 2 (some .int), Cond.methodLink RJ15 105 yJ3_checkIndex_8e157, Cond.static yJ3_checkIndex_8e157, Cond.initialized RJ3, Cond.code yJ3_checkIndex_8e157 cJ3_checkIndex_8e157 3 (some .int), Cond.methodLink RJx4a65c 123 yJx4a65c_elementData_915e3, Cond.instanceMethod yJx4a65c_elementData_915e3, Cond.selects RJx4a65c yJx4a65c_elementData_915e3 yJx4a65c_elementData_915e3, Cond.code yJx4a65c_elementData_915e3 cJx4a65c_elementData_915e3 2 (some (.object "java/lang/Object")), Cond.fieldLink RJx4a65c 9 "java/util/ArrayList" "elementData" "[Ljava/lang/Object;"]
def wsX12_start_r3 : List Cond := [Cond.methodLink RX0 81 yX5_isEnteredIn, Cond.instanceMethod yX5_isEnteredIn, Cond.selects RX5 yX5_isEnteredIn yX5_isEnteredIn, Cond.initialized RX5, Cond.code yX5_isEnteredIn cX5_isEnteredIn 3 (some .boolean), Cond.fieldLink RX5 9 "UnlikeBoats$Race" "entries" "[I", Cond.methodLink RX12 59 yX12_within, Cond.methodLink RX12 138 yJx4a65c_get_915e3]
def wsX12_start : List Cond := .code yX12_start cX12_start 6 (some .boolean) :: ((wsX12_start_r1 ++ (wsX12_start_r2 ++ wsX12_start_r3)) ++ wsX120 ++ wsX00 ++ wsX50 ++ wsJx4a65c0)
def wsX12_lean_r1 : List Cond := [Cond.fieldLink RX12 10 "UnlikeBoats" "book" "LUnlikeBoats$Book;", Cond.constant RX12 172 (-1000000000), Cond.fieldLink RX12 127 "UnlikeBoats$Book" "races" "Ljava/util/ArrayList;", Cond.classLink RX12 130 "UnlikeBoats$Race", Cond.methodLink RX12 135 yX0_isRace, Cond.instanceMethod yX0_isRace, Cond.selects RX0 yX0_isRace yX0_isRace, Cond.initialized RX0, Cond.code yX0_isRace cX0_isRace 2 (some .boolean), Cond.fieldLink RX0 21 "UnlikeBoats$Book" "races" "Ljava/util/ArrayList;", Cond.methodLink RX0 56 yJx4a65c_size_8abf5, Cond.instanceMethod yJx4a65c_size_8abf5, Cond.selects RJx4a65c yJx4a65c_size_8abf5 yJx4a65c_size_8abf5, Cond.initialized RJx4a65c, Cond.code yJx4a65c_size_8abf5 cJx4a65c_size_8abf5 1 (some .int), Cond.fieldLink RJx4a65c 48 "java/util/ArrayList" "size" "I", Cond.static yX12_within, Cond.initialized RX12, Cond.code yX12_within cX12_within 3 (some .boolean), Cond.methodLink RX12 138 yJx4a65c_get_915e3, Cond.instanceMethod yJx4a65c_get_915e3, Cond.selects RJx4a65c yJx4a65c_get_915e3 yJx4a65c_get_915e3, Cond.code yJx4a65c_get_915e3 cJx4a65c_get_915e3 2 (some (.object "java/lang/Object")), Cond.methodLink RJx4a65c 118 yJ15_checkIndex_7cf53]
def wsX12_lean_r2 : List Cond := [Cond.static yJ15_checkIndex_7cf53, Cond.initialized RJ15, Cond.code yJ15_checkIndex_7cf53 cJ15_checkIndex_7cf53 2 (some .int), Cond.methodLink RJ15 105 yJ3_checkIndex_8e157, Cond.static yJ3_checkIndex_8e157, Cond.initialized RJ3, Cond.code yJ3_checkIndex_8e157 cJ3_checkIndex_8e157 3 (some .int), Cond.methodLink RJx4a65c 123 yJx4a65c_elementData_915e3, Cond.instanceMethod yJx4a65c_elementData_915e3, Cond.selects RJx4a65c yJx4a65c_elementData_915e3 yJx4a65c_elementData_915e3, Cond.code yJx4a65c_elementData_915e3 cJx4a65c_elementData_915e3 2 (some (.object "java/lang/Object")), Cond.fieldLink RJx4a65c 9 "java/util/ArrayList" "elementData" "[Ljava/lang/Object;", Cond.methodLink RX12 279 yX5_leaning, Cond.instanceMethod yX5_leaning, Cond.selects RX5 yX5_leaning yX5_leaning, Cond.initialized RX5, Cond.code yX5_leaning cX5_leaning 4 (some .int), Cond.fieldLink RX5 18 "UnlikeBoats$Race" "ends" "[I", Cond.fieldLink RX5 21 "UnlikeBoats$Race" "behind" "[I", Cond.methodLink RX5 59 yJ6_signum_0f7a4, Cond.static yJ6_signum_0f7a4, Cond.initialized RJ6, Cond.code yJ6_signum_0f7a4 cJ6_signum_0f7a4 1 (some .int)]
def wsX12_lean : List Cond := .code yX12_lean cX12_lean 2 (some .int) :: ((wsX12_lean_r1 ++ wsX12_lean_r2) ++ wsX120 ++ wsX00 ++ wsJx4a65c0 ++ wsX50)
def wsX12_count_r1 : List Cond := [Cond.fieldLink RX12 10 "UnlikeBoats" "book" "LUnlikeBoats$Book;", Cond.fieldLink RX12 55 "UnlikeBoats$Book" "now" "I", Cond.fieldLink RX12 63 "UnlikeBoats$Book" "boats" "I", Cond.fieldLink RX12 73 "UnlikeBoats$Book" "certificates" "Ljava/util/ArrayList;", Cond.fieldLink RX12 113 "UnlikeBoats$Book" "rules" "Ljava/util/ArrayList;", Cond.fieldLink RX12 127 "UnlikeBoats$Book" "races" "Ljava/util/ArrayList;", Cond.fieldLink RX12 154 "UnlikeBoats$Book" "results" "Ljava/util/ArrayList;", Cond.fieldLink RX12 209 "UnlikeBoats$Book" "words" "Ljava/util/ArrayList;", Cond.fieldLink RX12 220 "UnlikeBoats$Book" "protests" "Ljava/util/ArrayList;", Cond.fieldLink RX12 19 "UnlikeBoats" "tape" "LUnlikeBoats$Tape;", Cond.fieldLink RX12 103 "UnlikeBoats$Tape" "length" "I", Cond.fieldLink RX12 181 "UnlikeBoats$Book" "redresses" "I", Cond.methodLink RX12 77 yJx4a65c_size_8abf5, Cond.instanceMethod yJx4a65c_size_8abf5, Cond.selects RJx4a65c yJx4a65c_size_8abf5 yJx4a65c_size_8abf5, Cond.initialized RJx4a65c, Cond.code yJx4a65c_size_8abf5 cJx4a65c_size_8abf5 1 (some .int), Cond.fieldLink RJx4a65c 48 "java/util/ArrayList" "size" "I", Cond.methodLink RX12 328 yX0_disqualified, Cond.instanceMethod yX0_disqualified, Cond.selects RX0 yX0_disqualified yX0_disqualified, Cond.initialized RX0, Cond.code yX0_disqualified cX0_disqualified 3 (some .int), Cond.fieldLink RX0 21 "UnlikeBoats$Book" "races" "Ljava/util/ArrayList;"]
def wsX12_count_r2 : List Cond := [Cond.fieldLink RX0 59 "UnlikeBoats$Book" "now" "I", Cond.methodLink RX0 56 yJx4a65c_size_8abf5, Cond.methodLink RX0 152 yX0_disqualifiedIn, Cond.instanceMethod yX0_disqualifiedIn, Cond.selects RX0 yX0_disqualifiedIn yX0_disqualifiedIn, Cond.code yX0_disqualifiedIn cX0_disqualifiedIn 7 (some .int), Cond.fieldLink RX0 30 "UnlikeBoats$Book" "protests" "Ljava/util/ArrayList;", Cond.classLink RX0 85 "UnlikeBoats$Protest", Cond.fieldLink RX0 140 "UnlikeBoats$Protest" "race" "I", Cond.fieldLink RX0 146 "UnlikeBoats$Protest" "a" "I", Cond.fieldLink RX0 149 "UnlikeBoats$Protest" "b" "I", Cond.methodLink RX0 69 yJx4a65c_get_915e3, Cond.instanceMethod yJx4a65c_get_915e3, Cond.selects RJx4a65c yJx4a65c_get_915e3 yJx4a65c_get_915e3, Cond.code yJx4a65c_get_915e3 cJx4a65c_get_915e3 2 (some (.object "java/lang/Object")), Cond.methodLink RJx4a65c 118 yJ15_checkIndex_7cf53, Cond.static yJ15_checkIndex_7cf53, Cond.initialized RJ15, Cond.code yJ15_checkIndex_7cf53 cJ15_checkIndex_7cf53 2 (some .int), Cond.methodLink RJ15 105 yJ3_checkIndex_8e157, Cond.static yJ3_checkIndex_8e157, Cond.initialized RJ3, Cond.code yJ3_checkIndex_8e157 cJ3_checkIndex_8e157 3 (some .int), Cond.methodLink RJx4a65c 123 yJx4a65c_elementData_915e3]
def wsX12_count_r3 : List Cond := [Cond.instanceMethod yJx4a65c_elementData_915e3, Cond.selects RJx4a65c yJx4a65c_elementData_915e3 yJx4a65c_elementData_915e3, Cond.code yJx4a65c_elementData_915e3 cJx4a65c_elementData_915e3 2 (some (.object "java/lang/Object")), Cond.fieldLink RJx4a65c 9 "java/util/ArrayList" "elementData" "[Ljava/lang/Object;", Cond.methodLink RX0 143 yX4_guiltyIn, Cond.instanceMethod yX4_guiltyIn, Cond.selects RX4 yX4_guiltyIn yX4_guiltyIn, Cond.initialized RX4, Cond.code yX4_guiltyIn cX4_guiltyIn 2 (some .int), Cond.fieldLink RX4 18 "UnlikeBoats$Protest" "decidedAnew" "I", Cond.fieldLink RX4 39 "UnlikeBoats$Protest" "guiltyAnew" "I", Cond.fieldLink RX4 15 "UnlikeBoats$Protest" "reopened" "I", Cond.fieldLink RX4 9 "UnlikeBoats$Protest" "decided" "I", Cond.fieldLink RX4 36 "UnlikeBoats$Protest" "guilty" "I", Cond.methodLink RX0 88 yJ6_bitCount_0f7a4, Cond.static yJ6_bitCount_0f7a4, Cond.initialized RJ6, Cond.code yJ6_bitCount_0f7a4 cJ6_bitCount_0f7a4 1 (some .int), Cond.constant RJ6 265 (1431655765), Cond.constant RJ6 266 (858993459), Cond.constant RJ6 267 (252645135)]
def wsX12_count : List Cond := .code yX12_count cX12_count 2 (some .int) :: ((wsX12_count_r1 ++ (wsX12_count_r2 ++ wsX12_count_r3)) ++ wsX120 ++ wsX00 ++ wsX100 ++ wsJx4a65c0 ++ wsX40)
set_option maxRecDepth 20000 in
theorem ggX0_isBoat_X12_within : GoodIn wsX0_isBoat wsX12_within := goodIn_r _ [4] (by decide +kernel) (by decide +kernel)
set_option maxRecDepth 20000 in
theorem gX0_isBoat_X12_within_n52 : GoodIn wsX0_isBoat (wsX12_within) := ggX0_isBoat_X12_within
theorem dX0_isBoat_0 : decode cX0_isBoat 0 = .ok (.iload_n 1, 1) := by decide +kernel
theorem dX0_isBoat_1 : decode cX0_isBoat 1 = .ok (.iconst 0, 1) := by decide +kernel
theorem dX0_isBoat_2 : decode cX0_isBoat 2 = .ok (.aload_n 0, 1) := by decide +kernel
theorem dX0_isBoat_3 : decode cX0_isBoat 3 = .ok (.getfield 48, 3) := by decide +kernel
theorem dX0_isBoat_6 : decode cX0_isBoat 6 = .ok (.iconst 1, 1) := by decide +kernel
theorem dX0_isBoat_7 : decode cX0_isBoat 7 = .ok (.isub, 1) := by decide +kernel
theorem dX0_isBoat_8 : decode cX0_isBoat 8 = .ok (.invokestatic 52, 3) := by decide +kernel
theorem dX0_isBoat_11 : decode cX0_isBoat 11 = .ok (.ireturn, 1) := by decide +kernel
set_option maxRecDepth 20000 in
theorem ggX0_isRace_Jx4a65c_size_8abf5 : GoodIn wsX0_isRace wsJx4a65c_size_8abf5 := goodIn_r _ [6, 7, 22, 23, 24] (by decide +kernel) (by decide +kernel)
set_option maxRecDepth 20000 in
theorem gX0_isRace_Jx4a65c_size_8abf5 : GoodIn wsX0_isRace (wsV RX0 56 RJx4a65c yJx4a65c_size_8abf5 wsJx4a65c_size_8abf5) := goodIn_app (goodIn_of _ (by decide +kernel)) ggX0_isRace_Jx4a65c_size_8abf5
set_option maxRecDepth 20000 in
theorem ggX0_isRace_X12_within : GoodIn wsX0_isRace wsX12_within := goodIn_r _ [10] (by decide +kernel) (by decide +kernel)
set_option maxRecDepth 20000 in
theorem gX0_isRace_X12_within_n52 : GoodIn wsX0_isRace (wsX12_within) := ggX0_isRace_X12_within
theorem dX0_isRace_0 : decode cX0_isRace 0 = .ok (.iload_n 1, 1) := by decide +kernel
theorem dX0_isRace_1 : decode cX0_isRace 1 = .ok (.iconst 0, 1) := by decide +kernel
theorem dX0_isRace_2 : decode cX0_isRace 2 = .ok (.aload_n 0, 1) := by decide +kernel
theorem dX0_isRace_3 : decode cX0_isRace 3 = .ok (.getfield 21, 3) := by decide +kernel
theorem dX0_isRace_6 : decode cX0_isRace 6 = .ok (.invokevirtual 56, 3) := by decide +kernel
theorem dX0_isRace_9 : decode cX0_isRace 9 = .ok (.iconst 1, 1) := by decide +kernel
theorem dX0_isRace_10 : decode cX0_isRace 10 = .ok (.isub, 1) := by decide +kernel
theorem dX0_isRace_11 : decode cX0_isRace 11 = .ok (.invokestatic 52, 3) := by decide +kernel
theorem dX0_isRace_14 : decode cX0_isRace 14 = .ok (.ireturn, 1) := by decide +kernel
set_option maxRecDepth 20000 in
theorem ggX0_isKnown_X12_within : GoodIn wsX0_isKnown wsX12_within := goodIn_r _ [4] (by decide +kernel) (by decide +kernel)
set_option maxRecDepth 20000 in
theorem gX0_isKnown_X12_within_n52 : GoodIn wsX0_isKnown (wsX12_within) := ggX0_isKnown_X12_within
theorem dX0_isKnown_0 : decode cX0_isKnown 0 = .ok (.iload_n 1, 1) := by decide +kernel
theorem dX0_isKnown_1 : decode cX0_isKnown 1 = .ok (.iconst 0, 1) := by decide +kernel
theorem dX0_isKnown_2 : decode cX0_isKnown 2 = .ok (.aload_n 0, 1) := by decide +kernel
theorem dX0_isKnown_3 : decode cX0_isKnown 3 = .ok (.getfield 59, 3) := by decide +kernel
theorem dX0_isKnown_6 : decode cX0_isKnown 6 = .ok (.invokestatic 52, 3) := by decide +kernel
theorem dX0_isKnown_9 : decode cX0_isKnown 9 = .ok (.ireturn, 1) := by decide +kernel
set_option maxRecDepth 20000 in
theorem ggX0_isCounted_X0_isKnown : GoodIn wsX0_isCounted wsX0_isKnown := goodIn_r _ [8, 9, 10, 11, 12, 40, 41, 42, 43, 44, 45, 46, 47, 48, 49, 50] (by decide +kernel) (by decide +kernel)
set_option maxRecDepth 20000 in
theorem gX0_isCounted_X0_isKnown : GoodIn wsX0_isCounted (wsV RX0 62 RX0 yX0_isKnown wsX0_isKnown) := goodIn_app (goodIn_of _ (by decide +kernel)) ggX0_isCounted_X0_isKnown
set_option maxRecDepth 20000 in
theorem ggX0_isCounted_X0_isRace : GoodIn wsX0_isCounted wsX0_isRace := goodIn_r _ [16, 1, 17, 18, 19, 20, 21, 22, 10, 11, 12, 40, 41, 42, 43, 44, 45, 46, 47, 48, 49, 50, 63, 64, 65] (by decide +kernel) (by decide +kernel)
set_option maxRecDepth 20000 in
theorem gX0_isCounted_X0_isRace : GoodIn wsX0_isCounted (wsV RX0 66 RX0 yX0_isRace wsX0_isRace) := goodIn_app (goodIn_of _ (by decide +kernel)) ggX0_isCounted_X0_isRace
theorem dX0_isCounted_0 : decode cX0_isCounted 0 = .ok (.aload_n 0, 1) := by decide +kernel
theorem dX0_isCounted_1 : decode cX0_isCounted 1 = .ok (.iload_n 2, 1) := by decide +kernel
theorem dX0_isCounted_2 : decode cX0_isCounted 2 = .ok (.invokevirtual 62, 3) := by decide +kernel
theorem dX0_isCounted_5 : decode cX0_isCounted 5 = .ok (.ifCond .eq 33, 3) := by decide +kernel
theorem dX0_isCounted_8 : decode cX0_isCounted 8 = .ok (.aload_n 0, 1) := by decide +kernel
theorem dX0_isCounted_9 : decode cX0_isCounted 9 = .ok (.iload_n 1, 1) := by decide +kernel
theorem dX0_isCounted_10 : decode cX0_isCounted 10 = .ok (.invokevirtual 66, 3) := by decide +kernel
theorem dX0_isCounted_13 : decode cX0_isCounted 13 = .ok (.ifCond .eq 25, 3) := by decide +kernel
theorem dX0_isCounted_38 : decode cX0_isCounted 38 = .ok (.iconst 0, 1) := by decide +kernel
theorem dX0_isCounted_39 : decode cX0_isCounted 39 = .ok (.ireturn, 1) := by decide +kernel
set_option maxRecDepth 20000 in
theorem ggX0_isEntered_X0_isRace : GoodIn wsX0_isEntered wsX0_isRace := goodIn_r _ [8, 1, 9, 10, 11, 12, 13, 14, 15, 16, 17, 46, 47, 48, 49, 50, 51, 52, 53, 54, 55, 56, 57, 58, 59] (by decide +kernel) (by decide +kernel)
set_option maxRecDepth 20000 in
theorem gX0_isEntered_X0_isRace : GoodIn wsX0_isEntered (wsV RX0 66 RX0 yX0_isRace wsX0_isRace) := goodIn_app (goodIn_of _ (by decide +kernel)) ggX0_isEntered_X0_isRace
theorem dX0_isEntered_0 : decode cX0_isEntered 0 = .ok (.aload_n 0, 1) := by decide +kernel
theorem dX0_isEntered_1 : decode cX0_isEntered 1 = .ok (.iload_n 1, 1) := by decide +kernel
theorem dX0_isEntered_2 : decode cX0_isEntered 2 = .ok (.invokevirtual 66, 3) := by decide +kernel
theorem dX0_isEntered_5 : decode cX0_isEntered 5 = .ok (.ifCond .eq 37, 3) := by decide +kernel
theorem dX0_isEntered_42 : decode cX0_isEntered 42 = .ok (.iconst 0, 1) := by decide +kernel
theorem dX0_isEntered_43 : decode cX0_isEntered 43 = .ok (.ireturn, 1) := by decide +kernel
set_option maxRecDepth 20000 in
theorem ggX0_isProtested_X0_isKnown : GoodIn wsX0_isProtested wsX0_isKnown := goodIn_r _ [8, 9, 10, 11, 12, 36, 37, 38, 39, 40, 41, 42, 43, 44, 45, 46] (by decide +kernel) (by decide +kernel)
set_option maxRecDepth 20000 in
theorem gX0_isProtested_X0_isKnown : GoodIn wsX0_isProtested (wsV RX0 62 RX0 yX0_isKnown wsX0_isKnown) := goodIn_app (goodIn_of _ (by decide +kernel)) ggX0_isProtested_X0_isKnown
set_option maxRecDepth 20000 in
theorem ggX0_isProtested_Jx4a65c_size_8abf5 : GoodIn wsX0_isProtested wsJx4a65c_size_8abf5 := goodIn_r _ [17, 18, 57, 58, 59] (by decide +kernel) (by decide +kernel)
set_option maxRecDepth 20000 in
theorem gX0_isProtested_Jx4a65c_size_8abf5 : GoodIn wsX0_isProtested (wsV RX0 56 RJx4a65c yJx4a65c_size_8abf5 wsJx4a65c_size_8abf5) := goodIn_app (goodIn_of _ (by decide +kernel)) ggX0_isProtested_Jx4a65c_size_8abf5
set_option maxRecDepth 20000 in
theorem ggX0_isProtested_X12_within : GoodIn wsX0_isProtested wsX12_within := goodIn_r _ [12] (by decide +kernel) (by decide +kernel)
set_option maxRecDepth 20000 in
theorem gX0_isProtested_X12_within_n52 : GoodIn wsX0_isProtested (wsX12_within) := ggX0_isProtested_X12_within
theorem dX0_isProtested_0 : decode cX0_isProtested 0 = .ok (.aload_n 0, 1) := by decide +kernel
theorem dX0_isProtested_1 : decode cX0_isProtested 1 = .ok (.iload_n 2, 1) := by decide +kernel
theorem dX0_isProtested_2 : decode cX0_isProtested 2 = .ok (.invokevirtual 62, 3) := by decide +kernel
theorem dX0_isProtested_5 : decode cX0_isProtested 5 = .ok (.ifCond .eq 42, 3) := by decide +kernel
theorem dX0_isProtested_8 : decode cX0_isProtested 8 = .ok (.iload_n 1, 1) := by decide +kernel
theorem dX0_isProtested_9 : decode cX0_isProtested 9 = .ok (.iconst 0, 1) := by decide +kernel
theorem dX0_isProtested_10 : decode cX0_isProtested 10 = .ok (.aload_n 0, 1) := by decide +kernel
theorem dX0_isProtested_11 : decode cX0_isProtested 11 = .ok (.getfield 30, 3) := by decide +kernel
theorem dX0_isProtested_14 : decode cX0_isProtested 14 = .ok (.invokevirtual 56, 3) := by decide +kernel
theorem dX0_isProtested_17 : decode cX0_isProtested 17 = .ok (.iconst 1, 1) := by decide +kernel
theorem dX0_isProtested_18 : decode cX0_isProtested 18 = .ok (.isub, 1) := by decide +kernel
theorem dX0_isProtested_19 : decode cX0_isProtested 19 = .ok (.invokestatic 52, 3) := by decide +kernel
theorem dX0_isProtested_22 : decode cX0_isProtested 22 = .ok (.ifCond .eq 25, 3) := by decide +kernel
theorem dX0_isProtested_47 : decode cX0_isProtested 47 = .ok (.iconst 0, 1) := by decide +kernel
theorem dX0_isProtested_48 : decode cX0_isProtested 48 = .ok (.ireturn, 1) := by decide +kernel
set_option maxRecDepth 20000 in
theorem ggX0_areSome_X12_within : GoodIn wsX0_areSome wsX12_within := goodIn_r _ [4] (by decide +kernel) (by decide +kernel)
set_option maxRecDepth 20000 in
theorem gX0_areSome_X12_within_n52 : GoodIn wsX0_areSome (wsX12_within) := ggX0_areSome_X12_within
set_option maxRecDepth 20000 in
theorem ggX0_areSome_J6_bitCount_0f7a4 : GoodIn wsX0_areSome wsJ6_bitCount_0f7a4 := goodIn_r _ [8, 9, 10, 11] (by decide +kernel) (by decide +kernel)
set_option maxRecDepth 20000 in
theorem gX0_areSome_J6_bitCount_0f7a4 : GoodIn wsX0_areSome (va_wsS RX0 88 yJ6_bitCount_0f7a4 wsJ6_bitCount_0f7a4) := goodIn_app (goodIn_of _ (by decide +kernel)) ggX0_areSome_J6_bitCount_0f7a4
theorem dX0_areSome_0 : decode cX0_areSome 0 = .ok (.iload_n 1, 1) := by decide +kernel
theorem dX0_areSome_1 : decode cX0_areSome 1 = .ok (.iconst 0, 1) := by decide +kernel
theorem dX0_areSome_2 : decode cX0_areSome 2 = .ok (.iconst 1, 1) := by decide +kernel
theorem dX0_areSome_3 : decode cX0_areSome 3 = .ok (.aload_n 0, 1) := by decide +kernel
theorem dX0_areSome_4 : decode cX0_areSome 4 = .ok (.getfield 48, 3) := by decide +kernel
theorem dX0_areSome_7 : decode cX0_areSome 7 = .ok (.ishl, 1) := by decide +kernel
theorem dX0_areSome_8 : decode cX0_areSome 8 = .ok (.iconst 1, 1) := by decide +kernel
theorem dX0_areSome_9 : decode cX0_areSome 9 = .ok (.isub, 1) := by decide +kernel
theorem dX0_areSome_10 : decode cX0_areSome 10 = .ok (.invokestatic 52, 3) := by decide +kernel
theorem dX0_areSome_13 : decode cX0_areSome 13 = .ok (.ifCond .eq 19, 3) := by decide +kernel
theorem dX0_areSome_16 : decode cX0_areSome 16 = .ok (.iload_n 1, 1) := by decide +kernel
theorem dX0_areSome_17 : decode cX0_areSome 17 = .ok (.invokestatic 88, 3) := by decide +kernel
theorem dX0_areSome_20 : decode cX0_areSome 20 = .ok (.iconst 2, 1) := by decide +kernel
theorem dX0_areSome_21 : decode cX0_areSome 21 = .ok (.iconst 4, 1) := by decide +kernel
theorem dX0_areSome_22 : decode cX0_areSome 22 = .ok (.invokestatic 52, 3) := by decide +kernel
theorem dX0_areSome_25 : decode cX0_areSome 25 = .ok (.ifCond .eq 7, 3) := by decide +kernel
theorem dX0_areSome_32 : decode cX0_areSome 32 = .ok (.iconst 0, 1) := by decide +kernel
theorem dX0_areSome_33 : decode cX0_areSome 33 = .ok (.ireturn, 1) := by decide +kernel
set_option maxRecDepth 20000 in
theorem ggX0_rulesOn_Jx4a65c_size_8abf5 : GoodIn wsX0_rulesOn wsJx4a65c_size_8abf5 := goodIn_r _ [9, 10, 45, 46, 47] (by decide +kernel) (by decide +kernel)
set_option maxRecDepth 20000 in
theorem gX0_rulesOn_Jx4a65c_size_8abf5 : GoodIn wsX0_rulesOn (wsV RX0 56 RJx4a65c yJx4a65c_size_8abf5 wsJx4a65c_size_8abf5) := goodIn_app (goodIn_of _ (by decide +kernel)) ggX0_rulesOn_Jx4a65c_size_8abf5
theorem dX0_rulesOn_0 : decode cX0_rulesOn 0 = .ok (.iconst (-1), 1) := by decide +kernel
theorem dX0_rulesOn_1 : decode cX0_rulesOn 1 = .ok (.istore_n 3, 1) := by decide +kernel
theorem dX0_rulesOn_2 : decode cX0_rulesOn 2 = .ok (.iconst 0, 1) := by decide +kernel
theorem dX0_rulesOn_3 : decode cX0_rulesOn 3 = .ok (.istore 4, 2) := by decide +kernel
theorem dX0_rulesOn_5 : decode cX0_rulesOn 5 = .ok (.iconst 0, 1) := by decide +kernel
theorem dX0_rulesOn_6 : decode cX0_rulesOn 6 = .ok (.istore 5, 2) := by decide +kernel
theorem dX0_rulesOn_8 : decode cX0_rulesOn 8 = .ok (.iload 5, 2) := by decide +kernel
theorem dX0_rulesOn_10 : decode cX0_rulesOn 10 = .ok (.aload_n 0, 1) := by decide +kernel
theorem dX0_rulesOn_11 : decode cX0_rulesOn 11 = .ok (.getfield 18, 3) := by decide +kernel
theorem dX0_rulesOn_14 : decode cX0_rulesOn 14 = .ok (.invokevirtual 56, 3) := by decide +kernel
theorem dX0_rulesOn_17 : decode cX0_rulesOn 17 = .ok (.if_icmp .ge 61, 3) := by decide +kernel
theorem dX0_rulesOn_78 : decode cX0_rulesOn 78 = .ok (.iload_n 3, 1) := by decide +kernel
theorem dX0_rulesOn_79 : decode cX0_rulesOn 79 = .ok (.ireturn, 1) := by decide +kernel
theorem dX0_worthIn_0 : decode cX0_worthIn 0 = .ok (.iload_n 1, 1) := by decide +kernel
theorem dX0_worthIn_1 : decode cX0_worthIn 1 = .ok (.iconst (-1), 1) := by decide +kernel
theorem dX0_worthIn_2 : decode cX0_worthIn 2 = .ok (.if_icmp .ne 7, 3) := by decide +kernel
theorem dX0_worthIn_5 : decode cX0_worthIn 5 = .ok (.iconst 0, 1) := by decide +kernel
theorem dX0_worthIn_6 : decode cX0_worthIn 6 = .ok (.goto 26, 3) := by decide +kernel
theorem dX0_worthIn_32 : decode cX0_worthIn 32 = .ok (.ireturn, 1) := by decide +kernel
set_option maxRecDepth 20000 in
theorem ggX0_racesIn_Jx4a65c_size_8abf5 : GoodIn wsX0_racesIn wsJx4a65c_size_8abf5 := goodIn_r _ [8, 9, 50, 51, 52] (by decide +kernel) (by decide +kernel)
set_option maxRecDepth 20000 in
theorem gX0_racesIn_Jx4a65c_size_8abf5 : GoodIn wsX0_racesIn (wsV RX0 56 RJx4a65c yJx4a65c_size_8abf5 wsJx4a65c_size_8abf5) := goodIn_app (goodIn_of _ (by decide +kernel)) ggX0_racesIn_Jx4a65c_size_8abf5
theorem dX0_racesIn_0 : decode cX0_racesIn 0 = .ok (.iconst 0, 1) := by decide +kernel
theorem dX0_racesIn_1 : decode cX0_racesIn 1 = .ok (.istore_n 2, 1) := by decide +kernel
theorem dX0_racesIn_2 : decode cX0_racesIn 2 = .ok (.iconst 0, 1) := by decide +kernel
theorem dX0_racesIn_3 : decode cX0_racesIn 3 = .ok (.istore_n 3, 1) := by decide +kernel
theorem dX0_racesIn_4 : decode cX0_racesIn 4 = .ok (.iload_n 3, 1) := by decide +kernel
theorem dX0_racesIn_5 : decode cX0_racesIn 5 = .ok (.aload_n 0, 1) := by decide +kernel
theorem dX0_racesIn_6 : decode cX0_racesIn 6 = .ok (.getfield 21, 3) := by decide +kernel
theorem dX0_racesIn_9 : decode cX0_racesIn 9 = .ok (.invokevirtual 56, 3) := by decide +kernel
theorem dX0_racesIn_12 : decode cX0_racesIn 12 = .ok (.if_icmp .ge 30, 3) := by decide +kernel
theorem dX0_racesIn_42 : decode cX0_racesIn 42 = .ok (.iload_n 2, 1) := by decide +kernel
theorem dX0_racesIn_43 : decode cX0_racesIn 43 = .ok (.ireturn, 1) := by decide +kernel
set_option maxRecDepth 20000 in
theorem ggX0_disqualified_Jx4a65c_size_8abf5 : GoodIn wsX0_disqualified wsJx4a65c_size_8abf5 := goodIn_r _ [7, 8, 64, 65, 66] (by decide +kernel) (by decide +kernel)
set_option maxRecDepth 20000 in
theorem gX0_disqualified_Jx4a65c_size_8abf5 : GoodIn wsX0_disqualified (wsV RX0 56 RJx4a65c yJx4a65c_size_8abf5 wsJx4a65c_size_8abf5) := goodIn_app (goodIn_of _ (by decide +kernel)) ggX0_disqualified_Jx4a65c_size_8abf5
theorem dX0_disqualified_0 : decode cX0_disqualified 0 = .ok (.iconst 0, 1) := by decide +kernel
theorem dX0_disqualified_1 : decode cX0_disqualified 1 = .ok (.istore_n 1, 1) := by decide +kernel
theorem dX0_disqualified_2 : decode cX0_disqualified 2 = .ok (.iconst 0, 1) := by decide +kernel
theorem dX0_disqualified_3 : decode cX0_disqualified 3 = .ok (.istore_n 2, 1) := by decide +kernel
theorem dX0_disqualified_4 : decode cX0_disqualified 4 = .ok (.iload_n 2, 1) := by decide +kernel
theorem dX0_disqualified_5 : decode cX0_disqualified 5 = .ok (.aload_n 0, 1) := by decide +kernel
theorem dX0_disqualified_6 : decode cX0_disqualified 6 = .ok (.getfield 21, 3) := by decide +kernel
theorem dX0_disqualified_9 : decode cX0_disqualified 9 = .ok (.invokevirtual 56, 3) := by decide +kernel
theorem dX0_disqualified_12 : decode cX0_disqualified 12 = .ok (.if_icmp .ge 24, 3) := by decide +kernel
theorem dX0_disqualified_36 : decode cX0_disqualified 36 = .ok (.iload_n 1, 1) := by decide +kernel
theorem dX0_disqualified_37 : decode cX0_disqualified 37 = .ok (.ireturn, 1) := by decide +kernel
set_option maxRecDepth 20000 in
theorem ggX10_read_X10_readClause : GoodIn wsX10_read wsX10_readClause := goodIn_r _ [10, 4, 1, 11, 5, 3, 12, 13, 14, 15, 9, 16, 2, 17, 18, 19, 20, 21, 22, 23, 24, 25, 26, 27, 28, 29, 30, 31, 32, 33, 34, 35, 36, 37, 38, 39, 40, 41, 42, 43, 44, 45, 46, 47, 48, 49, 50, 51, 52, 53, 54, 55, 56, 57, 58, 59, 60, 61, 62, 63, 64, 65, 66, 67, 68, 69, 70, 71, 72, 73, 74, 75, 76, 77, 78, 79, 80, 81, 82, 83, 84, 85, 86, 87, 88, 89, 90, 91, 92, 93, 94, 95, 96, 97, 98, 99, 100, 101, 102, 103, 104, 105, 106, 107, 108, 109, 110, 111, 112, 113, 114, 115, 116, 117, 118, 119, 120, 121, 122, 123, 124, 125, 126, 127, 128, 129, 130, 131, 132, 133, 134, 135, 136, 137, 138, 139, 140, 141, 142, 143, 144, 145, 146, 147, 148, 149, 150, 151, 152, 153, 154, 155, 156, 157, 158, 159, 160, 161, 162, 163, 164, 165, 166, 167, 168, 169, 170, 171, 172, 173, 174, 175, 176, 177, 178, 179, 180] (by decide +kernel) (by decide +kernel)
set_option maxRecDepth 20000 in
theorem gX10_read_X10_readClause : GoodIn wsX10_read (wsV RX10 43 RX10 yX10_readClause wsX10_readClause) := goodIn_app (goodIn_of _ (by decide +kernel)) ggX10_read_X10_readClause
set_option maxRecDepth 20000 in
theorem ggX10_read_X10_next : GoodIn wsX10_read wsX10_next := goodIn_r _ [16, 2, 1, 17, 18, 171, 172, 173, 174, 175, 176, 177, 178, 179, 180] (by decide +kernel) (by decide +kernel)
set_option maxRecDepth 20000 in
theorem gX10_read_X10_next : GoodIn wsX10_read (wsV RX10 46 RX10 yX10_next wsX10_next) := goodIn_app (goodIn_of _ (by decide +kernel)) ggX10_read_X10_next
set_option maxRecDepth 20000 in
theorem ggX10_read_X10_fail : GoodIn wsX10_read wsX10_fail := goodIn_r _ [114, 2, 1, 171, 172, 173, 174, 175, 176, 177, 178, 179, 180] (by decide +kernel) (by decide +kernel)
set_option maxRecDepth 20000 in
theorem gX10_read_X10_fail : GoodIn wsX10_read (wsV RX10 50 RX10 yX10_fail wsX10_fail) := goodIn_app (goodIn_of _ (by decide +kernel)) ggX10_read_X10_fail
theorem dX10_read_0 : decode cX10_read 0 = .ok (.aload_n 0, 1) := by decide +kernel
theorem dX10_read_1 : decode cX10_read 1 = .ok (.iconst 0, 1) := by decide +kernel
theorem dX10_read_2 : decode cX10_read 2 = .ok (.putfield 31, 3) := by decide +kernel
theorem dX10_read_5 : decode cX10_read 5 = .ok (.aload_n 0, 1) := by decide +kernel
theorem dX10_read_6 : decode cX10_read 6 = .ok (.iconst (-1), 1) := by decide +kernel
theorem dX10_read_7 : decode cX10_read 7 = .ok (.putfield 34, 3) := by decide +kernel
theorem dX10_read_10 : decode cX10_read 10 = .ok (.aload_n 0, 1) := by decide +kernel
theorem dX10_read_11 : decode cX10_read 11 = .ok (.iconst 0, 1) := by decide +kernel
theorem dX10_read_12 : decode cX10_read 12 = .ok (.putfield 37, 3) := by decide +kernel
theorem dX10_read_15 : decode cX10_read 15 = .ok (.aload_n 0, 1) := by decide +kernel
theorem dX10_read_16 : decode cX10_read 16 = .ok (.iconst 0, 1) := by decide +kernel
theorem dX10_read_17 : decode cX10_read 17 = .ok (.putfield 40, 3) := by decide +kernel
theorem dX10_read_20 : decode cX10_read 20 = .ok (.aload_n 0, 1) := by decide +kernel
theorem dX10_read_21 : decode cX10_read 21 = .ok (.invokevirtual 43, 3) := by decide +kernel
theorem dX10_read_24 : decode cX10_read 24 = .ok (.iconst 0, 1) := by decide +kernel
theorem dX10_read_25 : decode cX10_read 25 = .ok (.istore_n 1, 1) := by decide +kernel
theorem dX10_read_26 : decode cX10_read 26 = .ok (.iload_n 1, 1) := by decide +kernel
theorem dX10_read_27 : decode cX10_read 27 = .ok (.sipush 200, 3) := by decide +kernel
theorem dX10_read_30 : decode cX10_read 30 = .ok (.if_icmp .ge 32, 3) := by decide +kernel
theorem dX10_read_33 : decode cX10_read 33 = .ok (.aload_n 0, 1) := by decide +kernel
theorem dX10_read_34 : decode cX10_read 34 = .ok (.invokevirtual 46, 3) := by decide +kernel
theorem dX10_read_37 : decode cX10_read 37 = .ok (.bipush 59, 2) := by decide +kernel
theorem dX10_read_39 : decode cX10_read 39 = .ok (.if_icmp .ne 23, 3) := by decide +kernel
theorem dX10_read_62 : decode cX10_read 62 = .ok (.aload_n 0, 1) := by decide +kernel
theorem dX10_read_63 : decode cX10_read 63 = .ok (.invokevirtual 46, 3) := by decide +kernel
theorem dX10_read_66 : decode cX10_read 66 = .ok (.iconst (-1), 1) := by decide +kernel
theorem dX10_read_67 : decode cX10_read 67 = .ok (.if_icmp .eq 7, 3) := by decide +kernel
theorem dX10_read_70 : decode cX10_read 70 = .ok (.aload_n 0, 1) := by decide +kernel
theorem dX10_read_71 : decode cX10_read 71 = .ok (.invokevirtual 50, 3) := by decide +kernel
theorem dX10_read_74 : decode cX10_read 74 = .ok (.aload_n 0, 1) := by decide +kernel
theorem dX10_read_75 : decode cX10_read 75 = .ok (.getfield 21, 3) := by decide +kernel
theorem dX10_read_78 : decode cX10_read 78 = .ok (.aload_n 0, 1) := by decide +kernel
theorem dX10_read_79 : decode cX10_read 79 = .ok (.getfield 40, 3) := by decide +kernel
theorem dX10_read_82 : decode cX10_read 82 = .ok (.aload_n 0, 1) := by decide +kernel
theorem dX10_read_83 : decode cX10_read 83 = .ok (.getfield 37, 3) := by decide +kernel
theorem dX10_read_86 : decode cX10_read 86 = .ok (.iastore, 1) := by decide +kernel
theorem dX10_read_87 : decode cX10_read 87 = .ok (.aload_n 0, 1) := by decide +kernel
theorem dX10_read_88 : decode cX10_read 88 = .ok (.getfield 34, 3) := by decide +kernel
theorem dX10_read_91 : decode cX10_read 91 = .ok (.ireturn, 1) := by decide +kernel
theorem dX10_next_0 : decode cX10_next 0 = .ok (.aload_n 0, 1) := by decide +kernel
theorem dX10_next_1 : decode cX10_next 1 = .ok (.getfield 34, 3) := by decide +kernel
theorem dX10_next_4 : decode cX10_next 4 = .ok (.iconst (-1), 1) := by decide +kernel
theorem dX10_next_5 : decode cX10_next 5 = .ok (.if_icmp .eq 6, 3) := by decide +kernel
theorem dX10_next_8 : decode cX10_next 8 = .ok (.bipush (-2), 2) := by decide +kernel
theorem dX10_next_10 : decode cX10_next 10 = .ok (.ireturn, 1) := by decide +kernel
theorem dX10_next_11 : decode cX10_next 11 = .ok (.aload_n 0, 1) := by decide +kernel
theorem dX10_next_12 : decode cX10_next 12 = .ok (.getfield 31, 3) := by decide +kernel
theorem dX10_next_15 : decode cX10_next 15 = .ok (.aload_n 0, 1) := by decide +kernel
theorem dX10_next_16 : decode cX10_next 16 = .ok (.getfield 27, 3) := by decide +kernel
theorem dX10_next_19 : decode cX10_next 19 = .ok (.if_icmp .ge 30, 3) := by decide +kernel
theorem dX10_next_49 : decode cX10_next 49 = .ok (.aload_n 0, 1) := by decide +kernel
theorem dX10_next_50 : decode cX10_next 50 = .ok (.getfield 31, 3) := by decide +kernel
theorem dX10_next_53 : decode cX10_next 53 = .ok (.aload_n 0, 1) := by decide +kernel
theorem dX10_next_54 : decode cX10_next 54 = .ok (.getfield 27, 3) := by decide +kernel
theorem dX10_next_57 : decode cX10_next 57 = .ok (.if_icmp .ge 15, 3) := by decide +kernel
theorem dX10_next_72 : decode cX10_next 72 = .ok (.iconst (-1), 1) := by decide +kernel
theorem dX10_next_73 : decode cX10_next 73 = .ok (.ireturn, 1) := by decide +kernel
theorem dX10_fail_0 : decode cX10_fail 0 = .ok (.aload_n 0, 1) := by decide +kernel
theorem dX10_fail_1 : decode cX10_fail 1 = .ok (.getfield 34, 3) := by decide +kernel
theorem dX10_fail_4 : decode cX10_fail 4 = .ok (.iconst (-1), 1) := by decide +kernel
theorem dX10_fail_5 : decode cX10_fail 5 = .ok (.if_icmp .ne 11, 3) := by decide +kernel
theorem dX10_fail_8 : decode cX10_fail 8 = .ok (.aload_n 0, 1) := by decide +kernel
theorem dX10_fail_9 : decode cX10_fail 9 = .ok (.aload_n 0, 1) := by decide +kernel
theorem dX10_fail_10 : decode cX10_fail 10 = .ok (.getfield 31, 3) := by decide +kernel
theorem dX10_fail_13 : decode cX10_fail 13 = .ok (.putfield 34, 3) := by decide +kernel
theorem dX10_fail_16 : decode cX10_fail 16 = .ok (.return_, 1) := by decide +kernel
set_option maxRecDepth 20000 in
theorem ggX10_readClause_X10_next : GoodIn wsX10_readClause wsX10_next := goodIn_r _ [11, 12, 2, 13, 14, 167, 168, 169, 170, 171, 172, 173, 174, 175, 176] (by decide +kernel) (by decide +kernel)
set_option maxRecDepth 20000 in
theorem gX10_readClause_X10_next : GoodIn wsX10_readClause (wsV RX10 46 RX10 yX10_next wsX10_next) := goodIn_app (goodIn_of _ (by decide +kernel)) ggX10_readClause_X10_next
set_option maxRecDepth 20000 in
theorem ggX10_readClause_X12_isOneOf : GoodIn wsX10_readClause wsX12_isOneOf := goodIn_r _ [17, 18, 19, 20, 21, 22, 23, 24, 25, 26, 27, 28, 29, 30, 31, 32, 33, 34, 35, 36, 37, 38, 39, 40, 41, 42, 43, 44, 45, 46, 47, 48, 49, 50, 51, 52, 53, 54, 55, 56, 57, 58, 59, 60, 61, 62, 63, 64, 65, 66, 67, 68, 69, 70, 71, 72, 73, 74, 75, 76, 77, 78, 79, 80, 81, 82, 83, 84, 85, 86, 87, 88, 89, 90, 91, 92, 93, 94, 95, 96, 97, 98, 99, 100, 101, 102, 103, 104, 105, 106] (by decide +kernel) (by decide +kernel)
set_option maxRecDepth 20000 in
theorem gX10_readClause_X12_isOneOf_n66 : GoodIn wsX10_readClause (wsX12_isOneOf) := ggX10_readClause_X12_isOneOf
set_option maxRecDepth 20000 in
theorem ggX10_readClause_X10_fail : GoodIn wsX10_readClause wsX10_fail := goodIn_r _ [110, 12, 2, 167, 168, 169, 170, 171, 172, 173, 174, 175, 176] (by decide +kernel) (by decide +kernel)
set_option maxRecDepth 20000 in
theorem gX10_readClause_X10_fail : GoodIn wsX10_readClause (wsV RX10 50 RX10 yX10_fail wsX10_fail) := goodIn_app (goodIn_of _ (by decide +kernel)) ggX10_readClause_X10_fail
theorem dX10_readClause_0 : decode cX10_readClause 0 = .ok (.aload_n 0, 1) := by decide +kernel
theorem dX10_readClause_1 : decode cX10_readClause 1 = .ok (.invokevirtual 46, 3) := by decide +kernel
theorem dX10_readClause_4 : decode cX10_readClause 4 = .ok (.istore_n 1, 1) := by decide +kernel
theorem dX10_readClause_5 : decode cX10_readClause 5 = .ok (.ldc 64, 2) := by decide +kernel
theorem dX10_readClause_7 : decode cX10_readClause 7 = .ok (.iload_n 1, 1) := by decide +kernel
theorem dX10_readClause_8 : decode cX10_readClause 8 = .ok (.invokestatic 66, 3) := by decide +kernel
theorem dX10_readClause_11 : decode cX10_readClause 11 = .ok (.ifCond .eq 12, 3) := by decide +kernel
theorem dX10_readClause_23 : decode cX10_readClause 23 = .ok (.aload_n 0, 1) := by decide +kernel
theorem dX10_readClause_24 : decode cX10_readClause 24 = .ok (.invokevirtual 50, 3) := by decide +kernel
theorem dX10_readClause_27 : decode cX10_readClause 27 = .ok (.return_, 1) := by decide +kernel
set_option maxRecDepth 20000 in
theorem ggX12_days_X12_within : GoodIn wsX12_days wsX12_within := goodIn_r _ [6] (by decide +kernel) (by decide +kernel)
set_option maxRecDepth 20000 in
theorem gX12_days_X12_within : GoodIn wsX12_days (va_wsS RX12 59 yX12_within wsX12_within) := goodIn_app (goodIn_of _ (by decide +kernel)) ggX12_days_X12_within
theorem dX12_days_0 : decode cX12_days 0 = .ok (.iload_n 1, 1) := by decide +kernel
theorem dX12_days_1 : decode cX12_days 1 = .ok (.iconst 0, 1) := by decide +kernel
theorem dX12_days_2 : decode cX12_days 2 = .ok (.sipush 400, 3) := by decide +kernel
theorem dX12_days_5 : decode cX12_days 5 = .ok (.aload_n 0, 1) := by decide +kernel
theorem dX12_days_6 : decode cX12_days 6 = .ok (.getfield 10, 3) := by decide +kernel
theorem dX12_days_9 : decode cX12_days 9 = .ok (.getfield 55, 3) := by decide +kernel
theorem dX12_days_12 : decode cX12_days 12 = .ok (.isub, 1) := by decide +kernel
theorem dX12_days_13 : decode cX12_days 13 = .ok (.invokestatic 59, 3) := by decide +kernel
theorem dX12_days_16 : decode cX12_days 16 = .ok (.ifCond .ne 5, 3) := by decide +kernel
theorem dX12_days_19 : decode cX12_days 19 = .ok (.iconst (-1), 1) := by decide +kernel
theorem dX12_days_20 : decode cX12_days 20 = .ok (.ireturn, 1) := by decide +kernel
theorem dX12_days_21 : decode cX12_days 21 = .ok (.aload_n 0, 1) := by decide +kernel
theorem dX12_days_22 : decode cX12_days 22 = .ok (.getfield 10, 3) := by decide +kernel
theorem dX12_days_25 : decode cX12_days 25 = .ok (.dup, 1) := by decide +kernel
theorem dX12_days_26 : decode cX12_days 26 = .ok (.getfield 55, 3) := by decide +kernel
theorem dX12_days_29 : decode cX12_days 29 = .ok (.iload_n 1, 1) := by decide +kernel
theorem dX12_days_30 : decode cX12_days 30 = .ok (.iadd, 1) := by decide +kernel
theorem dX12_days_31 : decode cX12_days 31 = .ok (.putfield 55, 3) := by decide +kernel
theorem dX12_days_34 : decode cX12_days 34 = .ok (.aload_n 0, 1) := by decide +kernel
theorem dX12_days_35 : decode cX12_days 35 = .ok (.getfield 10, 3) := by decide +kernel
theorem dX12_days_38 : decode cX12_days 38 = .ok (.getfield 55, 3) := by decide +kernel
theorem dX12_days_41 : decode cX12_days 41 = .ok (.ireturn, 1) := by decide +kernel
theorem dX12_boat_0 : decode cX12_boat 0 = .ok (.aload_n 0, 1) := by decide +kernel
theorem dX12_boat_1 : decode cX12_boat 1 = .ok (.getfield 10, 3) := by decide +kernel
theorem dX12_boat_4 : decode cX12_boat 4 = .ok (.getfield 63, 3) := by decide +kernel
theorem dX12_boat_7 : decode cX12_boat 7 = .ok (.bipush 16, 2) := by decide +kernel
theorem dX12_boat_9 : decode cX12_boat 9 = .ok (.if_icmp .lt 5, 3) := by decide +kernel
theorem dX12_boat_14 : decode cX12_boat 14 = .ok (.aload_n 0, 1) := by decide +kernel
theorem dX12_boat_15 : decode cX12_boat 15 = .ok (.getfield 10, 3) := by decide +kernel
theorem dX12_boat_18 : decode cX12_boat 18 = .ok (.dup, 1) := by decide +kernel
theorem dX12_boat_19 : decode cX12_boat 19 = .ok (.getfield 63, 3) := by decide +kernel
theorem dX12_boat_22 : decode cX12_boat 22 = .ok (.iconst 1, 1) := by decide +kernel
theorem dX12_boat_23 : decode cX12_boat 23 = .ok (.iadd, 1) := by decide +kernel
theorem dX12_boat_24 : decode cX12_boat 24 = .ok (.putfield 63, 3) := by decide +kernel
theorem dX12_boat_27 : decode cX12_boat 27 = .ok (.aload_n 0, 1) := by decide +kernel
theorem dX12_boat_28 : decode cX12_boat 28 = .ok (.getfield 10, 3) := by decide +kernel
theorem dX12_boat_31 : decode cX12_boat 31 = .ok (.getfield 63, 3) := by decide +kernel
theorem dX12_boat_34 : decode cX12_boat 34 = .ok (.iconst 1, 1) := by decide +kernel
theorem dX12_boat_35 : decode cX12_boat 35 = .ok (.isub, 1) := by decide +kernel
theorem dX12_boat_36 : decode cX12_boat 36 = .ok (.ireturn, 1) := by decide +kernel
set_option maxRecDepth 20000 in
theorem ggX12_certificate_X0_isBoat : GoodIn wsX12_certificate wsX0_isBoat := goodIn_r _ [11, 12, 13, 14, 15, 98, 99, 100, 101, 102, 103, 104, 105, 106, 107, 108] (by decide +kernel) (by decide +kernel)
set_option maxRecDepth 20000 in
theorem gX12_certificate_X0_isBoat : GoodIn wsX12_certificate (wsV RX12 66 RX0 yX0_isBoat wsX0_isBoat) := goodIn_app (goodIn_of _ (by decide +kernel)) ggX12_certificate_X0_isBoat
theorem dX12_certificate_0 : decode cX12_certificate 0 = .ok (.aload_n 0, 1) := by decide +kernel
theorem dX12_certificate_1 : decode cX12_certificate 1 = .ok (.getfield 10, 3) := by decide +kernel
theorem dX12_certificate_4 : decode cX12_certificate 4 = .ok (.iload_n 1, 1) := by decide +kernel
theorem dX12_certificate_5 : decode cX12_certificate 5 = .ok (.invokevirtual 66, 3) := by decide +kernel
theorem dX12_certificate_8 : decode cX12_certificate 8 = .ok (.ifCond .eq 10, 3) := by decide +kernel
theorem dX12_certificate_18 : decode cX12_certificate 18 = .ok (.iconst (-1), 1) := by decide +kernel
theorem dX12_certificate_19 : decode cX12_certificate 19 = .ok (.ireturn, 1) := by decide +kernel
set_option maxRecDepth 20000 in
theorem ggX12_measured_X0_isBoat : GoodIn wsX12_measured wsX0_isBoat := goodIn_r _ [6, 7, 8, 9, 10, 58, 59, 60, 61, 62, 63, 64, 65, 66, 67, 68] (by decide +kernel) (by decide +kernel)
set_option maxRecDepth 20000 in
theorem gX12_measured_X0_isBoat : GoodIn wsX12_measured (wsV RX12 66 RX0 yX0_isBoat wsX0_isBoat) := goodIn_app (goodIn_of _ (by decide +kernel)) ggX12_measured_X0_isBoat
theorem dX12_measured_0 : decode cX12_measured 0 = .ok (.aload_n 0, 1) := by decide +kernel
theorem dX12_measured_1 : decode cX12_measured 1 = .ok (.getfield 10, 3) := by decide +kernel
theorem dX12_measured_4 : decode cX12_measured 4 = .ok (.iload_n 1, 1) := by decide +kernel
theorem dX12_measured_5 : decode cX12_measured 5 = .ok (.invokevirtual 66, 3) := by decide +kernel
theorem dX12_measured_8 : decode cX12_measured 8 = .ok (.ifCond .eq 21, 3) := by decide +kernel
theorem dX12_measured_29 : decode cX12_measured 29 = .ok (.iconst (-1), 1) := by decide +kernel
theorem dX12_measured_30 : decode cX12_measured 30 = .ok (.ireturn, 1) := by decide +kernel
set_option maxRecDepth 20000 in
theorem ggX12_end_X12_within : GoodIn wsX12_end wsX12_within := goodIn_r _ [6] (by decide +kernel) (by decide +kernel)
set_option maxRecDepth 20000 in
theorem gX12_end_X12_within : GoodIn wsX12_end (va_wsS RX12 59 yX12_within wsX12_within) := goodIn_app (goodIn_of _ (by decide +kernel)) ggX12_end_X12_within
theorem dX12_end_0 : decode cX12_end 0 = .ok (.iload_n 1, 1) := by decide +kernel
theorem dX12_end_1 : decode cX12_end 1 = .ok (.iconst 0, 1) := by decide +kernel
theorem dX12_end_2 : decode cX12_end 2 = .ok (.aload_n 0, 1) := by decide +kernel
theorem dX12_end_3 : decode cX12_end 3 = .ok (.getfield 19, 3) := by decide +kernel
theorem dX12_end_6 : decode cX12_end 6 = .ok (.getfield 103, 3) := by decide +kernel
theorem dX12_end_9 : decode cX12_end 9 = .ok (.invokestatic 59, 3) := by decide +kernel
theorem dX12_end_12 : decode cX12_end 12 = .ok (.ifCond .ne 5, 3) := by decide +kernel
theorem dX12_end_15 : decode cX12_end 15 = .ok (.iconst 0, 1) := by decide +kernel
theorem dX12_end_16 : decode cX12_end 16 = .ok (.ireturn, 1) := by decide +kernel
theorem dX12_end_17 : decode cX12_end 17 = .ok (.aload_n 0, 1) := by decide +kernel
theorem dX12_end_18 : decode cX12_end 18 = .ok (.getfield 19, 3) := by decide +kernel
theorem dX12_end_21 : decode cX12_end 21 = .ok (.iload_n 1, 1) := by decide +kernel
theorem dX12_end_22 : decode cX12_end 22 = .ok (.putfield 103, 3) := by decide +kernel
theorem dX12_end_25 : decode cX12_end 25 = .ok (.iconst 1, 1) := by decide +kernel
theorem dX12_end_26 : decode cX12_end 26 = .ok (.ireturn, 1) := by decide +kernel
set_option maxRecDepth 20000 in
theorem ggX12_fault_X10_read : GoodIn wsX12_fault wsX10_read := goodIn_r _ [6, 7, 8, 9, 10, 11, 12, 13, 14, 5, 15, 16, 17, 18, 19, 20, 21, 22, 23, 24, 25, 26, 27, 28, 29, 30, 31, 32, 33, 34, 35, 36, 37, 38, 39, 40, 41, 42, 43, 44, 45, 46, 47, 48, 49, 50, 51, 52, 53, 54, 55, 56, 57, 58, 59, 60, 61, 62, 63, 64, 65, 66, 67, 68, 69, 70, 71, 72, 73, 74, 75, 76, 77, 78, 79, 80, 81, 82, 83, 84, 85, 86, 87, 88, 89, 90, 91, 92, 93, 94, 95, 96, 97, 98, 99, 100, 101, 102, 103, 104, 105, 106, 107, 108, 109, 110, 111, 112, 113, 114, 115, 116, 117, 118, 119, 120, 121, 122, 123, 124, 125, 126, 127, 128, 129, 130, 131, 132, 133, 134, 135, 136, 137, 138, 139, 140, 141, 142, 143, 144, 145, 146, 147, 148, 149, 150, 151, 152, 153, 154, 155, 156, 157, 158, 159, 160, 161, 162, 163, 164, 165, 166, 167, 168, 169, 170, 171, 172, 173, 174, 175, 182, 183, 184, 185, 186, 187, 188, 189, 190, 191] (by decide +kernel) (by decide +kernel)
set_option maxRecDepth 20000 in
theorem gX12_fault_X10_read : GoodIn wsX12_fault (wsV RX12 110 RX10 yX10_read wsX10_read) := goodIn_app (goodIn_of _ (by decide +kernel)) ggX12_fault_X10_read
theorem dX12_fault_0 : decode cX12_fault 0 = .ok (.aload_n 0, 1) := by decide +kernel
theorem dX12_fault_1 : decode cX12_fault 1 = .ok (.getfield 19, 3) := by decide +kernel
theorem dX12_fault_4 : decode cX12_fault 4 = .ok (.invokevirtual 110, 3) := by decide +kernel
theorem dX12_fault_7 : decode cX12_fault 7 = .ok (.ireturn, 1) := by decide +kernel
set_option maxRecDepth 20000 in
theorem ggX12_rules_X12_isDay : GoodIn wsX12_rules wsX12_isDay := goodIn_r _ [9, 10, 11, 8, 12] (by decide +kernel) (by decide +kernel)
set_option maxRecDepth 20000 in
theorem gX12_rules_X12_isDay : GoodIn wsX12_rules (va_wsS RX12 70 yX12_isDay wsX12_isDay) := goodIn_app (goodIn_of _ (by decide +kernel)) ggX12_rules_X12_isDay
set_option maxRecDepth 20000 in
theorem ggX12_rules_Jx4a65c_size_8abf5 : GoodIn wsX12_rules wsJx4a65c_size_8abf5 := goodIn_r _ [17, 18, 296, 297, 298] (by decide +kernel) (by decide +kernel)
set_option maxRecDepth 20000 in
theorem gX12_rules_Jx4a65c_size_8abf5 : GoodIn wsX12_rules (wsV RX12 77 RJx4a65c yJx4a65c_size_8abf5 wsJx4a65c_size_8abf5) := goodIn_app (goodIn_of _ (by decide +kernel)) ggX12_rules_Jx4a65c_size_8abf5
set_option maxRecDepth 20000 in
theorem ggX12_rules_X10_read : GoodIn wsX12_rules wsX10_read := goodIn_r _ [23, 24, 25, 26, 27, 28, 29, 30, 31, 22, 32, 33, 34, 35, 36, 37, 38, 39, 40, 41, 8, 42, 43, 44, 45, 46, 47, 48, 49, 50, 51, 52, 53, 54, 55, 56, 57, 58, 59, 60, 61, 62, 63, 64, 65, 66, 67, 68, 69, 70, 71, 72, 73, 74, 75, 76, 77, 78, 79, 80, 81, 82, 83, 84, 85, 86, 87, 88, 89, 90, 91, 92, 93, 94, 95, 96, 97, 98, 99, 100, 101, 102, 103, 104, 105, 106, 107, 108, 109, 110, 111, 112, 113, 114, 115, 116, 117, 118, 119, 120, 121, 122, 123, 124, 125, 126, 127, 128, 129, 130, 131, 132, 133, 134, 135, 136, 137, 138, 139, 140, 141, 142, 143, 144, 145, 146, 147, 148, 149, 150, 151, 152, 153, 154, 155, 156, 157, 158, 159, 160, 161, 162, 163, 164, 165, 166, 167, 168, 169, 170, 171, 172, 173, 174, 175, 176, 177, 178, 179, 180, 181, 182, 183, 184, 185, 186, 187, 188, 189, 190, 191, 286, 287, 288, 289, 290, 291, 292, 293, 294, 295] (by decide +kernel) (by decide +kernel)
set_option maxRecDepth 20000 in
theorem gX12_rules_X10_read : GoodIn wsX12_rules (wsV RX12 110 RX10 yX10_read wsX10_read) := goodIn_app (goodIn_of _ (by decide +kernel)) ggX12_rules_X10_read
theorem dX12_rules_0 : decode cX12_rules 0 = .ok (.iload_n 1, 1) := by decide +kernel
theorem dX12_rules_1 : decode cX12_rules 1 = .ok (.invokestatic 70, 3) := by decide +kernel
theorem dX12_rules_4 : decode cX12_rules 4 = .ok (.ifCond .eq 18, 3) := by decide +kernel
theorem dX12_rules_7 : decode cX12_rules 7 = .ok (.aload_n 0, 1) := by decide +kernel
theorem dX12_rules_8 : decode cX12_rules 8 = .ok (.getfield 10, 3) := by decide +kernel
theorem dX12_rules_11 : decode cX12_rules 11 = .ok (.getfield 113, 3) := by decide +kernel
theorem dX12_rules_14 : decode cX12_rules 14 = .ok (.invokevirtual 77, 3) := by decide +kernel
theorem dX12_rules_17 : decode cX12_rules 17 = .ok (.bipush 16, 2) := by decide +kernel
theorem dX12_rules_19 : decode cX12_rules 19 = .ok (.if_icmp .lt 5, 3) := by decide +kernel
theorem dX12_rules_22 : decode cX12_rules 22 = .ok (.iconst (-1), 1) := by decide +kernel
theorem dX12_rules_23 : decode cX12_rules 23 = .ok (.ireturn, 1) := by decide +kernel
theorem dX12_rules_24 : decode cX12_rules 24 = .ok (.aload_n 0, 1) := by decide +kernel
theorem dX12_rules_25 : decode cX12_rules 25 = .ok (.getfield 19, 3) := by decide +kernel
theorem dX12_rules_28 : decode cX12_rules 28 = .ok (.invokevirtual 110, 3) := by decide +kernel
theorem dX12_rules_31 : decode cX12_rules 31 = .ok (.iconst (-1), 1) := by decide +kernel
theorem dX12_rules_32 : decode cX12_rules 32 = .ok (.if_icmp .eq 5, 3) := by decide +kernel
theorem dX12_rules_35 : decode cX12_rules 35 = .ok (.iconst (-1), 1) := by decide +kernel
theorem dX12_rules_36 : decode cX12_rules 36 = .ok (.ireturn, 1) := by decide +kernel
set_option maxRecDepth 20000 in
theorem ggX12_force_X12_isDay : GoodIn wsX12_force wsX12_isDay := goodIn_r _ [5, 6, 7, 4, 8] (by decide +kernel) (by decide +kernel)
set_option maxRecDepth 20000 in
theorem gX12_force_X12_isDay : GoodIn wsX12_force (va_wsS RX12 70 yX12_isDay wsX12_isDay) := goodIn_app (goodIn_of _ (by decide +kernel)) ggX12_force_X12_isDay
set_option maxRecDepth 20000 in
theorem ggX12_force_X0_isKnown : GoodIn wsX12_force wsX0_isKnown := goodIn_r _ [13, 14, 7, 4, 8, 52, 53, 54, 55, 56, 57, 58, 59, 60, 61, 62] (by decide +kernel) (by decide +kernel)
set_option maxRecDepth 20000 in
theorem gX12_force_X0_isKnown : GoodIn wsX12_force (wsV RX12 92 RX0 yX0_isKnown wsX0_isKnown) := goodIn_app (goodIn_of _ (by decide +kernel)) ggX12_force_X0_isKnown
set_option maxRecDepth 20000 in
theorem ggX12_force_X0_rulesOn : GoodIn wsX12_force wsX0_rulesOn := goodIn_r _ [18, 19, 20, 21, 22, 23, 24, 25, 26, 27, 28, 29, 30, 31, 32, 33, 34, 35, 36, 37, 38, 39, 40, 41, 42, 43, 44, 45, 52, 53, 54, 55, 56, 57, 58, 59, 60, 61, 62, 63, 64, 65, 66, 67, 68, 69, 70, 71] (by decide +kernel) (by decide +kernel)
set_option maxRecDepth 20000 in
theorem gX12_force_X0_rulesOn : GoodIn wsX12_force (wsV RX12 120 RX0 yX0_rulesOn wsX0_rulesOn) := goodIn_app (goodIn_of _ (by decide +kernel)) ggX12_force_X0_rulesOn
theorem dX12_force_0 : decode cX12_force 0 = .ok (.iload_n 1, 1) := by decide +kernel
theorem dX12_force_1 : decode cX12_force 1 = .ok (.invokestatic 70, 3) := by decide +kernel
theorem dX12_force_4 : decode cX12_force 4 = .ok (.ifCond .eq 14, 3) := by decide +kernel
theorem dX12_force_7 : decode cX12_force 7 = .ok (.aload_n 0, 1) := by decide +kernel
theorem dX12_force_8 : decode cX12_force 8 = .ok (.getfield 10, 3) := by decide +kernel
theorem dX12_force_11 : decode cX12_force 11 = .ok (.iload_n 2, 1) := by decide +kernel
theorem dX12_force_12 : decode cX12_force 12 = .ok (.invokevirtual 92, 3) := by decide +kernel
theorem dX12_force_15 : decode cX12_force 15 = .ok (.ifCond .ne 5, 3) := by decide +kernel
theorem dX12_force_18 : decode cX12_force 18 = .ok (.iconst (-1), 1) := by decide +kernel
theorem dX12_force_19 : decode cX12_force 19 = .ok (.ireturn, 1) := by decide +kernel
theorem dX12_force_20 : decode cX12_force 20 = .ok (.aload_n 0, 1) := by decide +kernel
theorem dX12_force_21 : decode cX12_force 21 = .ok (.getfield 10, 3) := by decide +kernel
theorem dX12_force_24 : decode cX12_force 24 = .ok (.iload_n 1, 1) := by decide +kernel
theorem dX12_force_25 : decode cX12_force 25 = .ok (.iload_n 2, 1) := by decide +kernel
theorem dX12_force_26 : decode cX12_force 26 = .ok (.invokevirtual 120, 3) := by decide +kernel
theorem dX12_force_29 : decode cX12_force 29 = .ok (.ireturn, 1) := by decide +kernel
set_option maxRecDepth 20000 in
theorem ggX12_number_X0_isBoat : GoodIn wsX12_number wsX0_isBoat := goodIn_r _ [6, 7, 8, 9, 10, 111, 112, 113, 114, 115, 116, 117, 118, 119, 120, 121] (by decide +kernel) (by decide +kernel)
set_option maxRecDepth 20000 in
theorem gX12_number_X0_isBoat : GoodIn wsX12_number (wsV RX12 66 RX0 yX0_isBoat wsX0_isBoat) := goodIn_app (goodIn_of _ (by decide +kernel)) ggX12_number_X0_isBoat
theorem dX12_number_0 : decode cX12_number 0 = .ok (.aload_n 0, 1) := by decide +kernel
theorem dX12_number_1 : decode cX12_number 1 = .ok (.getfield 10, 3) := by decide +kernel
theorem dX12_number_4 : decode cX12_number 4 = .ok (.iload_n 1, 1) := by decide +kernel
theorem dX12_number_5 : decode cX12_number 5 = .ok (.invokevirtual 66, 3) := by decide +kernel
theorem dX12_number_8 : decode cX12_number 8 = .ok (.ifCond .eq 21, 3) := by decide +kernel
theorem dX12_number_29 : decode cX12_number 29 = .ok (.iconst (-1), 1) := by decide +kernel
theorem dX12_number_30 : decode cX12_number 30 = .ok (.ireturn, 1) := by decide +kernel
set_option maxRecDepth 20000 in
theorem ggX12_swift_X0_isRace : GoodIn wsX12_swift wsX0_isRace := goodIn_r _ [10, 11, 12, 13, 14, 15, 16, 17, 18, 19, 20, 45, 46, 47, 48, 49, 50, 51, 52, 53, 54, 55, 68, 69, 70] (by decide +kernel) (by decide +kernel)
set_option maxRecDepth 20000 in
theorem gX12_swift_X0_isRace : GoodIn wsX12_swift (wsV RX12 135 RX0 yX0_isRace wsX0_isRace) := goodIn_app (goodIn_of _ (by decide +kernel)) ggX12_swift_X0_isRace
theorem dX12_swift_0 : decode cX12_swift 0 = .ok (.aload_n 0, 1) := by decide +kernel
theorem dX12_swift_1 : decode cX12_swift 1 = .ok (.getfield 10, 3) := by decide +kernel
theorem dX12_swift_4 : decode cX12_swift 4 = .ok (.iload_n 1, 1) := by decide +kernel
theorem dX12_swift_5 : decode cX12_swift 5 = .ok (.invokevirtual 135, 3) := by decide +kernel
theorem dX12_swift_8 : decode cX12_swift 8 = .ok (.ifCond .eq 13, 3) := by decide +kernel
theorem dX12_swift_21 : decode cX12_swift 21 = .ok (.iconst 0, 1) := by decide +kernel
theorem dX12_swift_22 : decode cX12_swift 22 = .ok (.ireturn, 1) := by decide +kernel
set_option maxRecDepth 20000 in
theorem ggX12_enter_X0_isRace : GoodIn wsX12_enter wsX0_isRace := goodIn_r _ [10, 11, 12, 13, 14, 15, 16, 17, 18, 19, 20, 64, 65, 66, 67, 68, 69, 70, 71, 72, 73, 74, 87, 88, 89] (by decide +kernel) (by decide +kernel)
set_option maxRecDepth 20000 in
theorem gX12_enter_X0_isRace : GoodIn wsX12_enter (wsV RX12 135 RX0 yX0_isRace wsX0_isRace) := goodIn_app (goodIn_of _ (by decide +kernel)) ggX12_enter_X0_isRace
theorem dX12_enter_0 : decode cX12_enter 0 = .ok (.aload_n 0, 1) := by decide +kernel
theorem dX12_enter_1 : decode cX12_enter 1 = .ok (.getfield 10, 3) := by decide +kernel
theorem dX12_enter_4 : decode cX12_enter 4 = .ok (.iload_n 1, 1) := by decide +kernel
theorem dX12_enter_5 : decode cX12_enter 5 = .ok (.invokevirtual 135, 3) := by decide +kernel
theorem dX12_enter_8 : decode cX12_enter 8 = .ok (.ifCond .eq 26, 3) := by decide +kernel
theorem dX12_enter_34 : decode cX12_enter 34 = .ok (.iconst 0, 1) := by decide +kernel
theorem dX12_enter_35 : decode cX12_enter 35 = .ok (.ireturn, 1) := by decide +kernel
set_option maxRecDepth 20000 in
theorem ggX12_result_X0_isEntered : GoodIn wsX12_result wsX0_isEntered := goodIn_r _ [12, 13, 14, 15, 16, 17, 18, 11, 19, 20, 21, 22, 23, 24, 25, 26, 27, 28, 29, 30, 31, 32, 33, 34, 35, 36, 37, 38, 39, 40, 41, 42, 43, 44, 45, 46, 47, 48, 49, 50, 51, 52, 53, 54, 55, 56, 129, 130, 131, 132, 133, 134, 135, 136, 137, 138, 139, 145, 146, 147, 148, 149, 150, 151, 152, 153, 154, 155, 156, 157, 158, 159] (by decide +kernel) (by decide +kernel)
set_option maxRecDepth 20000 in
theorem gX12_result_X0_isEntered : GoodIn wsX12_result (wsV RX12 146 RX0 yX0_isEntered wsX0_isEntered) := goodIn_app (goodIn_of _ (by decide +kernel)) ggX12_result_X0_isEntered
theorem dX12_result_0 : decode cX12_result 0 = .ok (.aload_n 0, 1) := by decide +kernel
theorem dX12_result_1 : decode cX12_result 1 = .ok (.getfield 10, 3) := by decide +kernel
theorem dX12_result_4 : decode cX12_result 4 = .ok (.iload_n 1, 1) := by decide +kernel
theorem dX12_result_5 : decode cX12_result 5 = .ok (.iload_n 2, 1) := by decide +kernel
theorem dX12_result_6 : decode cX12_result 6 = .ok (.invokevirtual 146, 3) := by decide +kernel
theorem dX12_result_9 : decode cX12_result 9 = .ok (.ifCond .eq 12, 3) := by decide +kernel
theorem dX12_result_21 : decode cX12_result 21 = .ok (.iconst 0, 1) := by decide +kernel
theorem dX12_result_22 : decode cX12_result 22 = .ok (.ireturn, 1) := by decide +kernel
set_option maxRecDepth 20000 in
theorem ggX12_coded_X0_isCounted : GoodIn wsX12_coded wsX0_isCounted := goodIn_r _ [8, 9, 10, 11, 12, 13, 14, 7, 15, 16, 17, 18, 19, 20, 21, 22, 23, 24, 25, 26, 27, 28, 29, 30, 31, 32, 33, 34, 35, 36, 37, 38, 39, 40, 41, 42, 43, 44, 45, 46, 111, 112, 113, 114, 115, 116, 117, 118, 119, 120, 121, 122, 123, 124, 125, 126, 127, 128, 129, 130, 131, 132, 133, 134, 135, 136] (by decide +kernel) (by decide +kernel)
set_option maxRecDepth 20000 in
theorem gX12_coded_X0_isCounted : GoodIn wsX12_coded (wsV RX12 162 RX0 yX0_isCounted wsX0_isCounted) := goodIn_app (goodIn_of _ (by decide +kernel)) ggX12_coded_X0_isCounted
theorem dX12_coded_0 : decode cX12_coded 0 = .ok (.aload_n 0, 1) := by decide +kernel
theorem dX12_coded_1 : decode cX12_coded 1 = .ok (.getfield 10, 3) := by decide +kernel
theorem dX12_coded_4 : decode cX12_coded 4 = .ok (.iload_n 1, 1) := by decide +kernel
theorem dX12_coded_5 : decode cX12_coded 5 = .ok (.iload_n 3, 1) := by decide +kernel
theorem dX12_coded_6 : decode cX12_coded 6 = .ok (.invokevirtual 162, 3) := by decide +kernel
theorem dX12_coded_9 : decode cX12_coded 9 = .ok (.ifCond .eq 14, 3) := by decide +kernel
theorem dX12_coded_23 : decode cX12_coded 23 = .ok (.iconst (-1), 1) := by decide +kernel
theorem dX12_coded_24 : decode cX12_coded 24 = .ok (.ireturn, 1) := by decide +kernel
set_option maxRecDepth 20000 in
theorem ggX12_corrected_X0_isCounted : GoodIn wsX12_corrected wsX0_isCounted := goodIn_r _ [10, 11, 12, 13, 14, 15, 16, 9, 17, 18, 19, 20, 21, 22, 23, 24, 25, 26, 27, 28, 29, 30, 31, 32, 33, 34, 35, 36, 37, 38, 39, 40, 41, 42, 43, 44, 45, 46, 47, 48, 198, 199, 200, 201, 202, 203, 204, 205, 206, 207, 208, 209, 210, 211, 212, 213, 214, 215, 216, 217, 218, 219, 220, 221, 222, 223] (by decide +kernel) (by decide +kernel)
set_option maxRecDepth 20000 in
theorem gX12_corrected_X0_isCounted : GoodIn wsX12_corrected (wsV RX12 162 RX0 yX0_isCounted wsX0_isCounted) := goodIn_app (goodIn_of _ (by decide +kernel)) ggX12_corrected_X0_isCounted
theorem dX12_corrected_0 : decode cX12_corrected 0 = .ok (.aload_n 0, 1) := by decide +kernel
theorem dX12_corrected_1 : decode cX12_corrected 1 = .ok (.getfield 10, 3) := by decide +kernel
theorem dX12_corrected_4 : decode cX12_corrected 4 = .ok (.iload_n 1, 1) := by decide +kernel
theorem dX12_corrected_5 : decode cX12_corrected 5 = .ok (.iload_n 3, 1) := by decide +kernel
theorem dX12_corrected_6 : decode cX12_corrected 6 = .ok (.invokevirtual 162, 3) := by decide +kernel
theorem dX12_corrected_9 : decode cX12_corrected 9 = .ok (.ifCond .eq 14, 3) := by decide +kernel
theorem dX12_corrected_23 : decode cX12_corrected 23 = .ok (.ldc 172, 2) := by decide +kernel
theorem dX12_corrected_25 : decode cX12_corrected 25 = .ok (.ireturn, 1) := by decide +kernel
set_option maxRecDepth 20000 in
theorem ggX12_placed_X0_isCounted : GoodIn wsX12_placed wsX0_isCounted := goodIn_r _ [9, 10, 11, 12, 13, 14, 15, 8, 16, 17, 18, 19, 20, 21, 22, 23, 24, 25, 26, 27, 28, 29, 30, 31, 32, 33, 34, 35, 36, 37, 38, 39, 40, 41, 42, 43, 44, 45, 46, 47, 197, 198, 199, 200, 201, 202, 203, 204, 205, 206, 207, 208, 209, 210, 211, 212, 213, 214, 215, 216, 217, 218, 219, 220, 221, 222] (by decide +kernel) (by decide +kernel)
set_option maxRecDepth 20000 in
theorem gX12_placed_X0_isCounted : GoodIn wsX12_placed (wsV RX12 162 RX0 yX0_isCounted wsX0_isCounted) := goodIn_app (goodIn_of _ (by decide +kernel)) ggX12_placed_X0_isCounted
theorem dX12_placed_0 : decode cX12_placed 0 = .ok (.aload_n 0, 1) := by decide +kernel
theorem dX12_placed_1 : decode cX12_placed 1 = .ok (.getfield 10, 3) := by decide +kernel
theorem dX12_placed_4 : decode cX12_placed 4 = .ok (.iload_n 1, 1) := by decide +kernel
theorem dX12_placed_5 : decode cX12_placed 5 = .ok (.iload_n 3, 1) := by decide +kernel
theorem dX12_placed_6 : decode cX12_placed 6 = .ok (.invokevirtual 162, 3) := by decide +kernel
theorem dX12_placed_9 : decode cX12_placed 9 = .ok (.ifCond .eq 14, 3) := by decide +kernel
theorem dX12_placed_23 : decode cX12_placed 23 = .ok (.iconst (-1), 1) := by decide +kernel
theorem dX12_placed_24 : decode cX12_placed 24 = .ok (.ireturn, 1) := by decide +kernel
set_option maxRecDepth 20000 in
theorem ggX12_redress_X0_isEntered : GoodIn wsX12_redress wsX0_isEntered := goodIn_r _ [11, 12, 13, 14, 15, 16, 17, 10, 18, 19, 20, 21, 22, 23, 24, 25, 26, 27, 28, 29, 30, 31, 32, 33, 34, 35, 36, 37, 38, 39, 40, 41, 42, 43, 44, 45, 46, 47, 48, 49, 50, 51, 52, 53, 54, 55, 63, 64, 65, 66, 67, 68, 69, 70, 71, 72, 73, 86, 87, 88, 74, 75, 76, 77, 78, 79, 80, 81, 82, 83, 84, 85] (by decide +kernel) (by decide +kernel)
set_option maxRecDepth 20000 in
theorem gX12_redress_X0_isEntered : GoodIn wsX12_redress (wsV RX12 146 RX0 yX0_isEntered wsX0_isEntered) := goodIn_app (goodIn_of _ (by decide +kernel)) ggX12_redress_X0_isEntered
theorem dX12_redress_0 : decode cX12_redress 0 = .ok (.aload_n 0, 1) := by decide +kernel
theorem dX12_redress_1 : decode cX12_redress 1 = .ok (.getfield 10, 3) := by decide +kernel
theorem dX12_redress_4 : decode cX12_redress 4 = .ok (.iload_n 1, 1) := by decide +kernel
theorem dX12_redress_5 : decode cX12_redress 5 = .ok (.iload_n 2, 1) := by decide +kernel
theorem dX12_redress_6 : decode cX12_redress 6 = .ok (.invokevirtual 146, 3) := by decide +kernel
theorem dX12_redress_9 : decode cX12_redress 9 = .ok (.ifCond .eq 15, 3) := by decide +kernel
theorem dX12_redress_24 : decode cX12_redress 24 = .ok (.iconst 0, 1) := by decide +kernel
theorem dX12_redress_25 : decode cX12_redress 25 = .ok (.ireturn, 1) := by decide +kernel
set_option maxRecDepth 20000 in
theorem ggX12_points_X0_isCounted : GoodIn wsX12_points wsX0_isCounted := goodIn_r _ [7, 8, 9, 10, 11, 12, 13, 6, 14, 15, 16, 17, 18, 19, 20, 21, 22, 23, 24, 25, 26, 27, 28, 29, 30, 31, 32, 33, 34, 35, 36, 37, 38, 39, 40, 41, 42, 43, 44, 45, 223, 224, 225, 226, 227, 228, 229, 230, 231, 232, 233, 234, 235, 236, 237, 238, 239, 240, 241, 242, 243, 244, 245, 246, 247, 248] (by decide +kernel) (by decide +kernel)
set_option maxRecDepth 20000 in
theorem gX12_points_X0_isCounted : GoodIn wsX12_points (wsV RX12 162 RX0 yX0_isCounted wsX0_isCounted) := goodIn_app (goodIn_of _ (by decide +kernel)) ggX12_points_X0_isCounted
theorem dX12_points_0 : decode cX12_points 0 = .ok (.aload_n 0, 1) := by decide +kernel
theorem dX12_points_1 : decode cX12_points 1 = .ok (.getfield 10, 3) := by decide +kernel
theorem dX12_points_4 : decode cX12_points 4 = .ok (.iload_n 1, 1) := by decide +kernel
theorem dX12_points_5 : decode cX12_points 5 = .ok (.iload_n 3, 1) := by decide +kernel
theorem dX12_points_6 : decode cX12_points 6 = .ok (.invokevirtual 162, 3) := by decide +kernel
theorem dX12_points_9 : decode cX12_points 9 = .ok (.ifCond .eq 14, 3) := by decide +kernel
theorem dX12_points_23 : decode cX12_points 23 = .ok (.iconst (-1), 1) := by decide +kernel
theorem dX12_points_24 : decode cX12_points 24 = .ok (.ireturn, 1) := by decide +kernel
set_option maxRecDepth 20000 in
theorem ggX12_thrown_X0_isCounted : GoodIn wsX12_thrown wsX0_isCounted := goodIn_r _ [9, 10, 11, 12, 13, 14, 15, 8, 16, 17, 18, 19, 20, 21, 22, 23, 24, 25, 26, 27, 28, 29, 30, 31, 32, 33, 34, 35, 36, 37, 38, 39, 40, 41, 42, 43, 44, 45, 46, 47, 262, 263, 264, 265, 266, 267, 268, 269, 270, 271, 272, 273, 274, 275, 276, 277, 278, 279, 280, 281, 282, 283, 284, 285, 286, 287] (by decide +kernel) (by decide +kernel)
set_option maxRecDepth 20000 in
theorem gX12_thrown_X0_isCounted : GoodIn wsX12_thrown (wsV RX12 162 RX0 yX0_isCounted wsX0_isCounted) := goodIn_app (goodIn_of _ (by decide +kernel)) ggX12_thrown_X0_isCounted
theorem dX12_thrown_0 : decode cX12_thrown 0 = .ok (.aload_n 0, 1) := by decide +kernel
theorem dX12_thrown_1 : decode cX12_thrown 1 = .ok (.getfield 10, 3) := by decide +kernel
theorem dX12_thrown_4 : decode cX12_thrown 4 = .ok (.iload_n 1, 1) := by decide +kernel
theorem dX12_thrown_5 : decode cX12_thrown 5 = .ok (.iload_n 3, 1) := by decide +kernel
theorem dX12_thrown_6 : decode cX12_thrown 6 = .ok (.invokevirtual 162, 3) := by decide +kernel
theorem dX12_thrown_9 : decode cX12_thrown 9 = .ok (.ifCond .eq 14, 3) := by decide +kernel
theorem dX12_thrown_23 : decode cX12_thrown 23 = .ok (.iconst (-1), 1) := by decide +kernel
theorem dX12_thrown_24 : decode cX12_thrown 24 = .ok (.ireturn, 1) := by decide +kernel
set_option maxRecDepth 20000 in
theorem ggX12_total_X0_isBoat : GoodIn wsX12_total wsX0_isBoat := goodIn_r _ [9, 10, 11, 12, 13, 253, 254, 255, 256, 257, 258, 259, 260, 261, 262, 263] (by decide +kernel) (by decide +kernel)
set_option maxRecDepth 20000 in
theorem gX12_total_X0_isBoat : GoodIn wsX12_total (wsV RX12 66 RX0 yX0_isBoat wsX0_isBoat) := goodIn_app (goodIn_of _ (by decide +kernel)) ggX12_total_X0_isBoat
theorem dX12_total_0 : decode cX12_total 0 = .ok (.aload_n 0, 1) := by decide +kernel
theorem dX12_total_1 : decode cX12_total 1 = .ok (.getfield 10, 3) := by decide +kernel
theorem dX12_total_4 : decode cX12_total 4 = .ok (.iload_n 1, 1) := by decide +kernel
theorem dX12_total_5 : decode cX12_total 5 = .ok (.invokevirtual 66, 3) := by decide +kernel
theorem dX12_total_8 : decode cX12_total 8 = .ok (.ifCond .eq 14, 3) := by decide +kernel
theorem dX12_total_22 : decode cX12_total 22 = .ok (.iconst (-1), 1) := by decide +kernel
theorem dX12_total_23 : decode cX12_total 23 = .ok (.ireturn, 1) := by decide +kernel
set_option maxRecDepth 20000 in
theorem ggX12_word_X0_isEntered : GoodIn wsX12_word wsX0_isEntered := goodIn_r _ [12, 13, 14, 15, 16, 17, 18, 11, 19, 20, 21, 22, 23, 24, 25, 26, 27, 28, 29, 30, 31, 32, 33, 34, 35, 36, 37, 38, 39, 40, 41, 42, 43, 44, 45, 46, 47, 48, 49, 50, 51, 52, 53, 54, 55, 56, 136, 137, 138, 139, 140, 141, 142, 143, 144, 145, 146, 155, 156, 157, 158, 159, 160, 161, 162, 163, 164, 165, 166, 167, 168, 169] (by decide +kernel) (by decide +kernel)
set_option maxRecDepth 20000 in
theorem gX12_word_X0_isEntered : GoodIn wsX12_word (wsV RX12 146 RX0 yX0_isEntered wsX0_isEntered) := goodIn_app (goodIn_of _ (by decide +kernel)) ggX12_word_X0_isEntered
theorem dX12_word_0 : decode cX12_word 0 = .ok (.aload_n 0, 1) := by decide +kernel
theorem dX12_word_1 : decode cX12_word 1 = .ok (.getfield 10, 3) := by decide +kernel
theorem dX12_word_4 : decode cX12_word 4 = .ok (.iload_n 1, 1) := by decide +kernel
theorem dX12_word_5 : decode cX12_word 5 = .ok (.iload_n 2, 1) := by decide +kernel
theorem dX12_word_6 : decode cX12_word 6 = .ok (.invokevirtual 146, 3) := by decide +kernel
theorem dX12_word_9 : decode cX12_word 9 = .ok (.ifCond .eq 13, 3) := by decide +kernel
theorem dX12_word_22 : decode cX12_word 22 = .ok (.iconst (-1), 1) := by decide +kernel
theorem dX12_word_23 : decode cX12_word 23 = .ok (.ireturn, 1) := by decide +kernel
set_option maxRecDepth 20000 in
theorem ggX12_protest_X0_isEntered : GoodIn wsX12_protest wsX0_isEntered := goodIn_r _ [12, 13, 14, 15, 16, 17, 18, 11, 19, 20, 21, 22, 23, 24, 25, 26, 27, 28, 29, 30, 31, 32, 33, 34, 35, 36, 37, 38, 39, 40, 41, 42, 43, 44, 45, 46, 47, 48, 49, 50, 51, 52, 53, 54, 55, 56, 132, 133, 134, 135, 136, 137, 138, 139, 140, 141, 142, 153, 154, 155, 156, 157, 158, 159, 160, 161, 162, 163, 164, 165, 166, 167] (by decide +kernel) (by decide +kernel)
set_option maxRecDepth 20000 in
theorem gX12_protest_X0_isEntered : GoodIn wsX12_protest (wsV RX12 146 RX0 yX0_isEntered wsX0_isEntered) := goodIn_app (goodIn_of _ (by decide +kernel)) ggX12_protest_X0_isEntered
theorem dX12_protest_0 : decode cX12_protest 0 = .ok (.aload_n 0, 1) := by decide +kernel
theorem dX12_protest_1 : decode cX12_protest 1 = .ok (.getfield 10, 3) := by decide +kernel
theorem dX12_protest_4 : decode cX12_protest 4 = .ok (.iload_n 1, 1) := by decide +kernel
theorem dX12_protest_5 : decode cX12_protest 5 = .ok (.iload_n 2, 1) := by decide +kernel
theorem dX12_protest_6 : decode cX12_protest 6 = .ok (.invokevirtual 146, 3) := by decide +kernel
theorem dX12_protest_9 : decode cX12_protest 9 = .ok (.ifCond .eq 20, 3) := by decide +kernel
theorem dX12_protest_29 : decode cX12_protest 29 = .ok (.iconst (-1), 1) := by decide +kernel
theorem dX12_protest_30 : decode cX12_protest 30 = .ok (.ireturn, 1) := by decide +kernel
set_option maxRecDepth 20000 in
theorem ggX12_states_X0_isProtested : GoodIn wsX12_states wsX0_isProtested := goodIn_r _ [9, 10, 11, 12, 13, 14, 15, 8, 16, 17, 18, 19, 20, 21, 22, 23, 24, 25, 26, 27, 28, 29, 30, 31, 32, 33, 34, 35, 36, 37, 38, 39, 40, 41, 42, 43, 108, 109, 110, 111, 112, 113, 114, 115, 116, 117, 118, 119, 120, 121, 122, 123, 124, 125, 126, 127, 128, 129, 130, 131] (by decide +kernel) (by decide +kernel)
set_option maxRecDepth 20000 in
theorem gX12_states_X0_isProtested : GoodIn wsX12_states (wsV RX12 226 RX0 yX0_isProtested wsX0_isProtested) := goodIn_app (goodIn_of _ (by decide +kernel)) ggX12_states_X0_isProtested
theorem dX12_states_0 : decode cX12_states 0 = .ok (.aload_n 0, 1) := by decide +kernel
theorem dX12_states_1 : decode cX12_states 1 = .ok (.getfield 10, 3) := by decide +kernel
theorem dX12_states_4 : decode cX12_states 4 = .ok (.iload_n 1, 1) := by decide +kernel
theorem dX12_states_5 : decode cX12_states 5 = .ok (.iload_n 3, 1) := by decide +kernel
theorem dX12_states_6 : decode cX12_states 6 = .ok (.invokevirtual 226, 3) := by decide +kernel
theorem dX12_states_9 : decode cX12_states 9 = .ok (.ifCond .eq 12, 3) := by decide +kernel
theorem dX12_states_21 : decode cX12_states 21 = .ok (.iconst (-1), 1) := by decide +kernel
theorem dX12_states_22 : decode cX12_states 22 = .ok (.ireturn, 1) := by decide +kernel
set_option maxRecDepth 20000 in
theorem ggX12_finding_X0_isProtested : GoodIn wsX12_finding wsX0_isProtested := goodIn_r _ [9, 10, 11, 12, 13, 14, 15, 8, 16, 17, 18, 19, 20, 21, 22, 23, 24, 25, 26, 27, 28, 29, 30, 31, 32, 33, 34, 35, 36, 37, 38, 39, 40, 41, 42, 43, 188, 189, 190, 191, 192, 193, 194, 195, 196, 197, 198, 199, 200, 201, 202, 203, 204, 205, 206, 207, 208, 209, 210, 211] (by decide +kernel) (by decide +kernel)
set_option maxRecDepth 20000 in
theorem gX12_finding_X0_isProtested : GoodIn wsX12_finding (wsV RX12 226 RX0 yX0_isProtested wsX0_isProtested) := goodIn_app (goodIn_of _ (by decide +kernel)) ggX12_finding_X0_isProtested
theorem dX12_finding_0 : decode cX12_finding 0 = .ok (.aload_n 0, 1) := by decide +kernel
theorem dX12_finding_1 : decode cX12_finding 1 = .ok (.getfield 10, 3) := by decide +kernel
theorem dX12_finding_4 : decode cX12_finding 4 = .ok (.iload_n 1, 1) := by decide +kernel
theorem dX12_finding_5 : decode cX12_finding 5 = .ok (.iload_n 3, 1) := by decide +kernel
theorem dX12_finding_6 : decode cX12_finding 6 = .ok (.invokevirtual 226, 3) := by decide +kernel
theorem dX12_finding_9 : decode cX12_finding 9 = .ok (.ifCond .eq 12, 3) := by decide +kernel
theorem dX12_finding_21 : decode cX12_finding 21 = .ok (.iconst (-1), 1) := by decide +kernel
theorem dX12_finding_22 : decode cX12_finding 22 = .ok (.ireturn, 1) := by decide +kernel
set_option maxRecDepth 20000 in
theorem ggX12_decide_X0_isProtested : GoodIn wsX12_decide wsX0_isProtested := goodIn_r _ [10, 11, 12, 13, 14, 15, 16, 9, 17, 18, 19, 20, 21, 22, 23, 24, 25, 26, 27, 28, 29, 30, 31, 32, 33, 34, 35, 36, 37, 38, 39, 40, 41, 42, 43, 44, 202, 203, 204, 205, 206, 207, 208, 209, 210, 211, 212, 213, 214, 215, 216, 217, 218, 219, 220, 221, 222, 223, 224, 225] (by decide +kernel) (by decide +kernel)
set_option maxRecDepth 20000 in
theorem gX12_decide_X0_isProtested : GoodIn wsX12_decide (wsV RX12 226 RX0 yX0_isProtested wsX0_isProtested) := goodIn_app (goodIn_of _ (by decide +kernel)) ggX12_decide_X0_isProtested
theorem dX12_decide_0 : decode cX12_decide 0 = .ok (.aload_n 0, 1) := by decide +kernel
theorem dX12_decide_1 : decode cX12_decide 1 = .ok (.getfield 10, 3) := by decide +kernel
theorem dX12_decide_4 : decode cX12_decide 4 = .ok (.iload_n 1, 1) := by decide +kernel
theorem dX12_decide_5 : decode cX12_decide 5 = .ok (.aload_n 0, 1) := by decide +kernel
theorem dX12_decide_6 : decode cX12_decide 6 = .ok (.getfield 10, 3) := by decide +kernel
theorem dX12_decide_9 : decode cX12_decide 9 = .ok (.getfield 55, 3) := by decide +kernel
theorem dX12_decide_12 : decode cX12_decide 12 = .ok (.invokevirtual 226, 3) := by decide +kernel
theorem dX12_decide_15 : decode cX12_decide 15 = .ok (.ifCond .ne 5, 3) := by decide +kernel
theorem dX12_decide_18 : decode cX12_decide 18 = .ok (.iconst (-1), 1) := by decide +kernel
theorem dX12_decide_19 : decode cX12_decide 19 = .ok (.ireturn, 1) := by decide +kernel
set_option maxRecDepth 20000 in
theorem ggX12_reopen_X0_isProtested : GoodIn wsX12_reopen wsX0_isProtested := goodIn_r _ [10, 11, 12, 13, 14, 15, 16, 9, 17, 18, 19, 20, 21, 22, 23, 24, 25, 26, 27, 28, 29, 30, 31, 32, 33, 34, 35, 36, 37, 38, 39, 40, 41, 42, 43, 44, 60, 61, 62, 63, 64, 65, 66, 67, 68, 69, 70, 71, 72, 73, 74, 75, 76, 77, 78, 79, 80, 81, 82, 83] (by decide +kernel) (by decide +kernel)
set_option maxRecDepth 20000 in
theorem gX12_reopen_X0_isProtested : GoodIn wsX12_reopen (wsV RX12 226 RX0 yX0_isProtested wsX0_isProtested) := goodIn_app (goodIn_of _ (by decide +kernel)) ggX12_reopen_X0_isProtested
theorem dX12_reopen_0 : decode cX12_reopen 0 = .ok (.aload_n 0, 1) := by decide +kernel
theorem dX12_reopen_1 : decode cX12_reopen 1 = .ok (.getfield 10, 3) := by decide +kernel
theorem dX12_reopen_4 : decode cX12_reopen 4 = .ok (.iload_n 1, 1) := by decide +kernel
theorem dX12_reopen_5 : decode cX12_reopen 5 = .ok (.aload_n 0, 1) := by decide +kernel
theorem dX12_reopen_6 : decode cX12_reopen 6 = .ok (.getfield 10, 3) := by decide +kernel
theorem dX12_reopen_9 : decode cX12_reopen 9 = .ok (.getfield 55, 3) := by decide +kernel
theorem dX12_reopen_12 : decode cX12_reopen 12 = .ok (.invokevirtual 226, 3) := by decide +kernel
theorem dX12_reopen_15 : decode cX12_reopen 15 = .ok (.ifCond .ne 5, 3) := by decide +kernel
theorem dX12_reopen_18 : decode cX12_reopen 18 = .ok (.iconst 0, 1) := by decide +kernel
theorem dX12_reopen_19 : decode cX12_reopen 19 = .ok (.ireturn, 1) := by decide +kernel
set_option maxRecDepth 20000 in
theorem ggX12_even_X0_areSome : GoodIn wsX12_even wsX0_areSome := goodIn_r _ [8, 9, 10, 11, 12, 13, 14, 15, 16, 17, 18, 19, 255, 256, 257, 258, 259, 260, 261, 262, 263, 264, 265] (by decide +kernel) (by decide +kernel)
set_option maxRecDepth 20000 in
theorem gX12_even_X0_areSome : GoodIn wsX12_even (wsV RX12 246 RX0 yX0_areSome wsX0_areSome) := goodIn_app (goodIn_of _ (by decide +kernel)) ggX12_even_X0_areSome
theorem dX12_even_0 : decode cX12_even 0 = .ok (.aload_n 0, 1) := by decide +kernel
theorem dX12_even_1 : decode cX12_even 1 = .ok (.getfield 10, 3) := by decide +kernel
theorem dX12_even_4 : decode cX12_even 4 = .ok (.iload_n 1, 1) := by decide +kernel
theorem dX12_even_5 : decode cX12_even 5 = .ok (.invokevirtual 246, 3) := by decide +kernel
theorem dX12_even_8 : decode cX12_even 8 = .ok (.ifCond .ne 5, 3) := by decide +kernel
theorem dX12_even_11 : decode cX12_even 11 = .ok (.iconst (-1), 1) := by decide +kernel
theorem dX12_even_12 : decode cX12_even 12 = .ok (.ireturn, 1) := by decide +kernel
set_option maxRecDepth 20000 in
theorem ggX12_change_X0_areSome : GoodIn wsX12_change wsX0_areSome := goodIn_r _ [8, 9, 10, 11, 12, 13, 14, 15, 16, 17, 18, 19, 246, 247, 248, 249, 250, 251, 252, 253, 254, 255, 256] (by decide +kernel) (by decide +kernel)
set_option maxRecDepth 20000 in
theorem gX12_change_X0_areSome : GoodIn wsX12_change (wsV RX12 246 RX0 yX0_areSome wsX0_areSome) := goodIn_app (goodIn_of _ (by decide +kernel)) ggX12_change_X0_areSome
theorem dX12_change_0 : decode cX12_change 0 = .ok (.aload_n 0, 1) := by decide +kernel
theorem dX12_change_1 : decode cX12_change 1 = .ok (.getfield 10, 3) := by decide +kernel
theorem dX12_change_4 : decode cX12_change 4 = .ok (.iload_n 1, 1) := by decide +kernel
theorem dX12_change_5 : decode cX12_change 5 = .ok (.invokevirtual 246, 3) := by decide +kernel
theorem dX12_change_8 : decode cX12_change 8 = .ok (.ifCond .eq 22, 3) := by decide +kernel
theorem dX12_change_30 : decode cX12_change 30 = .ok (.ldc 172, 2) := by decide +kernel
theorem dX12_change_32 : decode cX12_change 32 = .ok (.ireturn, 1) := by decide +kernel
set_option maxRecDepth 20000 in
theorem ggX12_middle_X0_isRace : GoodIn wsX12_middle wsX0_isRace := goodIn_r _ [8, 9, 10, 11, 12, 13, 14, 15, 16, 17, 18, 206, 207, 208, 209, 210, 211, 212, 213, 214, 215, 216, 217, 218, 219] (by decide +kernel) (by decide +kernel)
set_option maxRecDepth 20000 in
theorem gX12_middle_X0_isRace : GoodIn wsX12_middle (wsV RX12 135 RX0 yX0_isRace wsX0_isRace) := goodIn_app (goodIn_of _ (by decide +kernel)) ggX12_middle_X0_isRace
theorem dX12_middle_0 : decode cX12_middle 0 = .ok (.aload_n 0, 1) := by decide +kernel
theorem dX12_middle_1 : decode cX12_middle 1 = .ok (.getfield 10, 3) := by decide +kernel
theorem dX12_middle_4 : decode cX12_middle 4 = .ok (.iload_n 1, 1) := by decide +kernel
theorem dX12_middle_5 : decode cX12_middle 5 = .ok (.invokevirtual 135, 3) := by decide +kernel
theorem dX12_middle_8 : decode cX12_middle 8 = .ok (.ifCond .eq 14, 3) := by decide +kernel
theorem dX12_middle_22 : decode cX12_middle 22 = .ok (.ldc 172, 2) := by decide +kernel
theorem dX12_middle_24 : decode cX12_middle 24 = .ok (.ireturn, 1) := by decide +kernel
set_option maxRecDepth 20000 in
theorem ggX12_fit_X0_isBoat : GoodIn wsX12_fit wsX0_isBoat := goodIn_r _ [7, 8, 9, 10, 11, 220, 221, 222, 223, 224, 225, 226, 227, 228, 229, 230] (by decide +kernel) (by decide +kernel)
set_option maxRecDepth 20000 in
theorem gX12_fit_X0_isBoat : GoodIn wsX12_fit (wsV RX12 66 RX0 yX0_isBoat wsX0_isBoat) := goodIn_app (goodIn_of _ (by decide +kernel)) ggX12_fit_X0_isBoat
theorem dX12_fit_0 : decode cX12_fit 0 = .ok (.aload_n 0, 1) := by decide +kernel
theorem dX12_fit_1 : decode cX12_fit 1 = .ok (.getfield 10, 3) := by decide +kernel
theorem dX12_fit_4 : decode cX12_fit 4 = .ok (.iload_n 1, 1) := by decide +kernel
theorem dX12_fit_5 : decode cX12_fit 5 = .ok (.invokevirtual 66, 3) := by decide +kernel
theorem dX12_fit_8 : decode cX12_fit 8 = .ok (.ifCond .ne 5, 3) := by decide +kernel
theorem dX12_fit_11 : decode cX12_fit 11 = .ok (.iconst (-1), 1) := by decide +kernel
theorem dX12_fit_12 : decode cX12_fit 12 = .ok (.ireturn, 1) := by decide +kernel
set_option maxRecDepth 20000 in
theorem ggX12_suspect_X0_isBoat : GoodIn wsX12_suspect wsX0_isBoat := goodIn_r _ [8, 9, 10, 11, 12, 234, 235, 236, 237, 238, 239, 240, 241, 242, 243, 244] (by decide +kernel) (by decide +kernel)
set_option maxRecDepth 20000 in
theorem gX12_suspect_X0_isBoat : GoodIn wsX12_suspect (wsV RX12 66 RX0 yX0_isBoat wsX0_isBoat) := goodIn_app (goodIn_of _ (by decide +kernel)) ggX12_suspect_X0_isBoat
theorem dX12_suspect_0 : decode cX12_suspect 0 = .ok (.aload_n 0, 1) := by decide +kernel
theorem dX12_suspect_1 : decode cX12_suspect 1 = .ok (.getfield 10, 3) := by decide +kernel
theorem dX12_suspect_4 : decode cX12_suspect 4 = .ok (.iload_n 1, 1) := by decide +kernel
theorem dX12_suspect_5 : decode cX12_suspect 5 = .ok (.invokevirtual 66, 3) := by decide +kernel
theorem dX12_suspect_8 : decode cX12_suspect 8 = .ok (.ifCond .eq 12, 3) := by decide +kernel
theorem dX12_suspect_20 : decode cX12_suspect 20 = .ok (.ldc 172, 2) := by decide +kernel
theorem dX12_suspect_22 : decode cX12_suspect 22 = .ok (.ireturn, 1) := by decide +kernel
set_option maxRecDepth 20000 in
theorem ggX12_start_X0_isEntered : GoodIn wsX12_start wsX0_isEntered := goodIn_r _ [10, 11, 12, 13, 14, 15, 16, 9, 17, 18, 19, 20, 21, 22, 23, 24, 25, 26, 27, 28, 29, 30, 31, 32, 33, 34, 35, 36, 37, 38, 39, 40, 41, 42, 43, 44, 45, 46, 47, 48, 49, 50, 51, 52, 53, 54, 63, 64, 65, 66, 67, 68, 69, 70, 71, 72, 73, 86, 87, 88, 74, 75, 76, 77, 78, 79, 80, 81, 82, 83, 84, 85] (by decide +kernel) (by decide +kernel)
set_option maxRecDepth 20000 in
theorem gX12_start_X0_isEntered : GoodIn wsX12_start (wsV RX12 146 RX0 yX0_isEntered wsX0_isEntered) := goodIn_app (goodIn_of _ (by decide +kernel)) ggX12_start_X0_isEntered
theorem dX12_start_0 : decode cX12_start 0 = .ok (.aload_n 0, 1) := by decide +kernel
theorem dX12_start_1 : decode cX12_start 1 = .ok (.getfield 10, 3) := by decide +kernel
theorem dX12_start_4 : decode cX12_start 4 = .ok (.iload_n 1, 1) := by decide +kernel
theorem dX12_start_5 : decode cX12_start 5 = .ok (.iload_n 2, 1) := by decide +kernel
theorem dX12_start_6 : decode cX12_start 6 = .ok (.invokevirtual 146, 3) := by decide +kernel
theorem dX12_start_9 : decode cX12_start 9 = .ok (.ifCond .eq 25, 3) := by decide +kernel
theorem dX12_start_34 : decode cX12_start 34 = .ok (.iconst 0, 1) := by decide +kernel
theorem dX12_start_35 : decode cX12_start 35 = .ok (.ireturn, 1) := by decide +kernel
set_option maxRecDepth 20000 in
theorem ggX12_lean_X0_isRace : GoodIn wsX12_lean wsX0_isRace := goodIn_r _ [9, 10, 11, 12, 13, 14, 15, 16, 17, 18, 19, 54, 55, 56, 57, 58, 59, 60, 61, 62, 63, 64, 65, 66, 67] (by decide +kernel) (by decide +kernel)
set_option maxRecDepth 20000 in
theorem gX12_lean_X0_isRace : GoodIn wsX12_lean (wsV RX12 135 RX0 yX0_isRace wsX0_isRace) := goodIn_app (goodIn_of _ (by decide +kernel)) ggX12_lean_X0_isRace
theorem dX12_lean_0 : decode cX12_lean 0 = .ok (.aload_n 0, 1) := by decide +kernel
theorem dX12_lean_1 : decode cX12_lean 1 = .ok (.getfield 10, 3) := by decide +kernel
theorem dX12_lean_4 : decode cX12_lean 4 = .ok (.iload_n 1, 1) := by decide +kernel
theorem dX12_lean_5 : decode cX12_lean 5 = .ok (.invokevirtual 135, 3) := by decide +kernel
theorem dX12_lean_8 : decode cX12_lean 8 = .ok (.ifCond .ne 6, 3) := by decide +kernel
theorem dX12_lean_11 : decode cX12_lean 11 = .ok (.ldc 172, 2) := by decide +kernel
theorem dX12_lean_13 : decode cX12_lean 13 = .ok (.ireturn, 1) := by decide +kernel
set_option maxRecDepth 20000 in
theorem ggX12_count_Jx4a65c_size_8abf5 : GoodIn wsX12_count wsJx4a65c_size_8abf5 := goodIn_r _ [17, 18, 97, 98, 99] (by decide +kernel) (by decide +kernel)
set_option maxRecDepth 20000 in
theorem gX12_count_Jx4a65c_size_8abf5 : GoodIn wsX12_count (wsV RX12 77 RJx4a65c yJx4a65c_size_8abf5 wsJx4a65c_size_8abf5) := goodIn_app (goodIn_of _ (by decide +kernel)) ggX12_count_Jx4a65c_size_8abf5
set_option maxRecDepth 20000 in
theorem ggX12_count_X0_disqualified : GoodIn wsX12_count wsX0_disqualified := goodIn_r _ [23, 24, 25, 26, 14, 15, 16, 17, 18, 27, 28, 29, 22, 30, 31, 32, 33, 34, 35, 36, 37, 38, 39, 40, 41, 42, 43, 44, 45, 46, 47, 48, 49, 50, 51, 52, 53, 54, 55, 56, 57, 58, 59, 60, 61, 62, 63, 64, 65, 66, 67, 68, 69, 76, 77, 78, 79, 80, 81, 82, 83, 84, 85, 86, 97, 98, 99, 100, 101, 102, 103, 104, 105, 106, 107, 108, 109] (by decide +kernel) (by decide +kernel)
set_option maxRecDepth 20000 in
theorem gX12_count_X0_disqualified : GoodIn wsX12_count (wsV RX12 328 RX0 yX0_disqualified wsX0_disqualified) := goodIn_app (goodIn_of _ (by decide +kernel)) ggX12_count_X0_disqualified
theorem dX12_count_0 : decode cX12_count 0 = .ok (.iload_n 1, 1) := by decide +kernel
theorem dX12_count_1 : decode cX12_count 1 = .ok (.tableswitch 165 0 10 #[59, 67, 75, 86, 97, 108, 119, 130, 141, 149, 157], 59) := by decide +kernel
theorem dX12_count_60 : decode cX12_count 60 = .ok (.aload_n 0, 1) := by decide +kernel
theorem dX12_count_61 : decode cX12_count 61 = .ok (.getfield 10, 3) := by decide +kernel
theorem dX12_count_64 : decode cX12_count 64 = .ok (.getfield 55, 3) := by decide +kernel
theorem dX12_count_67 : decode cX12_count 67 = .ok (.ireturn, 1) := by decide +kernel
theorem dX12_count_68 : decode cX12_count 68 = .ok (.aload_n 0, 1) := by decide +kernel
theorem dX12_count_69 : decode cX12_count 69 = .ok (.getfield 10, 3) := by decide +kernel
theorem dX12_count_72 : decode cX12_count 72 = .ok (.getfield 63, 3) := by decide +kernel
theorem dX12_count_75 : decode cX12_count 75 = .ok (.ireturn, 1) := by decide +kernel
theorem dX12_count_76 : decode cX12_count 76 = .ok (.aload_n 0, 1) := by decide +kernel
theorem dX12_count_77 : decode cX12_count 77 = .ok (.getfield 10, 3) := by decide +kernel
theorem dX12_count_80 : decode cX12_count 80 = .ok (.getfield 73, 3) := by decide +kernel
theorem dX12_count_83 : decode cX12_count 83 = .ok (.invokevirtual 77, 3) := by decide +kernel
theorem dX12_count_86 : decode cX12_count 86 = .ok (.ireturn, 1) := by decide +kernel
theorem dX12_count_87 : decode cX12_count 87 = .ok (.aload_n 0, 1) := by decide +kernel
theorem dX12_count_88 : decode cX12_count 88 = .ok (.getfield 10, 3) := by decide +kernel
theorem dX12_count_91 : decode cX12_count 91 = .ok (.getfield 113, 3) := by decide +kernel
theorem dX12_count_94 : decode cX12_count 94 = .ok (.invokevirtual 77, 3) := by decide +kernel
theorem dX12_count_97 : decode cX12_count 97 = .ok (.ireturn, 1) := by decide +kernel
theorem dX12_count_98 : decode cX12_count 98 = .ok (.aload_n 0, 1) := by decide +kernel
theorem dX12_count_99 : decode cX12_count 99 = .ok (.getfield 10, 3) := by decide +kernel
theorem dX12_count_102 : decode cX12_count 102 = .ok (.getfield 127, 3) := by decide +kernel
theorem dX12_count_105 : decode cX12_count 105 = .ok (.invokevirtual 77, 3) := by decide +kernel
theorem dX12_count_108 : decode cX12_count 108 = .ok (.ireturn, 1) := by decide +kernel
theorem dX12_count_109 : decode cX12_count 109 = .ok (.aload_n 0, 1) := by decide +kernel
theorem dX12_count_110 : decode cX12_count 110 = .ok (.getfield 10, 3) := by decide +kernel
theorem dX12_count_113 : decode cX12_count 113 = .ok (.getfield 154, 3) := by decide +kernel
theorem dX12_count_116 : decode cX12_count 116 = .ok (.invokevirtual 77, 3) := by decide +kernel
theorem dX12_count_119 : decode cX12_count 119 = .ok (.ireturn, 1) := by decide +kernel
theorem dX12_count_120 : decode cX12_count 120 = .ok (.aload_n 0, 1) := by decide +kernel
theorem dX12_count_121 : decode cX12_count 121 = .ok (.getfield 10, 3) := by decide +kernel
theorem dX12_count_124 : decode cX12_count 124 = .ok (.getfield 209, 3) := by decide +kernel
theorem dX12_count_127 : decode cX12_count 127 = .ok (.invokevirtual 77, 3) := by decide +kernel
theorem dX12_count_130 : decode cX12_count 130 = .ok (.ireturn, 1) := by decide +kernel
theorem dX12_count_131 : decode cX12_count 131 = .ok (.aload_n 0, 1) := by decide +kernel
theorem dX12_count_132 : decode cX12_count 132 = .ok (.getfield 10, 3) := by decide +kernel
theorem dX12_count_135 : decode cX12_count 135 = .ok (.getfield 220, 3) := by decide +kernel
theorem dX12_count_138 : decode cX12_count 138 = .ok (.invokevirtual 77, 3) := by decide +kernel
theorem dX12_count_141 : decode cX12_count 141 = .ok (.ireturn, 1) := by decide +kernel
theorem dX12_count_142 : decode cX12_count 142 = .ok (.aload_n 0, 1) := by decide +kernel
theorem dX12_count_143 : decode cX12_count 143 = .ok (.getfield 19, 3) := by decide +kernel
theorem dX12_count_146 : decode cX12_count 146 = .ok (.getfield 103, 3) := by decide +kernel
theorem dX12_count_149 : decode cX12_count 149 = .ok (.ireturn, 1) := by decide +kernel
theorem dX12_count_150 : decode cX12_count 150 = .ok (.aload_n 0, 1) := by decide +kernel
theorem dX12_count_151 : decode cX12_count 151 = .ok (.getfield 10, 3) := by decide +kernel
theorem dX12_count_154 : decode cX12_count 154 = .ok (.getfield 181, 3) := by decide +kernel
theorem dX12_count_157 : decode cX12_count 157 = .ok (.ireturn, 1) := by decide +kernel
theorem dX12_count_158 : decode cX12_count 158 = .ok (.aload_n 0, 1) := by decide +kernel
theorem dX12_count_159 : decode cX12_count 159 = .ok (.getfield 10, 3) := by decide +kernel
theorem dX12_count_162 : decode cX12_count 162 = .ok (.invokevirtual 328, 3) := by decide +kernel
theorem dX12_count_165 : decode cX12_count 165 = .ok (.ireturn, 1) := by decide +kernel
theorem dX12_count_166 : decode cX12_count 166 = .ok (.iconst (-1), 1) := by decide +kernel
theorem dX12_count_167 : decode cX12_count 167 = .ok (.ireturn, 1) := by decide +kernel
theorem dX12_within_0 : decode cX12_within 0 = .ok (.iload_n 0, 1) := by decide +kernel
theorem dX12_within_1 : decode cX12_within 1 = .ok (.iload_n 1, 1) := by decide +kernel
theorem dX12_within_2 : decode cX12_within 2 = .ok (.if_icmp .lt 12, 3) := by decide +kernel
theorem dX12_within_5 : decode cX12_within 5 = .ok (.iload_n 0, 1) := by decide +kernel
theorem dX12_within_6 : decode cX12_within 6 = .ok (.iload_n 2, 1) := by decide +kernel
theorem dX12_within_7 : decode cX12_within 7 = .ok (.if_icmp .gt 7, 3) := by decide +kernel
theorem dX12_within_10 : decode cX12_within 10 = .ok (.iconst 1, 1) := by decide +kernel
theorem dX12_within_11 : decode cX12_within 11 = .ok (.goto 4, 3) := by decide +kernel
theorem dX12_within_14 : decode cX12_within 14 = .ok (.iconst 0, 1) := by decide +kernel
theorem dX12_within_15 : decode cX12_within 15 = .ok (.ireturn, 1) := by decide +kernel
theorem dX12_held_0 : decode cX12_held 0 = .ok (.iload_n 0, 1) := by decide +kernel
theorem dX12_held_1 : decode cX12_held 1 = .ok (.iload_n 1, 1) := by decide +kernel
theorem dX12_held_2 : decode cX12_held 2 = .ok (.if_icmp .ge 7, 3) := by decide +kernel
theorem dX12_held_9 : decode cX12_held 9 = .ok (.iload_n 0, 1) := by decide +kernel
theorem dX12_held_10 : decode cX12_held 10 = .ok (.iload_n 2, 1) := by decide +kernel
theorem dX12_held_11 : decode cX12_held 11 = .ok (.if_icmp .le 7, 3) := by decide +kernel
theorem dX12_held_18 : decode cX12_held 18 = .ok (.iload_n 0, 1) := by decide +kernel
theorem dX12_held_19 : decode cX12_held 19 = .ok (.ireturn, 1) := by decide +kernel
set_option maxRecDepth 20000 in
theorem ggX12_isDay_X12_within : GoodIn wsX12_isDay wsX12_within := goodIn_r _ [4] (by decide +kernel) (by decide +kernel)
set_option maxRecDepth 20000 in
theorem gX12_isDay_X12_within : GoodIn wsX12_isDay (va_wsS RX12 59 yX12_within wsX12_within) := goodIn_app (goodIn_of _ (by decide +kernel)) ggX12_isDay_X12_within
theorem dX12_isDay_0 : decode cX12_isDay 0 = .ok (.iload_n 0, 1) := by decide +kernel
theorem dX12_isDay_1 : decode cX12_isDay 1 = .ok (.iconst 0, 1) := by decide +kernel
theorem dX12_isDay_2 : decode cX12_isDay 2 = .ok (.sipush 400, 3) := by decide +kernel
theorem dX12_isDay_5 : decode cX12_isDay 5 = .ok (.invokestatic 59, 3) := by decide +kernel
theorem dX12_isDay_8 : decode cX12_isDay 8 = .ok (.ireturn, 1) := by decide +kernel
theorem dX12_isOneOf_0 : decode cX12_isOneOf 0 = .ok (.iload_n 1, 1) := by decide +kernel
theorem dX12_isOneOf_1 : decode cX12_isOneOf 1 = .ok (.ifCond .le 16, 3) := by decide +kernel
theorem dX12_isOneOf_17 : decode cX12_isOneOf 17 = .ok (.iconst 0, 1) := by decide +kernel
theorem dX12_isOneOf_18 : decode cX12_isOneOf 18 = .ok (.ireturn, 1) := by decide +kernel
theorem dJ6_bitCount_0f7a4_0 : decode cJ6_bitCount_0f7a4 0 = .ok (.iload_n 0, 1) := by decide +kernel
theorem dJ6_bitCount_0f7a4_1 : decode cJ6_bitCount_0f7a4 1 = .ok (.iload_n 0, 1) := by decide +kernel
theorem dJ6_bitCount_0f7a4_2 : decode cJ6_bitCount_0f7a4 2 = .ok (.iconst 1, 1) := by decide +kernel
theorem dJ6_bitCount_0f7a4_3 : decode cJ6_bitCount_0f7a4 3 = .ok (.iushr, 1) := by decide +kernel
theorem dJ6_bitCount_0f7a4_4 : decode cJ6_bitCount_0f7a4 4 = .ok (.ldc_w 265, 3) := by decide +kernel
theorem dJ6_bitCount_0f7a4_7 : decode cJ6_bitCount_0f7a4 7 = .ok (.iand, 1) := by decide +kernel
theorem dJ6_bitCount_0f7a4_8 : decode cJ6_bitCount_0f7a4 8 = .ok (.isub, 1) := by decide +kernel
theorem dJ6_bitCount_0f7a4_9 : decode cJ6_bitCount_0f7a4 9 = .ok (.istore_n 0, 1) := by decide +kernel
theorem dJ6_bitCount_0f7a4_10 : decode cJ6_bitCount_0f7a4 10 = .ok (.iload_n 0, 1) := by decide +kernel
theorem dJ6_bitCount_0f7a4_11 : decode cJ6_bitCount_0f7a4 11 = .ok (.ldc_w 266, 3) := by decide +kernel
theorem dJ6_bitCount_0f7a4_14 : decode cJ6_bitCount_0f7a4 14 = .ok (.iand, 1) := by decide +kernel
theorem dJ6_bitCount_0f7a4_15 : decode cJ6_bitCount_0f7a4 15 = .ok (.iload_n 0, 1) := by decide +kernel
theorem dJ6_bitCount_0f7a4_16 : decode cJ6_bitCount_0f7a4 16 = .ok (.iconst 2, 1) := by decide +kernel
theorem dJ6_bitCount_0f7a4_17 : decode cJ6_bitCount_0f7a4 17 = .ok (.iushr, 1) := by decide +kernel
theorem dJ6_bitCount_0f7a4_18 : decode cJ6_bitCount_0f7a4 18 = .ok (.ldc_w 266, 3) := by decide +kernel
theorem dJ6_bitCount_0f7a4_21 : decode cJ6_bitCount_0f7a4 21 = .ok (.iand, 1) := by decide +kernel
theorem dJ6_bitCount_0f7a4_22 : decode cJ6_bitCount_0f7a4 22 = .ok (.iadd, 1) := by decide +kernel
theorem dJ6_bitCount_0f7a4_23 : decode cJ6_bitCount_0f7a4 23 = .ok (.istore_n 0, 1) := by decide +kernel
theorem dJ6_bitCount_0f7a4_24 : decode cJ6_bitCount_0f7a4 24 = .ok (.iload_n 0, 1) := by decide +kernel
theorem dJ6_bitCount_0f7a4_25 : decode cJ6_bitCount_0f7a4 25 = .ok (.iload_n 0, 1) := by decide +kernel
theorem dJ6_bitCount_0f7a4_26 : decode cJ6_bitCount_0f7a4 26 = .ok (.iconst 4, 1) := by decide +kernel
theorem dJ6_bitCount_0f7a4_27 : decode cJ6_bitCount_0f7a4 27 = .ok (.iushr, 1) := by decide +kernel
theorem dJ6_bitCount_0f7a4_28 : decode cJ6_bitCount_0f7a4 28 = .ok (.iadd, 1) := by decide +kernel
theorem dJ6_bitCount_0f7a4_29 : decode cJ6_bitCount_0f7a4 29 = .ok (.ldc_w 267, 3) := by decide +kernel
theorem dJ6_bitCount_0f7a4_32 : decode cJ6_bitCount_0f7a4 32 = .ok (.iand, 1) := by decide +kernel
theorem dJ6_bitCount_0f7a4_33 : decode cJ6_bitCount_0f7a4 33 = .ok (.istore_n 0, 1) := by decide +kernel
theorem dJ6_bitCount_0f7a4_34 : decode cJ6_bitCount_0f7a4 34 = .ok (.iload_n 0, 1) := by decide +kernel
theorem dJ6_bitCount_0f7a4_35 : decode cJ6_bitCount_0f7a4 35 = .ok (.iload_n 0, 1) := by decide +kernel
theorem dJ6_bitCount_0f7a4_36 : decode cJ6_bitCount_0f7a4 36 = .ok (.bipush 8, 2) := by decide +kernel
theorem dJ6_bitCount_0f7a4_38 : decode cJ6_bitCount_0f7a4 38 = .ok (.iushr, 1) := by decide +kernel
theorem dJ6_bitCount_0f7a4_39 : decode cJ6_bitCount_0f7a4 39 = .ok (.iadd, 1) := by decide +kernel
theorem dJ6_bitCount_0f7a4_40 : decode cJ6_bitCount_0f7a4 40 = .ok (.istore_n 0, 1) := by decide +kernel
theorem dJ6_bitCount_0f7a4_41 : decode cJ6_bitCount_0f7a4 41 = .ok (.iload_n 0, 1) := by decide +kernel
theorem dJ6_bitCount_0f7a4_42 : decode cJ6_bitCount_0f7a4 42 = .ok (.iload_n 0, 1) := by decide +kernel
theorem dJ6_bitCount_0f7a4_43 : decode cJ6_bitCount_0f7a4 43 = .ok (.bipush 16, 2) := by decide +kernel
theorem dJ6_bitCount_0f7a4_45 : decode cJ6_bitCount_0f7a4 45 = .ok (.iushr, 1) := by decide +kernel
theorem dJ6_bitCount_0f7a4_46 : decode cJ6_bitCount_0f7a4 46 = .ok (.iadd, 1) := by decide +kernel
theorem dJ6_bitCount_0f7a4_47 : decode cJ6_bitCount_0f7a4 47 = .ok (.istore_n 0, 1) := by decide +kernel
theorem dJ6_bitCount_0f7a4_48 : decode cJ6_bitCount_0f7a4 48 = .ok (.iload_n 0, 1) := by decide +kernel
theorem dJ6_bitCount_0f7a4_49 : decode cJ6_bitCount_0f7a4 49 = .ok (.bipush 63, 2) := by decide +kernel
theorem dJ6_bitCount_0f7a4_51 : decode cJ6_bitCount_0f7a4 51 = .ok (.iand, 1) := by decide +kernel
theorem dJ6_bitCount_0f7a4_52 : decode cJ6_bitCount_0f7a4 52 = .ok (.ireturn, 1) := by decide +kernel
theorem dJx4a65c_size_8abf5_0 : decode cJx4a65c_size_8abf5 0 = .ok (.aload_n 0, 1) := by decide +kernel
theorem dJx4a65c_size_8abf5_1 : decode cJx4a65c_size_8abf5 1 = .ok (.getfield 48, 3) := by decide +kernel
theorem dJx4a65c_size_8abf5_4 : decode cJx4a65c_size_8abf5 4 = .ok (.ireturn, 1) := by decide +kernel
abbrev vwCl : List vw_C := [(RJx4a65c, TJx4a65c, 3), (RX0, TX0, 11), (RX1, TX1, 6), (RX2, TX2, 10), (RX3, TX3, 18), (RX4, TX4, 10), (RX5, TX5, 12), (RX6, TX6, 5), (RX7, TX7, 6), (RX8, TX8, 10), (RX9, TX9, 9), (RX10, TX10, 10), (RX11, TX11, 8), (RX12, TX12, 6), (RX13, TX13, 97)]
end
section
/-- an object of 97 slots by what each holds -/
def mL (f : Nat → Value) : List Value := (List.range 97).map f
theorem mL_some {f : Nat → Value} {k : Nat} {v : Value} (hk : k < 97) (h : f k = v) : (mL f)[k]? = some v := by simp [mL, hk, h]
theorem mL_lt {f : Nat → Value} {k : Nat} (hk : k < 97) : k < (mL f).length := by simp [mL, hk]
theorem mL_upd {f : Nat → Value} {k : Nat} {v : Value} : (mL f).set k v = mL (va_up f k v) := by
  apply List.ext_getElem?
  intro i
  simp only [mL, List.getElem?_set, List.length_map, List.length_range, List.getElem?_map, List.getElem?_range', List.getElem?_range]
  by_cases h : i < 97
  · by_cases hk : k = i
    · subst hk
      simp [h, va_up]
    · simp [h, hk, va_up, Ne.symm hk]
  · by_cases hk : k = i
    · subst hk
      simp [h]
    · simp [h, hk]
theorem mL_same {f : Nat → Value} {k : Nat} {v : Value} (h : f k = v) : (mL f).set k v = mL f := by
  rw [mL_upd]
  have e : va_up f k v = f := by
    funext j
    by_cases hj : j = k
    · subst hj
      rw [va_up_self, h]
    · exact va_up_ne _ _ hj
  rw [e]
theorem mL_default (ty : Nat → FieldType) (j : Nat) (hj : j < 97) : defaultValue (ty j) = vp_V (mL (fun j => defaultValue (ty j))) j := by
  simp [vp_V, mL, List.getD, hj]
theorem ub_keep {D : va_G} {cl : List vw_C} {ws : va_W} {H H1 : Heap} (hP : va_P D cl ws H) (hk : ∀ q : Nat, q < H.size → ¬ (fun _ : Nat => False) q → H1[q]? = H[q]?) : va_P D cl ws H1 :=
  hP.kept (fun k q h => hk q.1 (hP k q h).lt id)
theorem ub_P0 {D : va_G} {cl : List vw_C} {H : Heap} : va_P D cl [] H := fun k q h => by simp at h
theorem ub_D0 {A : Nat → Prop} : va_D A [] := ⟨fun i j p q h => by simp at h, fun k q h => by simp at h⟩
theorem ub_m1 {n : Int32} (h : ¬ n < 0) (h2 : ¬ (-1) < n) : False := by
  rw [Int32.lt_iff_toInt_lt] at h h2
  have e0 : (0 : Int32).toInt = 0 := rfl
  have e1 : (-1 : Int32).toInt = -1 := rfl
  omega
theorem ub_rng {n lo hi : Int32} (h : hi < lo) (h1 : ¬ n < lo) (h2 : ¬ hi < n) : False := by
  rw [Int32.lt_iff_toInt_lt] at h h1 h2
  omega
theorem ub_nle {x y : Int32} (h : x < y) : ¬ y ≤ x := Int32.not_le.mpr h
theorem ub_nlt {x y : Int32} (h : x ≤ y) : ¬ y < x := Int32.not_lt.mpr h
theorem ub_lt {x y : Int32} (h : ¬ x ≤ y) : y < x := Int32.not_le.mp h
theorem ub_in0 {n : Int32} (h1 : ¬ n < 0) (h2 : ¬ 0 < n) : n = 0 := by
  rw [Int32.lt_iff_toInt_lt] at h1 h2
  have e0 : (0 : Int32).toInt = 0 := rfl
  exact Int32.toInt_inj.mp (by omega)
theorem ub_le {x y : Int32} (h : ¬ x < y) : y ≤ x := Int32.not_lt.mp h
/-- the words of the nest that the walks take: private members called from a class of the same nest -/
def ub_NX (U : State) : Prop := va_Nw (.methodLinkNest RX12 18 yX10_init "UnlikeBoats") U ∧ va_Nw (.methodLinkNest RX12 9 yX0_init "UnlikeBoats") U ∧ va_Nw (.methodLinkNest RX0 52 yX12_within "UnlikeBoats") U ∧ va_Nw (.methodLinkNest RX8 114 yX12_held "UnlikeBoats") U ∧ va_Nw (.methodLinkNest RX10 66 yX12_isOneOf "UnlikeBoats") U
theorem ub_nx0 {U : State} (h : ub_NX U) : va_Nw (.methodLinkNest RX12 18 yX10_init "UnlikeBoats") U := h.1
theorem ub_nx1 {U : State} (h : ub_NX U) : va_Nw (.methodLinkNest RX12 9 yX0_init "UnlikeBoats") U := h.2.1
theorem ub_nx2 {U : State} (h : ub_NX U) : va_Nw (.methodLinkNest RX0 52 yX12_within "UnlikeBoats") U := h.2.2.1
theorem ub_nx3 {U : State} (h : ub_NX U) : va_Nw (.methodLinkNest RX8 114 yX12_held "UnlikeBoats") U := h.2.2.2.1
theorem ub_nx4 {U : State} (h : ub_NX U) : va_Nw (.methodLinkNest RX10 66 yX12_isOneOf "UnlikeBoats") U := h.2.2.2.2
theorem ub_NX_c {U : State} {a : Array Value} {g : JFrame} {mk : MethodId} (h : ub_NX U) : ub_NX (U.calling g mk a) :=
  ⟨va_Nw.same rfl rfl h.1, va_Nw.same rfl rfl h.2.1, va_Nw.same rfl rfl h.2.2.1, va_Nw.same rfl rfl h.2.2.2.1, va_Nw.same rfl rfl h.2.2.2.2⟩
theorem ub_NX_w {s U : State} (hW : s.WarmedH U.vm) (h : ub_NX s) : ub_NX U :=
  ⟨va_Nw.warmM hW h.1, va_Nw.warmM hW h.2.1, va_Nw.warmM hW h.2.2.1, va_Nw.warmM hW h.2.2.2.1, va_Nw.warmM hW h.2.2.2.2⟩
/-- the text that the class's reader of a clause asks of first -/
def ub_ST (U : State) : Prop := ∃ q : Nat, vk_R RX10 64 "nptab" q U
theorem ub_T_c {U : State} {a : Array Value} {g : JFrame} {mk : MethodId} (h : ub_ST U) : ub_ST (U.calling g mk a) := h.elim (fun q hq => ⟨q, vk_R.same rfl hq⟩)
theorem ub_T_w {s U : State} {H : Heap} {locs : List Loc} {A : Nat → Prop} (_ : U.heap = H) (hW : s.WarmedH U.vm) (_ : va_S A s.heap H locs) (h : ub_ST s) : ub_ST U := h.elim (fun q hq => ⟨q, vk_R.warm hW hq⟩)
theorem iw_Jx4a65c_size_8abf5_Jx4a65c : ∀ w ∈ wsJx4a65c0, w ∈ wsJx4a65c_size_8abf5 := fun _ h => List.mem_cons_of_mem _ (List.mem_append_right _ (h))
theorem iw_X0_isKnown_X0 : ∀ w ∈ wsX00, w ∈ wsX0_isKnown := fun _ h => List.mem_cons_of_mem _ (List.mem_append_right _ (h))
theorem iw_X0_isBoat_X0 : ∀ w ∈ wsX00, w ∈ wsX0_isBoat := fun _ h => List.mem_cons_of_mem _ (List.mem_append_right _ (h))
theorem iw_X0_isRace_X0 : ∀ w ∈ wsX00, w ∈ wsX0_isRace := fun _ h => List.mem_cons_of_mem _ (List.mem_append_left _ (List.mem_append_right _ (h)))
theorem iw_X0_isProtested_X0 : ∀ w ∈ wsX00, w ∈ wsX0_isProtested := fun _ h => List.mem_cons_of_mem _ (List.mem_append_left _ (List.mem_append_left _ (List.mem_append_right _ (h))))
theorem iw_X0_areSome_X0 : ∀ w ∈ wsX00, w ∈ wsX0_areSome := fun _ h => List.mem_cons_of_mem _ (List.mem_append_right _ (h))
theorem iw_X0_rulesOn_X0 : ∀ w ∈ wsX00, w ∈ wsX0_rulesOn := fun _ h => List.mem_cons_of_mem _ (List.mem_append_left _ (List.mem_append_left _ (List.mem_append_right _ (h))))
theorem iw_X0_racesIn_X0 : ∀ w ∈ wsX00, w ∈ wsX0_racesIn := fun _ h => List.mem_cons_of_mem _ (List.mem_append_left _ (List.mem_append_left _ (List.mem_append_right _ (h))))
theorem iw_X0_disqualified_X0 : ∀ w ∈ wsX00, w ∈ wsX0_disqualified := fun _ h => List.mem_cons_of_mem _ (List.mem_append_left _ (List.mem_append_left _ (List.mem_append_right _ (h))))
theorem iw_X12_certificate_X12 : ∀ w ∈ wsX120, w ∈ wsX12_certificate := fun _ h => List.mem_cons_of_mem _ (List.mem_append_left _ (List.mem_append_left _ (List.mem_append_left _ (List.mem_append_right _ (h)))))
theorem iw_X12_measured_X12 : ∀ w ∈ wsX120, w ∈ wsX12_measured := fun _ h => List.mem_cons_of_mem _ (List.mem_append_left _ (List.mem_append_left _ (List.mem_append_left _ (List.mem_append_right _ (h)))))
theorem iw_X12_force_X12 : ∀ w ∈ wsX120, w ∈ wsX12_force := fun _ h => List.mem_cons_of_mem _ (List.mem_append_left _ (List.mem_append_left _ (List.mem_append_left _ (List.mem_append_right _ (h)))))
theorem iw_X12_number_X12 : ∀ w ∈ wsX120, w ∈ wsX12_number := fun _ h => List.mem_cons_of_mem _ (List.mem_append_left _ (List.mem_append_left _ (List.mem_append_left _ (List.mem_append_left _ (List.mem_append_right _ (h))))))
theorem iw_X12_swift_X12 : ∀ w ∈ wsX120, w ∈ wsX12_swift := fun _ h => List.mem_cons_of_mem _ (List.mem_append_left _ (List.mem_append_left _ (List.mem_append_left _ (List.mem_append_right _ (h)))))
theorem iw_X12_enter_X12 : ∀ w ∈ wsX120, w ∈ wsX12_enter := fun _ h => List.mem_cons_of_mem _ (List.mem_append_left _ (List.mem_append_left _ (List.mem_append_left _ (List.mem_append_right _ (h)))))
theorem iw_X12_result_X12 : ∀ w ∈ wsX120, w ∈ wsX12_result := fun _ h => List.mem_cons_of_mem _ (List.mem_append_left _ (List.mem_append_left _ (List.mem_append_left _ (List.mem_append_left _ (List.mem_append_right _ (h))))))
theorem iw_X12_coded_X12 : ∀ w ∈ wsX120, w ∈ wsX12_coded := fun _ h => List.mem_cons_of_mem _ (List.mem_append_left _ (List.mem_append_left _ (List.mem_append_left _ (List.mem_append_left _ (List.mem_append_left _ (List.mem_append_left _ (List.mem_append_right _ (h))))))))
theorem iw_X12_corrected_X12 : ∀ w ∈ wsX120, w ∈ wsX12_corrected := fun _ h => List.mem_cons_of_mem _ (List.mem_append_left _ (List.mem_append_left _ (List.mem_append_left _ (List.mem_append_left _ (List.mem_append_left _ (List.mem_append_left _ (List.mem_append_left _ (List.mem_append_left _ (List.mem_append_right _ (h))))))))))
theorem iw_X12_placed_X12 : ∀ w ∈ wsX120, w ∈ wsX12_placed := fun _ h => List.mem_cons_of_mem _ (List.mem_append_left _ (List.mem_append_left _ (List.mem_append_left _ (List.mem_append_left _ (List.mem_append_left _ (List.mem_append_left _ (List.mem_append_left _ (List.mem_append_left _ (List.mem_append_right _ (h))))))))))
theorem iw_X12_redress_X12 : ∀ w ∈ wsX120, w ∈ wsX12_redress := fun _ h => List.mem_cons_of_mem _ (List.mem_append_left _ (List.mem_append_left _ (List.mem_append_left _ (List.mem_append_right _ (h)))))
theorem iw_X12_points_X12 : ∀ w ∈ wsX120, w ∈ wsX12_points := fun _ h => List.mem_cons_of_mem _ (List.mem_append_left _ (List.mem_append_left _ (List.mem_append_left _ (List.mem_append_left _ (List.mem_append_left _ (List.mem_append_left _ (List.mem_append_left _ (List.mem_append_left _ (List.mem_append_left _ (List.mem_append_right _ (h)))))))))))
theorem iw_X12_thrown_X12 : ∀ w ∈ wsX120, w ∈ wsX12_thrown := fun _ h => List.mem_cons_of_mem _ (List.mem_append_left _ (List.mem_append_left _ (List.mem_append_left _ (List.mem_append_left _ (List.mem_append_left _ (List.mem_append_left _ (List.mem_append_left _ (List.mem_append_left _ (List.mem_append_left _ (List.mem_append_right _ (h)))))))))))
theorem iw_X12_total_X12 : ∀ w ∈ wsX120, w ∈ wsX12_total := fun _ h => List.mem_cons_of_mem _ (List.mem_append_left _ (List.mem_append_left _ (List.mem_append_left _ (List.mem_append_left _ (List.mem_append_left _ (List.mem_append_left _ (List.mem_append_left _ (List.mem_append_left _ (List.mem_append_left _ (List.mem_append_right _ (h)))))))))))
theorem iw_X12_word_X12 : ∀ w ∈ wsX120, w ∈ wsX12_word := fun _ h => List.mem_cons_of_mem _ (List.mem_append_left _ (List.mem_append_left _ (List.mem_append_left _ (List.mem_append_left _ (List.mem_append_right _ (h))))))
theorem iw_X12_protest_X12 : ∀ w ∈ wsX120, w ∈ wsX12_protest := fun _ h => List.mem_cons_of_mem _ (List.mem_append_left _ (List.mem_append_left _ (List.mem_append_left _ (List.mem_append_left _ (List.mem_append_right _ (h))))))
theorem iw_X12_states_X12 : ∀ w ∈ wsX120, w ∈ wsX12_states := fun _ h => List.mem_cons_of_mem _ (List.mem_append_left _ (List.mem_append_left _ (List.mem_append_left _ (List.mem_append_left _ (List.mem_append_left _ (List.mem_append_left _ (List.mem_append_right _ (h))))))))
theorem iw_X12_finding_X12 : ∀ w ∈ wsX120, w ∈ wsX12_finding := fun _ h => List.mem_cons_of_mem _ (List.mem_append_left _ (List.mem_append_left _ (List.mem_append_left _ (List.mem_append_left _ (List.mem_append_left _ (List.mem_append_left _ (List.mem_append_left _ (List.mem_append_right _ (h)))))))))
theorem iw_X12_decide_X12 : ∀ w ∈ wsX120, w ∈ wsX12_decide := fun _ h => List.mem_cons_of_mem _ (List.mem_append_left _ (List.mem_append_left _ (List.mem_append_left _ (List.mem_append_left _ (List.mem_append_left _ (List.mem_append_left _ (List.mem_append_left _ (List.mem_append_right _ (h)))))))))
theorem iw_X12_decide_X0 : ∀ w ∈ wsX00, w ∈ wsX12_decide := fun _ h => List.mem_cons_of_mem _ (List.mem_append_left _ (List.mem_append_left _ (List.mem_append_left _ (List.mem_append_left _ (List.mem_append_left _ (List.mem_append_left _ (List.mem_append_right _ (h))))))))
theorem iw_X12_reopen_X12 : ∀ w ∈ wsX120, w ∈ wsX12_reopen := fun _ h => List.mem_cons_of_mem _ (List.mem_append_left _ (List.mem_append_left _ (List.mem_append_left _ (List.mem_append_right _ (h)))))
theorem iw_X12_reopen_X0 : ∀ w ∈ wsX00, w ∈ wsX12_reopen := fun _ h => List.mem_cons_of_mem _ (List.mem_append_left _ (List.mem_append_left _ (List.mem_append_right _ (h))))
theorem iw_X12_even_X12 : ∀ w ∈ wsX120, w ∈ wsX12_even := fun _ h => List.mem_cons_of_mem _ (List.mem_append_left _ (List.mem_append_left _ (List.mem_append_left _ (List.mem_append_left _ (List.mem_append_left _ (List.mem_append_left _ (List.mem_append_left _ (List.mem_append_left _ (List.mem_append_left _ (List.mem_append_right _ (h)))))))))))
theorem iw_X12_change_X12 : ∀ w ∈ wsX120, w ∈ wsX12_change := fun _ h => List.mem_cons_of_mem _ (List.mem_append_left _ (List.mem_append_left _ (List.mem_append_left _ (List.mem_append_left _ (List.mem_append_left _ (List.mem_append_left _ (List.mem_append_left _ (List.mem_append_left _ (List.mem_append_left _ (List.mem_append_right _ (h)))))))))))
theorem iw_X12_middle_X12 : ∀ w ∈ wsX120, w ∈ wsX12_middle := fun _ h => List.mem_cons_of_mem _ (List.mem_append_left _ (List.mem_append_left _ (List.mem_append_left _ (List.mem_append_left _ (List.mem_append_left _ (List.mem_append_left _ (List.mem_append_left _ (List.mem_append_left _ (List.mem_append_left _ (List.mem_append_right _ (h)))))))))))
theorem iw_X12_fit_X12 : ∀ w ∈ wsX120, w ∈ wsX12_fit := fun _ h => List.mem_cons_of_mem _ (List.mem_append_left _ (List.mem_append_left _ (List.mem_append_left _ (List.mem_append_left _ (List.mem_append_left _ (List.mem_append_left _ (List.mem_append_left _ (List.mem_append_left _ (List.mem_append_left _ (List.mem_append_right _ (h)))))))))))
theorem iw_X12_suspect_X12 : ∀ w ∈ wsX120, w ∈ wsX12_suspect := fun _ h => List.mem_cons_of_mem _ (List.mem_append_left _ (List.mem_append_left _ (List.mem_append_left _ (List.mem_append_left _ (List.mem_append_left _ (List.mem_append_left _ (List.mem_append_left _ (List.mem_append_left _ (List.mem_append_left _ (List.mem_append_right _ (h)))))))))))
theorem iw_X12_start_X12 : ∀ w ∈ wsX120, w ∈ wsX12_start := fun _ h => List.mem_cons_of_mem _ (List.mem_append_left _ (List.mem_append_left _ (List.mem_append_left _ (List.mem_append_right _ (h)))))
theorem iw_X12_lean_X12 : ∀ w ∈ wsX120, w ∈ wsX12_lean := fun _ h => List.mem_cons_of_mem _ (List.mem_append_left _ (List.mem_append_left _ (List.mem_append_left _ (List.mem_append_right _ (h)))))
theorem iw_X12_days_X12 : ∀ w ∈ wsX120, w ∈ wsX12_days := fun _ h => List.mem_cons_of_mem _ (List.mem_append_left _ (List.mem_append_right _ (h)))
theorem iw_X12_days_X0 : ∀ w ∈ wsX00, w ∈ wsX12_days := fun _ h => List.mem_cons_of_mem _ (List.mem_append_right _ (h))
theorem iw_X12_boat_X12 : ∀ w ∈ wsX120, w ∈ wsX12_boat := fun _ h => List.mem_cons_of_mem _ (List.mem_append_left _ (List.mem_append_right _ (h)))
theorem iw_X12_boat_X0 : ∀ w ∈ wsX00, w ∈ wsX12_boat := fun _ h => List.mem_cons_of_mem _ (List.mem_append_right _ (h))
theorem iw_X12_end_X12 : ∀ w ∈ wsX120, w ∈ wsX12_end := fun _ h => List.mem_cons_of_mem _ (List.mem_append_left _ (List.mem_append_right _ (h)))
theorem iw_X12_end_X10 : ∀ w ∈ wsX100, w ∈ wsX12_end := fun _ h => List.mem_cons_of_mem _ (List.mem_append_right _ (h))
theorem iw_X12_count_X12 : ∀ w ∈ wsX120, w ∈ wsX12_count := fun _ h => List.mem_cons_of_mem _ (List.mem_append_left _ (List.mem_append_left _ (List.mem_append_left _ (List.mem_append_left _ (List.mem_append_right _ (h))))))
theorem iw_X12_count_X0 : ∀ w ∈ wsX00, w ∈ wsX12_count := fun _ h => List.mem_cons_of_mem _ (List.mem_append_left _ (List.mem_append_left _ (List.mem_append_left _ (List.mem_append_right _ (h)))))
theorem iw_X12_count_X10 : ∀ w ∈ wsX100, w ∈ wsX12_count := fun _ h => List.mem_cons_of_mem _ (List.mem_append_left _ (List.mem_append_left _ (List.mem_append_right _ (h))))
theorem iw_X10_next_X10 : ∀ w ∈ wsX100, w ∈ wsX10_next := fun _ h => List.mem_cons_of_mem _ (List.mem_append_right _ (h))
theorem iw_X10_fail_X10 : ∀ w ∈ wsX100, w ∈ wsX10_fail := fun _ h => List.mem_cons_of_mem _ (List.mem_append_right _ (h))
theorem iw_X10_read_X10 : ∀ w ∈ wsX100, w ∈ wsX10_read := fun _ h => List.mem_cons_of_mem _ (List.mem_append_right _ (h))
theorem iw_X12_fault_X12 : ∀ w ∈ wsX120, w ∈ wsX12_fault := fun _ h => List.mem_cons_of_mem _ (List.mem_append_left _ (List.mem_append_right _ (h)))
theorem iw_X12_rules_X12 : ∀ w ∈ wsX120, w ∈ wsX12_rules := fun _ h => List.mem_cons_of_mem _ (List.mem_append_left _ (List.mem_append_left _ (List.mem_append_left _ (List.mem_append_left _ (List.mem_append_right _ (h))))))
theorem iw_X12_rules_X0 : ∀ w ∈ wsX00, w ∈ wsX12_rules := fun _ h => List.mem_cons_of_mem _ (List.mem_append_left _ (List.mem_append_left _ (List.mem_append_left _ (List.mem_append_right _ (h)))))
end
section
set_option maxHeartbeats 4000000 in
set_option maxRecDepth 100000 in
theorem c_within (l : Launch) (n : Int32) (lo : Int32) (hi : Int32)  : Met l yX12_within wsX12_within ({ frames := 0, cells := 0, slots := 0, locals := 0 }) (va_Pc [.int n, .int lo, .int hi] (fun _ => True)) (va_Qi (S := Unit) (fun r _ => (r = 1 ∧ ¬ n < lo ∧ ¬ hi < n) ∨ (r = 0 ∧ (n < lo ∨ hi < n))) (fun _ _ => True) (fun _ => False)) 0 0 (fun _ => False) := by
  refine Met.ofW (cc := cX12_within) (maxL := 3) (ret := (some .boolean)) (by decide) rfl ?_
  intro p e s m args below meth c s₁ B hml hv
  obtain ⟨rfl, -⟩ := hv
  have hx := B.exec
  have hb := B.bytes
  have hr := B.returns
  have hts := atoms_spec (ws := wsX12_within) B.pre
  have hown : s.vm.findClass RX12 = some m.cls := findClass_of_methodNamed B.named
  have hlocks := B.notSynchronized
  have hS : va_S (fun _ : Nat => False) s.heap s.heap [] := va_S.rf
  have hl := lv_entry ([.int n, .int lo, .int hi]) (n := 3) (Nat.le_of_ble_eq_true rfl)
  rw [lg_entry_eq]
  generalize (lg_sl ([.int n, .int lo, .int hi]) ++ List.replicate (3 - (lg_sl ([.int n, .int lo, .int hi])).length) Slot.unset).toArray = ls at hl ⊢
  have hl : lv_has ls 3 [(0, .int n), (1, .int lo), (2, .int hi)] := hl
  refine lv_iload_n hx hb dX12_within_0 rfl (lv_at hl 0 rfl) ?_
  refine lv_iload_n hx hb dX12_within_1 rfl (lv_at hl 1 rfl) ?_
  refine lv_icmp_lt (tgt := 14) hx hb dX12_within_2 (by decide) (fun c1 => ?_) (fun c1 => ?_)
  · --n < lo
    refine lv_iconst (v := 0) hx hb dX12_within_14 (by decide) ?_
    exact W.zret (v := (0)) hx hb hr rfl (fun t ht hW => ⟨⟨(0), (), rfl, Or.inr ⟨rfl, Or.inl c1⟩, trivial⟩, hS.F ht⟩) hS.2.2 dX12_within_15
  · --¬ n < lo
    refine lv_iload_n hx hb dX12_within_5 rfl (lv_at hl 0 rfl) ?_
    refine lv_iload_n hx hb dX12_within_6 rfl (lv_at hl 2 rfl) ?_
    refine lv_icmp_gt (tgt := 14) hx hb dX12_within_7 (by decide) (fun c2 => ?_) (fun c2 => ?_)
    · --hi < n
      refine lv_iconst (v := 0) hx hb dX12_within_14 (by decide) ?_
      exact W.zret (v := (0)) hx hb hr rfl (fun t ht hW => ⟨⟨(0), (), rfl, Or.inr ⟨rfl, Or.inr c2⟩, trivial⟩, hS.F ht⟩) hS.2.2 dX12_within_15
    · --¬ hi < n
      refine lv_iconst (v := 1) hx hb dX12_within_10 (by decide) ?_
      refine lv_goto (tgt := 15) hx hb dX12_within_11 (by decide) ?_
      exact W.zret (v := (1)) hx hb hr rfl (fun t ht hW => ⟨⟨(1), (), rfl, Or.inl ⟨rfl, c1, c2⟩, trivial⟩, hS.F ht⟩) hS.2.2 dX12_within_15
set_option maxHeartbeats 4000000 in
set_option maxRecDepth 100000 in
theorem c_isDay (l : Launch) (n : Int32)  : Met l yX12_isDay wsX12_isDay ({ frames := 1, cells := 0, slots := 0, locals := 40 }) (va_Pc [.int n] (fun _ => True)) (va_Qi (S := Unit) (fun r _ => (r = 1 ∧ ¬ n < 0 ∧ ¬ 400 < n) ∨ (r = 0 ∧ (n < 0 ∨ 400 < n))) (fun _ _ => True) (fun _ => False)) 0 0 (fun _ => False) := by
  refine Met.ofW (cc := cX12_isDay) (maxL := 1) (ret := (some .boolean)) (by decide) rfl ?_
  intro p e s m args below meth c s₁ B hml hv
  obtain ⟨rfl, -⟩ := hv
  have hx := B.exec
  have hb := B.bytes
  have hr := B.returns
  have hts := atoms_spec (ws := wsX12_isDay) B.pre
  have hown : s.vm.findClass RX12 = some m.cls := findClass_of_methodNamed B.named
  have hlocks := B.notSynchronized
  have hS : va_S (fun _ : Nat => False) s.heap s.heap [] := va_S.rf
  have hl := lv_entry ([.int n]) (n := 1) (Nat.le_of_ble_eq_true rfl)
  rw [lg_entry_eq]
  generalize (lg_sl ([.int n]) ++ List.replicate (1 - (lg_sl ([.int n])).length) Slot.unset).toArray = ls at hl ⊢
  have hl : lv_has ls 1 [(0, .int n)] := hl
  refine lv_iload_n hx hb dX12_isDay_0 rfl (lv_at hl 0 rfl) ?_
  refine lv_iconst (v := 0) hx hb dX12_isDay_1 (by decide) ?_
  refine lv_sipush (v := 400) hx hb dX12_isDay_2 (by decide) ?_
  refine va_calli (va_runS (As := [.int n, .int 0, .int 400]) (rest := []) ⟨hx, hb, hml, hown, hts⟩ (c_within l n (0) (400)) (va_cwS 3 hts gX12_isDay_X12_within rfl rfl rfl (by decide +kernel) ⟨Nat.le_of_ble_eq_true rfl, Nat.le_of_ble_eq_true rfl⟩) ⟨fun _ _ _ _ q => q, fun _ _ _ => ⟨rfl, trivial⟩⟩ rfl rfl hl.1 rfl (lv_room (Nat.le_of_ble_eq_true rfl)) dX12_isDay_5 ⟨Nat.le_of_ble_eq_true rfl, Nat.le_of_ble_eq_true rfl⟩) hS (fun _ _ h => h.elim) (fun _ h => h.elim) (fun r1 u2 t H1 locs ht hvm hw hB hz1 hk1 hS => ?_)
  generalize H1 = H at hS ⊢
  rcases hw with ⟨rfl, hw1, hw2⟩ | ⟨rfl, hw1⟩
  · --in
    have d3a := hw1
    have d3b := hw2
    exact W.zret (v := (1)) hx hb hr rfl (fun t ht hW => ⟨⟨(1), (), rfl, Or.inl ⟨rfl, d3a, d3b⟩, trivial⟩, hS.F ht⟩) hS.2.2 dX12_isDay_8
  · --out
    have d4 := hw1
    exact W.zret (v := (0)) hx hb hr rfl (fun t ht hW => ⟨⟨(0), (), rfl, Or.inr ⟨rfl, d4⟩, trivial⟩, hS.F ht⟩) hS.2.2 dX12_isDay_8
set_option maxHeartbeats 4000000 in
set_option maxRecDepth 100000 in
theorem c_size (l : Launch) (dC : Nat → ClassId) (dI : Nat → Nat → Nat) (a : Nat) (mo : Int32) (ed : Nat) (n : Int32)  : Met l yJx4a65c_size_8abf5 wsJx4a65c_size_8abf5 ({ frames := 0, cells := 0, slots := 0, locals := 0 }) (va_Pc [.ref a] (fun U => va_P (dC, dI) vwCl [(a, .inr (0, [.int mo, .ref ed, .int n]))] U.heap ∧ va_K (dC, dI) vwCl [] U)) (va_Qi (S := Unit) (fun r _ => r = n) (fun _ _ => True) (fun _ => False)) 0 0 (fun _ => False) := by
  refine Met.ofW (cc := cJx4a65c_size_8abf5) (maxL := 1) (ret := (some .int)) (by decide) rfl ?_
  intro p e s m args below meth c s₁ B hml hv
  obtain ⟨rfl, hP, hK⟩ := hv
  have hx := B.exec
  have hb := B.bytes
  have hr := B.returns
  have hts := atoms_spec (ws := wsJx4a65c_size_8abf5) B.pre
  have hown : s.vm.findClass RJx4a65c = some m.cls := findClass_of_methodNamed B.named
  have hlocks := B.notSynchronized
  have hS : va_S (fun _ : Nat => False) s.heap s.heap [] := va_S.rf
  have hl := lv_entry ([.ref a]) (n := 1) (Nat.le_of_ble_eq_true rfl)
  rw [lg_entry_eq]
  generalize (lg_sl ([.ref a]) ++ List.replicate (1 - (lg_sl ([.ref a])).length) Slot.unset).toArray = ls at hl ⊢
  have hl : lv_has ls 1 [(0, .ref a)] := hl
  refine lv_aload_n hx hb dJx4a65c_size_8abf5_0 rfl (lv_at hl 0 rfl) ?_
  refine va_get (D := (dC, dI)) (ci := 0) (v := .int n) (C := RJx4a65c) (T := TJx4a65c) (N := 3) hx hb hts iw_Jx4a65c_size_8abf5_Jx4a65c hown hK hP 0 rfl rfl 2 (by decide) (hts (.fieldLink RJx4a65c 48 "java/util/ArrayList" "size" "I") (List.mem_of_getElem? (i := 1) rfl)) (fun _ h9 => h9) rfl dJx4a65c_size_8abf5_1 ?_
  exact W.iret (v := n) hx hb hr (fun t ht hW => ⟨⟨n, (), rfl, rfl, trivial⟩, hS.F ht⟩) hS.2.2 dJx4a65c_size_8abf5_4
set_option maxHeartbeats 4000000 in
set_option maxRecDepth 100000 in
theorem c_isKnown (l : Launch) (dC : Nat → ClassId) (dI : Nat → Nat → Nat) (bk : Nat) (lc : Nat) (lr : Nat) (la : Nat) (le : Nat) (lw : Nat) (lp : Nat) (ltr : Nat) (stk : Nat) (q : Int32)  : Met l yX0_isKnown wsX0_isKnown ({ frames := 1, cells := 0, slots := 0, locals := 40 }) (va_Pc [.ref bk, .int q] (fun U => va_P (dC, dI) vwCl [(bk, .inr (1, [.int 0, .int 0, .int 0, .ref lc, .ref lr, .ref la, .ref le, .ref lw, .ref lp, .ref ltr, .ref stk]))] U.heap ∧ va_K (dC, dI) vwCl [] U ∧ ub_NX U)) (va_Qi (S := Unit) (fun r _ => (r = 1 ∧ ¬ q < 0 ∧ ¬ 0 < q) ∨ (r = 0 ∧ (q < 0 ∨ 0 < q))) (fun _ _ => True) (fun _ => False)) 0 0 (fun _ => False) := by
  refine Met.ofW (cc := cX0_isKnown) (maxL := 2) (ret := (some .boolean)) (by decide) rfl ?_
  intro p e s m args below meth c s₁ B hml hv
  obtain ⟨rfl, hP, hK, hN⟩ := hv
  have hx := B.exec
  have hb := B.bytes
  have hr := B.returns
  have hts := atoms_spec (ws := wsX0_isKnown) B.pre
  have hown : s.vm.findClass RX0 = some m.cls := findClass_of_methodNamed B.named
  have hlocks := B.notSynchronized
  have hS : va_S (fun _ : Nat => False) s.heap s.heap [] := va_S.rf
  have hl := lv_entry ([.ref bk, .int q]) (n := 2) (Nat.le_of_ble_eq_true rfl)
  rw [lg_entry_eq]
  generalize (lg_sl ([.ref bk, .int q]) ++ List.replicate (2 - (lg_sl ([.ref bk, .int q])).length) Slot.unset).toArray = ls at hl ⊢
  have hl : lv_has ls 2 [(0, .ref bk), (1, .int q)] := hl
  refine lv_iload_n hx hb dX0_isKnown_0 rfl (lv_at hl 1 rfl) ?_
  refine lv_iconst (v := 0) hx hb dX0_isKnown_1 (by decide) ?_
  refine lv_aload_n hx hb dX0_isKnown_2 rfl (lv_at hl 0 rfl) ?_
  refine va_get (D := (dC, dI)) (ci := 1) (v := .int 0) (C := RX0) (T := TX0) (N := 11) hx hb hts iw_X0_isKnown_X0 hown hK hP 0 rfl rfl 0 (by decide) (hts (.fieldLink RX0 59 "UnlikeBoats$Book" "now" "I") (List.mem_of_getElem? (i := 1) rfl)) (fun _ h9 => h9) rfl dX0_isKnown_3 ?_
  refine va_calli (va_runSN (As := [.int q, .int 0, .int 0]) (rest := []) ⟨hx, hb, hml, hown, hts⟩ (c_within l q (0) (0)) ⟨va_cnB 3 hts gX0_isKnown_X12_within_n52 rfl rfl rfl (ub_nx2 hN) (hts (.initialized RX12) (List.mem_of_getElem? (i := 3) rfl)) (by decide +kernel) ⟨Nat.le_of_ble_eq_true rfl, Nat.le_of_ble_eq_true rfl⟩, (hts (.static yX12_within) (List.mem_of_getElem? (i := 2) rfl)), trivial⟩ ⟨fun _ _ _ _ q => q, fun _ _ _ => ⟨rfl, trivial⟩⟩ rfl rfl hl.1 rfl (lv_room (Nat.le_of_ble_eq_true rfl)) dX0_isKnown_6 ⟨Nat.le_of_ble_eq_true rfl, Nat.le_of_ble_eq_true rfl⟩) hS (fun _ _ h => h.elim) (fun _ h => h.elim) (fun r1 u2 t H1 locs ht hvm hw hB hz1 hk1 hS => ?_)
  have hP := ub_keep hP hk1
  generalize H1 = H at hP hS ⊢
  rcases hw with ⟨rfl, hw1, hw2⟩ | ⟨rfl, hw1⟩
  · --in
    have d3a := hw1
    have d3b := hw2
    exact W.zret (v := (1)) hx hb hr rfl (fun t ht hW => ⟨⟨(1), (), rfl, Or.inl ⟨rfl, d3a, d3b⟩, trivial⟩, hS.F ht⟩) hS.2.2 dX0_isKnown_9
  · --out
    have d4 := hw1
    exact W.zret (v := (0)) hx hb hr rfl (fun t ht hW => ⟨⟨(0), (), rfl, Or.inr ⟨rfl, d4⟩, trivial⟩, hS.F ht⟩) hS.2.2 dX0_isKnown_9
set_option maxHeartbeats 4000000 in
set_option maxRecDepth 100000 in
theorem c_isBoat0 (l : Launch) (dC : Nat → ClassId) (dI : Nat → Nat → Nat) (bk : Nat) (lc : Nat) (lr : Nat) (la : Nat) (le : Nat) (lw : Nat) (lp : Nat) (ltr : Nat) (stk : Nat) (q : Int32)  : Met l yX0_isBoat wsX0_isBoat ({ frames := 1, cells := 0, slots := 0, locals := 40 }) (va_Pc [.ref bk, .int q] (fun U => va_P (dC, dI) vwCl [(bk, .inr (1, [.int 0, .int 0, .int 0, .ref lc, .ref lr, .ref la, .ref le, .ref lw, .ref lp, .ref ltr, .ref stk]))] U.heap ∧ va_K (dC, dI) vwCl [] U ∧ ub_NX U)) (va_Qi (S := Unit) (fun r _ => r = 0) (fun _ _ => True) (fun _ => False)) 0 0 (fun _ => False) := by
  refine Met.ofW (cc := cX0_isBoat) (maxL := 2) (ret := (some .boolean)) (by decide) rfl ?_
  intro p e s m args below meth c s₁ B hml hv
  obtain ⟨rfl, hP, hK, hN⟩ := hv
  have hx := B.exec
  have hb := B.bytes
  have hr := B.returns
  have hts := atoms_spec (ws := wsX0_isBoat) B.pre
  have hown : s.vm.findClass RX0 = some m.cls := findClass_of_methodNamed B.named
  have hlocks := B.notSynchronized
  have hS : va_S (fun _ : Nat => False) s.heap s.heap [] := va_S.rf
  have hl := lv_entry ([.ref bk, .int q]) (n := 2) (Nat.le_of_ble_eq_true rfl)
  rw [lg_entry_eq]
  generalize (lg_sl ([.ref bk, .int q]) ++ List.replicate (2 - (lg_sl ([.ref bk, .int q])).length) Slot.unset).toArray = ls at hl ⊢
  have hl : lv_has ls 2 [(0, .ref bk), (1, .int q)] := hl
  refine lv_iload_n hx hb dX0_isBoat_0 rfl (lv_at hl 1 rfl) ?_
  refine lv_iconst (v := 0) hx hb dX0_isBoat_1 (by decide) ?_
  refine lv_aload_n hx hb dX0_isBoat_2 rfl (lv_at hl 0 rfl) ?_
  refine va_get (D := (dC, dI)) (ci := 1) (v := .int 0) (C := RX0) (T := TX0) (N := 11) hx hb hts iw_X0_isBoat_X0 hown hK hP 0 rfl rfl 1 (by decide) (hts (.fieldLink RX0 48 "UnlikeBoats$Book" "boats" "I") (List.mem_of_getElem? (i := 1) rfl)) (fun _ h9 => h9) rfl dX0_isBoat_3 ?_
  refine lv_iconst (v := 1) hx hb dX0_isBoat_6 (by decide) ?_
  refine lv_isub hx hb dX0_isBoat_7 ?_
  refine lv_topi (fun y1 ey1 => ?_)
  obtain rfl : (-1 : Int32) = y1 := (ey1.trans (by decide)).symm
  refine va_calli (va_runSN (As := [.int q, .int 0, .int (-1)]) (rest := []) ⟨hx, hb, hml, hown, hts⟩ (c_within l q (0) (-1)) ⟨va_cnB 3 hts gX0_isBoat_X12_within_n52 rfl rfl rfl (ub_nx2 hN) (hts (.initialized RX12) (List.mem_of_getElem? (i := 3) rfl)) (by decide +kernel) ⟨Nat.le_of_ble_eq_true rfl, Nat.le_of_ble_eq_true rfl⟩, (hts (.static yX12_within) (List.mem_of_getElem? (i := 2) rfl)), trivial⟩ ⟨fun _ _ _ _ q => q, fun _ _ _ => ⟨rfl, trivial⟩⟩ rfl rfl hl.1 rfl (lv_room (Nat.le_of_ble_eq_true rfl)) dX0_isBoat_8 ⟨Nat.le_of_ble_eq_true rfl, Nat.le_of_ble_eq_true rfl⟩) hS (fun _ _ h => h.elim) (fun _ h => h.elim) (fun r2 u3 t H1 locs ht hvm hw hB hz1 hk1 hS => ?_)
  have hP := ub_keep hP hk1
  generalize H1 = H at hP hS ⊢
  rcases hw with ⟨-, hw1, hw2⟩ | ⟨rfl, -⟩
  · exact (ub_rng (lo := 0) (hi := -1) (by decide) hw1 hw2).elim
  exact W.zret (v := (0)) hx hb hr rfl (fun t ht hW => ⟨⟨(0), (), rfl, rfl, trivial⟩, hS.F ht⟩) hS.2.2 dX0_isBoat_11
set_option maxHeartbeats 4000000 in
set_option maxRecDepth 100000 in
theorem c_isRace0 (l : Launch) (dC : Nat → ClassId) (dI : Nat → Nat → Nat) (bk : Nat) (lc : Nat) (lr : Nat) (la : Nat) (le : Nat) (lw : Nat) (lp : Nat) (ltr : Nat) (stk : Nat) (ed : Nat) (q : Int32)  : Met l yX0_isRace wsX0_isRace ({ frames := 1, cells := 0, slots := 0, locals := 40 }) (va_Pc [.ref bk, .int q] (fun U => va_P (dC, dI) vwCl [(bk, .inr (1, [.int 0, .int 0, .int 0, .ref lc, .ref lr, .ref la, .ref le, .ref lw, .ref lp, .ref ltr, .ref stk])), (la, .inr (0, [.int 0, .ref ed, .int 0]))] U.heap ∧ va_K (dC, dI) vwCl [] U ∧ ub_NX U)) (va_Qi (S := Unit) (fun r _ => r = 0) (fun _ _ => True) (fun _ => False)) 0 0 (fun _ => False) := by
  refine Met.ofW (cc := cX0_isRace) (maxL := 2) (ret := (some .boolean)) (by decide) rfl ?_
  intro p e s m args below meth c s₁ B hml hv
  obtain ⟨rfl, hP, hK, hN⟩ := hv
  have hx := B.exec
  have hb := B.bytes
  have hr := B.returns
  have hts := atoms_spec (ws := wsX0_isRace) B.pre
  have hown : s.vm.findClass RX0 = some m.cls := findClass_of_methodNamed B.named
  have hlocks := B.notSynchronized
  have hS : va_S (fun _ : Nat => False) s.heap s.heap [] := va_S.rf
  have hl := lv_entry ([.ref bk, .int q]) (n := 2) (Nat.le_of_ble_eq_true rfl)
  rw [lg_entry_eq]
  generalize (lg_sl ([.ref bk, .int q]) ++ List.replicate (2 - (lg_sl ([.ref bk, .int q])).length) Slot.unset).toArray = ls at hl ⊢
  have hl : lv_has ls 2 [(0, .ref bk), (1, .int q)] := hl
  refine lv_iload_n hx hb dX0_isRace_0 rfl (lv_at hl 1 rfl) ?_
  refine lv_iconst (v := 0) hx hb dX0_isRace_1 (by decide) ?_
  refine lv_aload_n hx hb dX0_isRace_2 rfl (lv_at hl 0 rfl) ?_
  refine va_get (D := (dC, dI)) (ci := 1) (v := .ref la) (C := RX0) (T := TX0) (N := 11) hx hb hts iw_X0_isRace_X0 hown hK hP 0 rfl rfl 5 (by decide) (hts (.fieldLink RX0 21 "UnlikeBoats$Book" "races" "Ljava/util/ArrayList;") (List.mem_of_getElem? (i := 1) rfl)) (fun _ h9 => h9) rfl dX0_isRace_3 ?_
  have hPc := hP.sub (ws' := [(la, .inr (0, [.int 0, .ref ed, .int 0]))]) [1] rfl
  have hKc := hK.sub (tys' := []) [] rfl
  refine va_calli (va_runV (As := []) (rest := [.int 0, .int q]) ⟨hx, hb, hml, hown, hts⟩ (c_size l dC dI la (0) ed (0)) (cwV 0 hts gX0_isRace_Jx4a65c_size_8abf5 rfl rfl rfl (by decide +kernel) ⟨Nat.le_of_ble_eq_true rfl, Nat.le_of_ble_eq_true rfl⟩) ⟨fun a U g mk q => by obtain ⟨e0, qP, qK⟩ := q; exact ⟨e0, qP, va_K.moved (u := U) (U := U.calling g mk a) (Vm.Alike.refl U.vm) qK⟩, va_recv hK hP (ci := 0) (q0 := 1) rfl rfl, fun U hU hW => ⟨rfl, by rw [hU]; exact hPc, va_K.moved hW.alike hKc⟩⟩ rfl rfl hl.1 rfl (lv_room (Nat.le_of_ble_eq_true rfl)) dX0_isRace_6 ⟨Nat.le_of_ble_eq_true rfl, Nat.le_of_ble_eq_true rfl⟩) hS (fun _ _ h => h.elim) (fun _ h => h.elim) (fun r1 u2 t H1 locs ht hvm hw hB hz1 hk1 hS => ?_)
  have hP := ub_keep hP hk1
  generalize H1 = H at hP hS ⊢
  obtain rfl : (0 : Int32) = r1 := hw.symm
  refine lv_iconst (v := 1) hx hb dX0_isRace_9 (by decide) ?_
  refine lv_isub hx hb dX0_isRace_10 ?_
  refine lv_topi (fun y3 ey3 => ?_)
  obtain rfl : (-1 : Int32) = y3 := (ey3.trans (by decide)).symm
  refine va_calli (va_runSN (As := [.int q, .int 0, .int (-1)]) (rest := []) ⟨hx, hb, hml, hown, hts⟩ (c_within l q (0) (-1)) ⟨va_cnB 3 hts gX0_isRace_X12_within_n52 rfl rfl rfl (ub_nx2 hN) (hts (.initialized RX12) (List.mem_of_getElem? (i := 9) rfl)) (by decide +kernel) ⟨Nat.le_of_ble_eq_true rfl, Nat.le_of_ble_eq_true rfl⟩, (hts (.static yX12_within) (List.mem_of_getElem? (i := 8) rfl)), trivial⟩ ⟨fun _ _ _ _ q => q, fun _ _ _ => ⟨rfl, trivial⟩⟩ rfl rfl hl.1 rfl (lv_room (Nat.le_of_ble_eq_true rfl)) dX0_isRace_11 ⟨Nat.le_of_ble_eq_true rfl, Nat.le_of_ble_eq_true rfl⟩) hS (fun _ _ h => h.elim) (fun _ h => h.elim) (fun r4 u5 t H1 locs ht hvm hw hB hz1 hk1 hS => ?_)
  have hP := ub_keep hP hk1
  generalize H1 = H at hP hS ⊢
  rcases hw with ⟨-, hw1, hw2⟩ | ⟨rfl, -⟩
  · exact (ub_rng (lo := 0) (hi := -1) (by decide) hw1 hw2).elim
  exact W.zret (v := (0)) hx hb hr rfl (fun t ht hW => ⟨⟨(0), (), rfl, rfl, trivial⟩, hS.F ht⟩) hS.2.2 dX0_isRace_14
set_option maxHeartbeats 4000000 in
set_option maxRecDepth 100000 in
theorem c_isCounted0 (l : Launch) (dC : Nat → ClassId) (dI : Nat → Nat → Nat) (bk : Nat) (lc : Nat) (lr : Nat) (la : Nat) (le : Nat) (lw : Nat) (lp : Nat) (ltr : Nat) (stk : Nat) (ed : Nat) (k : Int32) (q : Int32)  : Met l yX0_isCounted wsX0_isCounted ({ frames := 2, cells := 0, slots := 0, locals := 80 }) (va_Pc [.ref bk, .int k, .int q] (fun U => va_P (dC, dI) vwCl [(bk, .inr (1, [.int 0, .int 0, .int 0, .ref lc, .ref lr, .ref la, .ref le, .ref lw, .ref lp, .ref ltr, .ref stk])), (la, .inr (0, [.int 0, .ref ed, .int 0]))] U.heap ∧ va_K (dC, dI) vwCl [] U ∧ ub_NX U)) (va_Qi (S := Unit) (fun r _ => r = 0) (fun _ _ => True) (fun _ => False)) 0 0 (fun _ => False) := by
  refine Met.ofW (cc := cX0_isCounted) (maxL := 3) (ret := (some .boolean)) (by decide) rfl ?_
  intro p e s m args below meth c s₁ B hml hv
  obtain ⟨rfl, hP, hK, hN⟩ := hv
  have hx := B.exec
  have hb := B.bytes
  have hr := B.returns
  have hts := atoms_spec (ws := wsX0_isCounted) B.pre
  have hown : s.vm.findClass RX0 = some m.cls := findClass_of_methodNamed B.named
  have hlocks := B.notSynchronized
  have hS : va_S (fun _ : Nat => False) s.heap s.heap [] := va_S.rf
  have hl := lv_entry ([.ref bk, .int k, .int q]) (n := 3) (Nat.le_of_ble_eq_true rfl)
  rw [lg_entry_eq]
  generalize (lg_sl ([.ref bk, .int k, .int q]) ++ List.replicate (3 - (lg_sl ([.ref bk, .int k, .int q])).length) Slot.unset).toArray = ls at hl ⊢
  have hl : lv_has ls 3 [(0, .ref bk), (1, .int k), (2, .int q)] := hl
  refine lv_aload_n hx hb dX0_isCounted_0 rfl (lv_at hl 0 rfl) ?_
  refine lv_iload_n hx hb dX0_isCounted_1 rfl (lv_at hl 2 rfl) ?_
  have hPc := hP.sub (ws' := [(bk, .inr (1, [.int 0, .int 0, .int 0, .ref lc, .ref lr, .ref la, .ref le, .ref lw, .ref lp, .ref ltr, .ref stk]))]) [0] rfl
  have hKc := hK.sub (tys' := []) [] rfl
  refine va_calli (va_runV (As := [.int q]) (rest := []) ⟨hx, hb, hml, hown, hts⟩ (c_isKnown l dC dI bk lc lr la le lw lp ltr stk q) (cwV 1 hts gX0_isCounted_X0_isKnown rfl rfl rfl (by decide +kernel) ⟨Nat.le_of_ble_eq_true rfl, Nat.le_of_ble_eq_true rfl⟩) ⟨fun a U g mk q => by obtain ⟨e0, qP, qK, qN⟩ := q; exact ⟨e0, qP, va_K.moved (u := U) (U := U.calling g mk a) (Vm.Alike.refl U.vm) qK, ub_NX_c qN⟩, va_recv hK hP (ci := 1) (q0 := 0) rfl rfl, fun U hU hW => ⟨rfl, by rw [hU]; exact hPc, va_K.moved hW.alike hKc, ub_NX_w hW hN⟩⟩ rfl rfl hl.1 rfl (lv_room (Nat.le_of_ble_eq_true rfl)) dX0_isCounted_2 ⟨Nat.le_of_ble_eq_true rfl, Nat.le_of_ble_eq_true rfl⟩) hS (fun _ _ h => h.elim) (fun _ h => h.elim) (fun r1 u2 t H1 locs ht hvm hw hB hz1 hk1 hS => ?_)
  have hP := ub_keep hP hk1
  generalize H1 = H at hP hS ⊢
  rcases hw with ⟨rfl, hw1, hw2⟩ | ⟨rfl, hw1⟩
  · --in
    have d3a := hw1
    have d3b := hw2
    refine lv_if_eq (tgt := 38) hx hb dX0_isCounted_5 (by decide) (fun c4 => by first | exact absurd c4 (by decide) | exact absurd (by decide) c4) (fun c4 => ?_)
    refine lv_aload_n hx hb dX0_isCounted_8 rfl (lv_at hl 0 rfl) ?_
    refine lv_iload_n hx hb dX0_isCounted_9 rfl (lv_at hl 1 rfl) ?_
    have hPc := hP.sub (ws' := [(bk, .inr (1, [.int 0, .int 0, .int 0, .ref lc, .ref lr, .ref la, .ref le, .ref lw, .ref lp, .ref ltr, .ref stk])), (la, .inr (0, [.int 0, .ref ed, .int 0]))]) [0, 1] rfl
    have hKc := hK.sub (tys' := []) [] rfl
    refine va_calli (va_runV (As := [.int k]) (rest := []) ⟨hx, hb, hml, hown, hts⟩ (c_isRace0 l dC dI bk lc lr la le lw lp ltr stk ed k) (cwV 1 hts gX0_isCounted_X0_isRace rfl rfl rfl (by decide +kernel) ⟨Nat.le_of_ble_eq_true rfl, Nat.le_of_ble_eq_true rfl⟩) ⟨fun a U g mk q => by obtain ⟨e0, qP, qK, qN⟩ := q; exact ⟨e0, qP, va_K.moved (u := U) (U := U.calling g mk a) (Vm.Alike.refl U.vm) qK, ub_NX_c qN⟩, va_recv hK hP (ci := 1) (q0 := 0) rfl rfl, fun U hU hW => ⟨rfl, by rw [hU]; exact hPc, va_K.moved hW.alike hKc, ub_NX_w hW hN⟩⟩ rfl rfl hl.1 rfl (lv_room (Nat.le_of_ble_eq_true rfl)) dX0_isCounted_10 ⟨Nat.le_of_ble_eq_true rfl, Nat.le_of_ble_eq_true rfl⟩) hS (fun _ _ h => h.elim) (fun _ h => h.elim) (fun r5 u6 t H1 locs ht hvm hw hB hz1 hk1 hS => ?_)
    have hP := ub_keep hP hk1
    generalize H1 = H at hP hS ⊢
    obtain rfl : (0 : Int32) = r5 := hw.symm
    refine lv_if_eq (tgt := 38) hx hb dX0_isCounted_13 (by decide) (fun c7 => ?_) (fun c7 => by first | exact absurd c7 (by decide) | exact absurd (by decide) c7)
    refine lv_iconst (v := 0) hx hb dX0_isCounted_38 (by decide) ?_
    exact W.zret (v := (0)) hx hb hr rfl (fun t ht hW => ⟨⟨(0), (), rfl, rfl, trivial⟩, hS.F ht⟩) hS.2.2 dX0_isCounted_39
  · --out
    have d8 := hw1
    refine lv_if_eq (tgt := 38) hx hb dX0_isCounted_5 (by decide) (fun c9 => ?_) (fun c9 => by first | exact absurd c9 (by decide) | exact absurd (by decide) c9)
    refine lv_iconst (v := 0) hx hb dX0_isCounted_38 (by decide) ?_
    exact W.zret (v := (0)) hx hb hr rfl (fun t ht hW => ⟨⟨(0), (), rfl, rfl, trivial⟩, hS.F ht⟩) hS.2.2 dX0_isCounted_39
set_option maxHeartbeats 4000000 in
set_option maxRecDepth 100000 in
theorem c_isEntered0 (l : Launch) (dC : Nat → ClassId) (dI : Nat → Nat → Nat) (bk : Nat) (lc : Nat) (lr : Nat) (la : Nat) (le : Nat) (lw : Nat) (lp : Nat) (ltr : Nat) (stk : Nat) (ed : Nat) (k : Int32) (q : Int32)  : Met l yX0_isEntered wsX0_isEntered ({ frames := 2, cells := 0, slots := 0, locals := 80 }) (va_Pc [.ref bk, .int k, .int q] (fun U => va_P (dC, dI) vwCl [(bk, .inr (1, [.int 0, .int 0, .int 0, .ref lc, .ref lr, .ref la, .ref le, .ref lw, .ref lp, .ref ltr, .ref stk])), (la, .inr (0, [.int 0, .ref ed, .int 0]))] U.heap ∧ va_K (dC, dI) vwCl [] U ∧ ub_NX U)) (va_Qi (S := Unit) (fun r _ => r = 0) (fun _ _ => True) (fun _ => False)) 0 0 (fun _ => False) := by
  refine Met.ofW (cc := cX0_isEntered) (maxL := 3) (ret := (some .boolean)) (by decide) rfl ?_
  intro p e s m args below meth c s₁ B hml hv
  obtain ⟨rfl, hP, hK, hN⟩ := hv
  have hx := B.exec
  have hb := B.bytes
  have hr := B.returns
  have hts := atoms_spec (ws := wsX0_isEntered) B.pre
  have hown : s.vm.findClass RX0 = some m.cls := findClass_of_methodNamed B.named
  have hlocks := B.notSynchronized
  have hS : va_S (fun _ : Nat => False) s.heap s.heap [] := va_S.rf
  have hl := lv_entry ([.ref bk, .int k, .int q]) (n := 3) (Nat.le_of_ble_eq_true rfl)
  rw [lg_entry_eq]
  generalize (lg_sl ([.ref bk, .int k, .int q]) ++ List.replicate (3 - (lg_sl ([.ref bk, .int k, .int q])).length) Slot.unset).toArray = ls at hl ⊢
  have hl : lv_has ls 3 [(0, .ref bk), (1, .int k), (2, .int q)] := hl
  refine lv_aload_n hx hb dX0_isEntered_0 rfl (lv_at hl 0 rfl) ?_
  refine lv_iload_n hx hb dX0_isEntered_1 rfl (lv_at hl 1 rfl) ?_
  have hPc := hP.sub (ws' := [(bk, .inr (1, [.int 0, .int 0, .int 0, .ref lc, .ref lr, .ref la, .ref le, .ref lw, .ref lp, .ref ltr, .ref stk])), (la, .inr (0, [.int 0, .ref ed, .int 0]))]) [0, 1] rfl
  have hKc := hK.sub (tys' := []) [] rfl
  refine va_calli (va_runV (As := [.int k]) (rest := []) ⟨hx, hb, hml, hown, hts⟩ (c_isRace0 l dC dI bk lc lr la le lw lp ltr stk ed k) (cwV 1 hts gX0_isEntered_X0_isRace rfl rfl rfl (by decide +kernel) ⟨Nat.le_of_ble_eq_true rfl, Nat.le_of_ble_eq_true rfl⟩) ⟨fun a U g mk q => by obtain ⟨e0, qP, qK, qN⟩ := q; exact ⟨e0, qP, va_K.moved (u := U) (U := U.calling g mk a) (Vm.Alike.refl U.vm) qK, ub_NX_c qN⟩, va_recv hK hP (ci := 1) (q0 := 0) rfl rfl, fun U hU hW => ⟨rfl, by rw [hU]; exact hPc, va_K.moved hW.alike hKc, ub_NX_w hW hN⟩⟩ rfl rfl hl.1 rfl (lv_room (Nat.le_of_ble_eq_true rfl)) dX0_isEntered_2 ⟨Nat.le_of_ble_eq_true rfl, Nat.le_of_ble_eq_true rfl⟩) hS (fun _ _ h => h.elim) (fun _ h => h.elim) (fun r1 u2 t H1 locs ht hvm hw hB hz1 hk1 hS => ?_)
  have hP := ub_keep hP hk1
  generalize H1 = H at hP hS ⊢
  obtain rfl : (0 : Int32) = r1 := hw.symm
  refine lv_if_eq (tgt := 42) hx hb dX0_isEntered_5 (by decide) (fun c3 => ?_) (fun c3 => by first | exact absurd c3 (by decide) | exact absurd (by decide) c3)
  refine lv_iconst (v := 0) hx hb dX0_isEntered_42 (by decide) ?_
  exact W.zret (v := (0)) hx hb hr rfl (fun t ht hW => ⟨⟨(0), (), rfl, rfl, trivial⟩, hS.F ht⟩) hS.2.2 dX0_isEntered_43
set_option maxHeartbeats 4000000 in
set_option maxRecDepth 100000 in
theorem c_isProtested0 (l : Launch) (dC : Nat → ClassId) (dI : Nat → Nat → Nat) (bk : Nat) (lc : Nat) (lr : Nat) (la : Nat) (le : Nat) (lw : Nat) (lp : Nat) (ltr : Nat) (stk : Nat) (ed : Nat) (k : Int32) (q : Int32)  : Met l yX0_isProtested wsX0_isProtested ({ frames := 2, cells := 0, slots := 0, locals := 80 }) (va_Pc [.ref bk, .int k, .int q] (fun U => va_P (dC, dI) vwCl [(bk, .inr (1, [.int 0, .int 0, .int 0, .ref lc, .ref lr, .ref la, .ref le, .ref lw, .ref lp, .ref ltr, .ref stk])), (lp, .inr (0, [.int 0, .ref ed, .int 0]))] U.heap ∧ va_K (dC, dI) vwCl [] U ∧ ub_NX U)) (va_Qi (S := Unit) (fun r _ => r = 0) (fun _ _ => True) (fun _ => False)) 0 0 (fun _ => False) := by
  refine Met.ofW (cc := cX0_isProtested) (maxL := 3) (ret := (some .boolean)) (by decide) rfl ?_
  intro p e s m args below meth c s₁ B hml hv
  obtain ⟨rfl, hP, hK, hN⟩ := hv
  have hx := B.exec
  have hb := B.bytes
  have hr := B.returns
  have hts := atoms_spec (ws := wsX0_isProtested) B.pre
  have hown : s.vm.findClass RX0 = some m.cls := findClass_of_methodNamed B.named
  have hlocks := B.notSynchronized
  have hS : va_S (fun _ : Nat => False) s.heap s.heap [] := va_S.rf
  have hl := lv_entry ([.ref bk, .int k, .int q]) (n := 3) (Nat.le_of_ble_eq_true rfl)
  rw [lg_entry_eq]
  generalize (lg_sl ([.ref bk, .int k, .int q]) ++ List.replicate (3 - (lg_sl ([.ref bk, .int k, .int q])).length) Slot.unset).toArray = ls at hl ⊢
  have hl : lv_has ls 3 [(0, .ref bk), (1, .int k), (2, .int q)] := hl
  refine lv_aload_n hx hb dX0_isProtested_0 rfl (lv_at hl 0 rfl) ?_
  refine lv_iload_n hx hb dX0_isProtested_1 rfl (lv_at hl 2 rfl) ?_
  have hPc := hP.sub (ws' := [(bk, .inr (1, [.int 0, .int 0, .int 0, .ref lc, .ref lr, .ref la, .ref le, .ref lw, .ref lp, .ref ltr, .ref stk]))]) [0] rfl
  have hKc := hK.sub (tys' := []) [] rfl
  refine va_calli (va_runV (As := [.int q]) (rest := []) ⟨hx, hb, hml, hown, hts⟩ (c_isKnown l dC dI bk lc lr la le lw lp ltr stk q) (cwV 1 hts gX0_isProtested_X0_isKnown rfl rfl rfl (by decide +kernel) ⟨Nat.le_of_ble_eq_true rfl, Nat.le_of_ble_eq_true rfl⟩) ⟨fun a U g mk q => by obtain ⟨e0, qP, qK, qN⟩ := q; exact ⟨e0, qP, va_K.moved (u := U) (U := U.calling g mk a) (Vm.Alike.refl U.vm) qK, ub_NX_c qN⟩, va_recv hK hP (ci := 1) (q0 := 0) rfl rfl, fun U hU hW => ⟨rfl, by rw [hU]; exact hPc, va_K.moved hW.alike hKc, ub_NX_w hW hN⟩⟩ rfl rfl hl.1 rfl (lv_room (Nat.le_of_ble_eq_true rfl)) dX0_isProtested_2 ⟨Nat.le_of_ble_eq_true rfl, Nat.le_of_ble_eq_true rfl⟩) hS (fun _ _ h => h.elim) (fun _ h => h.elim) (fun r1 u2 t H1 locs ht hvm hw hB hz1 hk1 hS => ?_)
  have hP := ub_keep hP hk1
  generalize H1 = H at hP hS ⊢
  rcases hw with ⟨rfl, hw1, hw2⟩ | ⟨rfl, hw1⟩
  · --in
    have d3a := hw1
    have d3b := hw2
    refine lv_if_eq (tgt := 47) hx hb dX0_isProtested_5 (by decide) (fun c4 => by first | exact absurd c4 (by decide) | exact absurd (by decide) c4) (fun c4 => ?_)
    refine lv_iload_n hx hb dX0_isProtested_8 rfl (lv_at hl 1 rfl) ?_
    refine lv_iconst (v := 0) hx hb dX0_isProtested_9 (by decide) ?_
    refine lv_aload_n hx hb dX0_isProtested_10 rfl (lv_at hl 0 rfl) ?_
    refine va_get (D := (dC, dI)) (ci := 1) (v := .ref lp) (C := RX0) (T := TX0) (N := 11) hx hb hts iw_X0_isProtested_X0 hown hK hP 0 rfl rfl 8 (by decide) (hts (.fieldLink RX0 30 "UnlikeBoats$Book" "protests" "Ljava/util/ArrayList;") (List.mem_of_getElem? (i := 1) rfl)) (fun _ h9 => h9) rfl dX0_isProtested_11 ?_
    have hPc := hP.sub (ws' := [(lp, .inr (0, [.int 0, .ref ed, .int 0]))]) [1] rfl
    have hKc := hK.sub (tys' := []) [] rfl
    refine va_calli (va_runV (As := []) (rest := [.int 0, .int k]) ⟨hx, hb, hml, hown, hts⟩ (c_size l dC dI lp (0) ed (0)) (cwV 0 hts gX0_isProtested_Jx4a65c_size_8abf5 rfl rfl rfl (by decide +kernel) ⟨Nat.le_of_ble_eq_true rfl, Nat.le_of_ble_eq_true rfl⟩) ⟨fun a U g mk q => by obtain ⟨e0, qP, qK⟩ := q; exact ⟨e0, qP, va_K.moved (u := U) (U := U.calling g mk a) (Vm.Alike.refl U.vm) qK⟩, va_recv hK hP (ci := 0) (q0 := 1) rfl rfl, fun U hU hW => ⟨rfl, by rw [hU]; exact hPc, va_K.moved hW.alike hKc⟩⟩ rfl rfl hl.1 rfl (lv_room (Nat.le_of_ble_eq_true rfl)) dX0_isProtested_14 ⟨Nat.le_of_ble_eq_true rfl, Nat.le_of_ble_eq_true rfl⟩) hS (fun _ _ h => h.elim) (fun _ h => h.elim) (fun r5 u6 t H1 locs ht hvm hw hB hz1 hk1 hS => ?_)
    have hP := ub_keep hP hk1
    generalize H1 = H at hP hS ⊢
    obtain rfl : (0 : Int32) = r5 := hw.symm
    refine lv_iconst (v := 1) hx hb dX0_isProtested_17 (by decide) ?_
    refine lv_isub hx hb dX0_isProtested_18 ?_
    refine lv_topi (fun y7 ey7 => ?_)
    obtain rfl : (-1 : Int32) = y7 := (ey7.trans (by decide)).symm
    refine va_calli (va_runSN (As := [.int k, .int 0, .int (-1)]) (rest := []) ⟨hx, hb, hml, hown, hts⟩ (c_within l k (0) (-1)) ⟨va_cnB 3 hts gX0_isProtested_X12_within_n52 rfl rfl rfl (ub_nx2 hN) (hts (.initialized RX12) (List.mem_of_getElem? (i := 11) rfl)) (by decide +kernel) ⟨Nat.le_of_ble_eq_true rfl, Nat.le_of_ble_eq_true rfl⟩, (hts (.static yX12_within) (List.mem_of_getElem? (i := 10) rfl)), trivial⟩ ⟨fun _ _ _ _ q => q, fun _ _ _ => ⟨rfl, trivial⟩⟩ rfl rfl hl.1 rfl (lv_room (Nat.le_of_ble_eq_true rfl)) dX0_isProtested_19 ⟨Nat.le_of_ble_eq_true rfl, Nat.le_of_ble_eq_true rfl⟩) hS (fun _ _ h => h.elim) (fun _ h => h.elim) (fun r8 u9 t H1 locs ht hvm hw hB hz1 hk1 hS => ?_)
    have hP := ub_keep hP hk1
    generalize H1 = H at hP hS ⊢
    rcases hw with ⟨-, hw1, hw2⟩ | ⟨rfl, -⟩
    · exact (ub_rng (lo := 0) (hi := -1) (by decide) hw1 hw2).elim
    refine lv_if_eq (tgt := 47) hx hb dX0_isProtested_22 (by decide) (fun c10 => ?_) (fun c10 => by first | exact absurd c10 (by decide) | exact absurd (by decide) c10)
    refine lv_iconst (v := 0) hx hb dX0_isProtested_47 (by decide) ?_
    exact W.zret (v := (0)) hx hb hr rfl (fun t ht hW => ⟨⟨(0), (), rfl, rfl, trivial⟩, hS.F ht⟩) hS.2.2 dX0_isProtested_48
  · --out
    have d11 := hw1
    refine lv_if_eq (tgt := 47) hx hb dX0_isProtested_5 (by decide) (fun c12 => ?_) (fun c12 => by first | exact absurd c12 (by decide) | exact absurd (by decide) c12)
    refine lv_iconst (v := 0) hx hb dX0_isProtested_47 (by decide) ?_
    exact W.zret (v := (0)) hx hb hr rfl (fun t ht hW => ⟨⟨(0), (), rfl, rfl, trivial⟩, hS.F ht⟩) hS.2.2 dX0_isProtested_48
set_option maxHeartbeats 4000000 in
set_option maxRecDepth 100000 in
theorem c_bitCount0 (l : Launch)   : Met l yJ6_bitCount_0f7a4 wsJ6_bitCount_0f7a4 ({ frames := 0, cells := 0, slots := 0, locals := 0 }) (va_Pc [.int 0] (fun _ => True)) (va_Qi (S := Unit) (fun r _ => r = 0) (fun _ _ => True) (fun _ => False)) 0 0 (fun _ => False) := by
  refine Met.ofW (cc := cJ6_bitCount_0f7a4) (maxL := 1) (ret := (some .int)) (by decide) rfl ?_
  intro p e s m args below meth c s₁ B hml hv
  obtain ⟨rfl, -⟩ := hv
  have hx := B.exec
  have hb := B.bytes
  have hr := B.returns
  have hts := atoms_spec (ws := wsJ6_bitCount_0f7a4) B.pre
  have hown : s.vm.findClass RJ6 = some m.cls := findClass_of_methodNamed B.named
  have hlocks := B.notSynchronized
  have hS : va_S (fun _ : Nat => False) s.heap s.heap [] := va_S.rf
  have hl := lv_entry ([.int 0]) (n := 1) (Nat.le_of_ble_eq_true rfl)
  rw [lg_entry_eq]
  generalize (lg_sl ([.int 0]) ++ List.replicate (1 - (lg_sl ([.int 0])).length) Slot.unset).toArray = ls at hl ⊢
  have hl : lv_has ls 1 [(0, .int 0)] := hl
  refine lv_iload_n hx hb dJ6_bitCount_0f7a4_0 rfl (lv_at hl 0 rfl) ?_
  refine lv_iload_n hx hb dJ6_bitCount_0f7a4_1 rfl (lv_at hl 0 rfl) ?_
  refine lv_iconst (v := 1) hx hb dJ6_bitCount_0f7a4_2 (by decide) ?_
  refine lv_iushr hx hb dJ6_bitCount_0f7a4_3 rfl ?_
  refine lv_topi (fun y1 ey1 => ?_)
  obtain rfl : (0 : Int32) = y1 := (ey1.trans (by decide)).symm
  refine lv_ldcw hx hb hown (hts (.constant RJ6 265 (1431655765)) (List.mem_of_getElem? (i := 1) rfl)) dJ6_bitCount_0f7a4_4 ?_
  refine lv_iand hx hb dJ6_bitCount_0f7a4_7 ?_
  refine lv_topi (fun y2 ey2 => ?_)
  obtain rfl : (0 : Int32) = y2 := (ey2.trans (by decide)).symm
  refine lv_isub hx hb dJ6_bitCount_0f7a4_8 ?_
  refine lv_topi (fun y3 ey3 => ?_)
  obtain rfl : (0 : Int32) = y3 := (ey3.trans (by decide)).symm
  refine lv_istore_n (lv' := [(0, .int 0)]) hx hb dJ6_bitCount_0f7a4_9 rfl hl (by decide) rfl (fun ls hl => ?_)
  refine lv_iload_n hx hb dJ6_bitCount_0f7a4_10 rfl (lv_at hl 0 rfl) ?_
  refine lv_ldcw hx hb hown (hts (.constant RJ6 266 (858993459)) (List.mem_of_getElem? (i := 2) rfl)) dJ6_bitCount_0f7a4_11 ?_
  refine lv_iand hx hb dJ6_bitCount_0f7a4_14 ?_
  refine lv_topi (fun y4 ey4 => ?_)
  obtain rfl : (0 : Int32) = y4 := (ey4.trans (by decide)).symm
  refine lv_iload_n hx hb dJ6_bitCount_0f7a4_15 rfl (lv_at hl 0 rfl) ?_
  refine lv_iconst (v := 2) hx hb dJ6_bitCount_0f7a4_16 (by decide) ?_
  refine lv_iushr hx hb dJ6_bitCount_0f7a4_17 rfl ?_
  refine lv_topi (fun y5 ey5 => ?_)
  obtain rfl : (0 : Int32) = y5 := (ey5.trans (by decide)).symm
  refine lv_ldcw hx hb hown (hts (.constant RJ6 266 (858993459)) (List.mem_of_getElem? (i := 2) rfl)) dJ6_bitCount_0f7a4_18 ?_
  refine lv_iand hx hb dJ6_bitCount_0f7a4_21 ?_
  refine lv_topi (fun y6 ey6 => ?_)
  obtain rfl : (0 : Int32) = y6 := (ey6.trans (by decide)).symm
  refine lv_iadd hx hb dJ6_bitCount_0f7a4_22 ?_
  refine lv_topi (fun y7 ey7 => ?_)
  obtain rfl : (0 : Int32) = y7 := (ey7.trans (by decide)).symm
  refine lv_istore_n (lv' := [(0, .int 0)]) hx hb dJ6_bitCount_0f7a4_23 rfl hl (by decide) rfl (fun ls hl => ?_)
  refine lv_iload_n hx hb dJ6_bitCount_0f7a4_24 rfl (lv_at hl 0 rfl) ?_
  refine lv_iload_n hx hb dJ6_bitCount_0f7a4_25 rfl (lv_at hl 0 rfl) ?_
  refine lv_iconst (v := 4) hx hb dJ6_bitCount_0f7a4_26 (by decide) ?_
  refine lv_iushr hx hb dJ6_bitCount_0f7a4_27 rfl ?_
  refine lv_topi (fun y8 ey8 => ?_)
  obtain rfl : (0 : Int32) = y8 := (ey8.trans (by decide)).symm
  refine lv_iadd hx hb dJ6_bitCount_0f7a4_28 ?_
  refine lv_topi (fun y9 ey9 => ?_)
  obtain rfl : (0 : Int32) = y9 := (ey9.trans (by decide)).symm
  refine lv_ldcw hx hb hown (hts (.constant RJ6 267 (252645135)) (List.mem_of_getElem? (i := 3) rfl)) dJ6_bitCount_0f7a4_29 ?_
  refine lv_iand hx hb dJ6_bitCount_0f7a4_32 ?_
  refine lv_topi (fun y10 ey10 => ?_)
  obtain rfl : (0 : Int32) = y10 := (ey10.trans (by decide)).symm
  refine lv_istore_n (lv' := [(0, .int 0)]) hx hb dJ6_bitCount_0f7a4_33 rfl hl (by decide) rfl (fun ls hl => ?_)
  refine lv_iload_n hx hb dJ6_bitCount_0f7a4_34 rfl (lv_at hl 0 rfl) ?_
  refine lv_iload_n hx hb dJ6_bitCount_0f7a4_35 rfl (lv_at hl 0 rfl) ?_
  refine lv_bipush (v := 8) hx hb dJ6_bitCount_0f7a4_36 (by decide) ?_
  refine lv_iushr hx hb dJ6_bitCount_0f7a4_38 rfl ?_
  refine lv_topi (fun y11 ey11 => ?_)
  obtain rfl : (0 : Int32) = y11 := (ey11.trans (by decide)).symm
  refine lv_iadd hx hb dJ6_bitCount_0f7a4_39 ?_
  refine lv_topi (fun y12 ey12 => ?_)
  obtain rfl : (0 : Int32) = y12 := (ey12.trans (by decide)).symm
  refine lv_istore_n (lv' := [(0, .int 0)]) hx hb dJ6_bitCount_0f7a4_40 rfl hl (by decide) rfl (fun ls hl => ?_)
  refine lv_iload_n hx hb dJ6_bitCount_0f7a4_41 rfl (lv_at hl 0 rfl) ?_
  refine lv_iload_n hx hb dJ6_bitCount_0f7a4_42 rfl (lv_at hl 0 rfl) ?_
  refine lv_bipush (v := 16) hx hb dJ6_bitCount_0f7a4_43 (by decide) ?_
  refine lv_iushr hx hb dJ6_bitCount_0f7a4_45 rfl ?_
  refine lv_topi (fun y13 ey13 => ?_)
  obtain rfl : (0 : Int32) = y13 := (ey13.trans (by decide)).symm
  refine lv_iadd hx hb dJ6_bitCount_0f7a4_46 ?_
  refine lv_topi (fun y14 ey14 => ?_)
  obtain rfl : (0 : Int32) = y14 := (ey14.trans (by decide)).symm
  refine lv_istore_n (lv' := [(0, .int 0)]) hx hb dJ6_bitCount_0f7a4_47 rfl hl (by decide) rfl (fun ls hl => ?_)
  refine lv_iload_n hx hb dJ6_bitCount_0f7a4_48 rfl (lv_at hl 0 rfl) ?_
  refine lv_bipush (v := 63) hx hb dJ6_bitCount_0f7a4_49 (by decide) ?_
  refine lv_iand hx hb dJ6_bitCount_0f7a4_51 ?_
  refine lv_topi (fun y15 ey15 => ?_)
  obtain rfl : (0 : Int32) = y15 := (ey15.trans (by decide)).symm
  exact W.iret (v := (0)) hx hb hr (fun t ht hW => ⟨⟨(0), (), rfl, rfl, trivial⟩, hS.F ht⟩) hS.2.2 dJ6_bitCount_0f7a4_52
set_option maxHeartbeats 4000000 in
set_option maxRecDepth 100000 in
theorem c_areSome0 (l : Launch) (dC : Nat → ClassId) (dI : Nat → Nat → Nat) (bk : Nat) (lc : Nat) (lr : Nat) (la : Nat) (le : Nat) (lw : Nat) (lp : Nat) (ltr : Nat) (stk : Nat) (q : Int32)  : Met l yX0_areSome wsX0_areSome ({ frames := 1, cells := 0, slots := 0, locals := 40 }) (va_Pc [.ref bk, .int q] (fun U => va_P (dC, dI) vwCl [(bk, .inr (1, [.int 0, .int 0, .int 0, .ref lc, .ref lr, .ref la, .ref le, .ref lw, .ref lp, .ref ltr, .ref stk]))] U.heap ∧ va_K (dC, dI) vwCl [] U ∧ ub_NX U)) (va_Qi (S := Unit) (fun r _ => r = 0) (fun _ _ => True) (fun _ => False)) 0 0 (fun _ => False) := by
  refine Met.ofW (cc := cX0_areSome) (maxL := 2) (ret := (some .boolean)) (by decide) rfl ?_
  intro p e s m args below meth c s₁ B hml hv
  obtain ⟨rfl, hP, hK, hN⟩ := hv
  have hx := B.exec
  have hb := B.bytes
  have hr := B.returns
  have hts := atoms_spec (ws := wsX0_areSome) B.pre
  have hown : s.vm.findClass RX0 = some m.cls := findClass_of_methodNamed B.named
  have hlocks := B.notSynchronized
  have hS : va_S (fun _ : Nat => False) s.heap s.heap [] := va_S.rf
  have hl := lv_entry ([.ref bk, .int q]) (n := 2) (Nat.le_of_ble_eq_true rfl)
  rw [lg_entry_eq]
  generalize (lg_sl ([.ref bk, .int q]) ++ List.replicate (2 - (lg_sl ([.ref bk, .int q])).length) Slot.unset).toArray = ls at hl ⊢
  have hl : lv_has ls 2 [(0, .ref bk), (1, .int q)] := hl
  refine lv_iload_n hx hb dX0_areSome_0 rfl (lv_at hl 1 rfl) ?_
  refine lv_iconst (v := 0) hx hb dX0_areSome_1 (by decide) ?_
  refine lv_iconst (v := 1) hx hb dX0_areSome_2 (by decide) ?_
  refine lv_aload_n hx hb dX0_areSome_3 rfl (lv_at hl 0 rfl) ?_
  refine va_get (D := (dC, dI)) (ci := 1) (v := .int 0) (C := RX0) (T := TX0) (N := 11) hx hb hts iw_X0_areSome_X0 hown hK hP 0 rfl rfl 1 (by decide) (hts (.fieldLink RX0 48 "UnlikeBoats$Book" "boats" "I") (List.mem_of_getElem? (i := 1) rfl)) (fun _ h9 => h9) rfl dX0_areSome_4 ?_
  refine lv_ishl hx hb dX0_areSome_7 ?_
  refine lv_topi (fun y1 ey1 => ?_)
  obtain rfl : (1 : Int32) = y1 := (ey1.trans (by decide)).symm
  refine lv_iconst (v := 1) hx hb dX0_areSome_8 (by decide) ?_
  refine lv_isub hx hb dX0_areSome_9 ?_
  refine lv_topi (fun y2 ey2 => ?_)
  obtain rfl : (0 : Int32) = y2 := (ey2.trans (by decide)).symm
  refine va_calli (va_runSN (As := [.int q, .int 0, .int 0]) (rest := []) ⟨hx, hb, hml, hown, hts⟩ (c_within l q (0) (0)) ⟨va_cnB 3 hts gX0_areSome_X12_within_n52 rfl rfl rfl (ub_nx2 hN) (hts (.initialized RX12) (List.mem_of_getElem? (i := 3) rfl)) (by decide +kernel) ⟨Nat.le_of_ble_eq_true rfl, Nat.le_of_ble_eq_true rfl⟩, (hts (.static yX12_within) (List.mem_of_getElem? (i := 2) rfl)), trivial⟩ ⟨fun _ _ _ _ q => q, fun _ _ _ => ⟨rfl, trivial⟩⟩ rfl rfl hl.1 rfl (lv_room (Nat.le_of_ble_eq_true rfl)) dX0_areSome_10 ⟨Nat.le_of_ble_eq_true rfl, Nat.le_of_ble_eq_true rfl⟩) hS (fun _ _ h => h.elim) (fun _ h => h.elim) (fun r3 u4 t H1 locs ht hvm hw hB hz1 hk1 hS => ?_)
  have hP := ub_keep hP hk1
  generalize H1 = H at hP hS ⊢
  rcases hw with ⟨rfl, hw1, hw2⟩ | ⟨rfl, hw1⟩
  · --in
    have d5a := hw1
    have d5b := hw2
    refine lv_if_eq (tgt := 32) hx hb dX0_areSome_13 (by decide) (fun c6 => by first | exact absurd c6 (by decide) | exact absurd (by decide) c6) (fun c6 => ?_)
    obtain rfl : (0 : Int32) = q := (ub_in0 d5a d5b).symm
    refine lv_iload_n hx hb dX0_areSome_16 rfl (lv_at hl 1 rfl) ?_
    refine va_calli (va_runS (As := [.int 0]) (rest := []) ⟨hx, hb, hml, hown, hts⟩ (c_bitCount0 l ) (va_cwS 1 hts gX0_areSome_J6_bitCount_0f7a4 rfl rfl rfl (by decide +kernel) ⟨Nat.le_of_ble_eq_true rfl, Nat.le_of_ble_eq_true rfl⟩) ⟨fun _ _ _ _ q => q, fun _ _ _ => ⟨rfl, trivial⟩⟩ rfl rfl hl.1 rfl (lv_room (Nat.le_of_ble_eq_true rfl)) dX0_areSome_17 ⟨Nat.le_of_ble_eq_true rfl, Nat.le_of_ble_eq_true rfl⟩) hS (fun _ _ h => h.elim) (fun _ h => h.elim) (fun r7 u8 t H1 locs ht hvm hw hB hz1 hk1 hS => ?_)
    have hP := ub_keep hP hk1
    generalize H1 = H at hP hS ⊢
    obtain rfl : (0 : Int32) = r7 := hw.symm
    refine lv_iconst (v := 2) hx hb dX0_areSome_20 (by decide) ?_
    refine lv_iconst (v := 4) hx hb dX0_areSome_21 (by decide) ?_
    refine va_calli (va_runSN (As := [.int 0, .int 2, .int 4]) (rest := []) ⟨hx, hb, hml, hown, hts⟩ (c_within l (0) (2) (4)) ⟨va_cnB 3 hts gX0_areSome_X12_within_n52 rfl rfl rfl (ub_nx2 hN) (hts (.initialized RX12) (List.mem_of_getElem? (i := 3) rfl)) (by decide +kernel) ⟨Nat.le_of_ble_eq_true rfl, Nat.le_of_ble_eq_true rfl⟩, (hts (.static yX12_within) (List.mem_of_getElem? (i := 2) rfl)), trivial⟩ ⟨fun _ _ _ _ q => q, fun _ _ _ => ⟨rfl, trivial⟩⟩ rfl rfl hl.1 rfl (lv_room (Nat.le_of_ble_eq_true rfl)) dX0_areSome_22 ⟨Nat.le_of_ble_eq_true rfl, Nat.le_of_ble_eq_true rfl⟩) hS (fun _ _ h => h.elim) (fun _ h => h.elim) (fun r9 u10 t H1 locs ht hvm hw hB hz1 hk1 hS => ?_)
    have hP := ub_keep hP hk1
    generalize H1 = H at hP hS ⊢
    rcases hw with ⟨rfl, hw1, hw2⟩ | ⟨rfl, hw1⟩
    · first | exact absurd (by decide) hw1 | exact absurd (by decide) hw2
    refine lv_if_eq (tgt := 32) hx hb dX0_areSome_25 (by decide) (fun c11 => ?_) (fun c11 => by first | exact absurd c11 (by decide) | exact absurd (by decide) c11)
    refine lv_iconst (v := 0) hx hb dX0_areSome_32 (by decide) ?_
    exact W.zret (v := (0)) hx hb hr rfl (fun t ht hW => ⟨⟨(0), (), rfl, rfl, trivial⟩, hS.F ht⟩) hS.2.2 dX0_areSome_33
  · --out
    have d12 := hw1
    refine lv_if_eq (tgt := 32) hx hb dX0_areSome_13 (by decide) (fun c13 => ?_) (fun c13 => by first | exact absurd c13 (by decide) | exact absurd (by decide) c13)
    refine lv_iconst (v := 0) hx hb dX0_areSome_32 (by decide) ?_
    exact W.zret (v := (0)) hx hb hr rfl (fun t ht hW => ⟨⟨(0), (), rfl, rfl, trivial⟩, hS.F ht⟩) hS.2.2 dX0_areSome_33
set_option maxHeartbeats 4000000 in
set_option maxRecDepth 100000 in
theorem c_rulesOn0 (l : Launch) (dC : Nat → ClassId) (dI : Nat → Nat → Nat) (bk : Nat) (lc : Nat) (lr : Nat) (la : Nat) (le : Nat) (lw : Nat) (lp : Nat) (ltr : Nat) (stk : Nat) (ed : Nat) (k : Int32) (q : Int32)  : Met l yX0_rulesOn wsX0_rulesOn ({ frames := 1, cells := 0, slots := 0, locals := 40 }) (va_Pc [.ref bk, .int k, .int q] (fun U => va_P (dC, dI) vwCl [(bk, .inr (1, [.int 0, .int 0, .int 0, .ref lc, .ref lr, .ref la, .ref le, .ref lw, .ref lp, .ref ltr, .ref stk])), (lr, .inr (0, [.int 0, .ref ed, .int 0]))] U.heap ∧ va_K (dC, dI) vwCl [] U ∧ ub_NX U)) (va_Qi (S := Unit) (fun r _ => r = -1) (fun _ _ => True) (fun _ => False)) 0 0 (fun _ => False) := by
  refine Met.ofW (cc := cX0_rulesOn) (maxL := 7) (ret := (some .int)) (by decide) rfl ?_
  intro p e s m args below meth c s₁ B hml hv
  obtain ⟨rfl, hP, hK, hN⟩ := hv
  have hx := B.exec
  have hb := B.bytes
  have hr := B.returns
  have hts := atoms_spec (ws := wsX0_rulesOn) B.pre
  have hown : s.vm.findClass RX0 = some m.cls := findClass_of_methodNamed B.named
  have hlocks := B.notSynchronized
  have hS : va_S (fun _ : Nat => False) s.heap s.heap [] := va_S.rf
  have hl := lv_entry ([.ref bk, .int k, .int q]) (n := 7) (Nat.le_of_ble_eq_true rfl)
  rw [lg_entry_eq]
  generalize (lg_sl ([.ref bk, .int k, .int q]) ++ List.replicate (7 - (lg_sl ([.ref bk, .int k, .int q])).length) Slot.unset).toArray = ls at hl ⊢
  have hl : lv_has ls 7 [(0, .ref bk), (1, .int k), (2, .int q)] := hl
  refine lv_iconst (v := -1) hx hb dX0_rulesOn_0 (by decide) ?_
  refine lv_istore_n (lv' := [(3, .int (-1)), (0, .ref bk), (1, .int k), (2, .int q)]) hx hb dX0_rulesOn_1 rfl hl (by decide) rfl (fun ls hl => ?_)
  refine lv_iconst (v := 0) hx hb dX0_rulesOn_2 (by decide) ?_
  refine lv_istore (lv' := [(4, .int 0), (3, .int (-1)), (0, .ref bk), (1, .int k), (2, .int q)]) hx hb dX0_rulesOn_3 hl (by decide) rfl (fun ls hl => ?_)
  refine lv_iconst (v := 0) hx hb dX0_rulesOn_5 (by decide) ?_
  refine lv_istore (lv' := [(5, .int 0), (4, .int 0), (3, .int (-1)), (0, .ref bk), (1, .int k), (2, .int q)]) hx hb dX0_rulesOn_6 hl (by decide) rfl (fun ls hl => ?_)
  refine lv_iload hx hb dX0_rulesOn_8 (lv_at hl 0 rfl) ?_
  refine lv_aload_n hx hb dX0_rulesOn_10 rfl (lv_at hl 3 rfl) ?_
  refine va_get (D := (dC, dI)) (ci := 1) (v := .ref lr) (C := RX0) (T := TX0) (N := 11) hx hb hts iw_X0_rulesOn_X0 hown hK hP 0 rfl rfl 4 (by decide) (hts (.fieldLink RX0 18 "UnlikeBoats$Book" "rules" "Ljava/util/ArrayList;") (List.mem_of_getElem? (i := 1) rfl)) (fun _ h9 => h9) rfl dX0_rulesOn_11 ?_
  have hPc := hP.sub (ws' := [(lr, .inr (0, [.int 0, .ref ed, .int 0]))]) [1] rfl
  have hKc := hK.sub (tys' := []) [] rfl
  refine va_calli (va_runV (As := []) (rest := [.int 0]) ⟨hx, hb, hml, hown, hts⟩ (c_size l dC dI lr (0) ed (0)) (cwV 0 hts gX0_rulesOn_Jx4a65c_size_8abf5 rfl rfl rfl (by decide +kernel) ⟨Nat.le_of_ble_eq_true rfl, Nat.le_of_ble_eq_true rfl⟩) ⟨fun a U g mk q => by obtain ⟨e0, qP, qK⟩ := q; exact ⟨e0, qP, va_K.moved (u := U) (U := U.calling g mk a) (Vm.Alike.refl U.vm) qK⟩, va_recv hK hP (ci := 0) (q0 := 1) rfl rfl, fun U hU hW => ⟨rfl, by rw [hU]; exact hPc, va_K.moved hW.alike hKc⟩⟩ rfl rfl hl.1 rfl (lv_room (Nat.le_of_ble_eq_true rfl)) dX0_rulesOn_14 ⟨Nat.le_of_ble_eq_true rfl, Nat.le_of_ble_eq_true rfl⟩) hS (fun _ _ h => h.elim) (fun _ h => h.elim) (fun r1 u2 t H1 locs ht hvm hw hB hz1 hk1 hS => ?_)
  have hP := ub_keep hP hk1
  generalize H1 = H at hP hS ⊢
  obtain rfl : (0 : Int32) = r1 := hw.symm
  refine lv_icmp_ge (tgt := 78) hx hb dX0_rulesOn_17 (by decide) (fun c3 => ?_) (fun c3 => by first | exact absurd c3 (by decide) | exact absurd (by decide) c3)
  refine lv_iload_n hx hb dX0_rulesOn_78 rfl (lv_at hl 2 rfl) ?_
  exact W.iret (v := (-1)) hx hb hr (fun t ht hW => ⟨⟨(-1), (), rfl, rfl, trivial⟩, hS.F ht⟩) hS.2.2 dX0_rulesOn_79
set_option maxHeartbeats 4000000 in
set_option maxRecDepth 100000 in
theorem c_racesIn0 (l : Launch) (dC : Nat → ClassId) (dI : Nat → Nat → Nat) (bk : Nat) (lc : Nat) (lr : Nat) (la : Nat) (le : Nat) (lw : Nat) (lp : Nat) (ltr : Nat) (stk : Nat) (ed : Nat) (q : Int32)  : Met l yX0_racesIn wsX0_racesIn ({ frames := 1, cells := 0, slots := 0, locals := 40 }) (va_Pc [.ref bk, .int q] (fun U => va_P (dC, dI) vwCl [(bk, .inr (1, [.int 0, .int 0, .int 0, .ref lc, .ref lr, .ref la, .ref le, .ref lw, .ref lp, .ref ltr, .ref stk])), (la, .inr (0, [.int 0, .ref ed, .int 0]))] U.heap ∧ va_K (dC, dI) vwCl [] U ∧ ub_NX U)) (va_Qi (S := Unit) (fun r _ => r = 0) (fun _ _ => True) (fun _ => False)) 0 0 (fun _ => False) := by
  refine Met.ofW (cc := cX0_racesIn) (maxL := 4) (ret := (some .int)) (by decide) rfl ?_
  intro p e s m args below meth c s₁ B hml hv
  obtain ⟨rfl, hP, hK, hN⟩ := hv
  have hx := B.exec
  have hb := B.bytes
  have hr := B.returns
  have hts := atoms_spec (ws := wsX0_racesIn) B.pre
  have hown : s.vm.findClass RX0 = some m.cls := findClass_of_methodNamed B.named
  have hlocks := B.notSynchronized
  have hS : va_S (fun _ : Nat => False) s.heap s.heap [] := va_S.rf
  have hl := lv_entry ([.ref bk, .int q]) (n := 4) (Nat.le_of_ble_eq_true rfl)
  rw [lg_entry_eq]
  generalize (lg_sl ([.ref bk, .int q]) ++ List.replicate (4 - (lg_sl ([.ref bk, .int q])).length) Slot.unset).toArray = ls at hl ⊢
  have hl : lv_has ls 4 [(0, .ref bk), (1, .int q)] := hl
  refine lv_iconst (v := 0) hx hb dX0_racesIn_0 (by decide) ?_
  refine lv_istore_n (lv' := [(2, .int 0), (0, .ref bk), (1, .int q)]) hx hb dX0_racesIn_1 rfl hl (by decide) rfl (fun ls hl => ?_)
  refine lv_iconst (v := 0) hx hb dX0_racesIn_2 (by decide) ?_
  refine lv_istore_n (lv' := [(3, .int 0), (2, .int 0), (0, .ref bk), (1, .int q)]) hx hb dX0_racesIn_3 rfl hl (by decide) rfl (fun ls hl => ?_)
  refine lv_iload_n hx hb dX0_racesIn_4 rfl (lv_at hl 0 rfl) ?_
  refine lv_aload_n hx hb dX0_racesIn_5 rfl (lv_at hl 2 rfl) ?_
  refine va_get (D := (dC, dI)) (ci := 1) (v := .ref la) (C := RX0) (T := TX0) (N := 11) hx hb hts iw_X0_racesIn_X0 hown hK hP 0 rfl rfl 5 (by decide) (hts (.fieldLink RX0 21 "UnlikeBoats$Book" "races" "Ljava/util/ArrayList;") (List.mem_of_getElem? (i := 1) rfl)) (fun _ h9 => h9) rfl dX0_racesIn_6 ?_
  have hPc := hP.sub (ws' := [(la, .inr (0, [.int 0, .ref ed, .int 0]))]) [1] rfl
  have hKc := hK.sub (tys' := []) [] rfl
  refine va_calli (va_runV (As := []) (rest := [.int 0]) ⟨hx, hb, hml, hown, hts⟩ (c_size l dC dI la (0) ed (0)) (cwV 0 hts gX0_racesIn_Jx4a65c_size_8abf5 rfl rfl rfl (by decide +kernel) ⟨Nat.le_of_ble_eq_true rfl, Nat.le_of_ble_eq_true rfl⟩) ⟨fun a U g mk q => by obtain ⟨e0, qP, qK⟩ := q; exact ⟨e0, qP, va_K.moved (u := U) (U := U.calling g mk a) (Vm.Alike.refl U.vm) qK⟩, va_recv hK hP (ci := 0) (q0 := 1) rfl rfl, fun U hU hW => ⟨rfl, by rw [hU]; exact hPc, va_K.moved hW.alike hKc⟩⟩ rfl rfl hl.1 rfl (lv_room (Nat.le_of_ble_eq_true rfl)) dX0_racesIn_9 ⟨Nat.le_of_ble_eq_true rfl, Nat.le_of_ble_eq_true rfl⟩) hS (fun _ _ h => h.elim) (fun _ h => h.elim) (fun r1 u2 t H1 locs ht hvm hw hB hz1 hk1 hS => ?_)
  have hP := ub_keep hP hk1
  generalize H1 = H at hP hS ⊢
  obtain rfl : (0 : Int32) = r1 := hw.symm
  refine lv_icmp_ge (tgt := 42) hx hb dX0_racesIn_12 (by decide) (fun c3 => ?_) (fun c3 => by first | exact absurd c3 (by decide) | exact absurd (by decide) c3)
  refine lv_iload_n hx hb dX0_racesIn_42 rfl (lv_at hl 1 rfl) ?_
  exact W.iret (v := (0)) hx hb hr (fun t ht hW => ⟨⟨(0), (), rfl, rfl, trivial⟩, hS.F ht⟩) hS.2.2 dX0_racesIn_43
set_option maxHeartbeats 4000000 in
set_option maxRecDepth 100000 in
theorem c_disqualified0 (l : Launch) (dC : Nat → ClassId) (dI : Nat → Nat → Nat) (bk : Nat) (lc : Nat) (lr : Nat) (la : Nat) (le : Nat) (lw : Nat) (lp : Nat) (ltr : Nat) (stk : Nat) (ed : Nat)  : Met l yX0_disqualified wsX0_disqualified ({ frames := 1, cells := 0, slots := 0, locals := 40 }) (va_Pc [.ref bk] (fun U => va_P (dC, dI) vwCl [(bk, .inr (1, [.int 0, .int 0, .int 0, .ref lc, .ref lr, .ref la, .ref le, .ref lw, .ref lp, .ref ltr, .ref stk])), (la, .inr (0, [.int 0, .ref ed, .int 0]))] U.heap ∧ va_K (dC, dI) vwCl [] U ∧ ub_NX U)) (va_Qi (S := Unit) (fun r _ => r = 0) (fun _ _ => True) (fun _ => False)) 0 0 (fun _ => False) := by
  refine Met.ofW (cc := cX0_disqualified) (maxL := 3) (ret := (some .int)) (by decide) rfl ?_
  intro p e s m args below meth c s₁ B hml hv
  obtain ⟨rfl, hP, hK, hN⟩ := hv
  have hx := B.exec
  have hb := B.bytes
  have hr := B.returns
  have hts := atoms_spec (ws := wsX0_disqualified) B.pre
  have hown : s.vm.findClass RX0 = some m.cls := findClass_of_methodNamed B.named
  have hlocks := B.notSynchronized
  have hS : va_S (fun _ : Nat => False) s.heap s.heap [] := va_S.rf
  have hl := lv_entry ([.ref bk]) (n := 3) (Nat.le_of_ble_eq_true rfl)
  rw [lg_entry_eq]
  generalize (lg_sl ([.ref bk]) ++ List.replicate (3 - (lg_sl ([.ref bk])).length) Slot.unset).toArray = ls at hl ⊢
  have hl : lv_has ls 3 [(0, .ref bk)] := hl
  refine lv_iconst (v := 0) hx hb dX0_disqualified_0 (by decide) ?_
  refine lv_istore_n (lv' := [(1, .int 0), (0, .ref bk)]) hx hb dX0_disqualified_1 rfl hl (by decide) rfl (fun ls hl => ?_)
  refine lv_iconst (v := 0) hx hb dX0_disqualified_2 (by decide) ?_
  refine lv_istore_n (lv' := [(2, .int 0), (1, .int 0), (0, .ref bk)]) hx hb dX0_disqualified_3 rfl hl (by decide) rfl (fun ls hl => ?_)
  refine lv_iload_n hx hb dX0_disqualified_4 rfl (lv_at hl 0 rfl) ?_
  refine lv_aload_n hx hb dX0_disqualified_5 rfl (lv_at hl 2 rfl) ?_
  refine va_get (D := (dC, dI)) (ci := 1) (v := .ref la) (C := RX0) (T := TX0) (N := 11) hx hb hts iw_X0_disqualified_X0 hown hK hP 0 rfl rfl 5 (by decide) (hts (.fieldLink RX0 21 "UnlikeBoats$Book" "races" "Ljava/util/ArrayList;") (List.mem_of_getElem? (i := 1) rfl)) (fun _ h9 => h9) rfl dX0_disqualified_6 ?_
  have hPc := hP.sub (ws' := [(la, .inr (0, [.int 0, .ref ed, .int 0]))]) [1] rfl
  have hKc := hK.sub (tys' := []) [] rfl
  refine va_calli (va_runV (As := []) (rest := [.int 0]) ⟨hx, hb, hml, hown, hts⟩ (c_size l dC dI la (0) ed (0)) (cwV 0 hts gX0_disqualified_Jx4a65c_size_8abf5 rfl rfl rfl (by decide +kernel) ⟨Nat.le_of_ble_eq_true rfl, Nat.le_of_ble_eq_true rfl⟩) ⟨fun a U g mk q => by obtain ⟨e0, qP, qK⟩ := q; exact ⟨e0, qP, va_K.moved (u := U) (U := U.calling g mk a) (Vm.Alike.refl U.vm) qK⟩, va_recv hK hP (ci := 0) (q0 := 1) rfl rfl, fun U hU hW => ⟨rfl, by rw [hU]; exact hPc, va_K.moved hW.alike hKc⟩⟩ rfl rfl hl.1 rfl (lv_room (Nat.le_of_ble_eq_true rfl)) dX0_disqualified_9 ⟨Nat.le_of_ble_eq_true rfl, Nat.le_of_ble_eq_true rfl⟩) hS (fun _ _ h => h.elim) (fun _ h => h.elim) (fun r1 u2 t H1 locs ht hvm hw hB hz1 hk1 hS => ?_)
  have hP := ub_keep hP hk1
  generalize H1 = H at hP hS ⊢
  obtain rfl : (0 : Int32) = r1 := hw.symm
  refine lv_icmp_ge (tgt := 36) hx hb dX0_disqualified_12 (by decide) (fun c3 => ?_) (fun c3 => by first | exact absurd c3 (by decide) | exact absurd (by decide) c3)
  refine lv_iload_n hx hb dX0_disqualified_36 rfl (lv_at hl 1 rfl) ?_
  exact W.iret (v := (0)) hx hb hr (fun t ht hW => ⟨⟨(0), (), rfl, rfl, trivial⟩, hS.F ht⟩) hS.2.2 dX0_disqualified_37
set_option maxHeartbeats 4000000 in
set_option maxRecDepth 100000 in
theorem c_worthIn0 (l : Launch) (dC : Nat → ClassId) (dI : Nat → Nat → Nat) (bk : Nat) (n : Int32)  : Met l yX0_worthIn wsX0_worthIn ({ frames := 0, cells := 0, slots := 0, locals := 0 }) (va_Pc [.ref bk, .int (-1), .int n] (fun U => va_P (dC, dI) vwCl [] U.heap ∧ va_K (dC, dI) vwCl [] U)) (va_Qi (S := Unit) (fun r _ => r = 0) (fun _ _ => True) (fun _ => False)) 0 0 (fun _ => False) := by
  refine Met.ofW (cc := cX0_worthIn) (maxL := 3) (ret := (some .int)) (by decide) rfl ?_
  intro p e s m args below meth c s₁ B hml hv
  obtain ⟨rfl, hP, hK⟩ := hv
  have hx := B.exec
  have hb := B.bytes
  have hr := B.returns
  have hts := atoms_spec (ws := wsX0_worthIn) B.pre
  have hown : s.vm.findClass RX0 = some m.cls := findClass_of_methodNamed B.named
  have hlocks := B.notSynchronized
  have hS : va_S (fun _ : Nat => False) s.heap s.heap [] := va_S.rf
  have hl := lv_entry ([.ref bk, .int (-1), .int n]) (n := 3) (Nat.le_of_ble_eq_true rfl)
  rw [lg_entry_eq]
  generalize (lg_sl ([.ref bk, .int (-1), .int n]) ++ List.replicate (3 - (lg_sl ([.ref bk, .int (-1), .int n])).length) Slot.unset).toArray = ls at hl ⊢
  have hl : lv_has ls 3 [(0, .ref bk), (1, .int (-1)), (2, .int n)] := hl
  refine lv_iload_n hx hb dX0_worthIn_0 rfl (lv_at hl 1 rfl) ?_
  refine lv_iconst (v := -1) hx hb dX0_worthIn_1 (by decide) ?_
  refine lv_icmp_ne (tgt := 9) hx hb dX0_worthIn_2 (by decide) (fun c1 => by first | exact absurd c1 (by decide) | exact absurd (by decide) c1) (fun c1 => ?_)
  refine lv_iconst (v := 0) hx hb dX0_worthIn_5 (by decide) ?_
  refine lv_goto (tgt := 32) hx hb dX0_worthIn_6 (by decide) ?_
  exact W.iret (v := (0)) hx hb hr (fun t ht hW => ⟨⟨(0), (), rfl, rfl, trivial⟩, hS.F ht⟩) hS.2.2 dX0_worthIn_32
set_option maxHeartbeats 4000000 in
set_option maxRecDepth 100000 in
theorem c_held (l : Launch)   : Met l yX12_held wsX12_held ({ frames := 0, cells := 0, slots := 0, locals := 0 }) (va_Pc [.int 0, .int 0, .int 0] (fun _ => True)) (va_Qi (S := Unit) (fun r _ => r = 0) (fun _ _ => True) (fun _ => False)) 0 0 (fun _ => False) := by
  refine Met.ofW (cc := cX12_held) (maxL := 3) (ret := (some .int)) (by decide) rfl ?_
  intro p e s m args below meth c s₁ B hml hv
  obtain ⟨rfl, -⟩ := hv
  have hx := B.exec
  have hb := B.bytes
  have hr := B.returns
  have hts := atoms_spec (ws := wsX12_held) B.pre
  have hown : s.vm.findClass RX12 = some m.cls := findClass_of_methodNamed B.named
  have hlocks := B.notSynchronized
  have hS : va_S (fun _ : Nat => False) s.heap s.heap [] := va_S.rf
  have hl := lv_entry ([.int 0, .int 0, .int 0]) (n := 3) (Nat.le_of_ble_eq_true rfl)
  rw [lg_entry_eq]
  generalize (lg_sl ([.int 0, .int 0, .int 0]) ++ List.replicate (3 - (lg_sl ([.int 0, .int 0, .int 0])).length) Slot.unset).toArray = ls at hl ⊢
  have hl : lv_has ls 3 [(0, .int 0), (1, .int 0), (2, .int 0)] := hl
  refine lv_iload_n hx hb dX12_held_0 rfl (lv_at hl 0 rfl) ?_
  refine lv_iload_n hx hb dX12_held_1 rfl (lv_at hl 1 rfl) ?_
  refine lv_icmp_ge (tgt := 9) hx hb dX12_held_2 (by decide) (fun c1 => ?_) (fun c1 => by first | exact absurd c1 (by decide) | exact absurd (by decide) c1)
  refine lv_iload_n hx hb dX12_held_9 rfl (lv_at hl 0 rfl) ?_
  refine lv_iload_n hx hb dX12_held_10 rfl (lv_at hl 2 rfl) ?_
  refine lv_icmp_le (tgt := 18) hx hb dX12_held_11 (by decide) (fun c2 => ?_) (fun c2 => by first | exact absurd c2 (by decide) | exact absurd (by decide) c2)
  refine lv_iload_n hx hb dX12_held_18 rfl (lv_at hl 0 rfl) ?_
  exact W.iret (v := (0)) hx hb hr (fun t ht hW => ⟨⟨(0), (), rfl, rfl, trivial⟩, hS.F ht⟩) hS.2.2 dX12_held_19
set_option maxHeartbeats 4000000 in
set_option maxRecDepth 100000 in
theorem c_isOneOf0 (l : Launch) (q : Nat)  : Met l yX12_isOneOf wsX12_isOneOf ({ frames := 0, cells := 0, slots := 0, locals := 0 }) (va_Pc [.ref q, .int (-1)] (fun _ => True)) (va_Qi (S := Unit) (fun r _ => r = 0) (fun _ _ => True) (fun _ => False)) 0 0 (fun _ => False) := by
  refine Met.ofW (cc := cX12_isOneOf) (maxL := 2) (ret := (some .boolean)) (by decide) rfl ?_
  intro p e s m args below meth c s₁ B hml hv
  obtain ⟨rfl, -⟩ := hv
  have hx := B.exec
  have hb := B.bytes
  have hr := B.returns
  have hts := atoms_spec (ws := wsX12_isOneOf) B.pre
  have hown : s.vm.findClass RX12 = some m.cls := findClass_of_methodNamed B.named
  have hlocks := B.notSynchronized
  have hS : va_S (fun _ : Nat => False) s.heap s.heap [] := va_S.rf
  have hl := lv_entry ([.ref q, .int (-1)]) (n := 2) (Nat.le_of_ble_eq_true rfl)
  rw [lg_entry_eq]
  generalize (lg_sl ([.ref q, .int (-1)]) ++ List.replicate (2 - (lg_sl ([.ref q, .int (-1)])).length) Slot.unset).toArray = ls at hl ⊢
  have hl : lv_has ls 2 [(0, .ref q), (1, .int (-1))] := hl
  refine lv_iload_n hx hb dX12_isOneOf_0 rfl (lv_at hl 1 rfl) ?_
  refine lv_if_le (tgt := 17) hx hb dX12_isOneOf_1 (by decide) (fun c1 => ?_) (fun c1 => by first | exact absurd c1 (by decide) | exact absurd (by decide) c1)
  refine lv_iconst (v := 0) hx hb dX12_isOneOf_17 (by decide) ?_
  exact W.zret (v := (0)) hx hb hr rfl (fun t ht hW => ⟨⟨(0), (), rfl, rfl, trivial⟩, hS.F ht⟩) hS.2.2 dX12_isOneOf_18
set_option maxHeartbeats 4000000 in
set_option maxRecDepth 100000 in
theorem c_certificate (l : Launch) (dC : Nat → ClassId) (dI : Nat → Nat → Nat) (x : Nat) (bk : Nat) (tp : Nat) (sh : Nat) (sc : Nat) (he : Nat) (of : Nat) (lc : Nat) (lr : Nat) (la : Nat) (le : Nat) (lw : Nat) (lp : Nat) (ltr : Nat) (stk : Nat) (a0 : Int32) (a1 : Int32) (a2 : Int32) (a3 : Int32) (a4 : Int32)  : Met l yX12_certificate wsX12_certificate ({ frames := 2, cells := 0, slots := 0, locals := 80 }) (va_Pc [.ref x, .int a0, .int a1, .int a2, .int a3, .int a4] (fun U => va_P (dC, dI) vwCl [(x, .inr (13, [.ref bk, .ref tp, .ref sh, .ref sc, .ref he, .ref of])), (bk, .inr (1, [.int 0, .int 0, .int 0, .ref lc, .ref lr, .ref la, .ref le, .ref lw, .ref lp, .ref ltr, .ref stk]))] U.heap ∧ va_K (dC, dI) vwCl [] U ∧ ub_NX U)) (va_Qi (S := Unit) (fun r _ => r = -1) (fun _ _ => True) (fun _ => False)) 0 0 (fun _ => False) := by
  refine Met.ofW (cc := cX12_certificate) (maxL := 6) (ret := (some .int)) (by decide) rfl ?_
  intro p e s m args below meth c s₁ B hml hv
  obtain ⟨rfl, hP, hK, hN⟩ := hv
  have hx := B.exec
  have hb := B.bytes
  have hr := B.returns
  have hts := atoms_spec (ws := wsX12_certificate) B.pre
  have hown : s.vm.findClass RX12 = some m.cls := findClass_of_methodNamed B.named
  have hlocks := B.notSynchronized
  have hS : va_S (fun _ : Nat => False) s.heap s.heap [] := va_S.rf
  have hl := lv_entry ([.ref x, .int a0, .int a1, .int a2, .int a3, .int a4]) (n := 6) (Nat.le_of_ble_eq_true rfl)
  rw [lg_entry_eq]
  generalize (lg_sl ([.ref x, .int a0, .int a1, .int a2, .int a3, .int a4]) ++ List.replicate (6 - (lg_sl ([.ref x, .int a0, .int a1, .int a2, .int a3, .int a4])).length) Slot.unset).toArray = ls at hl ⊢
  have hl : lv_has ls 6 [(0, .ref x), (1, .int a0), (2, .int a1), (3, .int a2), (4, .int a3), (5, .int a4)] := hl
  refine lv_aload_n hx hb dX12_certificate_0 rfl (lv_at hl 0 rfl) ?_
  refine va_get (D := (dC, dI)) (ci := 13) (v := .ref bk) (C := RX12) (T := TX12) (N := 6) hx hb hts iw_X12_certificate_X12 hown hK hP 0 rfl rfl 0 (by decide) (hts (.fieldLink RX12 10 "UnlikeBoats" "book" "LUnlikeBoats$Book;") (List.mem_of_getElem? (i := 1) rfl)) (fun _ h9 => h9) rfl dX12_certificate_1 ?_
  refine lv_iload_n hx hb dX12_certificate_4 rfl (lv_at hl 1 rfl) ?_
  have hPc := hP.sub (ws' := [(bk, .inr (1, [.int 0, .int 0, .int 0, .ref lc, .ref lr, .ref la, .ref le, .ref lw, .ref lp, .ref ltr, .ref stk]))]) [1] rfl
  have hKc := hK.sub (tys' := []) [] rfl
  refine va_calli (va_runV (As := [.int a0]) (rest := []) ⟨hx, hb, hml, hown, hts⟩ (c_isBoat0 l dC dI bk lc lr la le lw lp ltr stk a0) (cwV 1 hts gX12_certificate_X0_isBoat rfl rfl rfl (by decide +kernel) ⟨Nat.le_of_ble_eq_true rfl, Nat.le_of_ble_eq_true rfl⟩) ⟨fun a U g mk q => by obtain ⟨e0, qP, qK, qN⟩ := q; exact ⟨e0, qP, va_K.moved (u := U) (U := U.calling g mk a) (Vm.Alike.refl U.vm) qK, ub_NX_c qN⟩, va_recv hK hP (ci := 1) (q0 := 1) rfl rfl, fun U hU hW => ⟨rfl, by rw [hU]; exact hPc, va_K.moved hW.alike hKc, ub_NX_w hW hN⟩⟩ rfl rfl hl.1 rfl (lv_room (Nat.le_of_ble_eq_true rfl)) dX12_certificate_5 ⟨Nat.le_of_ble_eq_true rfl, Nat.le_of_ble_eq_true rfl⟩) hS (fun _ _ h => h.elim) (fun _ h => h.elim) (fun r1 u2 t H1 locs ht hvm hw hB hz1 hk1 hS => ?_)
  have hP := ub_keep hP hk1
  generalize H1 = H at hP hS ⊢
  obtain rfl : (0 : Int32) = r1 := hw.symm
  refine lv_if_eq (tgt := 18) hx hb dX12_certificate_8 (by decide) (fun c3 => ?_) (fun c3 => by first | exact absurd c3 (by decide) | exact absurd (by decide) c3)
  refine lv_iconst (v := -1) hx hb dX12_certificate_18 (by decide) ?_
  exact W.iret (v := (-1)) hx hb hr (fun t ht hW => ⟨⟨(-1), (), rfl, rfl, trivial⟩, hS.F ht⟩) hS.2.2 dX12_certificate_19
set_option maxHeartbeats 4000000 in
set_option maxRecDepth 100000 in
theorem c_measured (l : Launch) (dC : Nat → ClassId) (dI : Nat → Nat → Nat) (x : Nat) (bk : Nat) (tp : Nat) (sh : Nat) (sc : Nat) (he : Nat) (of : Nat) (lc : Nat) (lr : Nat) (la : Nat) (le : Nat) (lw : Nat) (lp : Nat) (ltr : Nat) (stk : Nat) (a0 : Int32) (a1 : Int32) (a2 : Int32)  : Met l yX12_measured wsX12_measured ({ frames := 2, cells := 0, slots := 0, locals := 80 }) (va_Pc [.ref x, .int a0, .int a1, .int a2] (fun U => va_P (dC, dI) vwCl [(x, .inr (13, [.ref bk, .ref tp, .ref sh, .ref sc, .ref he, .ref of])), (bk, .inr (1, [.int 0, .int 0, .int 0, .ref lc, .ref lr, .ref la, .ref le, .ref lw, .ref lp, .ref ltr, .ref stk]))] U.heap ∧ va_K (dC, dI) vwCl [] U ∧ ub_NX U)) (va_Qi (S := Unit) (fun r _ => r = -1) (fun _ _ => True) (fun _ => False)) 0 0 (fun _ => False) := by
  refine Met.ofW (cc := cX12_measured) (maxL := 4) (ret := (some .int)) (by decide) rfl ?_
  intro p e s m args below meth c s₁ B hml hv
  obtain ⟨rfl, hP, hK, hN⟩ := hv
  have hx := B.exec
  have hb := B.bytes
  have hr := B.returns
  have hts := atoms_spec (ws := wsX12_measured) B.pre
  have hown : s.vm.findClass RX12 = some m.cls := findClass_of_methodNamed B.named
  have hlocks := B.notSynchronized
  have hS : va_S (fun _ : Nat => False) s.heap s.heap [] := va_S.rf
  have hl := lv_entry ([.ref x, .int a0, .int a1, .int a2]) (n := 4) (Nat.le_of_ble_eq_true rfl)
  rw [lg_entry_eq]
  generalize (lg_sl ([.ref x, .int a0, .int a1, .int a2]) ++ List.replicate (4 - (lg_sl ([.ref x, .int a0, .int a1, .int a2])).length) Slot.unset).toArray = ls at hl ⊢
  have hl : lv_has ls 4 [(0, .ref x), (1, .int a0), (2, .int a1), (3, .int a2)] := hl
  refine lv_aload_n hx hb dX12_measured_0 rfl (lv_at hl 0 rfl) ?_
  refine va_get (D := (dC, dI)) (ci := 13) (v := .ref bk) (C := RX12) (T := TX12) (N := 6) hx hb hts iw_X12_measured_X12 hown hK hP 0 rfl rfl 0 (by decide) (hts (.fieldLink RX12 10 "UnlikeBoats" "book" "LUnlikeBoats$Book;") (List.mem_of_getElem? (i := 1) rfl)) (fun _ h9 => h9) rfl dX12_measured_1 ?_
  refine lv_iload_n hx hb dX12_measured_4 rfl (lv_at hl 1 rfl) ?_
  have hPc := hP.sub (ws' := [(bk, .inr (1, [.int 0, .int 0, .int 0, .ref lc, .ref lr, .ref la, .ref le, .ref lw, .ref lp, .ref ltr, .ref stk]))]) [1] rfl
  have hKc := hK.sub (tys' := []) [] rfl
  refine va_calli (va_runV (As := [.int a0]) (rest := []) ⟨hx, hb, hml, hown, hts⟩ (c_isBoat0 l dC dI bk lc lr la le lw lp ltr stk a0) (cwV 1 hts gX12_measured_X0_isBoat rfl rfl rfl (by decide +kernel) ⟨Nat.le_of_ble_eq_true rfl, Nat.le_of_ble_eq_true rfl⟩) ⟨fun a U g mk q => by obtain ⟨e0, qP, qK, qN⟩ := q; exact ⟨e0, qP, va_K.moved (u := U) (U := U.calling g mk a) (Vm.Alike.refl U.vm) qK, ub_NX_c qN⟩, va_recv hK hP (ci := 1) (q0 := 1) rfl rfl, fun U hU hW => ⟨rfl, by rw [hU]; exact hPc, va_K.moved hW.alike hKc, ub_NX_w hW hN⟩⟩ rfl rfl hl.1 rfl (lv_room (Nat.le_of_ble_eq_true rfl)) dX12_measured_5 ⟨Nat.le_of_ble_eq_true rfl, Nat.le_of_ble_eq_true rfl⟩) hS (fun _ _ h => h.elim) (fun _ h => h.elim) (fun r1 u2 t H1 locs ht hvm hw hB hz1 hk1 hS => ?_)
  have hP := ub_keep hP hk1
  generalize H1 = H at hP hS ⊢
  obtain rfl : (0 : Int32) = r1 := hw.symm
  refine lv_if_eq (tgt := 29) hx hb dX12_measured_8 (by decide) (fun c3 => ?_) (fun c3 => by first | exact absurd c3 (by decide) | exact absurd (by decide) c3)
  refine lv_iconst (v := -1) hx hb dX12_measured_29 (by decide) ?_
  exact W.iret (v := (-1)) hx hb hr (fun t ht hW => ⟨⟨(-1), (), rfl, rfl, trivial⟩, hS.F ht⟩) hS.2.2 dX12_measured_30
set_option maxHeartbeats 4000000 in
set_option maxRecDepth 100000 in
theorem c_force (l : Launch) (dC : Nat → ClassId) (dI : Nat → Nat → Nat) (x : Nat) (bk : Nat) (tp : Nat) (sh : Nat) (sc : Nat) (he : Nat) (of : Nat) (lc : Nat) (lr : Nat) (la : Nat) (le : Nat) (lw : Nat) (lp : Nat) (ltr : Nat) (stk : Nat) (ed : Nat) (a0 : Int32) (a1 : Int32)  : Met l yX12_force wsX12_force ({ frames := 2, cells := 0, slots := 0, locals := 80 }) (va_Pc [.ref x, .int a0, .int a1] (fun U => va_P (dC, dI) vwCl [(x, .inr (13, [.ref bk, .ref tp, .ref sh, .ref sc, .ref he, .ref of])), (bk, .inr (1, [.int 0, .int 0, .int 0, .ref lc, .ref lr, .ref la, .ref le, .ref lw, .ref lp, .ref ltr, .ref stk])), (lr, .inr (0, [.int 0, .ref ed, .int 0]))] U.heap ∧ va_K (dC, dI) vwCl [] U ∧ ub_NX U)) (va_Qi (S := Unit) (fun r _ => r = -1) (fun _ _ => True) (fun _ => False)) 0 0 (fun _ => False) := by
  refine Met.ofW (cc := cX12_force) (maxL := 3) (ret := (some .int)) (by decide) rfl ?_
  intro p e s m args below meth c s₁ B hml hv
  obtain ⟨rfl, hP, hK, hN⟩ := hv
  have hx := B.exec
  have hb := B.bytes
  have hr := B.returns
  have hts := atoms_spec (ws := wsX12_force) B.pre
  have hown : s.vm.findClass RX12 = some m.cls := findClass_of_methodNamed B.named
  have hlocks := B.notSynchronized
  have hS : va_S (fun _ : Nat => False) s.heap s.heap [] := va_S.rf
  have hl := lv_entry ([.ref x, .int a0, .int a1]) (n := 3) (Nat.le_of_ble_eq_true rfl)
  rw [lg_entry_eq]
  generalize (lg_sl ([.ref x, .int a0, .int a1]) ++ List.replicate (3 - (lg_sl ([.ref x, .int a0, .int a1])).length) Slot.unset).toArray = ls at hl ⊢
  have hl : lv_has ls 3 [(0, .ref x), (1, .int a0), (2, .int a1)] := hl
  refine lv_iload_n hx hb dX12_force_0 rfl (lv_at hl 1 rfl) ?_
  refine va_calli (va_runS (As := [.int a0]) (rest := []) ⟨hx, hb, hml, hown, hts⟩ (c_isDay l a0) (va_cwS 1 hts gX12_force_X12_isDay rfl rfl rfl (by decide +kernel) ⟨Nat.le_of_ble_eq_true rfl, Nat.le_of_ble_eq_true rfl⟩) ⟨fun _ _ _ _ q => q, fun _ _ _ => ⟨rfl, trivial⟩⟩ rfl rfl hl.1 rfl (lv_room (Nat.le_of_ble_eq_true rfl)) dX12_force_1 ⟨Nat.le_of_ble_eq_true rfl, Nat.le_of_ble_eq_true rfl⟩) hS (fun _ _ h => h.elim) (fun _ h => h.elim) (fun r1 u2 t H1 locs ht hvm hw hB hz1 hk1 hS => ?_)
  have hP := ub_keep hP hk1
  generalize H1 = H at hP hS ⊢
  rcases hw with ⟨rfl, hw1, hw2⟩ | ⟨rfl, hw1⟩
  · --in
    have d3a := hw1
    have d3b := hw2
    refine lv_if_eq (tgt := 18) hx hb dX12_force_4 (by decide) (fun c4 => by first | exact absurd c4 (by decide) | exact absurd (by decide) c4) (fun c4 => ?_)
    refine lv_aload_n hx hb dX12_force_7 rfl (lv_at hl 0 rfl) ?_
    refine va_get (D := (dC, dI)) (ci := 13) (v := .ref bk) (C := RX12) (T := TX12) (N := 6) hx hb hts iw_X12_force_X12 hown hK hP 0 rfl rfl 0 (by decide) (hts (.fieldLink RX12 10 "UnlikeBoats" "book" "LUnlikeBoats$Book;") (List.mem_of_getElem? (i := 1) rfl)) (fun _ h9 => h9) rfl dX12_force_8 ?_
    refine lv_iload_n hx hb dX12_force_11 rfl (lv_at hl 2 rfl) ?_
    have hPc := hP.sub (ws' := [(bk, .inr (1, [.int 0, .int 0, .int 0, .ref lc, .ref lr, .ref la, .ref le, .ref lw, .ref lp, .ref ltr, .ref stk]))]) [1] rfl
    have hKc := hK.sub (tys' := []) [] rfl
    refine va_calli (va_runV (As := [.int a1]) (rest := []) ⟨hx, hb, hml, hown, hts⟩ (c_isKnown l dC dI bk lc lr la le lw lp ltr stk a1) (cwV 1 hts gX12_force_X0_isKnown rfl rfl rfl (by decide +kernel) ⟨Nat.le_of_ble_eq_true rfl, Nat.le_of_ble_eq_true rfl⟩) ⟨fun a U g mk q => by obtain ⟨e0, qP, qK, qN⟩ := q; exact ⟨e0, qP, va_K.moved (u := U) (U := U.calling g mk a) (Vm.Alike.refl U.vm) qK, ub_NX_c qN⟩, va_recv hK hP (ci := 1) (q0 := 1) rfl rfl, fun U hU hW => ⟨rfl, by rw [hU]; exact hPc, va_K.moved hW.alike hKc, ub_NX_w hW hN⟩⟩ rfl rfl hl.1 rfl (lv_room (Nat.le_of_ble_eq_true rfl)) dX12_force_12 ⟨Nat.le_of_ble_eq_true rfl, Nat.le_of_ble_eq_true rfl⟩) hS (fun _ _ h => h.elim) (fun _ h => h.elim) (fun r5 u6 t H1 locs ht hvm hw hB hz1 hk1 hS => ?_)
    have hP := ub_keep hP hk1
    generalize H1 = H at hP hS ⊢
    rcases hw with ⟨rfl, hw1, hw2⟩ | ⟨rfl, hw1⟩
    · --in
      have d7a := hw1
      have d7b := hw2
      refine lv_if_ne (tgt := 20) hx hb dX12_force_15 (by decide) (fun c8 => ?_) (fun c8 => by first | exact absurd c8 (by decide) | exact absurd (by decide) c8)
      refine lv_aload_n hx hb dX12_force_20 rfl (lv_at hl 0 rfl) ?_
      refine va_get (D := (dC, dI)) (ci := 13) (v := .ref bk) (C := RX12) (T := TX12) (N := 6) hx hb hts iw_X12_force_X12 hown hK hP 0 rfl rfl 0 (by decide) (hts (.fieldLink RX12 10 "UnlikeBoats" "book" "LUnlikeBoats$Book;") (List.mem_of_getElem? (i := 1) rfl)) (fun _ h9 => h9) rfl dX12_force_21 ?_
      refine lv_iload_n hx hb dX12_force_24 rfl (lv_at hl 1 rfl) ?_
      refine lv_iload_n hx hb dX12_force_25 rfl (lv_at hl 2 rfl) ?_
      have hPc := hP.sub (ws' := [(bk, .inr (1, [.int 0, .int 0, .int 0, .ref lc, .ref lr, .ref la, .ref le, .ref lw, .ref lp, .ref ltr, .ref stk])), (lr, .inr (0, [.int 0, .ref ed, .int 0]))]) [1, 2] rfl
      have hKc := hK.sub (tys' := []) [] rfl
      refine va_calli (va_runV (As := [.int a0, .int a1]) (rest := []) ⟨hx, hb, hml, hown, hts⟩ (c_rulesOn0 l dC dI bk lc lr la le lw lp ltr stk ed a0 a1) (cwV 2 hts gX12_force_X0_rulesOn rfl rfl rfl (by decide +kernel) ⟨Nat.le_of_ble_eq_true rfl, Nat.le_of_ble_eq_true rfl⟩) ⟨fun a U g mk q => by obtain ⟨e0, qP, qK, qN⟩ := q; exact ⟨e0, qP, va_K.moved (u := U) (U := U.calling g mk a) (Vm.Alike.refl U.vm) qK, ub_NX_c qN⟩, va_recv hK hP (ci := 1) (q0 := 1) rfl rfl, fun U hU hW => ⟨rfl, by rw [hU]; exact hPc, va_K.moved hW.alike hKc, ub_NX_w hW hN⟩⟩ rfl rfl hl.1 rfl (lv_room (Nat.le_of_ble_eq_true rfl)) dX12_force_26 ⟨Nat.le_of_ble_eq_true rfl, Nat.le_of_ble_eq_true rfl⟩) hS (fun _ _ h => h.elim) (fun _ h => h.elim) (fun r9 u10 t H1 locs ht hvm hw hB hz1 hk1 hS => ?_)
      have hP := ub_keep hP hk1
      generalize H1 = H at hP hS ⊢
      obtain rfl : (-1 : Int32) = r9 := hw.symm
      exact W.iret (v := (-1)) hx hb hr (fun t ht hW => ⟨⟨(-1), (), rfl, rfl, trivial⟩, hS.F ht⟩) hS.2.2 dX12_force_29
    · --out
      have d11 := hw1
      refine lv_if_ne (tgt := 20) hx hb dX12_force_15 (by decide) (fun c12 => by first | exact absurd c12 (by decide) | exact absurd (by decide) c12) (fun c12 => ?_)
      refine lv_iconst (v := -1) hx hb dX12_force_18 (by decide) ?_
      exact W.iret (v := (-1)) hx hb hr (fun t ht hW => ⟨⟨(-1), (), rfl, rfl, trivial⟩, hS.F ht⟩) hS.2.2 dX12_force_19
  · --out
    have d13 := hw1
    refine lv_if_eq (tgt := 18) hx hb dX12_force_4 (by decide) (fun c14 => ?_) (fun c14 => by first | exact absurd c14 (by decide) | exact absurd (by decide) c14)
    refine lv_iconst (v := -1) hx hb dX12_force_18 (by decide) ?_
    exact W.iret (v := (-1)) hx hb hr (fun t ht hW => ⟨⟨(-1), (), rfl, rfl, trivial⟩, hS.F ht⟩) hS.2.2 dX12_force_19
set_option maxHeartbeats 4000000 in
set_option maxRecDepth 100000 in
theorem c_number (l : Launch) (dC : Nat → ClassId) (dI : Nat → Nat → Nat) (x : Nat) (bk : Nat) (tp : Nat) (sh : Nat) (sc : Nat) (he : Nat) (of : Nat) (lc : Nat) (lr : Nat) (la : Nat) (le : Nat) (lw : Nat) (lp : Nat) (ltr : Nat) (stk : Nat) (a0 : Int32) (a1 : Int32) (a2 : Int32)  : Met l yX12_number wsX12_number ({ frames := 2, cells := 0, slots := 0, locals := 80 }) (va_Pc [.ref x, .int a0, .int a1, .int a2] (fun U => va_P (dC, dI) vwCl [(x, .inr (13, [.ref bk, .ref tp, .ref sh, .ref sc, .ref he, .ref of])), (bk, .inr (1, [.int 0, .int 0, .int 0, .ref lc, .ref lr, .ref la, .ref le, .ref lw, .ref lp, .ref ltr, .ref stk]))] U.heap ∧ va_K (dC, dI) vwCl [] U ∧ ub_NX U)) (va_Qi (S := Unit) (fun r _ => r = -1) (fun _ _ => True) (fun _ => False)) 0 0 (fun _ => False) := by
  refine Met.ofW (cc := cX12_number) (maxL := 4) (ret := (some .int)) (by decide) rfl ?_
  intro p e s m args below meth c s₁ B hml hv
  obtain ⟨rfl, hP, hK, hN⟩ := hv
  have hx := B.exec
  have hb := B.bytes
  have hr := B.returns
  have hts := atoms_spec (ws := wsX12_number) B.pre
  have hown : s.vm.findClass RX12 = some m.cls := findClass_of_methodNamed B.named
  have hlocks := B.notSynchronized
  have hS : va_S (fun _ : Nat => False) s.heap s.heap [] := va_S.rf
  have hl := lv_entry ([.ref x, .int a0, .int a1, .int a2]) (n := 4) (Nat.le_of_ble_eq_true rfl)
  rw [lg_entry_eq]
  generalize (lg_sl ([.ref x, .int a0, .int a1, .int a2]) ++ List.replicate (4 - (lg_sl ([.ref x, .int a0, .int a1, .int a2])).length) Slot.unset).toArray = ls at hl ⊢
  have hl : lv_has ls 4 [(0, .ref x), (1, .int a0), (2, .int a1), (3, .int a2)] := hl
  refine lv_aload_n hx hb dX12_number_0 rfl (lv_at hl 0 rfl) ?_
  refine va_get (D := (dC, dI)) (ci := 13) (v := .ref bk) (C := RX12) (T := TX12) (N := 6) hx hb hts iw_X12_number_X12 hown hK hP 0 rfl rfl 0 (by decide) (hts (.fieldLink RX12 10 "UnlikeBoats" "book" "LUnlikeBoats$Book;") (List.mem_of_getElem? (i := 1) rfl)) (fun _ h9 => h9) rfl dX12_number_1 ?_
  refine lv_iload_n hx hb dX12_number_4 rfl (lv_at hl 1 rfl) ?_
  have hPc := hP.sub (ws' := [(bk, .inr (1, [.int 0, .int 0, .int 0, .ref lc, .ref lr, .ref la, .ref le, .ref lw, .ref lp, .ref ltr, .ref stk]))]) [1] rfl
  have hKc := hK.sub (tys' := []) [] rfl
  refine va_calli (va_runV (As := [.int a0]) (rest := []) ⟨hx, hb, hml, hown, hts⟩ (c_isBoat0 l dC dI bk lc lr la le lw lp ltr stk a0) (cwV 1 hts gX12_number_X0_isBoat rfl rfl rfl (by decide +kernel) ⟨Nat.le_of_ble_eq_true rfl, Nat.le_of_ble_eq_true rfl⟩) ⟨fun a U g mk q => by obtain ⟨e0, qP, qK, qN⟩ := q; exact ⟨e0, qP, va_K.moved (u := U) (U := U.calling g mk a) (Vm.Alike.refl U.vm) qK, ub_NX_c qN⟩, va_recv hK hP (ci := 1) (q0 := 1) rfl rfl, fun U hU hW => ⟨rfl, by rw [hU]; exact hPc, va_K.moved hW.alike hKc, ub_NX_w hW hN⟩⟩ rfl rfl hl.1 rfl (lv_room (Nat.le_of_ble_eq_true rfl)) dX12_number_5 ⟨Nat.le_of_ble_eq_true rfl, Nat.le_of_ble_eq_true rfl⟩) hS (fun _ _ h => h.elim) (fun _ h => h.elim) (fun r1 u2 t H1 locs ht hvm hw hB hz1 hk1 hS => ?_)
  have hP := ub_keep hP hk1
  generalize H1 = H at hP hS ⊢
  obtain rfl : (0 : Int32) = r1 := hw.symm
  refine lv_if_eq (tgt := 29) hx hb dX12_number_8 (by decide) (fun c3 => ?_) (fun c3 => by first | exact absurd c3 (by decide) | exact absurd (by decide) c3)
  refine lv_iconst (v := -1) hx hb dX12_number_29 (by decide) ?_
  exact W.iret (v := (-1)) hx hb hr (fun t ht hW => ⟨⟨(-1), (), rfl, rfl, trivial⟩, hS.F ht⟩) hS.2.2 dX12_number_30
set_option maxHeartbeats 4000000 in
set_option maxRecDepth 100000 in
theorem c_swift (l : Launch) (dC : Nat → ClassId) (dI : Nat → Nat → Nat) (x : Nat) (bk : Nat) (tp : Nat) (sh : Nat) (sc : Nat) (he : Nat) (of : Nat) (lc : Nat) (lr : Nat) (la : Nat) (le : Nat) (lw : Nat) (lp : Nat) (ltr : Nat) (stk : Nat) (ed : Nat) (a0 : Int32) (a1 : Int32)  : Met l yX12_swift wsX12_swift ({ frames := 2, cells := 0, slots := 0, locals := 80 }) (va_Pc [.ref x, .int a0, .int a1] (fun U => va_P (dC, dI) vwCl [(x, .inr (13, [.ref bk, .ref tp, .ref sh, .ref sc, .ref he, .ref of])), (bk, .inr (1, [.int 0, .int 0, .int 0, .ref lc, .ref lr, .ref la, .ref le, .ref lw, .ref lp, .ref ltr, .ref stk])), (la, .inr (0, [.int 0, .ref ed, .int 0]))] U.heap ∧ va_K (dC, dI) vwCl [] U ∧ ub_NX U)) (va_Qi (S := Unit) (fun r _ => r = 0) (fun _ _ => True) (fun _ => False)) 0 0 (fun _ => False) := by
  refine Met.ofW (cc := cX12_swift) (maxL := 3) (ret := (some .boolean)) (by decide) rfl ?_
  intro p e s m args below meth c s₁ B hml hv
  obtain ⟨rfl, hP, hK, hN⟩ := hv
  have hx := B.exec
  have hb := B.bytes
  have hr := B.returns
  have hts := atoms_spec (ws := wsX12_swift) B.pre
  have hown : s.vm.findClass RX12 = some m.cls := findClass_of_methodNamed B.named
  have hlocks := B.notSynchronized
  have hS : va_S (fun _ : Nat => False) s.heap s.heap [] := va_S.rf
  have hl := lv_entry ([.ref x, .int a0, .int a1]) (n := 3) (Nat.le_of_ble_eq_true rfl)
  rw [lg_entry_eq]
  generalize (lg_sl ([.ref x, .int a0, .int a1]) ++ List.replicate (3 - (lg_sl ([.ref x, .int a0, .int a1])).length) Slot.unset).toArray = ls at hl ⊢
  have hl : lv_has ls 3 [(0, .ref x), (1, .int a0), (2, .int a1)] := hl
  refine lv_aload_n hx hb dX12_swift_0 rfl (lv_at hl 0 rfl) ?_
  refine va_get (D := (dC, dI)) (ci := 13) (v := .ref bk) (C := RX12) (T := TX12) (N := 6) hx hb hts iw_X12_swift_X12 hown hK hP 0 rfl rfl 0 (by decide) (hts (.fieldLink RX12 10 "UnlikeBoats" "book" "LUnlikeBoats$Book;") (List.mem_of_getElem? (i := 1) rfl)) (fun _ h9 => h9) rfl dX12_swift_1 ?_
  refine lv_iload_n hx hb dX12_swift_4 rfl (lv_at hl 1 rfl) ?_
  have hPc := hP.sub (ws' := [(bk, .inr (1, [.int 0, .int 0, .int 0, .ref lc, .ref lr, .ref la, .ref le, .ref lw, .ref lp, .ref ltr, .ref stk])), (la, .inr (0, [.int 0, .ref ed, .int 0]))]) [1, 2] rfl
  have hKc := hK.sub (tys' := []) [] rfl
  refine va_calli (va_runV (As := [.int a0]) (rest := []) ⟨hx, hb, hml, hown, hts⟩ (c_isRace0 l dC dI bk lc lr la le lw lp ltr stk ed a0) (cwV 1 hts gX12_swift_X0_isRace rfl rfl rfl (by decide +kernel) ⟨Nat.le_of_ble_eq_true rfl, Nat.le_of_ble_eq_true rfl⟩) ⟨fun a U g mk q => by obtain ⟨e0, qP, qK, qN⟩ := q; exact ⟨e0, qP, va_K.moved (u := U) (U := U.calling g mk a) (Vm.Alike.refl U.vm) qK, ub_NX_c qN⟩, va_recv hK hP (ci := 1) (q0 := 1) rfl rfl, fun U hU hW => ⟨rfl, by rw [hU]; exact hPc, va_K.moved hW.alike hKc, ub_NX_w hW hN⟩⟩ rfl rfl hl.1 rfl (lv_room (Nat.le_of_ble_eq_true rfl)) dX12_swift_5 ⟨Nat.le_of_ble_eq_true rfl, Nat.le_of_ble_eq_true rfl⟩) hS (fun _ _ h => h.elim) (fun _ h => h.elim) (fun r1 u2 t H1 locs ht hvm hw hB hz1 hk1 hS => ?_)
  have hP := ub_keep hP hk1
  generalize H1 = H at hP hS ⊢
  obtain rfl : (0 : Int32) = r1 := hw.symm
  refine lv_if_eq (tgt := 21) hx hb dX12_swift_8 (by decide) (fun c3 => ?_) (fun c3 => by first | exact absurd c3 (by decide) | exact absurd (by decide) c3)
  refine lv_iconst (v := 0) hx hb dX12_swift_21 (by decide) ?_
  exact W.zret (v := (0)) hx hb hr rfl (fun t ht hW => ⟨⟨(0), (), rfl, rfl, trivial⟩, hS.F ht⟩) hS.2.2 dX12_swift_22
set_option maxHeartbeats 4000000 in
set_option maxRecDepth 100000 in
theorem c_enter (l : Launch) (dC : Nat → ClassId) (dI : Nat → Nat → Nat) (x : Nat) (bk : Nat) (tp : Nat) (sh : Nat) (sc : Nat) (he : Nat) (of : Nat) (lc : Nat) (lr : Nat) (la : Nat) (le : Nat) (lw : Nat) (lp : Nat) (ltr : Nat) (stk : Nat) (ed : Nat) (a0 : Int32) (a1 : Int32)  : Met l yX12_enter wsX12_enter ({ frames := 2, cells := 0, slots := 0, locals := 80 }) (va_Pc [.ref x, .int a0, .int a1] (fun U => va_P (dC, dI) vwCl [(x, .inr (13, [.ref bk, .ref tp, .ref sh, .ref sc, .ref he, .ref of])), (bk, .inr (1, [.int 0, .int 0, .int 0, .ref lc, .ref lr, .ref la, .ref le, .ref lw, .ref lp, .ref ltr, .ref stk])), (la, .inr (0, [.int 0, .ref ed, .int 0]))] U.heap ∧ va_K (dC, dI) vwCl [] U ∧ ub_NX U)) (va_Qi (S := Unit) (fun r _ => r = 0) (fun _ _ => True) (fun _ => False)) 0 0 (fun _ => False) := by
  refine Met.ofW (cc := cX12_enter) (maxL := 3) (ret := (some .boolean)) (by decide) rfl ?_
  intro p e s m args below meth c s₁ B hml hv
  obtain ⟨rfl, hP, hK, hN⟩ := hv
  have hx := B.exec
  have hb := B.bytes
  have hr := B.returns
  have hts := atoms_spec (ws := wsX12_enter) B.pre
  have hown : s.vm.findClass RX12 = some m.cls := findClass_of_methodNamed B.named
  have hlocks := B.notSynchronized
  have hS : va_S (fun _ : Nat => False) s.heap s.heap [] := va_S.rf
  have hl := lv_entry ([.ref x, .int a0, .int a1]) (n := 3) (Nat.le_of_ble_eq_true rfl)
  rw [lg_entry_eq]
  generalize (lg_sl ([.ref x, .int a0, .int a1]) ++ List.replicate (3 - (lg_sl ([.ref x, .int a0, .int a1])).length) Slot.unset).toArray = ls at hl ⊢
  have hl : lv_has ls 3 [(0, .ref x), (1, .int a0), (2, .int a1)] := hl
  refine lv_aload_n hx hb dX12_enter_0 rfl (lv_at hl 0 rfl) ?_
  refine va_get (D := (dC, dI)) (ci := 13) (v := .ref bk) (C := RX12) (T := TX12) (N := 6) hx hb hts iw_X12_enter_X12 hown hK hP 0 rfl rfl 0 (by decide) (hts (.fieldLink RX12 10 "UnlikeBoats" "book" "LUnlikeBoats$Book;") (List.mem_of_getElem? (i := 1) rfl)) (fun _ h9 => h9) rfl dX12_enter_1 ?_
  refine lv_iload_n hx hb dX12_enter_4 rfl (lv_at hl 1 rfl) ?_
  have hPc := hP.sub (ws' := [(bk, .inr (1, [.int 0, .int 0, .int 0, .ref lc, .ref lr, .ref la, .ref le, .ref lw, .ref lp, .ref ltr, .ref stk])), (la, .inr (0, [.int 0, .ref ed, .int 0]))]) [1, 2] rfl
  have hKc := hK.sub (tys' := []) [] rfl
  refine va_calli (va_runV (As := [.int a0]) (rest := []) ⟨hx, hb, hml, hown, hts⟩ (c_isRace0 l dC dI bk lc lr la le lw lp ltr stk ed a0) (cwV 1 hts gX12_enter_X0_isRace rfl rfl rfl (by decide +kernel) ⟨Nat.le_of_ble_eq_true rfl, Nat.le_of_ble_eq_true rfl⟩) ⟨fun a U g mk q => by obtain ⟨e0, qP, qK, qN⟩ := q; exact ⟨e0, qP, va_K.moved (u := U) (U := U.calling g mk a) (Vm.Alike.refl U.vm) qK, ub_NX_c qN⟩, va_recv hK hP (ci := 1) (q0 := 1) rfl rfl, fun U hU hW => ⟨rfl, by rw [hU]; exact hPc, va_K.moved hW.alike hKc, ub_NX_w hW hN⟩⟩ rfl rfl hl.1 rfl (lv_room (Nat.le_of_ble_eq_true rfl)) dX12_enter_5 ⟨Nat.le_of_ble_eq_true rfl, Nat.le_of_ble_eq_true rfl⟩) hS (fun _ _ h => h.elim) (fun _ h => h.elim) (fun r1 u2 t H1 locs ht hvm hw hB hz1 hk1 hS => ?_)
  have hP := ub_keep hP hk1
  generalize H1 = H at hP hS ⊢
  obtain rfl : (0 : Int32) = r1 := hw.symm
  refine lv_if_eq (tgt := 34) hx hb dX12_enter_8 (by decide) (fun c3 => ?_) (fun c3 => by first | exact absurd c3 (by decide) | exact absurd (by decide) c3)
  refine lv_iconst (v := 0) hx hb dX12_enter_34 (by decide) ?_
  exact W.zret (v := (0)) hx hb hr rfl (fun t ht hW => ⟨⟨(0), (), rfl, rfl, trivial⟩, hS.F ht⟩) hS.2.2 dX12_enter_35
set_option maxHeartbeats 4000000 in
set_option maxRecDepth 100000 in
theorem c_result (l : Launch) (dC : Nat → ClassId) (dI : Nat → Nat → Nat) (x : Nat) (bk : Nat) (tp : Nat) (sh : Nat) (sc : Nat) (he : Nat) (of : Nat) (lc : Nat) (lr : Nat) (la : Nat) (le : Nat) (lw : Nat) (lp : Nat) (ltr : Nat) (stk : Nat) (ed : Nat) (a0 : Int32) (a1 : Int32) (a2 : Int32) (a3 : Int32)  : Met l yX12_result wsX12_result ({ frames := 3, cells := 0, slots := 0, locals := 120 }) (va_Pc [.ref x, .int a0, .int a1, .int a2, .int a3] (fun U => va_P (dC, dI) vwCl [(x, .inr (13, [.ref bk, .ref tp, .ref sh, .ref sc, .ref he, .ref of])), (bk, .inr (1, [.int 0, .int 0, .int 0, .ref lc, .ref lr, .ref la, .ref le, .ref lw, .ref lp, .ref ltr, .ref stk])), (la, .inr (0, [.int 0, .ref ed, .int 0]))] U.heap ∧ va_K (dC, dI) vwCl [] U ∧ ub_NX U)) (va_Qi (S := Unit) (fun r _ => r = 0) (fun _ _ => True) (fun _ => False)) 0 0 (fun _ => False) := by
  refine Met.ofW (cc := cX12_result) (maxL := 6) (ret := (some .boolean)) (by decide) rfl ?_
  intro p e s m args below meth c s₁ B hml hv
  obtain ⟨rfl, hP, hK, hN⟩ := hv
  have hx := B.exec
  have hb := B.bytes
  have hr := B.returns
  have hts := atoms_spec (ws := wsX12_result) B.pre
  have hown : s.vm.findClass RX12 = some m.cls := findClass_of_methodNamed B.named
  have hlocks := B.notSynchronized
  have hS : va_S (fun _ : Nat => False) s.heap s.heap [] := va_S.rf
  have hl := lv_entry ([.ref x, .int a0, .int a1, .int a2, .int a3]) (n := 6) (Nat.le_of_ble_eq_true rfl)
  rw [lg_entry_eq]
  generalize (lg_sl ([.ref x, .int a0, .int a1, .int a2, .int a3]) ++ List.replicate (6 - (lg_sl ([.ref x, .int a0, .int a1, .int a2, .int a3])).length) Slot.unset).toArray = ls at hl ⊢
  have hl : lv_has ls 6 [(0, .ref x), (1, .int a0), (2, .int a1), (3, .int a2), (4, .int a3)] := hl
  refine lv_aload_n hx hb dX12_result_0 rfl (lv_at hl 0 rfl) ?_
  refine va_get (D := (dC, dI)) (ci := 13) (v := .ref bk) (C := RX12) (T := TX12) (N := 6) hx hb hts iw_X12_result_X12 hown hK hP 0 rfl rfl 0 (by decide) (hts (.fieldLink RX12 10 "UnlikeBoats" "book" "LUnlikeBoats$Book;") (List.mem_of_getElem? (i := 1) rfl)) (fun _ h9 => h9) rfl dX12_result_1 ?_
  refine lv_iload_n hx hb dX12_result_4 rfl (lv_at hl 1 rfl) ?_
  refine lv_iload_n hx hb dX12_result_5 rfl (lv_at hl 2 rfl) ?_
  have hPc := hP.sub (ws' := [(bk, .inr (1, [.int 0, .int 0, .int 0, .ref lc, .ref lr, .ref la, .ref le, .ref lw, .ref lp, .ref ltr, .ref stk])), (la, .inr (0, [.int 0, .ref ed, .int 0]))]) [1, 2] rfl
  have hKc := hK.sub (tys' := []) [] rfl
  refine va_calli (va_runV (As := [.int a0, .int a1]) (rest := []) ⟨hx, hb, hml, hown, hts⟩ (c_isEntered0 l dC dI bk lc lr la le lw lp ltr stk ed a0 a1) (cwV 2 hts gX12_result_X0_isEntered rfl rfl rfl (by decide +kernel) ⟨Nat.le_of_ble_eq_true rfl, Nat.le_of_ble_eq_true rfl⟩) ⟨fun a U g mk q => by obtain ⟨e0, qP, qK, qN⟩ := q; exact ⟨e0, qP, va_K.moved (u := U) (U := U.calling g mk a) (Vm.Alike.refl U.vm) qK, ub_NX_c qN⟩, va_recv hK hP (ci := 1) (q0 := 1) rfl rfl, fun U hU hW => ⟨rfl, by rw [hU]; exact hPc, va_K.moved hW.alike hKc, ub_NX_w hW hN⟩⟩ rfl rfl hl.1 rfl (lv_room (Nat.le_of_ble_eq_true rfl)) dX12_result_6 ⟨Nat.le_of_ble_eq_true rfl, Nat.le_of_ble_eq_true rfl⟩) hS (fun _ _ h => h.elim) (fun _ h => h.elim) (fun r1 u2 t H1 locs ht hvm hw hB hz1 hk1 hS => ?_)
  have hP := ub_keep hP hk1
  generalize H1 = H at hP hS ⊢
  obtain rfl : (0 : Int32) = r1 := hw.symm
  refine lv_if_eq (tgt := 21) hx hb dX12_result_9 (by decide) (fun c3 => ?_) (fun c3 => by first | exact absurd c3 (by decide) | exact absurd (by decide) c3)
  refine lv_iconst (v := 0) hx hb dX12_result_21 (by decide) ?_
  exact W.zret (v := (0)) hx hb hr rfl (fun t ht hW => ⟨⟨(0), (), rfl, rfl, trivial⟩, hS.F ht⟩) hS.2.2 dX12_result_22
set_option maxHeartbeats 4000000 in
set_option maxRecDepth 100000 in
theorem c_coded (l : Launch) (dC : Nat → ClassId) (dI : Nat → Nat → Nat) (x : Nat) (bk : Nat) (tp : Nat) (sh : Nat) (sc : Nat) (he : Nat) (of : Nat) (lc : Nat) (lr : Nat) (la : Nat) (le : Nat) (lw : Nat) (lp : Nat) (ltr : Nat) (stk : Nat) (ed : Nat) (a0 : Int32) (a1 : Int32) (a2 : Int32)  : Met l yX12_coded wsX12_coded ({ frames := 3, cells := 0, slots := 0, locals := 120 }) (va_Pc [.ref x, .int a0, .int a1, .int a2] (fun U => va_P (dC, dI) vwCl [(x, .inr (13, [.ref bk, .ref tp, .ref sh, .ref sc, .ref he, .ref of])), (bk, .inr (1, [.int 0, .int 0, .int 0, .ref lc, .ref lr, .ref la, .ref le, .ref lw, .ref lp, .ref ltr, .ref stk])), (la, .inr (0, [.int 0, .ref ed, .int 0]))] U.heap ∧ va_K (dC, dI) vwCl [] U ∧ ub_NX U)) (va_Qi (S := Unit) (fun r _ => r = -1) (fun _ _ => True) (fun _ => False)) 0 0 (fun _ => False) := by
  refine Met.ofW (cc := cX12_coded) (maxL := 4) (ret := (some .int)) (by decide) rfl ?_
  intro p e s m args below meth c s₁ B hml hv
  obtain ⟨rfl, hP, hK, hN⟩ := hv
  have hx := B.exec
  have hb := B.bytes
  have hr := B.returns
  have hts := atoms_spec (ws := wsX12_coded) B.pre
  have hown : s.vm.findClass RX12 = some m.cls := findClass_of_methodNamed B.named
  have hlocks := B.notSynchronized
  have hS : va_S (fun _ : Nat => False) s.heap s.heap [] := va_S.rf
  have hl := lv_entry ([.ref x, .int a0, .int a1, .int a2]) (n := 4) (Nat.le_of_ble_eq_true rfl)
  rw [lg_entry_eq]
  generalize (lg_sl ([.ref x, .int a0, .int a1, .int a2]) ++ List.replicate (4 - (lg_sl ([.ref x, .int a0, .int a1, .int a2])).length) Slot.unset).toArray = ls at hl ⊢
  have hl : lv_has ls 4 [(0, .ref x), (1, .int a0), (2, .int a1), (3, .int a2)] := hl
  refine lv_aload_n hx hb dX12_coded_0 rfl (lv_at hl 0 rfl) ?_
  refine va_get (D := (dC, dI)) (ci := 13) (v := .ref bk) (C := RX12) (T := TX12) (N := 6) hx hb hts iw_X12_coded_X12 hown hK hP 0 rfl rfl 0 (by decide) (hts (.fieldLink RX12 10 "UnlikeBoats" "book" "LUnlikeBoats$Book;") (List.mem_of_getElem? (i := 1) rfl)) (fun _ h9 => h9) rfl dX12_coded_1 ?_
  refine lv_iload_n hx hb dX12_coded_4 rfl (lv_at hl 1 rfl) ?_
  refine lv_iload_n hx hb dX12_coded_5 rfl (lv_at hl 3 rfl) ?_
  have hPc := hP.sub (ws' := [(bk, .inr (1, [.int 0, .int 0, .int 0, .ref lc, .ref lr, .ref la, .ref le, .ref lw, .ref lp, .ref ltr, .ref stk])), (la, .inr (0, [.int 0, .ref ed, .int 0]))]) [1, 2] rfl
  have hKc := hK.sub (tys' := []) [] rfl
  refine va_calli (va_runV (As := [.int a0, .int a2]) (rest := []) ⟨hx, hb, hml, hown, hts⟩ (c_isCounted0 l dC dI bk lc lr la le lw lp ltr stk ed a0 a2) (cwV 2 hts gX12_coded_X0_isCounted rfl rfl rfl (by decide +kernel) ⟨Nat.le_of_ble_eq_true rfl, Nat.le_of_ble_eq_true rfl⟩) ⟨fun a U g mk q => by obtain ⟨e0, qP, qK, qN⟩ := q; exact ⟨e0, qP, va_K.moved (u := U) (U := U.calling g mk a) (Vm.Alike.refl U.vm) qK, ub_NX_c qN⟩, va_recv hK hP (ci := 1) (q0 := 1) rfl rfl, fun U hU hW => ⟨rfl, by rw [hU]; exact hPc, va_K.moved hW.alike hKc, ub_NX_w hW hN⟩⟩ rfl rfl hl.1 rfl (lv_room (Nat.le_of_ble_eq_true rfl)) dX12_coded_6 ⟨Nat.le_of_ble_eq_true rfl, Nat.le_of_ble_eq_true rfl⟩) hS (fun _ _ h => h.elim) (fun _ h => h.elim) (fun r1 u2 t H1 locs ht hvm hw hB hz1 hk1 hS => ?_)
  have hP := ub_keep hP hk1
  generalize H1 = H at hP hS ⊢
  obtain rfl : (0 : Int32) = r1 := hw.symm
  refine lv_if_eq (tgt := 23) hx hb dX12_coded_9 (by decide) (fun c3 => ?_) (fun c3 => by first | exact absurd c3 (by decide) | exact absurd (by decide) c3)
  refine lv_iconst (v := -1) hx hb dX12_coded_23 (by decide) ?_
  exact W.iret (v := (-1)) hx hb hr (fun t ht hW => ⟨⟨(-1), (), rfl, rfl, trivial⟩, hS.F ht⟩) hS.2.2 dX12_coded_24
set_option maxHeartbeats 4000000 in
set_option maxRecDepth 100000 in
theorem c_corrected (l : Launch) (dC : Nat → ClassId) (dI : Nat → Nat → Nat) (x : Nat) (bk : Nat) (tp : Nat) (sh : Nat) (sc : Nat) (he : Nat) (of : Nat) (lc : Nat) (lr : Nat) (la : Nat) (le : Nat) (lw : Nat) (lp : Nat) (ltr : Nat) (stk : Nat) (ed : Nat) (a0 : Int32) (a1 : Int32) (a2 : Int32)  : Met l yX12_corrected wsX12_corrected ({ frames := 3, cells := 0, slots := 0, locals := 120 }) (va_Pc [.ref x, .int a0, .int a1, .int a2] (fun U => va_P (dC, dI) vwCl [(x, .inr (13, [.ref bk, .ref tp, .ref sh, .ref sc, .ref he, .ref of])), (bk, .inr (1, [.int 0, .int 0, .int 0, .ref lc, .ref lr, .ref la, .ref le, .ref lw, .ref lp, .ref ltr, .ref stk])), (la, .inr (0, [.int 0, .ref ed, .int 0]))] U.heap ∧ va_K (dC, dI) vwCl [] U ∧ ub_NX U)) (va_Qi (S := Unit) (fun r _ => r = -1000000000) (fun _ _ => True) (fun _ => False)) 0 0 (fun _ => False) := by
  refine Met.ofW (cc := cX12_corrected) (maxL := 4) (ret := (some .int)) (by decide) rfl ?_
  intro p e s m args below meth c s₁ B hml hv
  obtain ⟨rfl, hP, hK, hN⟩ := hv
  have hx := B.exec
  have hb := B.bytes
  have hr := B.returns
  have hts := atoms_spec (ws := wsX12_corrected) B.pre
  have hown : s.vm.findClass RX12 = some m.cls := findClass_of_methodNamed B.named
  have hlocks := B.notSynchronized
  have hS : va_S (fun _ : Nat => False) s.heap s.heap [] := va_S.rf
  have hl := lv_entry ([.ref x, .int a0, .int a1, .int a2]) (n := 4) (Nat.le_of_ble_eq_true rfl)
  rw [lg_entry_eq]
  generalize (lg_sl ([.ref x, .int a0, .int a1, .int a2]) ++ List.replicate (4 - (lg_sl ([.ref x, .int a0, .int a1, .int a2])).length) Slot.unset).toArray = ls at hl ⊢
  have hl : lv_has ls 4 [(0, .ref x), (1, .int a0), (2, .int a1), (3, .int a2)] := hl
  refine lv_aload_n hx hb dX12_corrected_0 rfl (lv_at hl 0 rfl) ?_
  refine va_get (D := (dC, dI)) (ci := 13) (v := .ref bk) (C := RX12) (T := TX12) (N := 6) hx hb hts iw_X12_corrected_X12 hown hK hP 0 rfl rfl 0 (by decide) (hts (.fieldLink RX12 10 "UnlikeBoats" "book" "LUnlikeBoats$Book;") (List.mem_of_getElem? (i := 1) rfl)) (fun _ h9 => h9) rfl dX12_corrected_1 ?_
  refine lv_iload_n hx hb dX12_corrected_4 rfl (lv_at hl 1 rfl) ?_
  refine lv_iload_n hx hb dX12_corrected_5 rfl (lv_at hl 3 rfl) ?_
  have hPc := hP.sub (ws' := [(bk, .inr (1, [.int 0, .int 0, .int 0, .ref lc, .ref lr, .ref la, .ref le, .ref lw, .ref lp, .ref ltr, .ref stk])), (la, .inr (0, [.int 0, .ref ed, .int 0]))]) [1, 2] rfl
  have hKc := hK.sub (tys' := []) [] rfl
  refine va_calli (va_runV (As := [.int a0, .int a2]) (rest := []) ⟨hx, hb, hml, hown, hts⟩ (c_isCounted0 l dC dI bk lc lr la le lw lp ltr stk ed a0 a2) (cwV 2 hts gX12_corrected_X0_isCounted rfl rfl rfl (by decide +kernel) ⟨Nat.le_of_ble_eq_true rfl, Nat.le_of_ble_eq_true rfl⟩) ⟨fun a U g mk q => by obtain ⟨e0, qP, qK, qN⟩ := q; exact ⟨e0, qP, va_K.moved (u := U) (U := U.calling g mk a) (Vm.Alike.refl U.vm) qK, ub_NX_c qN⟩, va_recv hK hP (ci := 1) (q0 := 1) rfl rfl, fun U hU hW => ⟨rfl, by rw [hU]; exact hPc, va_K.moved hW.alike hKc, ub_NX_w hW hN⟩⟩ rfl rfl hl.1 rfl (lv_room (Nat.le_of_ble_eq_true rfl)) dX12_corrected_6 ⟨Nat.le_of_ble_eq_true rfl, Nat.le_of_ble_eq_true rfl⟩) hS (fun _ _ h => h.elim) (fun _ h => h.elim) (fun r1 u2 t H1 locs ht hvm hw hB hz1 hk1 hS => ?_)
  have hP := ub_keep hP hk1
  generalize H1 = H at hP hS ⊢
  obtain rfl : (0 : Int32) = r1 := hw.symm
  refine lv_if_eq (tgt := 23) hx hb dX12_corrected_9 (by decide) (fun c3 => ?_) (fun c3 => by first | exact absurd c3 (by decide) | exact absurd (by decide) c3)
  refine lv_ldc hx hb hown (hts (.constant RX12 172 (-1000000000)) (List.mem_of_getElem? (i := 2) rfl)) dX12_corrected_23 ?_
  exact W.iret (v := (-1000000000)) hx hb hr (fun t ht hW => ⟨⟨(-1000000000), (), rfl, rfl, trivial⟩, hS.F ht⟩) hS.2.2 dX12_corrected_25
set_option maxHeartbeats 4000000 in
set_option maxRecDepth 100000 in
theorem c_placed (l : Launch) (dC : Nat → ClassId) (dI : Nat → Nat → Nat) (x : Nat) (bk : Nat) (tp : Nat) (sh : Nat) (sc : Nat) (he : Nat) (of : Nat) (lc : Nat) (lr : Nat) (la : Nat) (le : Nat) (lw : Nat) (lp : Nat) (ltr : Nat) (stk : Nat) (ed : Nat) (a0 : Int32) (a1 : Int32) (a2 : Int32)  : Met l yX12_placed wsX12_placed ({ frames := 3, cells := 0, slots := 0, locals := 120 }) (va_Pc [.ref x, .int a0, .int a1, .int a2] (fun U => va_P (dC, dI) vwCl [(x, .inr (13, [.ref bk, .ref tp, .ref sh, .ref sc, .ref he, .ref of])), (bk, .inr (1, [.int 0, .int 0, .int 0, .ref lc, .ref lr, .ref la, .ref le, .ref lw, .ref lp, .ref ltr, .ref stk])), (la, .inr (0, [.int 0, .ref ed, .int 0]))] U.heap ∧ va_K (dC, dI) vwCl [] U ∧ ub_NX U)) (va_Qi (S := Unit) (fun r _ => r = -1) (fun _ _ => True) (fun _ => False)) 0 0 (fun _ => False) := by
  refine Met.ofW (cc := cX12_placed) (maxL := 4) (ret := (some .int)) (by decide) rfl ?_
  intro p e s m args below meth c s₁ B hml hv
  obtain ⟨rfl, hP, hK, hN⟩ := hv
  have hx := B.exec
  have hb := B.bytes
  have hr := B.returns
  have hts := atoms_spec (ws := wsX12_placed) B.pre
  have hown : s.vm.findClass RX12 = some m.cls := findClass_of_methodNamed B.named
  have hlocks := B.notSynchronized
  have hS : va_S (fun _ : Nat => False) s.heap s.heap [] := va_S.rf
  have hl := lv_entry ([.ref x, .int a0, .int a1, .int a2]) (n := 4) (Nat.le_of_ble_eq_true rfl)
  rw [lg_entry_eq]
  generalize (lg_sl ([.ref x, .int a0, .int a1, .int a2]) ++ List.replicate (4 - (lg_sl ([.ref x, .int a0, .int a1, .int a2])).length) Slot.unset).toArray = ls at hl ⊢
  have hl : lv_has ls 4 [(0, .ref x), (1, .int a0), (2, .int a1), (3, .int a2)] := hl
  refine lv_aload_n hx hb dX12_placed_0 rfl (lv_at hl 0 rfl) ?_
  refine va_get (D := (dC, dI)) (ci := 13) (v := .ref bk) (C := RX12) (T := TX12) (N := 6) hx hb hts iw_X12_placed_X12 hown hK hP 0 rfl rfl 0 (by decide) (hts (.fieldLink RX12 10 "UnlikeBoats" "book" "LUnlikeBoats$Book;") (List.mem_of_getElem? (i := 1) rfl)) (fun _ h9 => h9) rfl dX12_placed_1 ?_
  refine lv_iload_n hx hb dX12_placed_4 rfl (lv_at hl 1 rfl) ?_
  refine lv_iload_n hx hb dX12_placed_5 rfl (lv_at hl 3 rfl) ?_
  have hPc := hP.sub (ws' := [(bk, .inr (1, [.int 0, .int 0, .int 0, .ref lc, .ref lr, .ref la, .ref le, .ref lw, .ref lp, .ref ltr, .ref stk])), (la, .inr (0, [.int 0, .ref ed, .int 0]))]) [1, 2] rfl
  have hKc := hK.sub (tys' := []) [] rfl
  refine va_calli (va_runV (As := [.int a0, .int a2]) (rest := []) ⟨hx, hb, hml, hown, hts⟩ (c_isCounted0 l dC dI bk lc lr la le lw lp ltr stk ed a0 a2) (cwV 2 hts gX12_placed_X0_isCounted rfl rfl rfl (by decide +kernel) ⟨Nat.le_of_ble_eq_true rfl, Nat.le_of_ble_eq_true rfl⟩) ⟨fun a U g mk q => by obtain ⟨e0, qP, qK, qN⟩ := q; exact ⟨e0, qP, va_K.moved (u := U) (U := U.calling g mk a) (Vm.Alike.refl U.vm) qK, ub_NX_c qN⟩, va_recv hK hP (ci := 1) (q0 := 1) rfl rfl, fun U hU hW => ⟨rfl, by rw [hU]; exact hPc, va_K.moved hW.alike hKc, ub_NX_w hW hN⟩⟩ rfl rfl hl.1 rfl (lv_room (Nat.le_of_ble_eq_true rfl)) dX12_placed_6 ⟨Nat.le_of_ble_eq_true rfl, Nat.le_of_ble_eq_true rfl⟩) hS (fun _ _ h => h.elim) (fun _ h => h.elim) (fun r1 u2 t H1 locs ht hvm hw hB hz1 hk1 hS => ?_)
  have hP := ub_keep hP hk1
  generalize H1 = H at hP hS ⊢
  obtain rfl : (0 : Int32) = r1 := hw.symm
  refine lv_if_eq (tgt := 23) hx hb dX12_placed_9 (by decide) (fun c3 => ?_) (fun c3 => by first | exact absurd c3 (by decide) | exact absurd (by decide) c3)
  refine lv_iconst (v := -1) hx hb dX12_placed_23 (by decide) ?_
  exact W.iret (v := (-1)) hx hb hr (fun t ht hW => ⟨⟨(-1), (), rfl, rfl, trivial⟩, hS.F ht⟩) hS.2.2 dX12_placed_24
set_option maxHeartbeats 4000000 in
set_option maxRecDepth 100000 in
theorem c_redress (l : Launch) (dC : Nat → ClassId) (dI : Nat → Nat → Nat) (x : Nat) (bk : Nat) (tp : Nat) (sh : Nat) (sc : Nat) (he : Nat) (of : Nat) (lc : Nat) (lr : Nat) (la : Nat) (le : Nat) (lw : Nat) (lp : Nat) (ltr : Nat) (stk : Nat) (ed : Nat) (a0 : Int32) (a1 : Int32)  : Met l yX12_redress wsX12_redress ({ frames := 3, cells := 0, slots := 0, locals := 120 }) (va_Pc [.ref x, .int a0, .int a1] (fun U => va_P (dC, dI) vwCl [(x, .inr (13, [.ref bk, .ref tp, .ref sh, .ref sc, .ref he, .ref of])), (bk, .inr (1, [.int 0, .int 0, .int 0, .ref lc, .ref lr, .ref la, .ref le, .ref lw, .ref lp, .ref ltr, .ref stk])), (la, .inr (0, [.int 0, .ref ed, .int 0]))] U.heap ∧ va_K (dC, dI) vwCl [] U ∧ ub_NX U)) (va_Qi (S := Unit) (fun r _ => r = 0) (fun _ _ => True) (fun _ => False)) 0 0 (fun _ => False) := by
  refine Met.ofW (cc := cX12_redress) (maxL := 4) (ret := (some .boolean)) (by decide) rfl ?_
  intro p e s m args below meth c s₁ B hml hv
  obtain ⟨rfl, hP, hK, hN⟩ := hv
  have hx := B.exec
  have hb := B.bytes
  have hr := B.returns
  have hts := atoms_spec (ws := wsX12_redress) B.pre
  have hown : s.vm.findClass RX12 = some m.cls := findClass_of_methodNamed B.named
  have hlocks := B.notSynchronized
  have hS : va_S (fun _ : Nat => False) s.heap s.heap [] := va_S.rf
  have hl := lv_entry ([.ref x, .int a0, .int a1]) (n := 4) (Nat.le_of_ble_eq_true rfl)
  rw [lg_entry_eq]
  generalize (lg_sl ([.ref x, .int a0, .int a1]) ++ List.replicate (4 - (lg_sl ([.ref x, .int a0, .int a1])).length) Slot.unset).toArray = ls at hl ⊢
  have hl : lv_has ls 4 [(0, .ref x), (1, .int a0), (2, .int a1)] := hl
  refine lv_aload_n hx hb dX12_redress_0 rfl (lv_at hl 0 rfl) ?_
  refine va_get (D := (dC, dI)) (ci := 13) (v := .ref bk) (C := RX12) (T := TX12) (N := 6) hx hb hts iw_X12_redress_X12 hown hK hP 0 rfl rfl 0 (by decide) (hts (.fieldLink RX12 10 "UnlikeBoats" "book" "LUnlikeBoats$Book;") (List.mem_of_getElem? (i := 1) rfl)) (fun _ h9 => h9) rfl dX12_redress_1 ?_
  refine lv_iload_n hx hb dX12_redress_4 rfl (lv_at hl 1 rfl) ?_
  refine lv_iload_n hx hb dX12_redress_5 rfl (lv_at hl 2 rfl) ?_
  have hPc := hP.sub (ws' := [(bk, .inr (1, [.int 0, .int 0, .int 0, .ref lc, .ref lr, .ref la, .ref le, .ref lw, .ref lp, .ref ltr, .ref stk])), (la, .inr (0, [.int 0, .ref ed, .int 0]))]) [1, 2] rfl
  have hKc := hK.sub (tys' := []) [] rfl
  refine va_calli (va_runV (As := [.int a0, .int a1]) (rest := []) ⟨hx, hb, hml, hown, hts⟩ (c_isEntered0 l dC dI bk lc lr la le lw lp ltr stk ed a0 a1) (cwV 2 hts gX12_redress_X0_isEntered rfl rfl rfl (by decide +kernel) ⟨Nat.le_of_ble_eq_true rfl, Nat.le_of_ble_eq_true rfl⟩) ⟨fun a U g mk q => by obtain ⟨e0, qP, qK, qN⟩ := q; exact ⟨e0, qP, va_K.moved (u := U) (U := U.calling g mk a) (Vm.Alike.refl U.vm) qK, ub_NX_c qN⟩, va_recv hK hP (ci := 1) (q0 := 1) rfl rfl, fun U hU hW => ⟨rfl, by rw [hU]; exact hPc, va_K.moved hW.alike hKc, ub_NX_w hW hN⟩⟩ rfl rfl hl.1 rfl (lv_room (Nat.le_of_ble_eq_true rfl)) dX12_redress_6 ⟨Nat.le_of_ble_eq_true rfl, Nat.le_of_ble_eq_true rfl⟩) hS (fun _ _ h => h.elim) (fun _ h => h.elim) (fun r1 u2 t H1 locs ht hvm hw hB hz1 hk1 hS => ?_)
  have hP := ub_keep hP hk1
  generalize H1 = H at hP hS ⊢
  obtain rfl : (0 : Int32) = r1 := hw.symm
  refine lv_if_eq (tgt := 24) hx hb dX12_redress_9 (by decide) (fun c3 => ?_) (fun c3 => by first | exact absurd c3 (by decide) | exact absurd (by decide) c3)
  refine lv_iconst (v := 0) hx hb dX12_redress_24 (by decide) ?_
  exact W.zret (v := (0)) hx hb hr rfl (fun t ht hW => ⟨⟨(0), (), rfl, rfl, trivial⟩, hS.F ht⟩) hS.2.2 dX12_redress_25
set_option maxHeartbeats 4000000 in
set_option maxRecDepth 100000 in
theorem c_points (l : Launch) (dC : Nat → ClassId) (dI : Nat → Nat → Nat) (x : Nat) (bk : Nat) (tp : Nat) (sh : Nat) (sc : Nat) (he : Nat) (of : Nat) (lc : Nat) (lr : Nat) (la : Nat) (le : Nat) (lw : Nat) (lp : Nat) (ltr : Nat) (stk : Nat) (ed : Nat) (a0 : Int32) (a1 : Int32) (a2 : Int32)  : Met l yX12_points wsX12_points ({ frames := 3, cells := 0, slots := 0, locals := 120 }) (va_Pc [.ref x, .int a0, .int a1, .int a2] (fun U => va_P (dC, dI) vwCl [(x, .inr (13, [.ref bk, .ref tp, .ref sh, .ref sc, .ref he, .ref of])), (bk, .inr (1, [.int 0, .int 0, .int 0, .ref lc, .ref lr, .ref la, .ref le, .ref lw, .ref lp, .ref ltr, .ref stk])), (la, .inr (0, [.int 0, .ref ed, .int 0]))] U.heap ∧ va_K (dC, dI) vwCl [] U ∧ ub_NX U)) (va_Qi (S := Unit) (fun r _ => r = -1) (fun _ _ => True) (fun _ => False)) 0 0 (fun _ => False) := by
  refine Met.ofW (cc := cX12_points) (maxL := 4) (ret := (some .int)) (by decide) rfl ?_
  intro p e s m args below meth c s₁ B hml hv
  obtain ⟨rfl, hP, hK, hN⟩ := hv
  have hx := B.exec
  have hb := B.bytes
  have hr := B.returns
  have hts := atoms_spec (ws := wsX12_points) B.pre
  have hown : s.vm.findClass RX12 = some m.cls := findClass_of_methodNamed B.named
  have hlocks := B.notSynchronized
  have hS : va_S (fun _ : Nat => False) s.heap s.heap [] := va_S.rf
  have hl := lv_entry ([.ref x, .int a0, .int a1, .int a2]) (n := 4) (Nat.le_of_ble_eq_true rfl)
  rw [lg_entry_eq]
  generalize (lg_sl ([.ref x, .int a0, .int a1, .int a2]) ++ List.replicate (4 - (lg_sl ([.ref x, .int a0, .int a1, .int a2])).length) Slot.unset).toArray = ls at hl ⊢
  have hl : lv_has ls 4 [(0, .ref x), (1, .int a0), (2, .int a1), (3, .int a2)] := hl
  refine lv_aload_n hx hb dX12_points_0 rfl (lv_at hl 0 rfl) ?_
  refine va_get (D := (dC, dI)) (ci := 13) (v := .ref bk) (C := RX12) (T := TX12) (N := 6) hx hb hts iw_X12_points_X12 hown hK hP 0 rfl rfl 0 (by decide) (hts (.fieldLink RX12 10 "UnlikeBoats" "book" "LUnlikeBoats$Book;") (List.mem_of_getElem? (i := 1) rfl)) (fun _ h9 => h9) rfl dX12_points_1 ?_
  refine lv_iload_n hx hb dX12_points_4 rfl (lv_at hl 1 rfl) ?_
  refine lv_iload_n hx hb dX12_points_5 rfl (lv_at hl 3 rfl) ?_
  have hPc := hP.sub (ws' := [(bk, .inr (1, [.int 0, .int 0, .int 0, .ref lc, .ref lr, .ref la, .ref le, .ref lw, .ref lp, .ref ltr, .ref stk])), (la, .inr (0, [.int 0, .ref ed, .int 0]))]) [1, 2] rfl
  have hKc := hK.sub (tys' := []) [] rfl
  refine va_calli (va_runV (As := [.int a0, .int a2]) (rest := []) ⟨hx, hb, hml, hown, hts⟩ (c_isCounted0 l dC dI bk lc lr la le lw lp ltr stk ed a0 a2) (cwV 2 hts gX12_points_X0_isCounted rfl rfl rfl (by decide +kernel) ⟨Nat.le_of_ble_eq_true rfl, Nat.le_of_ble_eq_true rfl⟩) ⟨fun a U g mk q => by obtain ⟨e0, qP, qK, qN⟩ := q; exact ⟨e0, qP, va_K.moved (u := U) (U := U.calling g mk a) (Vm.Alike.refl U.vm) qK, ub_NX_c qN⟩, va_recv hK hP (ci := 1) (q0 := 1) rfl rfl, fun U hU hW => ⟨rfl, by rw [hU]; exact hPc, va_K.moved hW.alike hKc, ub_NX_w hW hN⟩⟩ rfl rfl hl.1 rfl (lv_room (Nat.le_of_ble_eq_true rfl)) dX12_points_6 ⟨Nat.le_of_ble_eq_true rfl, Nat.le_of_ble_eq_true rfl⟩) hS (fun _ _ h => h.elim) (fun _ h => h.elim) (fun r1 u2 t H1 locs ht hvm hw hB hz1 hk1 hS => ?_)
  have hP := ub_keep hP hk1
  generalize H1 = H at hP hS ⊢
  obtain rfl : (0 : Int32) = r1 := hw.symm
  refine lv_if_eq (tgt := 23) hx hb dX12_points_9 (by decide) (fun c3 => ?_) (fun c3 => by first | exact absurd c3 (by decide) | exact absurd (by decide) c3)
  refine lv_iconst (v := -1) hx hb dX12_points_23 (by decide) ?_
  exact W.iret (v := (-1)) hx hb hr (fun t ht hW => ⟨⟨(-1), (), rfl, rfl, trivial⟩, hS.F ht⟩) hS.2.2 dX12_points_24
set_option maxHeartbeats 4000000 in
set_option maxRecDepth 100000 in
theorem c_thrown (l : Launch) (dC : Nat → ClassId) (dI : Nat → Nat → Nat) (x : Nat) (bk : Nat) (tp : Nat) (sh : Nat) (sc : Nat) (he : Nat) (of : Nat) (lc : Nat) (lr : Nat) (la : Nat) (le : Nat) (lw : Nat) (lp : Nat) (ltr : Nat) (stk : Nat) (ed : Nat) (a0 : Int32) (a1 : Int32) (a2 : Int32)  : Met l yX12_thrown wsX12_thrown ({ frames := 3, cells := 0, slots := 0, locals := 120 }) (va_Pc [.ref x, .int a0, .int a1, .int a2] (fun U => va_P (dC, dI) vwCl [(x, .inr (13, [.ref bk, .ref tp, .ref sh, .ref sc, .ref he, .ref of])), (bk, .inr (1, [.int 0, .int 0, .int 0, .ref lc, .ref lr, .ref la, .ref le, .ref lw, .ref lp, .ref ltr, .ref stk])), (la, .inr (0, [.int 0, .ref ed, .int 0]))] U.heap ∧ va_K (dC, dI) vwCl [] U ∧ ub_NX U)) (va_Qi (S := Unit) (fun r _ => r = -1) (fun _ _ => True) (fun _ => False)) 0 0 (fun _ => False) := by
  refine Met.ofW (cc := cX12_thrown) (maxL := 4) (ret := (some .int)) (by decide) rfl ?_
  intro p e s m args below meth c s₁ B hml hv
  obtain ⟨rfl, hP, hK, hN⟩ := hv
  have hx := B.exec
  have hb := B.bytes
  have hr := B.returns
  have hts := atoms_spec (ws := wsX12_thrown) B.pre
  have hown : s.vm.findClass RX12 = some m.cls := findClass_of_methodNamed B.named
  have hlocks := B.notSynchronized
  have hS : va_S (fun _ : Nat => False) s.heap s.heap [] := va_S.rf
  have hl := lv_entry ([.ref x, .int a0, .int a1, .int a2]) (n := 4) (Nat.le_of_ble_eq_true rfl)
  rw [lg_entry_eq]
  generalize (lg_sl ([.ref x, .int a0, .int a1, .int a2]) ++ List.replicate (4 - (lg_sl ([.ref x, .int a0, .int a1, .int a2])).length) Slot.unset).toArray = ls at hl ⊢
  have hl : lv_has ls 4 [(0, .ref x), (1, .int a0), (2, .int a1), (3, .int a2)] := hl
  refine lv_aload_n hx hb dX12_thrown_0 rfl (lv_at hl 0 rfl) ?_
  refine va_get (D := (dC, dI)) (ci := 13) (v := .ref bk) (C := RX12) (T := TX12) (N := 6) hx hb hts iw_X12_thrown_X12 hown hK hP 0 rfl rfl 0 (by decide) (hts (.fieldLink RX12 10 "UnlikeBoats" "book" "LUnlikeBoats$Book;") (List.mem_of_getElem? (i := 1) rfl)) (fun _ h9 => h9) rfl dX12_thrown_1 ?_
  refine lv_iload_n hx hb dX12_thrown_4 rfl (lv_at hl 1 rfl) ?_
  refine lv_iload_n hx hb dX12_thrown_5 rfl (lv_at hl 3 rfl) ?_
  have hPc := hP.sub (ws' := [(bk, .inr (1, [.int 0, .int 0, .int 0, .ref lc, .ref lr, .ref la, .ref le, .ref lw, .ref lp, .ref ltr, .ref stk])), (la, .inr (0, [.int 0, .ref ed, .int 0]))]) [1, 2] rfl
  have hKc := hK.sub (tys' := []) [] rfl
  refine va_calli (va_runV (As := [.int a0, .int a2]) (rest := []) ⟨hx, hb, hml, hown, hts⟩ (c_isCounted0 l dC dI bk lc lr la le lw lp ltr stk ed a0 a2) (cwV 2 hts gX12_thrown_X0_isCounted rfl rfl rfl (by decide +kernel) ⟨Nat.le_of_ble_eq_true rfl, Nat.le_of_ble_eq_true rfl⟩) ⟨fun a U g mk q => by obtain ⟨e0, qP, qK, qN⟩ := q; exact ⟨e0, qP, va_K.moved (u := U) (U := U.calling g mk a) (Vm.Alike.refl U.vm) qK, ub_NX_c qN⟩, va_recv hK hP (ci := 1) (q0 := 1) rfl rfl, fun U hU hW => ⟨rfl, by rw [hU]; exact hPc, va_K.moved hW.alike hKc, ub_NX_w hW hN⟩⟩ rfl rfl hl.1 rfl (lv_room (Nat.le_of_ble_eq_true rfl)) dX12_thrown_6 ⟨Nat.le_of_ble_eq_true rfl, Nat.le_of_ble_eq_true rfl⟩) hS (fun _ _ h => h.elim) (fun _ h => h.elim) (fun r1 u2 t H1 locs ht hvm hw hB hz1 hk1 hS => ?_)
  have hP := ub_keep hP hk1
  generalize H1 = H at hP hS ⊢
  obtain rfl : (0 : Int32) = r1 := hw.symm
  refine lv_if_eq (tgt := 23) hx hb dX12_thrown_9 (by decide) (fun c3 => ?_) (fun c3 => by first | exact absurd c3 (by decide) | exact absurd (by decide) c3)
  refine lv_iconst (v := -1) hx hb dX12_thrown_23 (by decide) ?_
  exact W.iret (v := (-1)) hx hb hr (fun t ht hW => ⟨⟨(-1), (), rfl, rfl, trivial⟩, hS.F ht⟩) hS.2.2 dX12_thrown_24
set_option maxHeartbeats 4000000 in
set_option maxRecDepth 100000 in
theorem c_total (l : Launch) (dC : Nat → ClassId) (dI : Nat → Nat → Nat) (x : Nat) (bk : Nat) (tp : Nat) (sh : Nat) (sc : Nat) (he : Nat) (of : Nat) (lc : Nat) (lr : Nat) (la : Nat) (le : Nat) (lw : Nat) (lp : Nat) (ltr : Nat) (stk : Nat) (a0 : Int32) (a1 : Int32)  : Met l yX12_total wsX12_total ({ frames := 2, cells := 0, slots := 0, locals := 80 }) (va_Pc [.ref x, .int a0, .int a1] (fun U => va_P (dC, dI) vwCl [(x, .inr (13, [.ref bk, .ref tp, .ref sh, .ref sc, .ref he, .ref of])), (bk, .inr (1, [.int 0, .int 0, .int 0, .ref lc, .ref lr, .ref la, .ref le, .ref lw, .ref lp, .ref ltr, .ref stk]))] U.heap ∧ va_K (dC, dI) vwCl [] U ∧ ub_NX U)) (va_Qi (S := Unit) (fun r _ => r = -1) (fun _ _ => True) (fun _ => False)) 0 0 (fun _ => False) := by
  refine Met.ofW (cc := cX12_total) (maxL := 3) (ret := (some .int)) (by decide) rfl ?_
  intro p e s m args below meth c s₁ B hml hv
  obtain ⟨rfl, hP, hK, hN⟩ := hv
  have hx := B.exec
  have hb := B.bytes
  have hr := B.returns
  have hts := atoms_spec (ws := wsX12_total) B.pre
  have hown : s.vm.findClass RX12 = some m.cls := findClass_of_methodNamed B.named
  have hlocks := B.notSynchronized
  have hS : va_S (fun _ : Nat => False) s.heap s.heap [] := va_S.rf
  have hl := lv_entry ([.ref x, .int a0, .int a1]) (n := 3) (Nat.le_of_ble_eq_true rfl)
  rw [lg_entry_eq]
  generalize (lg_sl ([.ref x, .int a0, .int a1]) ++ List.replicate (3 - (lg_sl ([.ref x, .int a0, .int a1])).length) Slot.unset).toArray = ls at hl ⊢
  have hl : lv_has ls 3 [(0, .ref x), (1, .int a0), (2, .int a1)] := hl
  refine lv_aload_n hx hb dX12_total_0 rfl (lv_at hl 0 rfl) ?_
  refine va_get (D := (dC, dI)) (ci := 13) (v := .ref bk) (C := RX12) (T := TX12) (N := 6) hx hb hts iw_X12_total_X12 hown hK hP 0 rfl rfl 0 (by decide) (hts (.fieldLink RX12 10 "UnlikeBoats" "book" "LUnlikeBoats$Book;") (List.mem_of_getElem? (i := 1) rfl)) (fun _ h9 => h9) rfl dX12_total_1 ?_
  refine lv_iload_n hx hb dX12_total_4 rfl (lv_at hl 1 rfl) ?_
  have hPc := hP.sub (ws' := [(bk, .inr (1, [.int 0, .int 0, .int 0, .ref lc, .ref lr, .ref la, .ref le, .ref lw, .ref lp, .ref ltr, .ref stk]))]) [1] rfl
  have hKc := hK.sub (tys' := []) [] rfl
  refine va_calli (va_runV (As := [.int a0]) (rest := []) ⟨hx, hb, hml, hown, hts⟩ (c_isBoat0 l dC dI bk lc lr la le lw lp ltr stk a0) (cwV 1 hts gX12_total_X0_isBoat rfl rfl rfl (by decide +kernel) ⟨Nat.le_of_ble_eq_true rfl, Nat.le_of_ble_eq_true rfl⟩) ⟨fun a U g mk q => by obtain ⟨e0, qP, qK, qN⟩ := q; exact ⟨e0, qP, va_K.moved (u := U) (U := U.calling g mk a) (Vm.Alike.refl U.vm) qK, ub_NX_c qN⟩, va_recv hK hP (ci := 1) (q0 := 1) rfl rfl, fun U hU hW => ⟨rfl, by rw [hU]; exact hPc, va_K.moved hW.alike hKc, ub_NX_w hW hN⟩⟩ rfl rfl hl.1 rfl (lv_room (Nat.le_of_ble_eq_true rfl)) dX12_total_5 ⟨Nat.le_of_ble_eq_true rfl, Nat.le_of_ble_eq_true rfl⟩) hS (fun _ _ h => h.elim) (fun _ h => h.elim) (fun r1 u2 t H1 locs ht hvm hw hB hz1 hk1 hS => ?_)
  have hP := ub_keep hP hk1
  generalize H1 = H at hP hS ⊢
  obtain rfl : (0 : Int32) = r1 := hw.symm
  refine lv_if_eq (tgt := 22) hx hb dX12_total_8 (by decide) (fun c3 => ?_) (fun c3 => by first | exact absurd c3 (by decide) | exact absurd (by decide) c3)
  refine lv_iconst (v := -1) hx hb dX12_total_22 (by decide) ?_
  exact W.iret (v := (-1)) hx hb hr (fun t ht hW => ⟨⟨(-1), (), rfl, rfl, trivial⟩, hS.F ht⟩) hS.2.2 dX12_total_23
set_option maxHeartbeats 4000000 in
set_option maxRecDepth 100000 in
theorem c_word (l : Launch) (dC : Nat → ClassId) (dI : Nat → Nat → Nat) (x : Nat) (bk : Nat) (tp : Nat) (sh : Nat) (sc : Nat) (he : Nat) (of : Nat) (lc : Nat) (lr : Nat) (la : Nat) (le : Nat) (lw : Nat) (lp : Nat) (ltr : Nat) (stk : Nat) (ed : Nat) (a0 : Int32) (a1 : Int32) (a2 : Int32) (a3 : Int32) (a4 : Int32) (a5 : Int32) (a6 : Int32)  : Met l yX12_word wsX12_word ({ frames := 3, cells := 0, slots := 0, locals := 120 }) (va_Pc [.ref x, .int a0, .int a1, .int a2, .int a3, .int a4, .int a5, .int a6] (fun U => va_P (dC, dI) vwCl [(x, .inr (13, [.ref bk, .ref tp, .ref sh, .ref sc, .ref he, .ref of])), (bk, .inr (1, [.int 0, .int 0, .int 0, .ref lc, .ref lr, .ref la, .ref le, .ref lw, .ref lp, .ref ltr, .ref stk])), (la, .inr (0, [.int 0, .ref ed, .int 0]))] U.heap ∧ va_K (dC, dI) vwCl [] U ∧ ub_NX U)) (va_Qi (S := Unit) (fun r _ => r = -1) (fun _ _ => True) (fun _ => False)) 0 0 (fun _ => False) := by
  refine Met.ofW (cc := cX12_word) (maxL := 9) (ret := (some .int)) (by decide) rfl ?_
  intro p e s m args below meth c s₁ B hml hv
  obtain ⟨rfl, hP, hK, hN⟩ := hv
  have hx := B.exec
  have hb := B.bytes
  have hr := B.returns
  have hts := atoms_spec (ws := wsX12_word) B.pre
  have hown : s.vm.findClass RX12 = some m.cls := findClass_of_methodNamed B.named
  have hlocks := B.notSynchronized
  have hS : va_S (fun _ : Nat => False) s.heap s.heap [] := va_S.rf
  have hl := lv_entry ([.ref x, .int a0, .int a1, .int a2, .int a3, .int a4, .int a5, .int a6]) (n := 9) (Nat.le_of_ble_eq_true rfl)
  rw [lg_entry_eq]
  generalize (lg_sl ([.ref x, .int a0, .int a1, .int a2, .int a3, .int a4, .int a5, .int a6]) ++ List.replicate (9 - (lg_sl ([.ref x, .int a0, .int a1, .int a2, .int a3, .int a4, .int a5, .int a6])).length) Slot.unset).toArray = ls at hl ⊢
  have hl : lv_has ls 9 [(0, .ref x), (1, .int a0), (2, .int a1), (3, .int a2), (4, .int a3), (5, .int a4), (6, .int a5), (7, .int a6)] := hl
  refine lv_aload_n hx hb dX12_word_0 rfl (lv_at hl 0 rfl) ?_
  refine va_get (D := (dC, dI)) (ci := 13) (v := .ref bk) (C := RX12) (T := TX12) (N := 6) hx hb hts iw_X12_word_X12 hown hK hP 0 rfl rfl 0 (by decide) (hts (.fieldLink RX12 10 "UnlikeBoats" "book" "LUnlikeBoats$Book;") (List.mem_of_getElem? (i := 1) rfl)) (fun _ h9 => h9) rfl dX12_word_1 ?_
  refine lv_iload_n hx hb dX12_word_4 rfl (lv_at hl 1 rfl) ?_
  refine lv_iload_n hx hb dX12_word_5 rfl (lv_at hl 2 rfl) ?_
  have hPc := hP.sub (ws' := [(bk, .inr (1, [.int 0, .int 0, .int 0, .ref lc, .ref lr, .ref la, .ref le, .ref lw, .ref lp, .ref ltr, .ref stk])), (la, .inr (0, [.int 0, .ref ed, .int 0]))]) [1, 2] rfl
  have hKc := hK.sub (tys' := []) [] rfl
  refine va_calli (va_runV (As := [.int a0, .int a1]) (rest := []) ⟨hx, hb, hml, hown, hts⟩ (c_isEntered0 l dC dI bk lc lr la le lw lp ltr stk ed a0 a1) (cwV 2 hts gX12_word_X0_isEntered rfl rfl rfl (by decide +kernel) ⟨Nat.le_of_ble_eq_true rfl, Nat.le_of_ble_eq_true rfl⟩) ⟨fun a U g mk q => by obtain ⟨e0, qP, qK, qN⟩ := q; exact ⟨e0, qP, va_K.moved (u := U) (U := U.calling g mk a) (Vm.Alike.refl U.vm) qK, ub_NX_c qN⟩, va_recv hK hP (ci := 1) (q0 := 1) rfl rfl, fun U hU hW => ⟨rfl, by rw [hU]; exact hPc, va_K.moved hW.alike hKc, ub_NX_w hW hN⟩⟩ rfl rfl hl.1 rfl (lv_room (Nat.le_of_ble_eq_true rfl)) dX12_word_6 ⟨Nat.le_of_ble_eq_true rfl, Nat.le_of_ble_eq_true rfl⟩) hS (fun _ _ h => h.elim) (fun _ h => h.elim) (fun r1 u2 t H1 locs ht hvm hw hB hz1 hk1 hS => ?_)
  have hP := ub_keep hP hk1
  generalize H1 = H at hP hS ⊢
  obtain rfl : (0 : Int32) = r1 := hw.symm
  refine lv_if_eq (tgt := 22) hx hb dX12_word_9 (by decide) (fun c3 => ?_) (fun c3 => by first | exact absurd c3 (by decide) | exact absurd (by decide) c3)
  refine lv_iconst (v := -1) hx hb dX12_word_22 (by decide) ?_
  exact W.iret (v := (-1)) hx hb hr (fun t ht hW => ⟨⟨(-1), (), rfl, rfl, trivial⟩, hS.F ht⟩) hS.2.2 dX12_word_23
set_option maxHeartbeats 4000000 in
set_option maxRecDepth 100000 in
theorem c_protest (l : Launch) (dC : Nat → ClassId) (dI : Nat → Nat → Nat) (x : Nat) (bk : Nat) (tp : Nat) (sh : Nat) (sc : Nat) (he : Nat) (of : Nat) (lc : Nat) (lr : Nat) (la : Nat) (le : Nat) (lw : Nat) (lp : Nat) (ltr : Nat) (stk : Nat) (ed : Nat) (a0 : Int32) (a1 : Int32) (a2 : Int32) (a3 : Int32)  : Met l yX12_protest wsX12_protest ({ frames := 3, cells := 0, slots := 0, locals := 120 }) (va_Pc [.ref x, .int a0, .int a1, .int a2, .int a3] (fun U => va_P (dC, dI) vwCl [(x, .inr (13, [.ref bk, .ref tp, .ref sh, .ref sc, .ref he, .ref of])), (bk, .inr (1, [.int 0, .int 0, .int 0, .ref lc, .ref lr, .ref la, .ref le, .ref lw, .ref lp, .ref ltr, .ref stk])), (la, .inr (0, [.int 0, .ref ed, .int 0]))] U.heap ∧ va_K (dC, dI) vwCl [] U ∧ ub_NX U)) (va_Qi (S := Unit) (fun r _ => r = -1) (fun _ _ => True) (fun _ => False)) 0 0 (fun _ => False) := by
  refine Met.ofW (cc := cX12_protest) (maxL := 5) (ret := (some .int)) (by decide) rfl ?_
  intro p e s m args below meth c s₁ B hml hv
  obtain ⟨rfl, hP, hK, hN⟩ := hv
  have hx := B.exec
  have hb := B.bytes
  have hr := B.returns
  have hts := atoms_spec (ws := wsX12_protest) B.pre
  have hown : s.vm.findClass RX12 = some m.cls := findClass_of_methodNamed B.named
  have hlocks := B.notSynchronized
  have hS : va_S (fun _ : Nat => False) s.heap s.heap [] := va_S.rf
  have hl := lv_entry ([.ref x, .int a0, .int a1, .int a2, .int a3]) (n := 5) (Nat.le_of_ble_eq_true rfl)
  rw [lg_entry_eq]
  generalize (lg_sl ([.ref x, .int a0, .int a1, .int a2, .int a3]) ++ List.replicate (5 - (lg_sl ([.ref x, .int a0, .int a1, .int a2, .int a3])).length) Slot.unset).toArray = ls at hl ⊢
  have hl : lv_has ls 5 [(0, .ref x), (1, .int a0), (2, .int a1), (3, .int a2), (4, .int a3)] := hl
  refine lv_aload_n hx hb dX12_protest_0 rfl (lv_at hl 0 rfl) ?_
  refine va_get (D := (dC, dI)) (ci := 13) (v := .ref bk) (C := RX12) (T := TX12) (N := 6) hx hb hts iw_X12_protest_X12 hown hK hP 0 rfl rfl 0 (by decide) (hts (.fieldLink RX12 10 "UnlikeBoats" "book" "LUnlikeBoats$Book;") (List.mem_of_getElem? (i := 1) rfl)) (fun _ h9 => h9) rfl dX12_protest_1 ?_
  refine lv_iload_n hx hb dX12_protest_4 rfl (lv_at hl 1 rfl) ?_
  refine lv_iload_n hx hb dX12_protest_5 rfl (lv_at hl 2 rfl) ?_
  have hPc := hP.sub (ws' := [(bk, .inr (1, [.int 0, .int 0, .int 0, .ref lc, .ref lr, .ref la, .ref le, .ref lw, .ref lp, .ref ltr, .ref stk])), (la, .inr (0, [.int 0, .ref ed, .int 0]))]) [1, 2] rfl
  have hKc := hK.sub (tys' := []) [] rfl
  refine va_calli (va_runV (As := [.int a0, .int a1]) (rest := []) ⟨hx, hb, hml, hown, hts⟩ (c_isEntered0 l dC dI bk lc lr la le lw lp ltr stk ed a0 a1) (cwV 2 hts gX12_protest_X0_isEntered rfl rfl rfl (by decide +kernel) ⟨Nat.le_of_ble_eq_true rfl, Nat.le_of_ble_eq_true rfl⟩) ⟨fun a U g mk q => by obtain ⟨e0, qP, qK, qN⟩ := q; exact ⟨e0, qP, va_K.moved (u := U) (U := U.calling g mk a) (Vm.Alike.refl U.vm) qK, ub_NX_c qN⟩, va_recv hK hP (ci := 1) (q0 := 1) rfl rfl, fun U hU hW => ⟨rfl, by rw [hU]; exact hPc, va_K.moved hW.alike hKc, ub_NX_w hW hN⟩⟩ rfl rfl hl.1 rfl (lv_room (Nat.le_of_ble_eq_true rfl)) dX12_protest_6 ⟨Nat.le_of_ble_eq_true rfl, Nat.le_of_ble_eq_true rfl⟩) hS (fun _ _ h => h.elim) (fun _ h => h.elim) (fun r1 u2 t H1 locs ht hvm hw hB hz1 hk1 hS => ?_)
  have hP := ub_keep hP hk1
  generalize H1 = H at hP hS ⊢
  obtain rfl : (0 : Int32) = r1 := hw.symm
  refine lv_if_eq (tgt := 29) hx hb dX12_protest_9 (by decide) (fun c3 => ?_) (fun c3 => by first | exact absurd c3 (by decide) | exact absurd (by decide) c3)
  refine lv_iconst (v := -1) hx hb dX12_protest_29 (by decide) ?_
  exact W.iret (v := (-1)) hx hb hr (fun t ht hW => ⟨⟨(-1), (), rfl, rfl, trivial⟩, hS.F ht⟩) hS.2.2 dX12_protest_30
set_option maxHeartbeats 4000000 in
set_option maxRecDepth 100000 in
theorem c_states (l : Launch) (dC : Nat → ClassId) (dI : Nat → Nat → Nat) (x : Nat) (bk : Nat) (tp : Nat) (sh : Nat) (sc : Nat) (he : Nat) (of : Nat) (lc : Nat) (lr : Nat) (la : Nat) (le : Nat) (lw : Nat) (lp : Nat) (ltr : Nat) (stk : Nat) (ed : Nat) (a0 : Int32) (a1 : Int32) (a2 : Int32)  : Met l yX12_states wsX12_states ({ frames := 3, cells := 0, slots := 0, locals := 120 }) (va_Pc [.ref x, .int a0, .int a1, .int a2] (fun U => va_P (dC, dI) vwCl [(x, .inr (13, [.ref bk, .ref tp, .ref sh, .ref sc, .ref he, .ref of])), (bk, .inr (1, [.int 0, .int 0, .int 0, .ref lc, .ref lr, .ref la, .ref le, .ref lw, .ref lp, .ref ltr, .ref stk])), (lp, .inr (0, [.int 0, .ref ed, .int 0]))] U.heap ∧ va_K (dC, dI) vwCl [] U ∧ ub_NX U)) (va_Qi (S := Unit) (fun r _ => r = -1) (fun _ _ => True) (fun _ => False)) 0 0 (fun _ => False) := by
  refine Met.ofW (cc := cX12_states) (maxL := 4) (ret := (some .int)) (by decide) rfl ?_
  intro p e s m args below meth c s₁ B hml hv
  obtain ⟨rfl, hP, hK, hN⟩ := hv
  have hx := B.exec
  have hb := B.bytes
  have hr := B.returns
  have hts := atoms_spec (ws := wsX12_states) B.pre
  have hown : s.vm.findClass RX12 = some m.cls := findClass_of_methodNamed B.named
  have hlocks := B.notSynchronized
  have hS : va_S (fun _ : Nat => False) s.heap s.heap [] := va_S.rf
  have hl := lv_entry ([.ref x, .int a0, .int a1, .int a2]) (n := 4) (Nat.le_of_ble_eq_true rfl)
  rw [lg_entry_eq]
  generalize (lg_sl ([.ref x, .int a0, .int a1, .int a2]) ++ List.replicate (4 - (lg_sl ([.ref x, .int a0, .int a1, .int a2])).length) Slot.unset).toArray = ls at hl ⊢
  have hl : lv_has ls 4 [(0, .ref x), (1, .int a0), (2, .int a1), (3, .int a2)] := hl
  refine lv_aload_n hx hb dX12_states_0 rfl (lv_at hl 0 rfl) ?_
  refine va_get (D := (dC, dI)) (ci := 13) (v := .ref bk) (C := RX12) (T := TX12) (N := 6) hx hb hts iw_X12_states_X12 hown hK hP 0 rfl rfl 0 (by decide) (hts (.fieldLink RX12 10 "UnlikeBoats" "book" "LUnlikeBoats$Book;") (List.mem_of_getElem? (i := 1) rfl)) (fun _ h9 => h9) rfl dX12_states_1 ?_
  refine lv_iload_n hx hb dX12_states_4 rfl (lv_at hl 1 rfl) ?_
  refine lv_iload_n hx hb dX12_states_5 rfl (lv_at hl 3 rfl) ?_
  have hPc := hP.sub (ws' := [(bk, .inr (1, [.int 0, .int 0, .int 0, .ref lc, .ref lr, .ref la, .ref le, .ref lw, .ref lp, .ref ltr, .ref stk])), (lp, .inr (0, [.int 0, .ref ed, .int 0]))]) [1, 2] rfl
  have hKc := hK.sub (tys' := []) [] rfl
  refine va_calli (va_runV (As := [.int a0, .int a2]) (rest := []) ⟨hx, hb, hml, hown, hts⟩ (c_isProtested0 l dC dI bk lc lr la le lw lp ltr stk ed a0 a2) (cwV 2 hts gX12_states_X0_isProtested rfl rfl rfl (by decide +kernel) ⟨Nat.le_of_ble_eq_true rfl, Nat.le_of_ble_eq_true rfl⟩) ⟨fun a U g mk q => by obtain ⟨e0, qP, qK, qN⟩ := q; exact ⟨e0, qP, va_K.moved (u := U) (U := U.calling g mk a) (Vm.Alike.refl U.vm) qK, ub_NX_c qN⟩, va_recv hK hP (ci := 1) (q0 := 1) rfl rfl, fun U hU hW => ⟨rfl, by rw [hU]; exact hPc, va_K.moved hW.alike hKc, ub_NX_w hW hN⟩⟩ rfl rfl hl.1 rfl (lv_room (Nat.le_of_ble_eq_true rfl)) dX12_states_6 ⟨Nat.le_of_ble_eq_true rfl, Nat.le_of_ble_eq_true rfl⟩) hS (fun _ _ h => h.elim) (fun _ h => h.elim) (fun r1 u2 t H1 locs ht hvm hw hB hz1 hk1 hS => ?_)
  have hP := ub_keep hP hk1
  generalize H1 = H at hP hS ⊢
  obtain rfl : (0 : Int32) = r1 := hw.symm
  refine lv_if_eq (tgt := 21) hx hb dX12_states_9 (by decide) (fun c3 => ?_) (fun c3 => by first | exact absurd c3 (by decide) | exact absurd (by decide) c3)
  refine lv_iconst (v := -1) hx hb dX12_states_21 (by decide) ?_
  exact W.iret (v := (-1)) hx hb hr (fun t ht hW => ⟨⟨(-1), (), rfl, rfl, trivial⟩, hS.F ht⟩) hS.2.2 dX12_states_22
set_option maxHeartbeats 4000000 in
set_option maxRecDepth 100000 in
theorem c_finding (l : Launch) (dC : Nat → ClassId) (dI : Nat → Nat → Nat) (x : Nat) (bk : Nat) (tp : Nat) (sh : Nat) (sc : Nat) (he : Nat) (of : Nat) (lc : Nat) (lr : Nat) (la : Nat) (le : Nat) (lw : Nat) (lp : Nat) (ltr : Nat) (stk : Nat) (ed : Nat) (a0 : Int32) (a1 : Int32) (a2 : Int32)  : Met l yX12_finding wsX12_finding ({ frames := 3, cells := 0, slots := 0, locals := 120 }) (va_Pc [.ref x, .int a0, .int a1, .int a2] (fun U => va_P (dC, dI) vwCl [(x, .inr (13, [.ref bk, .ref tp, .ref sh, .ref sc, .ref he, .ref of])), (bk, .inr (1, [.int 0, .int 0, .int 0, .ref lc, .ref lr, .ref la, .ref le, .ref lw, .ref lp, .ref ltr, .ref stk])), (lp, .inr (0, [.int 0, .ref ed, .int 0]))] U.heap ∧ va_K (dC, dI) vwCl [] U ∧ ub_NX U)) (va_Qi (S := Unit) (fun r _ => r = -1) (fun _ _ => True) (fun _ => False)) 0 0 (fun _ => False) := by
  refine Met.ofW (cc := cX12_finding) (maxL := 4) (ret := (some .int)) (by decide) rfl ?_
  intro p e s m args below meth c s₁ B hml hv
  obtain ⟨rfl, hP, hK, hN⟩ := hv
  have hx := B.exec
  have hb := B.bytes
  have hr := B.returns
  have hts := atoms_spec (ws := wsX12_finding) B.pre
  have hown : s.vm.findClass RX12 = some m.cls := findClass_of_methodNamed B.named
  have hlocks := B.notSynchronized
  have hS : va_S (fun _ : Nat => False) s.heap s.heap [] := va_S.rf
  have hl := lv_entry ([.ref x, .int a0, .int a1, .int a2]) (n := 4) (Nat.le_of_ble_eq_true rfl)
  rw [lg_entry_eq]
  generalize (lg_sl ([.ref x, .int a0, .int a1, .int a2]) ++ List.replicate (4 - (lg_sl ([.ref x, .int a0, .int a1, .int a2])).length) Slot.unset).toArray = ls at hl ⊢
  have hl : lv_has ls 4 [(0, .ref x), (1, .int a0), (2, .int a1), (3, .int a2)] := hl
  refine lv_aload_n hx hb dX12_finding_0 rfl (lv_at hl 0 rfl) ?_
  refine va_get (D := (dC, dI)) (ci := 13) (v := .ref bk) (C := RX12) (T := TX12) (N := 6) hx hb hts iw_X12_finding_X12 hown hK hP 0 rfl rfl 0 (by decide) (hts (.fieldLink RX12 10 "UnlikeBoats" "book" "LUnlikeBoats$Book;") (List.mem_of_getElem? (i := 1) rfl)) (fun _ h9 => h9) rfl dX12_finding_1 ?_
  refine lv_iload_n hx hb dX12_finding_4 rfl (lv_at hl 1 rfl) ?_
  refine lv_iload_n hx hb dX12_finding_5 rfl (lv_at hl 3 rfl) ?_
  have hPc := hP.sub (ws' := [(bk, .inr (1, [.int 0, .int 0, .int 0, .ref lc, .ref lr, .ref la, .ref le, .ref lw, .ref lp, .ref ltr, .ref stk])), (lp, .inr (0, [.int 0, .ref ed, .int 0]))]) [1, 2] rfl
  have hKc := hK.sub (tys' := []) [] rfl
  refine va_calli (va_runV (As := [.int a0, .int a2]) (rest := []) ⟨hx, hb, hml, hown, hts⟩ (c_isProtested0 l dC dI bk lc lr la le lw lp ltr stk ed a0 a2) (cwV 2 hts gX12_finding_X0_isProtested rfl rfl rfl (by decide +kernel) ⟨Nat.le_of_ble_eq_true rfl, Nat.le_of_ble_eq_true rfl⟩) ⟨fun a U g mk q => by obtain ⟨e0, qP, qK, qN⟩ := q; exact ⟨e0, qP, va_K.moved (u := U) (U := U.calling g mk a) (Vm.Alike.refl U.vm) qK, ub_NX_c qN⟩, va_recv hK hP (ci := 1) (q0 := 1) rfl rfl, fun U hU hW => ⟨rfl, by rw [hU]; exact hPc, va_K.moved hW.alike hKc, ub_NX_w hW hN⟩⟩ rfl rfl hl.1 rfl (lv_room (Nat.le_of_ble_eq_true rfl)) dX12_finding_6 ⟨Nat.le_of_ble_eq_true rfl, Nat.le_of_ble_eq_true rfl⟩) hS (fun _ _ h => h.elim) (fun _ h => h.elim) (fun r1 u2 t H1 locs ht hvm hw hB hz1 hk1 hS => ?_)
  have hP := ub_keep hP hk1
  generalize H1 = H at hP hS ⊢
  obtain rfl : (0 : Int32) = r1 := hw.symm
  refine lv_if_eq (tgt := 21) hx hb dX12_finding_9 (by decide) (fun c3 => ?_) (fun c3 => by first | exact absurd c3 (by decide) | exact absurd (by decide) c3)
  refine lv_iconst (v := -1) hx hb dX12_finding_21 (by decide) ?_
  exact W.iret (v := (-1)) hx hb hr (fun t ht hW => ⟨⟨(-1), (), rfl, rfl, trivial⟩, hS.F ht⟩) hS.2.2 dX12_finding_22
set_option maxHeartbeats 4000000 in
set_option maxRecDepth 100000 in
theorem c_decide (l : Launch) (dC : Nat → ClassId) (dI : Nat → Nat → Nat) (x : Nat) (bk : Nat) (tp : Nat) (sh : Nat) (sc : Nat) (he : Nat) (of : Nat) (lc : Nat) (lr : Nat) (la : Nat) (le : Nat) (lw : Nat) (lp : Nat) (ltr : Nat) (stk : Nat) (ed : Nat) (a0 : Int32)  : Met l yX12_decide wsX12_decide ({ frames := 3, cells := 0, slots := 0, locals := 120 }) (va_Pc [.ref x, .int a0] (fun U => va_P (dC, dI) vwCl [(x, .inr (13, [.ref bk, .ref tp, .ref sh, .ref sc, .ref he, .ref of])), (bk, .inr (1, [.int 0, .int 0, .int 0, .ref lc, .ref lr, .ref la, .ref le, .ref lw, .ref lp, .ref ltr, .ref stk])), (lp, .inr (0, [.int 0, .ref ed, .int 0]))] U.heap ∧ va_K (dC, dI) vwCl [] U ∧ ub_NX U)) (va_Qi (S := Unit) (fun r _ => r = -1) (fun _ _ => True) (fun _ => False)) 0 0 (fun _ => False) := by
  refine Met.ofW (cc := cX12_decide) (maxL := 4) (ret := (some .int)) (by decide) rfl ?_
  intro p e s m args below meth c s₁ B hml hv
  obtain ⟨rfl, hP, hK, hN⟩ := hv
  have hx := B.exec
  have hb := B.bytes
  have hr := B.returns
  have hts := atoms_spec (ws := wsX12_decide) B.pre
  have hown : s.vm.findClass RX12 = some m.cls := findClass_of_methodNamed B.named
  have hlocks := B.notSynchronized
  have hS : va_S (fun _ : Nat => False) s.heap s.heap [] := va_S.rf
  have hl := lv_entry ([.ref x, .int a0]) (n := 4) (Nat.le_of_ble_eq_true rfl)
  rw [lg_entry_eq]
  generalize (lg_sl ([.ref x, .int a0]) ++ List.replicate (4 - (lg_sl ([.ref x, .int a0])).length) Slot.unset).toArray = ls at hl ⊢
  have hl : lv_has ls 4 [(0, .ref x), (1, .int a0)] := hl
  refine lv_aload_n hx hb dX12_decide_0 rfl (lv_at hl 0 rfl) ?_
  refine va_get (D := (dC, dI)) (ci := 13) (v := .ref bk) (C := RX12) (T := TX12) (N := 6) hx hb hts iw_X12_decide_X12 hown hK hP 0 rfl rfl 0 (by decide) (hts (.fieldLink RX12 10 "UnlikeBoats" "book" "LUnlikeBoats$Book;") (List.mem_of_getElem? (i := 1) rfl)) (fun _ h9 => h9) rfl dX12_decide_1 ?_
  refine lv_iload_n hx hb dX12_decide_4 rfl (lv_at hl 1 rfl) ?_
  refine lv_aload_n hx hb dX12_decide_5 rfl (lv_at hl 0 rfl) ?_
  refine va_get (D := (dC, dI)) (ci := 13) (v := .ref bk) (C := RX12) (T := TX12) (N := 6) hx hb hts iw_X12_decide_X12 hown hK hP 0 rfl rfl 0 (by decide) (hts (.fieldLink RX12 10 "UnlikeBoats" "book" "LUnlikeBoats$Book;") (List.mem_of_getElem? (i := 1) rfl)) (fun _ h9 => h9) rfl dX12_decide_6 ?_
  refine va_get (D := (dC, dI)) (ci := 1) (v := .int 0) (C := RX0) (T := TX0) (N := 11) hx hb hts iw_X12_decide_X0 hown hK hP 1 rfl rfl 0 (by decide) (hts (.fieldLink RX12 55 "UnlikeBoats$Book" "now" "I") (List.mem_of_getElem? (i := 2) rfl)) (fun _ h9 => h9) rfl dX12_decide_9 ?_
  have hPc := hP.sub (ws' := [(bk, .inr (1, [.int 0, .int 0, .int 0, .ref lc, .ref lr, .ref la, .ref le, .ref lw, .ref lp, .ref ltr, .ref stk])), (lp, .inr (0, [.int 0, .ref ed, .int 0]))]) [1, 2] rfl
  have hKc := hK.sub (tys' := []) [] rfl
  refine va_calli (va_runV (As := [.int a0, .int 0]) (rest := []) ⟨hx, hb, hml, hown, hts⟩ (c_isProtested0 l dC dI bk lc lr la le lw lp ltr stk ed a0 (0)) (cwV 2 hts gX12_decide_X0_isProtested rfl rfl rfl (by decide +kernel) ⟨Nat.le_of_ble_eq_true rfl, Nat.le_of_ble_eq_true rfl⟩) ⟨fun a U g mk q => by obtain ⟨e0, qP, qK, qN⟩ := q; exact ⟨e0, qP, va_K.moved (u := U) (U := U.calling g mk a) (Vm.Alike.refl U.vm) qK, ub_NX_c qN⟩, va_recv hK hP (ci := 1) (q0 := 1) rfl rfl, fun U hU hW => ⟨rfl, by rw [hU]; exact hPc, va_K.moved hW.alike hKc, ub_NX_w hW hN⟩⟩ rfl rfl hl.1 rfl (lv_room (Nat.le_of_ble_eq_true rfl)) dX12_decide_12 ⟨Nat.le_of_ble_eq_true rfl, Nat.le_of_ble_eq_true rfl⟩) hS (fun _ _ h => h.elim) (fun _ h => h.elim) (fun r1 u2 t H1 locs ht hvm hw hB hz1 hk1 hS => ?_)
  have hP := ub_keep hP hk1
  generalize H1 = H at hP hS ⊢
  obtain rfl : (0 : Int32) = r1 := hw.symm
  refine lv_if_ne (tgt := 20) hx hb dX12_decide_15 (by decide) (fun c3 => by first | exact absurd c3 (by decide) | exact absurd (by decide) c3) (fun c3 => ?_)
  refine lv_iconst (v := -1) hx hb dX12_decide_18 (by decide) ?_
  exact W.iret (v := (-1)) hx hb hr (fun t ht hW => ⟨⟨(-1), (), rfl, rfl, trivial⟩, hS.F ht⟩) hS.2.2 dX12_decide_19
set_option maxHeartbeats 4000000 in
set_option maxRecDepth 100000 in
theorem c_reopen (l : Launch) (dC : Nat → ClassId) (dI : Nat → Nat → Nat) (x : Nat) (bk : Nat) (tp : Nat) (sh : Nat) (sc : Nat) (he : Nat) (of : Nat) (lc : Nat) (lr : Nat) (la : Nat) (le : Nat) (lw : Nat) (lp : Nat) (ltr : Nat) (stk : Nat) (ed : Nat) (a0 : Int32)  : Met l yX12_reopen wsX12_reopen ({ frames := 3, cells := 0, slots := 0, locals := 120 }) (va_Pc [.ref x, .int a0] (fun U => va_P (dC, dI) vwCl [(x, .inr (13, [.ref bk, .ref tp, .ref sh, .ref sc, .ref he, .ref of])), (bk, .inr (1, [.int 0, .int 0, .int 0, .ref lc, .ref lr, .ref la, .ref le, .ref lw, .ref lp, .ref ltr, .ref stk])), (lp, .inr (0, [.int 0, .ref ed, .int 0]))] U.heap ∧ va_K (dC, dI) vwCl [] U ∧ ub_NX U)) (va_Qi (S := Unit) (fun r _ => r = 0) (fun _ _ => True) (fun _ => False)) 0 0 (fun _ => False) := by
  refine Met.ofW (cc := cX12_reopen) (maxL := 3) (ret := (some .boolean)) (by decide) rfl ?_
  intro p e s m args below meth c s₁ B hml hv
  obtain ⟨rfl, hP, hK, hN⟩ := hv
  have hx := B.exec
  have hb := B.bytes
  have hr := B.returns
  have hts := atoms_spec (ws := wsX12_reopen) B.pre
  have hown : s.vm.findClass RX12 = some m.cls := findClass_of_methodNamed B.named
  have hlocks := B.notSynchronized
  have hS : va_S (fun _ : Nat => False) s.heap s.heap [] := va_S.rf
  have hl := lv_entry ([.ref x, .int a0]) (n := 3) (Nat.le_of_ble_eq_true rfl)
  rw [lg_entry_eq]
  generalize (lg_sl ([.ref x, .int a0]) ++ List.replicate (3 - (lg_sl ([.ref x, .int a0])).length) Slot.unset).toArray = ls at hl ⊢
  have hl : lv_has ls 3 [(0, .ref x), (1, .int a0)] := hl
  refine lv_aload_n hx hb dX12_reopen_0 rfl (lv_at hl 0 rfl) ?_
  refine va_get (D := (dC, dI)) (ci := 13) (v := .ref bk) (C := RX12) (T := TX12) (N := 6) hx hb hts iw_X12_reopen_X12 hown hK hP 0 rfl rfl 0 (by decide) (hts (.fieldLink RX12 10 "UnlikeBoats" "book" "LUnlikeBoats$Book;") (List.mem_of_getElem? (i := 1) rfl)) (fun _ h9 => h9) rfl dX12_reopen_1 ?_
  refine lv_iload_n hx hb dX12_reopen_4 rfl (lv_at hl 1 rfl) ?_
  refine lv_aload_n hx hb dX12_reopen_5 rfl (lv_at hl 0 rfl) ?_
  refine va_get (D := (dC, dI)) (ci := 13) (v := .ref bk) (C := RX12) (T := TX12) (N := 6) hx hb hts iw_X12_reopen_X12 hown hK hP 0 rfl rfl 0 (by decide) (hts (.fieldLink RX12 10 "UnlikeBoats" "book" "LUnlikeBoats$Book;") (List.mem_of_getElem? (i := 1) rfl)) (fun _ h9 => h9) rfl dX12_reopen_6 ?_
  refine va_get (D := (dC, dI)) (ci := 1) (v := .int 0) (C := RX0) (T := TX0) (N := 11) hx hb hts iw_X12_reopen_X0 hown hK hP 1 rfl rfl 0 (by decide) (hts (.fieldLink RX12 55 "UnlikeBoats$Book" "now" "I") (List.mem_of_getElem? (i := 2) rfl)) (fun _ h9 => h9) rfl dX12_reopen_9 ?_
  have hPc := hP.sub (ws' := [(bk, .inr (1, [.int 0, .int 0, .int 0, .ref lc, .ref lr, .ref la, .ref le, .ref lw, .ref lp, .ref ltr, .ref stk])), (lp, .inr (0, [.int 0, .ref ed, .int 0]))]) [1, 2] rfl
  have hKc := hK.sub (tys' := []) [] rfl
  refine va_calli (va_runV (As := [.int a0, .int 0]) (rest := []) ⟨hx, hb, hml, hown, hts⟩ (c_isProtested0 l dC dI bk lc lr la le lw lp ltr stk ed a0 (0)) (cwV 2 hts gX12_reopen_X0_isProtested rfl rfl rfl (by decide +kernel) ⟨Nat.le_of_ble_eq_true rfl, Nat.le_of_ble_eq_true rfl⟩) ⟨fun a U g mk q => by obtain ⟨e0, qP, qK, qN⟩ := q; exact ⟨e0, qP, va_K.moved (u := U) (U := U.calling g mk a) (Vm.Alike.refl U.vm) qK, ub_NX_c qN⟩, va_recv hK hP (ci := 1) (q0 := 1) rfl rfl, fun U hU hW => ⟨rfl, by rw [hU]; exact hPc, va_K.moved hW.alike hKc, ub_NX_w hW hN⟩⟩ rfl rfl hl.1 rfl (lv_room (Nat.le_of_ble_eq_true rfl)) dX12_reopen_12 ⟨Nat.le_of_ble_eq_true rfl, Nat.le_of_ble_eq_true rfl⟩) hS (fun _ _ h => h.elim) (fun _ h => h.elim) (fun r1 u2 t H1 locs ht hvm hw hB hz1 hk1 hS => ?_)
  have hP := ub_keep hP hk1
  generalize H1 = H at hP hS ⊢
  obtain rfl : (0 : Int32) = r1 := hw.symm
  refine lv_if_ne (tgt := 20) hx hb dX12_reopen_15 (by decide) (fun c3 => by first | exact absurd c3 (by decide) | exact absurd (by decide) c3) (fun c3 => ?_)
  refine lv_iconst (v := 0) hx hb dX12_reopen_18 (by decide) ?_
  exact W.zret (v := (0)) hx hb hr rfl (fun t ht hW => ⟨⟨(0), (), rfl, rfl, trivial⟩, hS.F ht⟩) hS.2.2 dX12_reopen_19
set_option maxHeartbeats 4000000 in
set_option maxRecDepth 100000 in
theorem c_even (l : Launch) (dC : Nat → ClassId) (dI : Nat → Nat → Nat) (x : Nat) (bk : Nat) (tp : Nat) (sh : Nat) (sc : Nat) (he : Nat) (of : Nat) (lc : Nat) (lr : Nat) (la : Nat) (le : Nat) (lw : Nat) (lp : Nat) (ltr : Nat) (stk : Nat) (a0 : Int32)  : Met l yX12_even wsX12_even ({ frames := 2, cells := 0, slots := 0, locals := 80 }) (va_Pc [.ref x, .int a0] (fun U => va_P (dC, dI) vwCl [(x, .inr (13, [.ref bk, .ref tp, .ref sh, .ref sc, .ref he, .ref of])), (bk, .inr (1, [.int 0, .int 0, .int 0, .ref lc, .ref lr, .ref la, .ref le, .ref lw, .ref lp, .ref ltr, .ref stk]))] U.heap ∧ va_K (dC, dI) vwCl [] U ∧ ub_NX U)) (va_Qi (S := Unit) (fun r _ => r = -1) (fun _ _ => True) (fun _ => False)) 0 0 (fun _ => False) := by
  refine Met.ofW (cc := cX12_even) (maxL := 2) (ret := (some .int)) (by decide) rfl ?_
  intro p e s m args below meth c s₁ B hml hv
  obtain ⟨rfl, hP, hK, hN⟩ := hv
  have hx := B.exec
  have hb := B.bytes
  have hr := B.returns
  have hts := atoms_spec (ws := wsX12_even) B.pre
  have hown : s.vm.findClass RX12 = some m.cls := findClass_of_methodNamed B.named
  have hlocks := B.notSynchronized
  have hS : va_S (fun _ : Nat => False) s.heap s.heap [] := va_S.rf
  have hl := lv_entry ([.ref x, .int a0]) (n := 2) (Nat.le_of_ble_eq_true rfl)
  rw [lg_entry_eq]
  generalize (lg_sl ([.ref x, .int a0]) ++ List.replicate (2 - (lg_sl ([.ref x, .int a0])).length) Slot.unset).toArray = ls at hl ⊢
  have hl : lv_has ls 2 [(0, .ref x), (1, .int a0)] := hl
  refine lv_aload_n hx hb dX12_even_0 rfl (lv_at hl 0 rfl) ?_
  refine va_get (D := (dC, dI)) (ci := 13) (v := .ref bk) (C := RX12) (T := TX12) (N := 6) hx hb hts iw_X12_even_X12 hown hK hP 0 rfl rfl 0 (by decide) (hts (.fieldLink RX12 10 "UnlikeBoats" "book" "LUnlikeBoats$Book;") (List.mem_of_getElem? (i := 1) rfl)) (fun _ h9 => h9) rfl dX12_even_1 ?_
  refine lv_iload_n hx hb dX12_even_4 rfl (lv_at hl 1 rfl) ?_
  have hPc := hP.sub (ws' := [(bk, .inr (1, [.int 0, .int 0, .int 0, .ref lc, .ref lr, .ref la, .ref le, .ref lw, .ref lp, .ref ltr, .ref stk]))]) [1] rfl
  have hKc := hK.sub (tys' := []) [] rfl
  refine va_calli (va_runV (As := [.int a0]) (rest := []) ⟨hx, hb, hml, hown, hts⟩ (c_areSome0 l dC dI bk lc lr la le lw lp ltr stk a0) (cwV 1 hts gX12_even_X0_areSome rfl rfl rfl (by decide +kernel) ⟨Nat.le_of_ble_eq_true rfl, Nat.le_of_ble_eq_true rfl⟩) ⟨fun a U g mk q => by obtain ⟨e0, qP, qK, qN⟩ := q; exact ⟨e0, qP, va_K.moved (u := U) (U := U.calling g mk a) (Vm.Alike.refl U.vm) qK, ub_NX_c qN⟩, va_recv hK hP (ci := 1) (q0 := 1) rfl rfl, fun U hU hW => ⟨rfl, by rw [hU]; exact hPc, va_K.moved hW.alike hKc, ub_NX_w hW hN⟩⟩ rfl rfl hl.1 rfl (lv_room (Nat.le_of_ble_eq_true rfl)) dX12_even_5 ⟨Nat.le_of_ble_eq_true rfl, Nat.le_of_ble_eq_true rfl⟩) hS (fun _ _ h => h.elim) (fun _ h => h.elim) (fun r1 u2 t H1 locs ht hvm hw hB hz1 hk1 hS => ?_)
  have hP := ub_keep hP hk1
  generalize H1 = H at hP hS ⊢
  obtain rfl : (0 : Int32) = r1 := hw.symm
  refine lv_if_ne (tgt := 13) hx hb dX12_even_8 (by decide) (fun c3 => by first | exact absurd c3 (by decide) | exact absurd (by decide) c3) (fun c3 => ?_)
  refine lv_iconst (v := -1) hx hb dX12_even_11 (by decide) ?_
  exact W.iret (v := (-1)) hx hb hr (fun t ht hW => ⟨⟨(-1), (), rfl, rfl, trivial⟩, hS.F ht⟩) hS.2.2 dX12_even_12
set_option maxHeartbeats 4000000 in
set_option maxRecDepth 100000 in
theorem c_change (l : Launch) (dC : Nat → ClassId) (dI : Nat → Nat → Nat) (x : Nat) (bk : Nat) (tp : Nat) (sh : Nat) (sc : Nat) (he : Nat) (of : Nat) (lc : Nat) (lr : Nat) (la : Nat) (le : Nat) (lw : Nat) (lp : Nat) (ltr : Nat) (stk : Nat) (a0 : Int32) (a1 : Int32)  : Met l yX12_change wsX12_change ({ frames := 2, cells := 0, slots := 0, locals := 80 }) (va_Pc [.ref x, .int a0, .int a1] (fun U => va_P (dC, dI) vwCl [(x, .inr (13, [.ref bk, .ref tp, .ref sh, .ref sc, .ref he, .ref of])), (bk, .inr (1, [.int 0, .int 0, .int 0, .ref lc, .ref lr, .ref la, .ref le, .ref lw, .ref lp, .ref ltr, .ref stk]))] U.heap ∧ va_K (dC, dI) vwCl [] U ∧ ub_NX U)) (va_Qi (S := Unit) (fun r _ => r = -1000000000) (fun _ _ => True) (fun _ => False)) 0 0 (fun _ => False) := by
  refine Met.ofW (cc := cX12_change) (maxL := 3) (ret := (some .int)) (by decide) rfl ?_
  intro p e s m args below meth c s₁ B hml hv
  obtain ⟨rfl, hP, hK, hN⟩ := hv
  have hx := B.exec
  have hb := B.bytes
  have hr := B.returns
  have hts := atoms_spec (ws := wsX12_change) B.pre
  have hown : s.vm.findClass RX12 = some m.cls := findClass_of_methodNamed B.named
  have hlocks := B.notSynchronized
  have hS : va_S (fun _ : Nat => False) s.heap s.heap [] := va_S.rf
  have hl := lv_entry ([.ref x, .int a0, .int a1]) (n := 3) (Nat.le_of_ble_eq_true rfl)
  rw [lg_entry_eq]
  generalize (lg_sl ([.ref x, .int a0, .int a1]) ++ List.replicate (3 - (lg_sl ([.ref x, .int a0, .int a1])).length) Slot.unset).toArray = ls at hl ⊢
  have hl : lv_has ls 3 [(0, .ref x), (1, .int a0), (2, .int a1)] := hl
  refine lv_aload_n hx hb dX12_change_0 rfl (lv_at hl 0 rfl) ?_
  refine va_get (D := (dC, dI)) (ci := 13) (v := .ref bk) (C := RX12) (T := TX12) (N := 6) hx hb hts iw_X12_change_X12 hown hK hP 0 rfl rfl 0 (by decide) (hts (.fieldLink RX12 10 "UnlikeBoats" "book" "LUnlikeBoats$Book;") (List.mem_of_getElem? (i := 1) rfl)) (fun _ h9 => h9) rfl dX12_change_1 ?_
  refine lv_iload_n hx hb dX12_change_4 rfl (lv_at hl 1 rfl) ?_
  have hPc := hP.sub (ws' := [(bk, .inr (1, [.int 0, .int 0, .int 0, .ref lc, .ref lr, .ref la, .ref le, .ref lw, .ref lp, .ref ltr, .ref stk]))]) [1] rfl
  have hKc := hK.sub (tys' := []) [] rfl
  refine va_calli (va_runV (As := [.int a0]) (rest := []) ⟨hx, hb, hml, hown, hts⟩ (c_areSome0 l dC dI bk lc lr la le lw lp ltr stk a0) (cwV 1 hts gX12_change_X0_areSome rfl rfl rfl (by decide +kernel) ⟨Nat.le_of_ble_eq_true rfl, Nat.le_of_ble_eq_true rfl⟩) ⟨fun a U g mk q => by obtain ⟨e0, qP, qK, qN⟩ := q; exact ⟨e0, qP, va_K.moved (u := U) (U := U.calling g mk a) (Vm.Alike.refl U.vm) qK, ub_NX_c qN⟩, va_recv hK hP (ci := 1) (q0 := 1) rfl rfl, fun U hU hW => ⟨rfl, by rw [hU]; exact hPc, va_K.moved hW.alike hKc, ub_NX_w hW hN⟩⟩ rfl rfl hl.1 rfl (lv_room (Nat.le_of_ble_eq_true rfl)) dX12_change_5 ⟨Nat.le_of_ble_eq_true rfl, Nat.le_of_ble_eq_true rfl⟩) hS (fun _ _ h => h.elim) (fun _ h => h.elim) (fun r1 u2 t H1 locs ht hvm hw hB hz1 hk1 hS => ?_)
  have hP := ub_keep hP hk1
  generalize H1 = H at hP hS ⊢
  obtain rfl : (0 : Int32) = r1 := hw.symm
  refine lv_if_eq (tgt := 30) hx hb dX12_change_8 (by decide) (fun c3 => ?_) (fun c3 => by first | exact absurd c3 (by decide) | exact absurd (by decide) c3)
  refine lv_ldc hx hb hown (hts (.constant RX12 172 (-1000000000)) (List.mem_of_getElem? (i := 2) rfl)) dX12_change_30 ?_
  exact W.iret (v := (-1000000000)) hx hb hr (fun t ht hW => ⟨⟨(-1000000000), (), rfl, rfl, trivial⟩, hS.F ht⟩) hS.2.2 dX12_change_32
set_option maxHeartbeats 4000000 in
set_option maxRecDepth 100000 in
theorem c_middle (l : Launch) (dC : Nat → ClassId) (dI : Nat → Nat → Nat) (x : Nat) (bk : Nat) (tp : Nat) (sh : Nat) (sc : Nat) (he : Nat) (of : Nat) (lc : Nat) (lr : Nat) (la : Nat) (le : Nat) (lw : Nat) (lp : Nat) (ltr : Nat) (stk : Nat) (ed : Nat) (a0 : Int32) (a1 : Int32)  : Met l yX12_middle wsX12_middle ({ frames := 2, cells := 0, slots := 0, locals := 80 }) (va_Pc [.ref x, .int a0, .int a1] (fun U => va_P (dC, dI) vwCl [(x, .inr (13, [.ref bk, .ref tp, .ref sh, .ref sc, .ref he, .ref of])), (bk, .inr (1, [.int 0, .int 0, .int 0, .ref lc, .ref lr, .ref la, .ref le, .ref lw, .ref lp, .ref ltr, .ref stk])), (la, .inr (0, [.int 0, .ref ed, .int 0]))] U.heap ∧ va_K (dC, dI) vwCl [] U ∧ ub_NX U)) (va_Qi (S := Unit) (fun r _ => r = -1000000000) (fun _ _ => True) (fun _ => False)) 0 0 (fun _ => False) := by
  refine Met.ofW (cc := cX12_middle) (maxL := 3) (ret := (some .int)) (by decide) rfl ?_
  intro p e s m args below meth c s₁ B hml hv
  obtain ⟨rfl, hP, hK, hN⟩ := hv
  have hx := B.exec
  have hb := B.bytes
  have hr := B.returns
  have hts := atoms_spec (ws := wsX12_middle) B.pre
  have hown : s.vm.findClass RX12 = some m.cls := findClass_of_methodNamed B.named
  have hlocks := B.notSynchronized
  have hS : va_S (fun _ : Nat => False) s.heap s.heap [] := va_S.rf
  have hl := lv_entry ([.ref x, .int a0, .int a1]) (n := 3) (Nat.le_of_ble_eq_true rfl)
  rw [lg_entry_eq]
  generalize (lg_sl ([.ref x, .int a0, .int a1]) ++ List.replicate (3 - (lg_sl ([.ref x, .int a0, .int a1])).length) Slot.unset).toArray = ls at hl ⊢
  have hl : lv_has ls 3 [(0, .ref x), (1, .int a0), (2, .int a1)] := hl
  refine lv_aload_n hx hb dX12_middle_0 rfl (lv_at hl 0 rfl) ?_
  refine va_get (D := (dC, dI)) (ci := 13) (v := .ref bk) (C := RX12) (T := TX12) (N := 6) hx hb hts iw_X12_middle_X12 hown hK hP 0 rfl rfl 0 (by decide) (hts (.fieldLink RX12 10 "UnlikeBoats" "book" "LUnlikeBoats$Book;") (List.mem_of_getElem? (i := 1) rfl)) (fun _ h9 => h9) rfl dX12_middle_1 ?_
  refine lv_iload_n hx hb dX12_middle_4 rfl (lv_at hl 1 rfl) ?_
  have hPc := hP.sub (ws' := [(bk, .inr (1, [.int 0, .int 0, .int 0, .ref lc, .ref lr, .ref la, .ref le, .ref lw, .ref lp, .ref ltr, .ref stk])), (la, .inr (0, [.int 0, .ref ed, .int 0]))]) [1, 2] rfl
  have hKc := hK.sub (tys' := []) [] rfl
  refine va_calli (va_runV (As := [.int a0]) (rest := []) ⟨hx, hb, hml, hown, hts⟩ (c_isRace0 l dC dI bk lc lr la le lw lp ltr stk ed a0) (cwV 1 hts gX12_middle_X0_isRace rfl rfl rfl (by decide +kernel) ⟨Nat.le_of_ble_eq_true rfl, Nat.le_of_ble_eq_true rfl⟩) ⟨fun a U g mk q => by obtain ⟨e0, qP, qK, qN⟩ := q; exact ⟨e0, qP, va_K.moved (u := U) (U := U.calling g mk a) (Vm.Alike.refl U.vm) qK, ub_NX_c qN⟩, va_recv hK hP (ci := 1) (q0 := 1) rfl rfl, fun U hU hW => ⟨rfl, by rw [hU]; exact hPc, va_K.moved hW.alike hKc, ub_NX_w hW hN⟩⟩ rfl rfl hl.1 rfl (lv_room (Nat.le_of_ble_eq_true rfl)) dX12_middle_5 ⟨Nat.le_of_ble_eq_true rfl, Nat.le_of_ble_eq_true rfl⟩) hS (fun _ _ h => h.elim) (fun _ h => h.elim) (fun r1 u2 t H1 locs ht hvm hw hB hz1 hk1 hS => ?_)
  have hP := ub_keep hP hk1
  generalize H1 = H at hP hS ⊢
  obtain rfl : (0 : Int32) = r1 := hw.symm
  refine lv_if_eq (tgt := 22) hx hb dX12_middle_8 (by decide) (fun c3 => ?_) (fun c3 => by first | exact absurd c3 (by decide) | exact absurd (by decide) c3)
  refine lv_ldc hx hb hown (hts (.constant RX12 172 (-1000000000)) (List.mem_of_getElem? (i := 2) rfl)) dX12_middle_22 ?_
  exact W.iret (v := (-1000000000)) hx hb hr (fun t ht hW => ⟨⟨(-1000000000), (), rfl, rfl, trivial⟩, hS.F ht⟩) hS.2.2 dX12_middle_24
set_option maxHeartbeats 4000000 in
set_option maxRecDepth 100000 in
theorem c_fit (l : Launch) (dC : Nat → ClassId) (dI : Nat → Nat → Nat) (x : Nat) (bk : Nat) (tp : Nat) (sh : Nat) (sc : Nat) (he : Nat) (of : Nat) (lc : Nat) (lr : Nat) (la : Nat) (le : Nat) (lw : Nat) (lp : Nat) (ltr : Nat) (stk : Nat) (a0 : Int32)  : Met l yX12_fit wsX12_fit ({ frames := 2, cells := 0, slots := 0, locals := 80 }) (va_Pc [.ref x, .int a0] (fun U => va_P (dC, dI) vwCl [(x, .inr (13, [.ref bk, .ref tp, .ref sh, .ref sc, .ref he, .ref of])), (bk, .inr (1, [.int 0, .int 0, .int 0, .ref lc, .ref lr, .ref la, .ref le, .ref lw, .ref lp, .ref ltr, .ref stk]))] U.heap ∧ va_K (dC, dI) vwCl [] U ∧ ub_NX U)) (va_Qi (S := Unit) (fun r _ => r = -1) (fun _ _ => True) (fun _ => False)) 0 0 (fun _ => False) := by
  refine Met.ofW (cc := cX12_fit) (maxL := 2) (ret := (some .int)) (by decide) rfl ?_
  intro p e s m args below meth c s₁ B hml hv
  obtain ⟨rfl, hP, hK, hN⟩ := hv
  have hx := B.exec
  have hb := B.bytes
  have hr := B.returns
  have hts := atoms_spec (ws := wsX12_fit) B.pre
  have hown : s.vm.findClass RX12 = some m.cls := findClass_of_methodNamed B.named
  have hlocks := B.notSynchronized
  have hS : va_S (fun _ : Nat => False) s.heap s.heap [] := va_S.rf
  have hl := lv_entry ([.ref x, .int a0]) (n := 2) (Nat.le_of_ble_eq_true rfl)
  rw [lg_entry_eq]
  generalize (lg_sl ([.ref x, .int a0]) ++ List.replicate (2 - (lg_sl ([.ref x, .int a0])).length) Slot.unset).toArray = ls at hl ⊢
  have hl : lv_has ls 2 [(0, .ref x), (1, .int a0)] := hl
  refine lv_aload_n hx hb dX12_fit_0 rfl (lv_at hl 0 rfl) ?_
  refine va_get (D := (dC, dI)) (ci := 13) (v := .ref bk) (C := RX12) (T := TX12) (N := 6) hx hb hts iw_X12_fit_X12 hown hK hP 0 rfl rfl 0 (by decide) (hts (.fieldLink RX12 10 "UnlikeBoats" "book" "LUnlikeBoats$Book;") (List.mem_of_getElem? (i := 1) rfl)) (fun _ h9 => h9) rfl dX12_fit_1 ?_
  refine lv_iload_n hx hb dX12_fit_4 rfl (lv_at hl 1 rfl) ?_
  have hPc := hP.sub (ws' := [(bk, .inr (1, [.int 0, .int 0, .int 0, .ref lc, .ref lr, .ref la, .ref le, .ref lw, .ref lp, .ref ltr, .ref stk]))]) [1] rfl
  have hKc := hK.sub (tys' := []) [] rfl
  refine va_calli (va_runV (As := [.int a0]) (rest := []) ⟨hx, hb, hml, hown, hts⟩ (c_isBoat0 l dC dI bk lc lr la le lw lp ltr stk a0) (cwV 1 hts gX12_fit_X0_isBoat rfl rfl rfl (by decide +kernel) ⟨Nat.le_of_ble_eq_true rfl, Nat.le_of_ble_eq_true rfl⟩) ⟨fun a U g mk q => by obtain ⟨e0, qP, qK, qN⟩ := q; exact ⟨e0, qP, va_K.moved (u := U) (U := U.calling g mk a) (Vm.Alike.refl U.vm) qK, ub_NX_c qN⟩, va_recv hK hP (ci := 1) (q0 := 1) rfl rfl, fun U hU hW => ⟨rfl, by rw [hU]; exact hPc, va_K.moved hW.alike hKc, ub_NX_w hW hN⟩⟩ rfl rfl hl.1 rfl (lv_room (Nat.le_of_ble_eq_true rfl)) dX12_fit_5 ⟨Nat.le_of_ble_eq_true rfl, Nat.le_of_ble_eq_true rfl⟩) hS (fun _ _ h => h.elim) (fun _ h => h.elim) (fun r1 u2 t H1 locs ht hvm hw hB hz1 hk1 hS => ?_)
  have hP := ub_keep hP hk1
  generalize H1 = H at hP hS ⊢
  obtain rfl : (0 : Int32) = r1 := hw.symm
  refine lv_if_ne (tgt := 13) hx hb dX12_fit_8 (by decide) (fun c3 => by first | exact absurd c3 (by decide) | exact absurd (by decide) c3) (fun c3 => ?_)
  refine lv_iconst (v := -1) hx hb dX12_fit_11 (by decide) ?_
  exact W.iret (v := (-1)) hx hb hr (fun t ht hW => ⟨⟨(-1), (), rfl, rfl, trivial⟩, hS.F ht⟩) hS.2.2 dX12_fit_12
set_option maxHeartbeats 4000000 in
set_option maxRecDepth 100000 in
theorem c_suspect (l : Launch) (dC : Nat → ClassId) (dI : Nat → Nat → Nat) (x : Nat) (bk : Nat) (tp : Nat) (sh : Nat) (sc : Nat) (he : Nat) (of : Nat) (lc : Nat) (lr : Nat) (la : Nat) (le : Nat) (lw : Nat) (lp : Nat) (ltr : Nat) (stk : Nat) (a0 : Int32) (a1 : Int32)  : Met l yX12_suspect wsX12_suspect ({ frames := 2, cells := 0, slots := 0, locals := 80 }) (va_Pc [.ref x, .int a0, .int a1] (fun U => va_P (dC, dI) vwCl [(x, .inr (13, [.ref bk, .ref tp, .ref sh, .ref sc, .ref he, .ref of])), (bk, .inr (1, [.int 0, .int 0, .int 0, .ref lc, .ref lr, .ref la, .ref le, .ref lw, .ref lp, .ref ltr, .ref stk]))] U.heap ∧ va_K (dC, dI) vwCl [] U ∧ ub_NX U)) (va_Qi (S := Unit) (fun r _ => r = -1000000000) (fun _ _ => True) (fun _ => False)) 0 0 (fun _ => False) := by
  refine Met.ofW (cc := cX12_suspect) (maxL := 3) (ret := (some .int)) (by decide) rfl ?_
  intro p e s m args below meth c s₁ B hml hv
  obtain ⟨rfl, hP, hK, hN⟩ := hv
  have hx := B.exec
  have hb := B.bytes
  have hr := B.returns
  have hts := atoms_spec (ws := wsX12_suspect) B.pre
  have hown : s.vm.findClass RX12 = some m.cls := findClass_of_methodNamed B.named
  have hlocks := B.notSynchronized
  have hS : va_S (fun _ : Nat => False) s.heap s.heap [] := va_S.rf
  have hl := lv_entry ([.ref x, .int a0, .int a1]) (n := 3) (Nat.le_of_ble_eq_true rfl)
  rw [lg_entry_eq]
  generalize (lg_sl ([.ref x, .int a0, .int a1]) ++ List.replicate (3 - (lg_sl ([.ref x, .int a0, .int a1])).length) Slot.unset).toArray = ls at hl ⊢
  have hl : lv_has ls 3 [(0, .ref x), (1, .int a0), (2, .int a1)] := hl
  refine lv_aload_n hx hb dX12_suspect_0 rfl (lv_at hl 0 rfl) ?_
  refine va_get (D := (dC, dI)) (ci := 13) (v := .ref bk) (C := RX12) (T := TX12) (N := 6) hx hb hts iw_X12_suspect_X12 hown hK hP 0 rfl rfl 0 (by decide) (hts (.fieldLink RX12 10 "UnlikeBoats" "book" "LUnlikeBoats$Book;") (List.mem_of_getElem? (i := 1) rfl)) (fun _ h9 => h9) rfl dX12_suspect_1 ?_
  refine lv_iload_n hx hb dX12_suspect_4 rfl (lv_at hl 1 rfl) ?_
  have hPc := hP.sub (ws' := [(bk, .inr (1, [.int 0, .int 0, .int 0, .ref lc, .ref lr, .ref la, .ref le, .ref lw, .ref lp, .ref ltr, .ref stk]))]) [1] rfl
  have hKc := hK.sub (tys' := []) [] rfl
  refine va_calli (va_runV (As := [.int a0]) (rest := []) ⟨hx, hb, hml, hown, hts⟩ (c_isBoat0 l dC dI bk lc lr la le lw lp ltr stk a0) (cwV 1 hts gX12_suspect_X0_isBoat rfl rfl rfl (by decide +kernel) ⟨Nat.le_of_ble_eq_true rfl, Nat.le_of_ble_eq_true rfl⟩) ⟨fun a U g mk q => by obtain ⟨e0, qP, qK, qN⟩ := q; exact ⟨e0, qP, va_K.moved (u := U) (U := U.calling g mk a) (Vm.Alike.refl U.vm) qK, ub_NX_c qN⟩, va_recv hK hP (ci := 1) (q0 := 1) rfl rfl, fun U hU hW => ⟨rfl, by rw [hU]; exact hPc, va_K.moved hW.alike hKc, ub_NX_w hW hN⟩⟩ rfl rfl hl.1 rfl (lv_room (Nat.le_of_ble_eq_true rfl)) dX12_suspect_5 ⟨Nat.le_of_ble_eq_true rfl, Nat.le_of_ble_eq_true rfl⟩) hS (fun _ _ h => h.elim) (fun _ h => h.elim) (fun r1 u2 t H1 locs ht hvm hw hB hz1 hk1 hS => ?_)
  have hP := ub_keep hP hk1
  generalize H1 = H at hP hS ⊢
  obtain rfl : (0 : Int32) = r1 := hw.symm
  refine lv_if_eq (tgt := 20) hx hb dX12_suspect_8 (by decide) (fun c3 => ?_) (fun c3 => by first | exact absurd c3 (by decide) | exact absurd (by decide) c3)
  refine lv_ldc hx hb hown (hts (.constant RX12 172 (-1000000000)) (List.mem_of_getElem? (i := 2) rfl)) dX12_suspect_20 ?_
  exact W.iret (v := (-1000000000)) hx hb hr (fun t ht hW => ⟨⟨(-1000000000), (), rfl, rfl, trivial⟩, hS.F ht⟩) hS.2.2 dX12_suspect_22
set_option maxHeartbeats 4000000 in
set_option maxRecDepth 100000 in
theorem c_start (l : Launch) (dC : Nat → ClassId) (dI : Nat → Nat → Nat) (x : Nat) (bk : Nat) (tp : Nat) (sh : Nat) (sc : Nat) (he : Nat) (of : Nat) (lc : Nat) (lr : Nat) (la : Nat) (le : Nat) (lw : Nat) (lp : Nat) (ltr : Nat) (stk : Nat) (ed : Nat) (a0 : Int32) (a1 : Int32) (a2 : Int32) (a3 : Int32)  : Met l yX12_start wsX12_start ({ frames := 3, cells := 0, slots := 0, locals := 120 }) (va_Pc [.ref x, .int a0, .int a1, .int a2, .int a3] (fun U => va_P (dC, dI) vwCl [(x, .inr (13, [.ref bk, .ref tp, .ref sh, .ref sc, .ref he, .ref of])), (bk, .inr (1, [.int 0, .int 0, .int 0, .ref lc, .ref lr, .ref la, .ref le, .ref lw, .ref lp, .ref ltr, .ref stk])), (la, .inr (0, [.int 0, .ref ed, .int 0]))] U.heap ∧ va_K (dC, dI) vwCl [] U ∧ ub_NX U)) (va_Qi (S := Unit) (fun r _ => r = 0) (fun _ _ => True) (fun _ => False)) 0 0 (fun _ => False) := by
  refine Met.ofW (cc := cX12_start) (maxL := 6) (ret := (some .boolean)) (by decide) rfl ?_
  intro p e s m args below meth c s₁ B hml hv
  obtain ⟨rfl, hP, hK, hN⟩ := hv
  have hx := B.exec
  have hb := B.bytes
  have hr := B.returns
  have hts := atoms_spec (ws := wsX12_start) B.pre
  have hown : s.vm.findClass RX12 = some m.cls := findClass_of_methodNamed B.named
  have hlocks := B.notSynchronized
  have hS : va_S (fun _ : Nat => False) s.heap s.heap [] := va_S.rf
  have hl := lv_entry ([.ref x, .int a0, .int a1, .int a2, .int a3]) (n := 6) (Nat.le_of_ble_eq_true rfl)
  rw [lg_entry_eq]
  generalize (lg_sl ([.ref x, .int a0, .int a1, .int a2, .int a3]) ++ List.replicate (6 - (lg_sl ([.ref x, .int a0, .int a1, .int a2, .int a3])).length) Slot.unset).toArray = ls at hl ⊢
  have hl : lv_has ls 6 [(0, .ref x), (1, .int a0), (2, .int a1), (3, .int a2), (4, .int a3)] := hl
  refine lv_aload_n hx hb dX12_start_0 rfl (lv_at hl 0 rfl) ?_
  refine va_get (D := (dC, dI)) (ci := 13) (v := .ref bk) (C := RX12) (T := TX12) (N := 6) hx hb hts iw_X12_start_X12 hown hK hP 0 rfl rfl 0 (by decide) (hts (.fieldLink RX12 10 "UnlikeBoats" "book" "LUnlikeBoats$Book;") (List.mem_of_getElem? (i := 1) rfl)) (fun _ h9 => h9) rfl dX12_start_1 ?_
  refine lv_iload_n hx hb dX12_start_4 rfl (lv_at hl 1 rfl) ?_
  refine lv_iload_n hx hb dX12_start_5 rfl (lv_at hl 2 rfl) ?_
  have hPc := hP.sub (ws' := [(bk, .inr (1, [.int 0, .int 0, .int 0, .ref lc, .ref lr, .ref la, .ref le, .ref lw, .ref lp, .ref ltr, .ref stk])), (la, .inr (0, [.int 0, .ref ed, .int 0]))]) [1, 2] rfl
  have hKc := hK.sub (tys' := []) [] rfl
  refine va_calli (va_runV (As := [.int a0, .int a1]) (rest := []) ⟨hx, hb, hml, hown, hts⟩ (c_isEntered0 l dC dI bk lc lr la le lw lp ltr stk ed a0 a1) (cwV 2 hts gX12_start_X0_isEntered rfl rfl rfl (by decide +kernel) ⟨Nat.le_of_ble_eq_true rfl, Nat.le_of_ble_eq_true rfl⟩) ⟨fun a U g mk q => by obtain ⟨e0, qP, qK, qN⟩ := q; exact ⟨e0, qP, va_K.moved (u := U) (U := U.calling g mk a) (Vm.Alike.refl U.vm) qK, ub_NX_c qN⟩, va_recv hK hP (ci := 1) (q0 := 1) rfl rfl, fun U hU hW => ⟨rfl, by rw [hU]; exact hPc, va_K.moved hW.alike hKc, ub_NX_w hW hN⟩⟩ rfl rfl hl.1 rfl (lv_room (Nat.le_of_ble_eq_true rfl)) dX12_start_6 ⟨Nat.le_of_ble_eq_true rfl, Nat.le_of_ble_eq_true rfl⟩) hS (fun _ _ h => h.elim) (fun _ h => h.elim) (fun r1 u2 t H1 locs ht hvm hw hB hz1 hk1 hS => ?_)
  have hP := ub_keep hP hk1
  generalize H1 = H at hP hS ⊢
  obtain rfl : (0 : Int32) = r1 := hw.symm
  refine lv_if_eq (tgt := 34) hx hb dX12_start_9 (by decide) (fun c3 => ?_) (fun c3 => by first | exact absurd c3 (by decide) | exact absurd (by decide) c3)
  refine lv_iconst (v := 0) hx hb dX12_start_34 (by decide) ?_
  exact W.zret (v := (0)) hx hb hr rfl (fun t ht hW => ⟨⟨(0), (), rfl, rfl, trivial⟩, hS.F ht⟩) hS.2.2 dX12_start_35
set_option maxHeartbeats 4000000 in
set_option maxRecDepth 100000 in
theorem c_lean (l : Launch) (dC : Nat → ClassId) (dI : Nat → Nat → Nat) (x : Nat) (bk : Nat) (tp : Nat) (sh : Nat) (sc : Nat) (he : Nat) (of : Nat) (lc : Nat) (lr : Nat) (la : Nat) (le : Nat) (lw : Nat) (lp : Nat) (ltr : Nat) (stk : Nat) (ed : Nat) (a0 : Int32)  : Met l yX12_lean wsX12_lean ({ frames := 2, cells := 0, slots := 0, locals := 80 }) (va_Pc [.ref x, .int a0] (fun U => va_P (dC, dI) vwCl [(x, .inr (13, [.ref bk, .ref tp, .ref sh, .ref sc, .ref he, .ref of])), (bk, .inr (1, [.int 0, .int 0, .int 0, .ref lc, .ref lr, .ref la, .ref le, .ref lw, .ref lp, .ref ltr, .ref stk])), (la, .inr (0, [.int 0, .ref ed, .int 0]))] U.heap ∧ va_K (dC, dI) vwCl [] U ∧ ub_NX U)) (va_Qi (S := Unit) (fun r _ => r = -1000000000) (fun _ _ => True) (fun _ => False)) 0 0 (fun _ => False) := by
  refine Met.ofW (cc := cX12_lean) (maxL := 2) (ret := (some .int)) (by decide) rfl ?_
  intro p e s m args below meth c s₁ B hml hv
  obtain ⟨rfl, hP, hK, hN⟩ := hv
  have hx := B.exec
  have hb := B.bytes
  have hr := B.returns
  have hts := atoms_spec (ws := wsX12_lean) B.pre
  have hown : s.vm.findClass RX12 = some m.cls := findClass_of_methodNamed B.named
  have hlocks := B.notSynchronized
  have hS : va_S (fun _ : Nat => False) s.heap s.heap [] := va_S.rf
  have hl := lv_entry ([.ref x, .int a0]) (n := 2) (Nat.le_of_ble_eq_true rfl)
  rw [lg_entry_eq]
  generalize (lg_sl ([.ref x, .int a0]) ++ List.replicate (2 - (lg_sl ([.ref x, .int a0])).length) Slot.unset).toArray = ls at hl ⊢
  have hl : lv_has ls 2 [(0, .ref x), (1, .int a0)] := hl
  refine lv_aload_n hx hb dX12_lean_0 rfl (lv_at hl 0 rfl) ?_
  refine va_get (D := (dC, dI)) (ci := 13) (v := .ref bk) (C := RX12) (T := TX12) (N := 6) hx hb hts iw_X12_lean_X12 hown hK hP 0 rfl rfl 0 (by decide) (hts (.fieldLink RX12 10 "UnlikeBoats" "book" "LUnlikeBoats$Book;") (List.mem_of_getElem? (i := 1) rfl)) (fun _ h9 => h9) rfl dX12_lean_1 ?_
  refine lv_iload_n hx hb dX12_lean_4 rfl (lv_at hl 1 rfl) ?_
  have hPc := hP.sub (ws' := [(bk, .inr (1, [.int 0, .int 0, .int 0, .ref lc, .ref lr, .ref la, .ref le, .ref lw, .ref lp, .ref ltr, .ref stk])), (la, .inr (0, [.int 0, .ref ed, .int 0]))]) [1, 2] rfl
  have hKc := hK.sub (tys' := []) [] rfl
  refine va_calli (va_runV (As := [.int a0]) (rest := []) ⟨hx, hb, hml, hown, hts⟩ (c_isRace0 l dC dI bk lc lr la le lw lp ltr stk ed a0) (cwV 1 hts gX12_lean_X0_isRace rfl rfl rfl (by decide +kernel) ⟨Nat.le_of_ble_eq_true rfl, Nat.le_of_ble_eq_true rfl⟩) ⟨fun a U g mk q => by obtain ⟨e0, qP, qK, qN⟩ := q; exact ⟨e0, qP, va_K.moved (u := U) (U := U.calling g mk a) (Vm.Alike.refl U.vm) qK, ub_NX_c qN⟩, va_recv hK hP (ci := 1) (q0 := 1) rfl rfl, fun U hU hW => ⟨rfl, by rw [hU]; exact hPc, va_K.moved hW.alike hKc, ub_NX_w hW hN⟩⟩ rfl rfl hl.1 rfl (lv_room (Nat.le_of_ble_eq_true rfl)) dX12_lean_5 ⟨Nat.le_of_ble_eq_true rfl, Nat.le_of_ble_eq_true rfl⟩) hS (fun _ _ h => h.elim) (fun _ h => h.elim) (fun r1 u2 t H1 locs ht hvm hw hB hz1 hk1 hS => ?_)
  have hP := ub_keep hP hk1
  generalize H1 = H at hP hS ⊢
  obtain rfl : (0 : Int32) = r1 := hw.symm
  refine lv_if_ne (tgt := 14) hx hb dX12_lean_8 (by decide) (fun c3 => by first | exact absurd c3 (by decide) | exact absurd (by decide) c3) (fun c3 => ?_)
  refine lv_ldc hx hb hown (hts (.constant RX12 172 (-1000000000)) (List.mem_of_getElem? (i := 2) rfl)) dX12_lean_11 ?_
  exact W.iret (v := (-1000000000)) hx hb hr (fun t ht hW => ⟨⟨(-1000000000), (), rfl, rfl, trivial⟩, hS.F ht⟩) hS.2.2 dX12_lean_13
set_option maxHeartbeats 4000000 in
set_option maxRecDepth 100000 in
theorem c_days (l : Launch) (dC : Nat → ClassId) (dI : Nat → Nat → Nat) (x : Nat) (bk : Nat) (tp : Nat) (sh : Nat) (sc : Nat) (he : Nat) (of : Nat) (lc : Nat) (lr : Nat) (la : Nat) (le : Nat) (lw : Nat) (lp : Nat) (ltr : Nat) (stk : Nat) (n : Int32) (sz : Nat)  : Met l yX12_days wsX12_days ({ frames := 1, cells := 0, slots := 0, locals := 40 }) (va_Pc [.ref x, .int n] (fun U => U.heap.size = sz ∧ va_P (dC, dI) vwCl [(x, .inr (13, [.ref bk, .ref tp, .ref sh, .ref sc, .ref he, .ref of])), (bk, .inr (1, [.int 0, .int 0, .int 0, .ref lc, .ref lr, .ref la, .ref le, .ref lw, .ref lp, .ref ltr, .ref stk]))] U.heap ∧ va_K (dC, dI) vwCl [] U ∧ va_D (fun _ => True) [(x, .inr (13, [.ref bk, .ref tp, .ref sh, .ref sc, .ref he, .ref of])), (bk, .inr (1, [.int 0, .int 0, .int 0, .ref lc, .ref lr, .ref la, .ref le, .ref lw, .ref lp, .ref ltr, .ref stk]))] ∧ ub_NX U)) (va_Qi (S := Unit) (fun r _ => r = if n < 0 ∨ 400 < n then -1 else n) (fun _ _ => True) (va_A [(x, .inr (13, [.ref bk, .ref tp, .ref sh, .ref sc, .ref he, .ref of])), (bk, .inr (1, [.int 0, .int 0, .int 0, .ref lc, .ref lr, .ref la, .ref le, .ref lw, .ref lp, .ref ltr, .ref stk]))] sz)) 0 0 (va_A [(x, .inr (13, [.ref bk, .ref tp, .ref sh, .ref sc, .ref he, .ref of])), (bk, .inr (1, [.int 0, .int 0, .int 0, .ref lc, .ref lr, .ref la, .ref le, .ref lw, .ref lp, .ref ltr, .ref stk]))] sz) := by
  refine Met.ofW (cc := cX12_days) (maxL := 2) (ret := (some .int)) (by decide) rfl ?_
  intro p e s m args below meth c s₁ B hml hv
  obtain ⟨rfl, hsz, hP, hK, hD0, hN⟩ := hv
  have hx := B.exec
  have hb := B.bytes
  have hr := B.returns
  have hts := atoms_spec (ws := wsX12_days) B.pre
  have hown : s.vm.findClass RX12 = some m.cls := findClass_of_methodNamed B.named
  have hlocks := B.notSynchronized
  subst hsz
  have hD := hD0.self (sz := s.heap.size)
  generalize hAe : va_A [(x, .inr (13, [.ref bk, .ref tp, .ref sh, .ref sc, .ref he, .ref of])), (bk, .inr (1, [.int 0, .int 0, .int 0, .ref lc, .ref lr, .ref la, .ref le, .ref lw, .ref lp, .ref ltr, .ref stk]))] s.heap.size = A at hD ⊢
  have hA : ∀ q : Nat, s.heap.size ≤ q → A q := fun q h => by rw [← hAe]; exact Or.inr h
  have hS : va_S A s.heap s.heap [] := va_S.rf
  have hP : va_P (dC, dI) vwCl [(x, .inr (13, [.ref bk, .ref tp, .ref sh, .ref sc, .ref he, .ref of])), (bk, .inr (1, [.int 0, .int 0, .int 0, .ref lc, .ref lr, .ref la, .ref le, .ref lw, .ref lp, .ref ltr, .ref stk]))] s.heap := hP
  have hl := lv_entry ([.ref x, .int n]) (n := 2) (Nat.le_of_ble_eq_true rfl)
  rw [lg_entry_eq]
  generalize (lg_sl ([.ref x, .int n]) ++ List.replicate (2 - (lg_sl ([.ref x, .int n])).length) Slot.unset).toArray = ls at hl ⊢
  have hl : lv_has ls 2 [(0, .ref x), (1, .int n)] := hl
  refine lv_iload_n hx hb dX12_days_0 rfl (lv_at hl 1 rfl) ?_
  refine lv_iconst (v := 0) hx hb dX12_days_1 (by decide) ?_
  refine lv_sipush (v := 400) hx hb dX12_days_2 (by decide) ?_
  refine lv_aload_n hx hb dX12_days_5 rfl (lv_at hl 0 rfl) ?_
  refine va_get (D := (dC, dI)) (ci := 13) (v := .ref bk) (C := RX12) (T := TX12) (N := 6) hx hb hts iw_X12_days_X12 hown hK hP 0 rfl rfl 0 (by decide) (hts (.fieldLink RX12 10 "UnlikeBoats" "book" "LUnlikeBoats$Book;") (List.mem_of_getElem? (i := 1) rfl)) (fun _ h9 => h9) rfl dX12_days_6 ?_
  refine va_get (D := (dC, dI)) (ci := 1) (v := .int 0) (C := RX0) (T := TX0) (N := 11) hx hb hts iw_X12_days_X0 hown hK hP 1 rfl rfl 0 (by decide) (hts (.fieldLink RX12 55 "UnlikeBoats$Book" "now" "I") (List.mem_of_getElem? (i := 2) rfl)) (fun _ h9 => h9) rfl dX12_days_9 ?_
  refine lv_isub hx hb dX12_days_12 ?_
  refine lv_topi (fun y1 ey1 => ?_)
  obtain rfl : (400 : Int32) = y1 := (ey1.trans (by decide)).symm
  refine va_calli (va_runS (As := [.int n, .int 0, .int 400]) (rest := []) ⟨hx, hb, hml, hown, hts⟩ (c_within l n (0) (400)) (va_cwS 3 hts gX12_days_X12_within rfl rfl rfl (by decide +kernel) ⟨Nat.le_of_ble_eq_true rfl, Nat.le_of_ble_eq_true rfl⟩) ⟨fun _ _ _ _ q => q, fun _ _ _ => ⟨rfl, trivial⟩⟩ rfl rfl hl.1 rfl (lv_room (Nat.le_of_ble_eq_true rfl)) dX12_days_13 ⟨Nat.le_of_ble_eq_true rfl, Nat.le_of_ble_eq_true rfl⟩) hS (fun _ _ h => h.elim) (fun _ h => h.elim) (fun r2 u3 t H1 locs ht hvm hw hB hz1 hk1 hS => ?_)
  have hP := ub_keep hP hk1
  generalize H1 = H at hP hS ⊢
  rcases hw with ⟨rfl, hw1, hw2⟩ | ⟨rfl, hw1⟩
  · --in
    have d4a := hw1
    have d4b := hw2
    refine lv_if_ne (tgt := 21) hx hb dX12_days_16 (by decide) (fun c5 => ?_) (fun c5 => by first | exact absurd c5 (by decide) | exact absurd (by decide) c5)
    refine lv_aload_n hx hb dX12_days_21 rfl (lv_at hl 0 rfl) ?_
    refine va_get (D := (dC, dI)) (ci := 13) (v := .ref bk) (C := RX12) (T := TX12) (N := 6) hx hb hts iw_X12_days_X12 hown hK hP 0 rfl rfl 0 (by decide) (hts (.fieldLink RX12 10 "UnlikeBoats" "book" "LUnlikeBoats$Book;") (List.mem_of_getElem? (i := 1) rfl)) (fun _ h9 => h9) rfl dX12_days_22 ?_
    refine lv_dup hx hb dX12_days_25 rfl ?_
    refine va_get (D := (dC, dI)) (ci := 1) (v := .int 0) (C := RX0) (T := TX0) (N := 11) hx hb hts iw_X12_days_X0 hown hK hP 1 rfl rfl 0 (by decide) (hts (.fieldLink RX12 55 "UnlikeBoats$Book" "now" "I") (List.mem_of_getElem? (i := 2) rfl)) (fun _ h9 => h9) rfl dX12_days_26 ?_
    refine lv_iload_n hx hb dX12_days_29 rfl (lv_at hl 1 rfl) ?_
    refine lv_iadd hx hb dX12_days_30 ?_
    refine lv_topi (fun y6 ey6 => ?_)
    obtain rfl : (n : Int32) = y6 := (ey6.trans (Int32.zero_add _)).symm
    refine va_put (D := (dC, dI)) (ci := 1) (v := .int n) (ty := .int) (C := RX0) (T := TX0) (N := 11) hx hb hts iw_X12_days_X0 tyX0 tyX0_ok nmX0 hown hK hP hD hS 1 rfl rfl 0 (by decide) (hts (.fieldLink RX12 55 "UnlikeBoats$Book" "now" "I") (List.mem_of_getElem? (i := 2) rfl)) (fun _ h9 => h9) rfl (by decide +kernel) rfl rfl (Nat.le_of_ble_eq_true rfl) dX12_days_31 (fun H locs hP hD hS => ?_)
    have hP : va_P (dC, dI) vwCl [(x, .inr (13, [.ref bk, .ref tp, .ref sh, .ref sc, .ref he, .ref of])), (bk, .inr (1, [.int n, .int 0, .int 0, .ref lc, .ref lr, .ref la, .ref le, .ref lw, .ref lp, .ref ltr, .ref stk]))] H := hP
    have hD : va_D A [(x, .inr (13, [.ref bk, .ref tp, .ref sh, .ref sc, .ref he, .ref of])), (bk, .inr (1, [.int n, .int 0, .int 0, .ref lc, .ref lr, .ref la, .ref le, .ref lw, .ref lp, .ref ltr, .ref stk]))] := hD
    refine lv_aload_n hx hb dX12_days_34 rfl (lv_at hl 0 rfl) ?_
    refine va_get (D := (dC, dI)) (ci := 13) (v := .ref bk) (C := RX12) (T := TX12) (N := 6) hx hb hts iw_X12_days_X12 hown hK hP 0 rfl rfl 0 (by decide) (hts (.fieldLink RX12 10 "UnlikeBoats" "book" "LUnlikeBoats$Book;") (List.mem_of_getElem? (i := 1) rfl)) (fun _ h9 => h9) rfl dX12_days_35 ?_
    refine va_get (D := (dC, dI)) (ci := 1) (v := .int n) (C := RX0) (T := TX0) (N := 11) hx hb hts iw_X12_days_X0 hown hK hP 1 rfl rfl 0 (by decide) (hts (.fieldLink RX12 55 "UnlikeBoats$Book" "now" "I") (List.mem_of_getElem? (i := 2) rfl)) (fun _ h9 => h9) rfl dX12_days_38 ?_
    exact W.iret (v := n) hx hb hr (fun t ht hW => ⟨⟨n, (), rfl, by rw [if_neg (fun hh => hh.elim d4a d4b)], trivial⟩, hS.F ht⟩) hS.2.2 dX12_days_41
  · --out
    have d7 := hw1
    refine lv_if_ne (tgt := 21) hx hb dX12_days_16 (by decide) (fun c8 => by first | exact absurd c8 (by decide) | exact absurd (by decide) c8) (fun c8 => ?_)
    refine lv_iconst (v := -1) hx hb dX12_days_19 (by decide) ?_
    exact W.iret (v := (-1)) hx hb hr (fun t ht hW => ⟨⟨(-1), (), rfl, by rw [if_pos d7], trivial⟩, hS.F ht⟩) hS.2.2 dX12_days_20
set_option maxHeartbeats 4000000 in
set_option maxRecDepth 100000 in
theorem c_boat (l : Launch) (dC : Nat → ClassId) (dI : Nat → Nat → Nat) (x : Nat) (bk : Nat) (tp : Nat) (sh : Nat) (sc : Nat) (he : Nat) (of : Nat) (lc : Nat) (lr : Nat) (la : Nat) (le : Nat) (lw : Nat) (lp : Nat) (ltr : Nat) (stk : Nat) (sz : Nat)  : Met l yX12_boat wsX12_boat ({ frames := 0, cells := 0, slots := 0, locals := 0 }) (va_Pc [.ref x] (fun U => U.heap.size = sz ∧ va_P (dC, dI) vwCl [(x, .inr (13, [.ref bk, .ref tp, .ref sh, .ref sc, .ref he, .ref of])), (bk, .inr (1, [.int 0, .int 0, .int 0, .ref lc, .ref lr, .ref la, .ref le, .ref lw, .ref lp, .ref ltr, .ref stk]))] U.heap ∧ va_K (dC, dI) vwCl [] U ∧ va_D (fun _ => True) [(x, .inr (13, [.ref bk, .ref tp, .ref sh, .ref sc, .ref he, .ref of])), (bk, .inr (1, [.int 0, .int 0, .int 0, .ref lc, .ref lr, .ref la, .ref le, .ref lw, .ref lp, .ref ltr, .ref stk]))] ∧ ub_NX U)) (va_Qi (S := Unit) (fun r _ => r = 0) (fun _ _ => True) (va_A [(x, .inr (13, [.ref bk, .ref tp, .ref sh, .ref sc, .ref he, .ref of])), (bk, .inr (1, [.int 0, .int 0, .int 0, .ref lc, .ref lr, .ref la, .ref le, .ref lw, .ref lp, .ref ltr, .ref stk]))] sz)) 0 0 (va_A [(x, .inr (13, [.ref bk, .ref tp, .ref sh, .ref sc, .ref he, .ref of])), (bk, .inr (1, [.int 0, .int 0, .int 0, .ref lc, .ref lr, .ref la, .ref le, .ref lw, .ref lp, .ref ltr, .ref stk]))] sz) := by
  refine Met.ofW (cc := cX12_boat) (maxL := 1) (ret := (some .int)) (by decide) rfl ?_
  intro p e s m args below meth c s₁ B hml hv
  obtain ⟨rfl, hsz, hP, hK, hD0, hN⟩ := hv
  have hx := B.exec
  have hb := B.bytes
  have hr := B.returns
  have hts := atoms_spec (ws := wsX12_boat) B.pre
  have hown : s.vm.findClass RX12 = some m.cls := findClass_of_methodNamed B.named
  have hlocks := B.notSynchronized
  subst hsz
  have hD := hD0.self (sz := s.heap.size)
  generalize hAe : va_A [(x, .inr (13, [.ref bk, .ref tp, .ref sh, .ref sc, .ref he, .ref of])), (bk, .inr (1, [.int 0, .int 0, .int 0, .ref lc, .ref lr, .ref la, .ref le, .ref lw, .ref lp, .ref ltr, .ref stk]))] s.heap.size = A at hD ⊢
  have hA : ∀ q : Nat, s.heap.size ≤ q → A q := fun q h => by rw [← hAe]; exact Or.inr h
  have hS : va_S A s.heap s.heap [] := va_S.rf
  have hP : va_P (dC, dI) vwCl [(x, .inr (13, [.ref bk, .ref tp, .ref sh, .ref sc, .ref he, .ref of])), (bk, .inr (1, [.int 0, .int 0, .int 0, .ref lc, .ref lr, .ref la, .ref le, .ref lw, .ref lp, .ref ltr, .ref stk]))] s.heap := hP
  have hl := lv_entry ([.ref x]) (n := 1) (Nat.le_of_ble_eq_true rfl)
  rw [lg_entry_eq]
  generalize (lg_sl ([.ref x]) ++ List.replicate (1 - (lg_sl ([.ref x])).length) Slot.unset).toArray = ls at hl ⊢
  have hl : lv_has ls 1 [(0, .ref x)] := hl
  refine lv_aload_n hx hb dX12_boat_0 rfl (lv_at hl 0 rfl) ?_
  refine va_get (D := (dC, dI)) (ci := 13) (v := .ref bk) (C := RX12) (T := TX12) (N := 6) hx hb hts iw_X12_boat_X12 hown hK hP 0 rfl rfl 0 (by decide) (hts (.fieldLink RX12 10 "UnlikeBoats" "book" "LUnlikeBoats$Book;") (List.mem_of_getElem? (i := 1) rfl)) (fun _ h9 => h9) rfl dX12_boat_1 ?_
  refine va_get (D := (dC, dI)) (ci := 1) (v := .int 0) (C := RX0) (T := TX0) (N := 11) hx hb hts iw_X12_boat_X0 hown hK hP 1 rfl rfl 1 (by decide) (hts (.fieldLink RX12 63 "UnlikeBoats$Book" "boats" "I") (List.mem_of_getElem? (i := 2) rfl)) (fun _ h9 => h9) rfl dX12_boat_4 ?_
  refine lv_bipush (v := 16) hx hb dX12_boat_7 (by decide) ?_
  refine lv_icmp_lt (tgt := 14) hx hb dX12_boat_9 (by decide) (fun c1 => ?_) (fun c1 => by first | exact absurd c1 (by decide) | exact absurd (by decide) c1)
  refine lv_aload_n hx hb dX12_boat_14 rfl (lv_at hl 0 rfl) ?_
  refine va_get (D := (dC, dI)) (ci := 13) (v := .ref bk) (C := RX12) (T := TX12) (N := 6) hx hb hts iw_X12_boat_X12 hown hK hP 0 rfl rfl 0 (by decide) (hts (.fieldLink RX12 10 "UnlikeBoats" "book" "LUnlikeBoats$Book;") (List.mem_of_getElem? (i := 1) rfl)) (fun _ h9 => h9) rfl dX12_boat_15 ?_
  refine lv_dup hx hb dX12_boat_18 rfl ?_
  refine va_get (D := (dC, dI)) (ci := 1) (v := .int 0) (C := RX0) (T := TX0) (N := 11) hx hb hts iw_X12_boat_X0 hown hK hP 1 rfl rfl 1 (by decide) (hts (.fieldLink RX12 63 "UnlikeBoats$Book" "boats" "I") (List.mem_of_getElem? (i := 2) rfl)) (fun _ h9 => h9) rfl dX12_boat_19 ?_
  refine lv_iconst (v := 1) hx hb dX12_boat_22 (by decide) ?_
  refine lv_iadd hx hb dX12_boat_23 ?_
  refine lv_topi (fun y2 ey2 => ?_)
  obtain rfl : (1 : Int32) = y2 := (ey2.trans (by decide)).symm
  refine va_put (D := (dC, dI)) (ci := 1) (v := .int 1) (ty := .int) (C := RX0) (T := TX0) (N := 11) hx hb hts iw_X12_boat_X0 tyX0 tyX0_ok nmX0 hown hK hP hD hS 1 rfl rfl 1 (by decide) (hts (.fieldLink RX12 63 "UnlikeBoats$Book" "boats" "I") (List.mem_of_getElem? (i := 2) rfl)) (fun _ h9 => h9) rfl (by decide +kernel) rfl rfl (Nat.le_of_ble_eq_true rfl) dX12_boat_24 (fun H locs hP hD hS => ?_)
  have hP : va_P (dC, dI) vwCl [(x, .inr (13, [.ref bk, .ref tp, .ref sh, .ref sc, .ref he, .ref of])), (bk, .inr (1, [.int 0, .int 1, .int 0, .ref lc, .ref lr, .ref la, .ref le, .ref lw, .ref lp, .ref ltr, .ref stk]))] H := hP
  have hD : va_D A [(x, .inr (13, [.ref bk, .ref tp, .ref sh, .ref sc, .ref he, .ref of])), (bk, .inr (1, [.int 0, .int 1, .int 0, .ref lc, .ref lr, .ref la, .ref le, .ref lw, .ref lp, .ref ltr, .ref stk]))] := hD
  refine lv_aload_n hx hb dX12_boat_27 rfl (lv_at hl 0 rfl) ?_
  refine va_get (D := (dC, dI)) (ci := 13) (v := .ref bk) (C := RX12) (T := TX12) (N := 6) hx hb hts iw_X12_boat_X12 hown hK hP 0 rfl rfl 0 (by decide) (hts (.fieldLink RX12 10 "UnlikeBoats" "book" "LUnlikeBoats$Book;") (List.mem_of_getElem? (i := 1) rfl)) (fun _ h9 => h9) rfl dX12_boat_28 ?_
  refine va_get (D := (dC, dI)) (ci := 1) (v := .int 1) (C := RX0) (T := TX0) (N := 11) hx hb hts iw_X12_boat_X0 hown hK hP 1 rfl rfl 1 (by decide) (hts (.fieldLink RX12 63 "UnlikeBoats$Book" "boats" "I") (List.mem_of_getElem? (i := 2) rfl)) (fun _ h9 => h9) rfl dX12_boat_31 ?_
  refine lv_iconst (v := 1) hx hb dX12_boat_34 (by decide) ?_
  refine lv_isub hx hb dX12_boat_35 ?_
  refine lv_topi (fun y3 ey3 => ?_)
  obtain rfl : (0 : Int32) = y3 := (ey3.trans (by decide)).symm
  exact W.iret (v := (0)) hx hb hr (fun t ht hW => ⟨⟨(0), (), rfl, rfl, trivial⟩, hS.F ht⟩) hS.2.2 dX12_boat_36
set_option maxHeartbeats 4000000 in
set_option maxRecDepth 100000 in
theorem c_end (l : Launch) (dC : Nat → ClassId) (dI : Nat → Nat → Nat) (x : Nat) (bk : Nat) (tp : Nat) (sh : Nat) (sc : Nat) (he : Nat) (of : Nat) (tby : Nat) (tst : Nat) (tla : Nat) (tbe : Nat) (tsu : Nat) (n : Int32) (sz : Nat)  : Met l yX12_end wsX12_end ({ frames := 1, cells := 0, slots := 0, locals := 40 }) (va_Pc [.ref x, .int n] (fun U => U.heap.size = sz ∧ va_P (dC, dI) vwCl [(x, .inr (13, [.ref bk, .ref tp, .ref sh, .ref sc, .ref he, .ref of])), (tp, .inr (11, [.ref tby, .int 0, .int 0, .int 0, .ref tst, .int 0, .ref tla, .ref tbe, .ref tsu, .int 0]))] U.heap ∧ va_K (dC, dI) vwCl [] U ∧ va_D (fun _ => True) [(x, .inr (13, [.ref bk, .ref tp, .ref sh, .ref sc, .ref he, .ref of])), (tp, .inr (11, [.ref tby, .int 0, .int 0, .int 0, .ref tst, .int 0, .ref tla, .ref tbe, .ref tsu, .int 0]))] ∧ ub_NX U)) (va_Qi (S := Unit) (fun r _ => r = if n < 0 ∨ 0 < n then 0 else 1) (fun _ _ => True) (va_A [(x, .inr (13, [.ref bk, .ref tp, .ref sh, .ref sc, .ref he, .ref of])), (tp, .inr (11, [.ref tby, .int 0, .int 0, .int 0, .ref tst, .int 0, .ref tla, .ref tbe, .ref tsu, .int 0]))] sz)) 0 0 (va_A [(x, .inr (13, [.ref bk, .ref tp, .ref sh, .ref sc, .ref he, .ref of])), (tp, .inr (11, [.ref tby, .int 0, .int 0, .int 0, .ref tst, .int 0, .ref tla, .ref tbe, .ref tsu, .int 0]))] sz) := by
  refine Met.ofW (cc := cX12_end) (maxL := 2) (ret := (some .boolean)) (by decide) rfl ?_
  intro p e s m args below meth c s₁ B hml hv
  obtain ⟨rfl, hsz, hP, hK, hD0, hN⟩ := hv
  have hx := B.exec
  have hb := B.bytes
  have hr := B.returns
  have hts := atoms_spec (ws := wsX12_end) B.pre
  have hown : s.vm.findClass RX12 = some m.cls := findClass_of_methodNamed B.named
  have hlocks := B.notSynchronized
  subst hsz
  have hD := hD0.self (sz := s.heap.size)
  generalize hAe : va_A [(x, .inr (13, [.ref bk, .ref tp, .ref sh, .ref sc, .ref he, .ref of])), (tp, .inr (11, [.ref tby, .int 0, .int 0, .int 0, .ref tst, .int 0, .ref tla, .ref tbe, .ref tsu, .int 0]))] s.heap.size = A at hD ⊢
  have hA : ∀ q : Nat, s.heap.size ≤ q → A q := fun q h => by rw [← hAe]; exact Or.inr h
  have hS : va_S A s.heap s.heap [] := va_S.rf
  have hP : va_P (dC, dI) vwCl [(x, .inr (13, [.ref bk, .ref tp, .ref sh, .ref sc, .ref he, .ref of])), (tp, .inr (11, [.ref tby, .int 0, .int 0, .int 0, .ref tst, .int 0, .ref tla, .ref tbe, .ref tsu, .int 0]))] s.heap := hP
  have hl := lv_entry ([.ref x, .int n]) (n := 2) (Nat.le_of_ble_eq_true rfl)
  rw [lg_entry_eq]
  generalize (lg_sl ([.ref x, .int n]) ++ List.replicate (2 - (lg_sl ([.ref x, .int n])).length) Slot.unset).toArray = ls at hl ⊢
  have hl : lv_has ls 2 [(0, .ref x), (1, .int n)] := hl
  refine lv_iload_n hx hb dX12_end_0 rfl (lv_at hl 1 rfl) ?_
  refine lv_iconst (v := 0) hx hb dX12_end_1 (by decide) ?_
  refine lv_aload_n hx hb dX12_end_2 rfl (lv_at hl 0 rfl) ?_
  refine va_get (D := (dC, dI)) (ci := 13) (v := .ref tp) (C := RX12) (T := TX12) (N := 6) hx hb hts iw_X12_end_X12 hown hK hP 0 rfl rfl 1 (by decide) (hts (.fieldLink RX12 19 "UnlikeBoats" "tape" "LUnlikeBoats$Tape;") (List.mem_of_getElem? (i := 1) rfl)) (fun _ h9 => h9) rfl dX12_end_3 ?_
  refine va_get (D := (dC, dI)) (ci := 11) (v := .int 0) (C := RX10) (T := TX10) (N := 10) hx hb hts iw_X12_end_X10 hown hK hP 1 rfl rfl 1 (by decide) (hts (.fieldLink RX12 103 "UnlikeBoats$Tape" "length" "I") (List.mem_of_getElem? (i := 2) rfl)) (fun _ h9 => h9) rfl dX12_end_6 ?_
  refine va_calli (va_runS (As := [.int n, .int 0, .int 0]) (rest := []) ⟨hx, hb, hml, hown, hts⟩ (c_within l n (0) (0)) (va_cwS 3 hts gX12_end_X12_within rfl rfl rfl (by decide +kernel) ⟨Nat.le_of_ble_eq_true rfl, Nat.le_of_ble_eq_true rfl⟩) ⟨fun _ _ _ _ q => q, fun _ _ _ => ⟨rfl, trivial⟩⟩ rfl rfl hl.1 rfl (lv_room (Nat.le_of_ble_eq_true rfl)) dX12_end_9 ⟨Nat.le_of_ble_eq_true rfl, Nat.le_of_ble_eq_true rfl⟩) hS (fun _ _ h => h.elim) (fun _ h => h.elim) (fun r1 u2 t H1 locs ht hvm hw hB hz1 hk1 hS => ?_)
  have hP := ub_keep hP hk1
  generalize H1 = H at hP hS ⊢
  rcases hw with ⟨rfl, hw1, hw2⟩ | ⟨rfl, hw1⟩
  · --in
    have d3a := hw1
    have d3b := hw2
    refine lv_if_ne (tgt := 17) hx hb dX12_end_12 (by decide) (fun c4 => ?_) (fun c4 => by first | exact absurd c4 (by decide) | exact absurd (by decide) c4)
    refine lv_aload_n hx hb dX12_end_17 rfl (lv_at hl 0 rfl) ?_
    refine va_get (D := (dC, dI)) (ci := 13) (v := .ref tp) (C := RX12) (T := TX12) (N := 6) hx hb hts iw_X12_end_X12 hown hK hP 0 rfl rfl 1 (by decide) (hts (.fieldLink RX12 19 "UnlikeBoats" "tape" "LUnlikeBoats$Tape;") (List.mem_of_getElem? (i := 1) rfl)) (fun _ h9 => h9) rfl dX12_end_18 ?_
    refine lv_iload_n hx hb dX12_end_21 rfl (lv_at hl 1 rfl) ?_
    refine va_put (D := (dC, dI)) (ci := 11) (v := .int n) (ty := .int) (C := RX10) (T := TX10) (N := 10) hx hb hts iw_X12_end_X10 tyX10 tyX10_ok nmX10 hown hK hP hD hS 1 rfl rfl 1 (by decide) (hts (.fieldLink RX12 103 "UnlikeBoats$Tape" "length" "I") (List.mem_of_getElem? (i := 2) rfl)) (fun _ h9 => h9) rfl (by decide +kernel) rfl rfl (Nat.le_of_ble_eq_true rfl) dX12_end_22 (fun H locs hP hD hS => ?_)
    have hP : va_P (dC, dI) vwCl [(x, .inr (13, [.ref bk, .ref tp, .ref sh, .ref sc, .ref he, .ref of])), (tp, .inr (11, [.ref tby, .int n, .int 0, .int 0, .ref tst, .int 0, .ref tla, .ref tbe, .ref tsu, .int 0]))] H := hP
    have hD : va_D A [(x, .inr (13, [.ref bk, .ref tp, .ref sh, .ref sc, .ref he, .ref of])), (tp, .inr (11, [.ref tby, .int n, .int 0, .int 0, .ref tst, .int 0, .ref tla, .ref tbe, .ref tsu, .int 0]))] := hD
    refine lv_iconst (v := 1) hx hb dX12_end_25 (by decide) ?_
    exact W.zret (v := (1)) hx hb hr rfl (fun t ht hW => ⟨⟨(1), (), rfl, by rw [if_neg (fun hh => hh.elim d3a d3b)], trivial⟩, hS.F ht⟩) hS.2.2 dX12_end_26
  · --out
    have d5 := hw1
    refine lv_if_ne (tgt := 17) hx hb dX12_end_12 (by decide) (fun c6 => by first | exact absurd c6 (by decide) | exact absurd (by decide) c6) (fun c6 => ?_)
    refine lv_iconst (v := 0) hx hb dX12_end_15 (by decide) ?_
    exact W.zret (v := (0)) hx hb hr rfl (fun t ht hW => ⟨⟨(0), (), rfl, by rw [if_pos d5], trivial⟩, hS.F ht⟩) hS.2.2 dX12_end_16
set_option maxHeartbeats 4000000 in
set_option maxRecDepth 100000 in
theorem c_count (l : Launch) (dC : Nat → ClassId) (dI : Nat → Nat → Nat) (x : Nat) (bk : Nat) (tp : Nat) (sh : Nat) (sc : Nat) (he : Nat) (of : Nat) (lc : Nat) (lr : Nat) (la : Nat) (le : Nat) (lw : Nat) (lp : Nat) (ltr : Nat) (stk : Nat) (tby : Nat) (tst : Nat) (tla : Nat) (tbe : Nat) (tsu : Nat) (ed : Nat) (n : Int32)  : Met l yX12_count wsX12_count ({ frames := 2, cells := 0, slots := 0, locals := 80 }) (va_Pc [.ref x, .int n] (fun U => va_P (dC, dI) vwCl [(x, .inr (13, [.ref bk, .ref tp, .ref sh, .ref sc, .ref he, .ref of])), (bk, .inr (1, [.int 0, .int 0, .int 0, .ref lc, .ref lr, .ref la, .ref le, .ref lw, .ref lp, .ref ltr, .ref stk])), (tp, .inr (11, [.ref tby, .int 0, .int 0, .int 0, .ref tst, .int 0, .ref tla, .ref tbe, .ref tsu, .int 0])), (lc, .inr (0, [.int 0, .ref ed, .int 0])), (lr, .inr (0, [.int 0, .ref ed, .int 0])), (la, .inr (0, [.int 0, .ref ed, .int 0])), (le, .inr (0, [.int 0, .ref ed, .int 0])), (lw, .inr (0, [.int 0, .ref ed, .int 0])), (lp, .inr (0, [.int 0, .ref ed, .int 0]))] U.heap ∧ va_K (dC, dI) vwCl [] U ∧ ub_NX U)) (va_Qi (S := Unit) (fun r _ => r = if n.toInt < 0 ∨ 10 < n.toInt then -1 else 0) (fun _ _ => True) (fun _ => False)) 0 0 (fun _ => False) := by
  refine Met.ofW (cc := cX12_count) (maxL := 2) (ret := (some .int)) (by decide) rfl ?_
  intro p e s m args below meth c s₁ B hml hv
  obtain ⟨rfl, hP, hK, hN⟩ := hv
  have hx := B.exec
  have hb := B.bytes
  have hr := B.returns
  have hts := atoms_spec (ws := wsX12_count) B.pre
  have hown : s.vm.findClass RX12 = some m.cls := findClass_of_methodNamed B.named
  have hlocks := B.notSynchronized
  have hS : va_S (fun _ : Nat => False) s.heap s.heap [] := va_S.rf
  have hl := lv_entry ([.ref x, .int n]) (n := 2) (Nat.le_of_ble_eq_true rfl)
  rw [lg_entry_eq]
  generalize (lg_sl ([.ref x, .int n]) ++ List.replicate (2 - (lg_sl ([.ref x, .int n])).length) Slot.unset).toArray = ls at hl ⊢
  have hl : lv_has ls 2 [(0, .ref x), (1, .int n)] := hl
  refine lv_iload_n hx hb dX12_count_0 rfl (lv_at hl 1 rfl) ?_
  rcases (show (n.toInt < 0 ∨ 10 < n.toInt) ∨ n.toInt = 0 ∨ n.toInt = 1 ∨ n.toInt = 2 ∨ n.toInt = 3 ∨ n.toInt = 4 ∨ n.toInt = 5 ∨ n.toInt = 6 ∨ n.toInt = 7 ∨ n.toInt = 8 ∨ n.toInt = 9 ∨ n.toInt = 10 by omega) with c1 | c1 | c1 | c1 | c1 | c1 | c1 | c1 | c1 | c1 | c1 | c1
  · --None
    refine lv_tableOut (tgt := 166) hx hb dX12_count_1 c1 (by decide) ?_
    refine lv_iconst (v := -1) hx hb dX12_count_166 (by decide) ?_
    exact W.iret (v := (-1)) hx hb hr (fun t ht hW => ⟨⟨(-1), (), rfl, by rw [if_pos c1], trivial⟩, hS.F ht⟩) hS.2.2 dX12_count_167
  · --0
    refine lv_tableIn (off := 59) (tgt := 60) hx hb dX12_count_1 (by omega) (by omega) (by rw [c1]; rfl) (by decide) ?_
    refine lv_aload_n hx hb dX12_count_60 rfl (lv_at hl 0 rfl) ?_
    refine va_get (D := (dC, dI)) (ci := 13) (v := .ref bk) (C := RX12) (T := TX12) (N := 6) hx hb hts iw_X12_count_X12 hown hK hP 0 rfl rfl 0 (by decide) (hts (.fieldLink RX12 10 "UnlikeBoats" "book" "LUnlikeBoats$Book;") (List.mem_of_getElem? (i := 1) rfl)) (fun _ h9 => h9) rfl dX12_count_61 ?_
    refine va_get (D := (dC, dI)) (ci := 1) (v := .int 0) (C := RX0) (T := TX0) (N := 11) hx hb hts iw_X12_count_X0 hown hK hP 1 rfl rfl 0 (by decide) (hts (.fieldLink RX12 55 "UnlikeBoats$Book" "now" "I") (List.mem_of_getElem? (i := 2) rfl)) (fun _ h9 => h9) rfl dX12_count_64 ?_
    exact W.iret (v := (0)) hx hb hr (fun t ht hW => ⟨⟨(0), (), rfl, by rw [if_neg (by omega)], trivial⟩, hS.F ht⟩) hS.2.2 dX12_count_67
  · --1
    refine lv_tableIn (off := 67) (tgt := 68) hx hb dX12_count_1 (by omega) (by omega) (by rw [c1]; rfl) (by decide) ?_
    refine lv_aload_n hx hb dX12_count_68 rfl (lv_at hl 0 rfl) ?_
    refine va_get (D := (dC, dI)) (ci := 13) (v := .ref bk) (C := RX12) (T := TX12) (N := 6) hx hb hts iw_X12_count_X12 hown hK hP 0 rfl rfl 0 (by decide) (hts (.fieldLink RX12 10 "UnlikeBoats" "book" "LUnlikeBoats$Book;") (List.mem_of_getElem? (i := 1) rfl)) (fun _ h9 => h9) rfl dX12_count_69 ?_
    refine va_get (D := (dC, dI)) (ci := 1) (v := .int 0) (C := RX0) (T := TX0) (N := 11) hx hb hts iw_X12_count_X0 hown hK hP 1 rfl rfl 1 (by decide) (hts (.fieldLink RX12 63 "UnlikeBoats$Book" "boats" "I") (List.mem_of_getElem? (i := 3) rfl)) (fun _ h9 => h9) rfl dX12_count_72 ?_
    exact W.iret (v := (0)) hx hb hr (fun t ht hW => ⟨⟨(0), (), rfl, by rw [if_neg (by omega)], trivial⟩, hS.F ht⟩) hS.2.2 dX12_count_75
  · --2
    refine lv_tableIn (off := 75) (tgt := 76) hx hb dX12_count_1 (by omega) (by omega) (by rw [c1]; rfl) (by decide) ?_
    refine lv_aload_n hx hb dX12_count_76 rfl (lv_at hl 0 rfl) ?_
    refine va_get (D := (dC, dI)) (ci := 13) (v := .ref bk) (C := RX12) (T := TX12) (N := 6) hx hb hts iw_X12_count_X12 hown hK hP 0 rfl rfl 0 (by decide) (hts (.fieldLink RX12 10 "UnlikeBoats" "book" "LUnlikeBoats$Book;") (List.mem_of_getElem? (i := 1) rfl)) (fun _ h9 => h9) rfl dX12_count_77 ?_
    refine va_get (D := (dC, dI)) (ci := 1) (v := .ref lc) (C := RX0) (T := TX0) (N := 11) hx hb hts iw_X12_count_X0 hown hK hP 1 rfl rfl 3 (by decide) (hts (.fieldLink RX12 73 "UnlikeBoats$Book" "certificates" "Ljava/util/ArrayList;") (List.mem_of_getElem? (i := 4) rfl)) (fun _ h9 => h9) rfl dX12_count_80 ?_
    have hPc := hP.sub (ws' := [(lc, .inr (0, [.int 0, .ref ed, .int 0]))]) [3] rfl
    have hKc := hK.sub (tys' := []) [] rfl
    refine va_calli (va_runV (As := []) (rest := []) ⟨hx, hb, hml, hown, hts⟩ (c_size l dC dI lc (0) ed (0)) (cwV 0 hts gX12_count_Jx4a65c_size_8abf5 rfl rfl rfl (by decide +kernel) ⟨Nat.le_of_ble_eq_true rfl, Nat.le_of_ble_eq_true rfl⟩) ⟨fun a U g mk q => by obtain ⟨e0, qP, qK⟩ := q; exact ⟨e0, qP, va_K.moved (u := U) (U := U.calling g mk a) (Vm.Alike.refl U.vm) qK⟩, va_recv hK hP (ci := 0) (q0 := 3) rfl rfl, fun U hU hW => ⟨rfl, by rw [hU]; exact hPc, va_K.moved hW.alike hKc⟩⟩ rfl rfl hl.1 rfl (lv_room (Nat.le_of_ble_eq_true rfl)) dX12_count_83 ⟨Nat.le_of_ble_eq_true rfl, Nat.le_of_ble_eq_true rfl⟩) hS (fun _ _ h => h.elim) (fun _ h => h.elim) (fun r2 u3 t H1 locs ht hvm hw hB hz1 hk1 hS => ?_)
    have hP := ub_keep hP hk1
    generalize H1 = H at hP hS ⊢
    obtain rfl : (0 : Int32) = r2 := hw.symm
    exact W.iret (v := (0)) hx hb hr (fun t ht hW => ⟨⟨(0), (), rfl, by rw [if_neg (by omega)], trivial⟩, hS.F ht⟩) hS.2.2 dX12_count_86
  · --3
    refine lv_tableIn (off := 86) (tgt := 87) hx hb dX12_count_1 (by omega) (by omega) (by rw [c1]; rfl) (by decide) ?_
    refine lv_aload_n hx hb dX12_count_87 rfl (lv_at hl 0 rfl) ?_
    refine va_get (D := (dC, dI)) (ci := 13) (v := .ref bk) (C := RX12) (T := TX12) (N := 6) hx hb hts iw_X12_count_X12 hown hK hP 0 rfl rfl 0 (by decide) (hts (.fieldLink RX12 10 "UnlikeBoats" "book" "LUnlikeBoats$Book;") (List.mem_of_getElem? (i := 1) rfl)) (fun _ h9 => h9) rfl dX12_count_88 ?_
    refine va_get (D := (dC, dI)) (ci := 1) (v := .ref lr) (C := RX0) (T := TX0) (N := 11) hx hb hts iw_X12_count_X0 hown hK hP 1 rfl rfl 4 (by decide) (hts (.fieldLink RX12 113 "UnlikeBoats$Book" "rules" "Ljava/util/ArrayList;") (List.mem_of_getElem? (i := 5) rfl)) (fun _ h9 => h9) rfl dX12_count_91 ?_
    have hPc := hP.sub (ws' := [(lr, .inr (0, [.int 0, .ref ed, .int 0]))]) [4] rfl
    have hKc := hK.sub (tys' := []) [] rfl
    refine va_calli (va_runV (As := []) (rest := []) ⟨hx, hb, hml, hown, hts⟩ (c_size l dC dI lr (0) ed (0)) (cwV 0 hts gX12_count_Jx4a65c_size_8abf5 rfl rfl rfl (by decide +kernel) ⟨Nat.le_of_ble_eq_true rfl, Nat.le_of_ble_eq_true rfl⟩) ⟨fun a U g mk q => by obtain ⟨e0, qP, qK⟩ := q; exact ⟨e0, qP, va_K.moved (u := U) (U := U.calling g mk a) (Vm.Alike.refl U.vm) qK⟩, va_recv hK hP (ci := 0) (q0 := 4) rfl rfl, fun U hU hW => ⟨rfl, by rw [hU]; exact hPc, va_K.moved hW.alike hKc⟩⟩ rfl rfl hl.1 rfl (lv_room (Nat.le_of_ble_eq_true rfl)) dX12_count_94 ⟨Nat.le_of_ble_eq_true rfl, Nat.le_of_ble_eq_true rfl⟩) hS (fun _ _ h => h.elim) (fun _ h => h.elim) (fun r4 u5 t H1 locs ht hvm hw hB hz1 hk1 hS => ?_)
    have hP := ub_keep hP hk1
    generalize H1 = H at hP hS ⊢
    obtain rfl : (0 : Int32) = r4 := hw.symm
    exact W.iret (v := (0)) hx hb hr (fun t ht hW => ⟨⟨(0), (), rfl, by rw [if_neg (by omega)], trivial⟩, hS.F ht⟩) hS.2.2 dX12_count_97
  · --4
    refine lv_tableIn (off := 97) (tgt := 98) hx hb dX12_count_1 (by omega) (by omega) (by rw [c1]; rfl) (by decide) ?_
    refine lv_aload_n hx hb dX12_count_98 rfl (lv_at hl 0 rfl) ?_
    refine va_get (D := (dC, dI)) (ci := 13) (v := .ref bk) (C := RX12) (T := TX12) (N := 6) hx hb hts iw_X12_count_X12 hown hK hP 0 rfl rfl 0 (by decide) (hts (.fieldLink RX12 10 "UnlikeBoats" "book" "LUnlikeBoats$Book;") (List.mem_of_getElem? (i := 1) rfl)) (fun _ h9 => h9) rfl dX12_count_99 ?_
    refine va_get (D := (dC, dI)) (ci := 1) (v := .ref la) (C := RX0) (T := TX0) (N := 11) hx hb hts iw_X12_count_X0 hown hK hP 1 rfl rfl 5 (by decide) (hts (.fieldLink RX12 127 "UnlikeBoats$Book" "races" "Ljava/util/ArrayList;") (List.mem_of_getElem? (i := 6) rfl)) (fun _ h9 => h9) rfl dX12_count_102 ?_
    have hPc := hP.sub (ws' := [(la, .inr (0, [.int 0, .ref ed, .int 0]))]) [5] rfl
    have hKc := hK.sub (tys' := []) [] rfl
    refine va_calli (va_runV (As := []) (rest := []) ⟨hx, hb, hml, hown, hts⟩ (c_size l dC dI la (0) ed (0)) (cwV 0 hts gX12_count_Jx4a65c_size_8abf5 rfl rfl rfl (by decide +kernel) ⟨Nat.le_of_ble_eq_true rfl, Nat.le_of_ble_eq_true rfl⟩) ⟨fun a U g mk q => by obtain ⟨e0, qP, qK⟩ := q; exact ⟨e0, qP, va_K.moved (u := U) (U := U.calling g mk a) (Vm.Alike.refl U.vm) qK⟩, va_recv hK hP (ci := 0) (q0 := 5) rfl rfl, fun U hU hW => ⟨rfl, by rw [hU]; exact hPc, va_K.moved hW.alike hKc⟩⟩ rfl rfl hl.1 rfl (lv_room (Nat.le_of_ble_eq_true rfl)) dX12_count_105 ⟨Nat.le_of_ble_eq_true rfl, Nat.le_of_ble_eq_true rfl⟩) hS (fun _ _ h => h.elim) (fun _ h => h.elim) (fun r6 u7 t H1 locs ht hvm hw hB hz1 hk1 hS => ?_)
    have hP := ub_keep hP hk1
    generalize H1 = H at hP hS ⊢
    obtain rfl : (0 : Int32) = r6 := hw.symm
    exact W.iret (v := (0)) hx hb hr (fun t ht hW => ⟨⟨(0), (), rfl, by rw [if_neg (by omega)], trivial⟩, hS.F ht⟩) hS.2.2 dX12_count_108
  · --5
    refine lv_tableIn (off := 108) (tgt := 109) hx hb dX12_count_1 (by omega) (by omega) (by rw [c1]; rfl) (by decide) ?_
    refine lv_aload_n hx hb dX12_count_109 rfl (lv_at hl 0 rfl) ?_
    refine va_get (D := (dC, dI)) (ci := 13) (v := .ref bk) (C := RX12) (T := TX12) (N := 6) hx hb hts iw_X12_count_X12 hown hK hP 0 rfl rfl 0 (by decide) (hts (.fieldLink RX12 10 "UnlikeBoats" "book" "LUnlikeBoats$Book;") (List.mem_of_getElem? (i := 1) rfl)) (fun _ h9 => h9) rfl dX12_count_110 ?_
    refine va_get (D := (dC, dI)) (ci := 1) (v := .ref le) (C := RX0) (T := TX0) (N := 11) hx hb hts iw_X12_count_X0 hown hK hP 1 rfl rfl 6 (by decide) (hts (.fieldLink RX12 154 "UnlikeBoats$Book" "results" "Ljava/util/ArrayList;") (List.mem_of_getElem? (i := 7) rfl)) (fun _ h9 => h9) rfl dX12_count_113 ?_
    have hPc := hP.sub (ws' := [(le, .inr (0, [.int 0, .ref ed, .int 0]))]) [6] rfl
    have hKc := hK.sub (tys' := []) [] rfl
    refine va_calli (va_runV (As := []) (rest := []) ⟨hx, hb, hml, hown, hts⟩ (c_size l dC dI le (0) ed (0)) (cwV 0 hts gX12_count_Jx4a65c_size_8abf5 rfl rfl rfl (by decide +kernel) ⟨Nat.le_of_ble_eq_true rfl, Nat.le_of_ble_eq_true rfl⟩) ⟨fun a U g mk q => by obtain ⟨e0, qP, qK⟩ := q; exact ⟨e0, qP, va_K.moved (u := U) (U := U.calling g mk a) (Vm.Alike.refl U.vm) qK⟩, va_recv hK hP (ci := 0) (q0 := 6) rfl rfl, fun U hU hW => ⟨rfl, by rw [hU]; exact hPc, va_K.moved hW.alike hKc⟩⟩ rfl rfl hl.1 rfl (lv_room (Nat.le_of_ble_eq_true rfl)) dX12_count_116 ⟨Nat.le_of_ble_eq_true rfl, Nat.le_of_ble_eq_true rfl⟩) hS (fun _ _ h => h.elim) (fun _ h => h.elim) (fun r8 u9 t H1 locs ht hvm hw hB hz1 hk1 hS => ?_)
    have hP := ub_keep hP hk1
    generalize H1 = H at hP hS ⊢
    obtain rfl : (0 : Int32) = r8 := hw.symm
    exact W.iret (v := (0)) hx hb hr (fun t ht hW => ⟨⟨(0), (), rfl, by rw [if_neg (by omega)], trivial⟩, hS.F ht⟩) hS.2.2 dX12_count_119
  · --6
    refine lv_tableIn (off := 119) (tgt := 120) hx hb dX12_count_1 (by omega) (by omega) (by rw [c1]; rfl) (by decide) ?_
    refine lv_aload_n hx hb dX12_count_120 rfl (lv_at hl 0 rfl) ?_
    refine va_get (D := (dC, dI)) (ci := 13) (v := .ref bk) (C := RX12) (T := TX12) (N := 6) hx hb hts iw_X12_count_X12 hown hK hP 0 rfl rfl 0 (by decide) (hts (.fieldLink RX12 10 "UnlikeBoats" "book" "LUnlikeBoats$Book;") (List.mem_of_getElem? (i := 1) rfl)) (fun _ h9 => h9) rfl dX12_count_121 ?_
    refine va_get (D := (dC, dI)) (ci := 1) (v := .ref lw) (C := RX0) (T := TX0) (N := 11) hx hb hts iw_X12_count_X0 hown hK hP 1 rfl rfl 7 (by decide) (hts (.fieldLink RX12 209 "UnlikeBoats$Book" "words" "Ljava/util/ArrayList;") (List.mem_of_getElem? (i := 8) rfl)) (fun _ h9 => h9) rfl dX12_count_124 ?_
    have hPc := hP.sub (ws' := [(lw, .inr (0, [.int 0, .ref ed, .int 0]))]) [7] rfl
    have hKc := hK.sub (tys' := []) [] rfl
    refine va_calli (va_runV (As := []) (rest := []) ⟨hx, hb, hml, hown, hts⟩ (c_size l dC dI lw (0) ed (0)) (cwV 0 hts gX12_count_Jx4a65c_size_8abf5 rfl rfl rfl (by decide +kernel) ⟨Nat.le_of_ble_eq_true rfl, Nat.le_of_ble_eq_true rfl⟩) ⟨fun a U g mk q => by obtain ⟨e0, qP, qK⟩ := q; exact ⟨e0, qP, va_K.moved (u := U) (U := U.calling g mk a) (Vm.Alike.refl U.vm) qK⟩, va_recv hK hP (ci := 0) (q0 := 7) rfl rfl, fun U hU hW => ⟨rfl, by rw [hU]; exact hPc, va_K.moved hW.alike hKc⟩⟩ rfl rfl hl.1 rfl (lv_room (Nat.le_of_ble_eq_true rfl)) dX12_count_127 ⟨Nat.le_of_ble_eq_true rfl, Nat.le_of_ble_eq_true rfl⟩) hS (fun _ _ h => h.elim) (fun _ h => h.elim) (fun r10 u11 t H1 locs ht hvm hw hB hz1 hk1 hS => ?_)
    have hP := ub_keep hP hk1
    generalize H1 = H at hP hS ⊢
    obtain rfl : (0 : Int32) = r10 := hw.symm
    exact W.iret (v := (0)) hx hb hr (fun t ht hW => ⟨⟨(0), (), rfl, by rw [if_neg (by omega)], trivial⟩, hS.F ht⟩) hS.2.2 dX12_count_130
  · --7
    refine lv_tableIn (off := 130) (tgt := 131) hx hb dX12_count_1 (by omega) (by omega) (by rw [c1]; rfl) (by decide) ?_
    refine lv_aload_n hx hb dX12_count_131 rfl (lv_at hl 0 rfl) ?_
    refine va_get (D := (dC, dI)) (ci := 13) (v := .ref bk) (C := RX12) (T := TX12) (N := 6) hx hb hts iw_X12_count_X12 hown hK hP 0 rfl rfl 0 (by decide) (hts (.fieldLink RX12 10 "UnlikeBoats" "book" "LUnlikeBoats$Book;") (List.mem_of_getElem? (i := 1) rfl)) (fun _ h9 => h9) rfl dX12_count_132 ?_
    refine va_get (D := (dC, dI)) (ci := 1) (v := .ref lp) (C := RX0) (T := TX0) (N := 11) hx hb hts iw_X12_count_X0 hown hK hP 1 rfl rfl 8 (by decide) (hts (.fieldLink RX12 220 "UnlikeBoats$Book" "protests" "Ljava/util/ArrayList;") (List.mem_of_getElem? (i := 9) rfl)) (fun _ h9 => h9) rfl dX12_count_135 ?_
    have hPc := hP.sub (ws' := [(lp, .inr (0, [.int 0, .ref ed, .int 0]))]) [8] rfl
    have hKc := hK.sub (tys' := []) [] rfl
    refine va_calli (va_runV (As := []) (rest := []) ⟨hx, hb, hml, hown, hts⟩ (c_size l dC dI lp (0) ed (0)) (cwV 0 hts gX12_count_Jx4a65c_size_8abf5 rfl rfl rfl (by decide +kernel) ⟨Nat.le_of_ble_eq_true rfl, Nat.le_of_ble_eq_true rfl⟩) ⟨fun a U g mk q => by obtain ⟨e0, qP, qK⟩ := q; exact ⟨e0, qP, va_K.moved (u := U) (U := U.calling g mk a) (Vm.Alike.refl U.vm) qK⟩, va_recv hK hP (ci := 0) (q0 := 8) rfl rfl, fun U hU hW => ⟨rfl, by rw [hU]; exact hPc, va_K.moved hW.alike hKc⟩⟩ rfl rfl hl.1 rfl (lv_room (Nat.le_of_ble_eq_true rfl)) dX12_count_138 ⟨Nat.le_of_ble_eq_true rfl, Nat.le_of_ble_eq_true rfl⟩) hS (fun _ _ h => h.elim) (fun _ h => h.elim) (fun r12 u13 t H1 locs ht hvm hw hB hz1 hk1 hS => ?_)
    have hP := ub_keep hP hk1
    generalize H1 = H at hP hS ⊢
    obtain rfl : (0 : Int32) = r12 := hw.symm
    exact W.iret (v := (0)) hx hb hr (fun t ht hW => ⟨⟨(0), (), rfl, by rw [if_neg (by omega)], trivial⟩, hS.F ht⟩) hS.2.2 dX12_count_141
  · --8
    refine lv_tableIn (off := 141) (tgt := 142) hx hb dX12_count_1 (by omega) (by omega) (by rw [c1]; rfl) (by decide) ?_
    refine lv_aload_n hx hb dX12_count_142 rfl (lv_at hl 0 rfl) ?_
    refine va_get (D := (dC, dI)) (ci := 13) (v := .ref tp) (C := RX12) (T := TX12) (N := 6) hx hb hts iw_X12_count_X12 hown hK hP 0 rfl rfl 1 (by decide) (hts (.fieldLink RX12 19 "UnlikeBoats" "tape" "LUnlikeBoats$Tape;") (List.mem_of_getElem? (i := 10) rfl)) (fun _ h9 => h9) rfl dX12_count_143 ?_
    refine va_get (D := (dC, dI)) (ci := 11) (v := .int 0) (C := RX10) (T := TX10) (N := 10) hx hb hts iw_X12_count_X10 hown hK hP 2 rfl rfl 1 (by decide) (hts (.fieldLink RX12 103 "UnlikeBoats$Tape" "length" "I") (List.mem_of_getElem? (i := 11) rfl)) (fun _ h9 => h9) rfl dX12_count_146 ?_
    exact W.iret (v := (0)) hx hb hr (fun t ht hW => ⟨⟨(0), (), rfl, by rw [if_neg (by omega)], trivial⟩, hS.F ht⟩) hS.2.2 dX12_count_149
  · --9
    refine lv_tableIn (off := 149) (tgt := 150) hx hb dX12_count_1 (by omega) (by omega) (by rw [c1]; rfl) (by decide) ?_
    refine lv_aload_n hx hb dX12_count_150 rfl (lv_at hl 0 rfl) ?_
    refine va_get (D := (dC, dI)) (ci := 13) (v := .ref bk) (C := RX12) (T := TX12) (N := 6) hx hb hts iw_X12_count_X12 hown hK hP 0 rfl rfl 0 (by decide) (hts (.fieldLink RX12 10 "UnlikeBoats" "book" "LUnlikeBoats$Book;") (List.mem_of_getElem? (i := 1) rfl)) (fun _ h9 => h9) rfl dX12_count_151 ?_
    refine va_get (D := (dC, dI)) (ci := 1) (v := .int 0) (C := RX0) (T := TX0) (N := 11) hx hb hts iw_X12_count_X0 hown hK hP 1 rfl rfl 2 (by decide) (hts (.fieldLink RX12 181 "UnlikeBoats$Book" "redresses" "I") (List.mem_of_getElem? (i := 12) rfl)) (fun _ h9 => h9) rfl dX12_count_154 ?_
    exact W.iret (v := (0)) hx hb hr (fun t ht hW => ⟨⟨(0), (), rfl, by rw [if_neg (by omega)], trivial⟩, hS.F ht⟩) hS.2.2 dX12_count_157
  · --10
    refine lv_tableIn (off := 157) (tgt := 158) hx hb dX12_count_1 (by omega) (by omega) (by rw [c1]; rfl) (by decide) ?_
    refine lv_aload_n hx hb dX12_count_158 rfl (lv_at hl 0 rfl) ?_
    refine va_get (D := (dC, dI)) (ci := 13) (v := .ref bk) (C := RX12) (T := TX12) (N := 6) hx hb hts iw_X12_count_X12 hown hK hP 0 rfl rfl 0 (by decide) (hts (.fieldLink RX12 10 "UnlikeBoats" "book" "LUnlikeBoats$Book;") (List.mem_of_getElem? (i := 1) rfl)) (fun _ h9 => h9) rfl dX12_count_159 ?_
    have hPc := hP.sub (ws' := [(bk, .inr (1, [.int 0, .int 0, .int 0, .ref lc, .ref lr, .ref la, .ref le, .ref lw, .ref lp, .ref ltr, .ref stk])), (la, .inr (0, [.int 0, .ref ed, .int 0]))]) [1, 5] rfl
    have hKc := hK.sub (tys' := []) [] rfl
    refine va_calli (va_runV (As := []) (rest := []) ⟨hx, hb, hml, hown, hts⟩ (c_disqualified0 l dC dI bk lc lr la le lw lp ltr stk ed) (cwV 0 hts gX12_count_X0_disqualified rfl rfl rfl (by decide +kernel) ⟨Nat.le_of_ble_eq_true rfl, Nat.le_of_ble_eq_true rfl⟩) ⟨fun a U g mk q => by obtain ⟨e0, qP, qK, qN⟩ := q; exact ⟨e0, qP, va_K.moved (u := U) (U := U.calling g mk a) (Vm.Alike.refl U.vm) qK, ub_NX_c qN⟩, va_recv hK hP (ci := 1) (q0 := 1) rfl rfl, fun U hU hW => ⟨rfl, by rw [hU]; exact hPc, va_K.moved hW.alike hKc, ub_NX_w hW hN⟩⟩ rfl rfl hl.1 rfl (lv_room (Nat.le_of_ble_eq_true rfl)) dX12_count_162 ⟨Nat.le_of_ble_eq_true rfl, Nat.le_of_ble_eq_true rfl⟩) hS (fun _ _ h => h.elim) (fun _ h => h.elim) (fun r14 u15 t H1 locs ht hvm hw hB hz1 hk1 hS => ?_)
    have hP := ub_keep hP hk1
    generalize H1 = H at hP hS ⊢
    obtain rfl : (0 : Int32) = r14 := hw.symm
    exact W.iret (v := (0)) hx hb hr (fun t ht hW => ⟨⟨(0), (), rfl, by rw [if_neg (by omega)], trivial⟩, hS.F ht⟩) hS.2.2 dX12_count_165
set_option maxHeartbeats 4000000 in
set_option maxRecDepth 100000 in
theorem c_next1 (l : Launch) (dC : Nat → ClassId) (dI : Nat → Nat → Nat) (tp : Nat) (tby : Nat) (tst : Nat) (tla : Nat) (tbe : Nat) (tsu : Nat)  : Met l yX10_next wsX10_next ({ frames := 0, cells := 0, slots := 0, locals := 0 }) (va_Pc [.ref tp] (fun U => va_P (dC, dI) vwCl [(tp, .inr (11, [.ref tby, .int 0, .int 0, .int (-1), .ref tst, .int 0, .ref tla, .ref tbe, .ref tsu, .int 0]))] U.heap ∧ va_K (dC, dI) vwCl [] U)) (va_Qi (S := Unit) (fun r _ => r = -1) (fun _ _ => True) (fun _ => False)) 0 0 (fun _ => False) := by
  refine Met.ofW (cc := cX10_next) (maxL := 1) (ret := (some .int)) (by decide) rfl ?_
  intro p e s m args below meth c s₁ B hml hv
  obtain ⟨rfl, hP, hK⟩ := hv
  have hx := B.exec
  have hb := B.bytes
  have hr := B.returns
  have hts := atoms_spec (ws := wsX10_next) B.pre
  have hown : s.vm.findClass RX10 = some m.cls := findClass_of_methodNamed B.named
  have hlocks := B.notSynchronized
  have hS : va_S (fun _ : Nat => False) s.heap s.heap [] := va_S.rf
  have hl := lv_entry ([.ref tp]) (n := 1) (Nat.le_of_ble_eq_true rfl)
  rw [lg_entry_eq]
  generalize (lg_sl ([.ref tp]) ++ List.replicate (1 - (lg_sl ([.ref tp])).length) Slot.unset).toArray = ls at hl ⊢
  have hl : lv_has ls 1 [(0, .ref tp)] := hl
  refine lv_aload_n hx hb dX10_next_0 rfl (lv_at hl 0 rfl) ?_
  refine va_get (D := (dC, dI)) (ci := 11) (v := .int (-1)) (C := RX10) (T := TX10) (N := 10) hx hb hts iw_X10_next_X10 hown hK hP 0 rfl rfl 3 (by decide) (hts (.fieldLink RX10 34 "UnlikeBoats$Tape" "fault" "I") (List.mem_of_getElem? (i := 1) rfl)) (fun _ h9 => h9) rfl dX10_next_1 ?_
  refine lv_iconst (v := -1) hx hb dX10_next_4 (by decide) ?_
  refine lv_icmp_eq (tgt := 11) hx hb dX10_next_5 (by decide) (fun c1 => ?_) (fun c1 => by first | exact absurd c1 (by decide) | exact absurd (by decide) c1)
  refine lv_aload_n hx hb dX10_next_11 rfl (lv_at hl 0 rfl) ?_
  refine va_get (D := (dC, dI)) (ci := 11) (v := .int 0) (C := RX10) (T := TX10) (N := 10) hx hb hts iw_X10_next_X10 hown hK hP 0 rfl rfl 2 (by decide) (hts (.fieldLink RX10 31 "UnlikeBoats$Tape" "at" "I") (List.mem_of_getElem? (i := 2) rfl)) (fun _ h9 => h9) rfl dX10_next_12 ?_
  refine lv_aload_n hx hb dX10_next_15 rfl (lv_at hl 0 rfl) ?_
  refine va_get (D := (dC, dI)) (ci := 11) (v := .int 0) (C := RX10) (T := TX10) (N := 10) hx hb hts iw_X10_next_X10 hown hK hP 0 rfl rfl 1 (by decide) (hts (.fieldLink RX10 27 "UnlikeBoats$Tape" "length" "I") (List.mem_of_getElem? (i := 3) rfl)) (fun _ h9 => h9) rfl dX10_next_16 ?_
  refine lv_icmp_ge (tgt := 49) hx hb dX10_next_19 (by decide) (fun c2 => ?_) (fun c2 => by first | exact absurd c2 (by decide) | exact absurd (by decide) c2)
  refine lv_aload_n hx hb dX10_next_49 rfl (lv_at hl 0 rfl) ?_
  refine va_get (D := (dC, dI)) (ci := 11) (v := .int 0) (C := RX10) (T := TX10) (N := 10) hx hb hts iw_X10_next_X10 hown hK hP 0 rfl rfl 2 (by decide) (hts (.fieldLink RX10 31 "UnlikeBoats$Tape" "at" "I") (List.mem_of_getElem? (i := 2) rfl)) (fun _ h9 => h9) rfl dX10_next_50 ?_
  refine lv_aload_n hx hb dX10_next_53 rfl (lv_at hl 0 rfl) ?_
  refine va_get (D := (dC, dI)) (ci := 11) (v := .int 0) (C := RX10) (T := TX10) (N := 10) hx hb hts iw_X10_next_X10 hown hK hP 0 rfl rfl 1 (by decide) (hts (.fieldLink RX10 27 "UnlikeBoats$Tape" "length" "I") (List.mem_of_getElem? (i := 3) rfl)) (fun _ h9 => h9) rfl dX10_next_54 ?_
  refine lv_icmp_ge (tgt := 72) hx hb dX10_next_57 (by decide) (fun c3 => ?_) (fun c3 => by first | exact absurd c3 (by decide) | exact absurd (by decide) c3)
  refine lv_iconst (v := -1) hx hb dX10_next_72 (by decide) ?_
  exact W.iret (v := (-1)) hx hb hr (fun t ht hW => ⟨⟨(-1), (), rfl, rfl, trivial⟩, hS.F ht⟩) hS.2.2 dX10_next_73
set_option maxHeartbeats 4000000 in
set_option maxRecDepth 100000 in
theorem c_next2 (l : Launch) (dC : Nat → ClassId) (dI : Nat → Nat → Nat) (tp : Nat) (tby : Nat) (tst : Nat) (tla : Nat) (tbe : Nat) (tsu : Nat)  : Met l yX10_next wsX10_next ({ frames := 0, cells := 0, slots := 0, locals := 0 }) (va_Pc [.ref tp] (fun U => va_P (dC, dI) vwCl [(tp, .inr (11, [.ref tby, .int 0, .int 0, .int 0, .ref tst, .int 0, .ref tla, .ref tbe, .ref tsu, .int 0]))] U.heap ∧ va_K (dC, dI) vwCl [] U)) (va_Qi (S := Unit) (fun r _ => r = -2) (fun _ _ => True) (fun _ => False)) 0 0 (fun _ => False) := by
  refine Met.ofW (cc := cX10_next) (maxL := 1) (ret := (some .int)) (by decide) rfl ?_
  intro p e s m args below meth c s₁ B hml hv
  obtain ⟨rfl, hP, hK⟩ := hv
  have hx := B.exec
  have hb := B.bytes
  have hr := B.returns
  have hts := atoms_spec (ws := wsX10_next) B.pre
  have hown : s.vm.findClass RX10 = some m.cls := findClass_of_methodNamed B.named
  have hlocks := B.notSynchronized
  have hS : va_S (fun _ : Nat => False) s.heap s.heap [] := va_S.rf
  have hl := lv_entry ([.ref tp]) (n := 1) (Nat.le_of_ble_eq_true rfl)
  rw [lg_entry_eq]
  generalize (lg_sl ([.ref tp]) ++ List.replicate (1 - (lg_sl ([.ref tp])).length) Slot.unset).toArray = ls at hl ⊢
  have hl : lv_has ls 1 [(0, .ref tp)] := hl
  refine lv_aload_n hx hb dX10_next_0 rfl (lv_at hl 0 rfl) ?_
  refine va_get (D := (dC, dI)) (ci := 11) (v := .int 0) (C := RX10) (T := TX10) (N := 10) hx hb hts iw_X10_next_X10 hown hK hP 0 rfl rfl 3 (by decide) (hts (.fieldLink RX10 34 "UnlikeBoats$Tape" "fault" "I") (List.mem_of_getElem? (i := 1) rfl)) (fun _ h9 => h9) rfl dX10_next_1 ?_
  refine lv_iconst (v := -1) hx hb dX10_next_4 (by decide) ?_
  refine lv_icmp_eq (tgt := 11) hx hb dX10_next_5 (by decide) (fun c1 => by first | exact absurd c1 (by decide) | exact absurd (by decide) c1) (fun c1 => ?_)
  refine lv_bipush (v := -2) hx hb dX10_next_8 (by decide) ?_
  exact W.iret (v := (-2)) hx hb hr (fun t ht hW => ⟨⟨(-2), (), rfl, rfl, trivial⟩, hS.F ht⟩) hS.2.2 dX10_next_10
set_option maxHeartbeats 4000000 in
set_option maxRecDepth 100000 in
theorem c_fail1 (l : Launch) (dC : Nat → ClassId) (dI : Nat → Nat → Nat) (tp : Nat) (tby : Nat) (tst : Nat) (tla : Nat) (tbe : Nat) (tsu : Nat) (sz : Nat)  : Met l yX10_fail wsX10_fail ({ frames := 0, cells := 0, slots := 0, locals := 0 }) (va_Pc [.ref tp] (fun U => U.heap.size = sz ∧ va_P (dC, dI) vwCl [(tp, .inr (11, [.ref tby, .int 0, .int 0, .int (-1), .ref tst, .int 0, .ref tla, .ref tbe, .ref tsu, .int 0]))] U.heap ∧ va_K (dC, dI) vwCl [] U ∧ va_D (fun _ => True) [(tp, .inr (11, [.ref tby, .int 0, .int 0, .int (-1), .ref tst, .int 0, .ref tla, .ref tbe, .ref tsu, .int 0]))])) (va_Qv (S := Unit) (fun _ => True) (fun u t => va_P (dC, dI) vwCl [(tp, .inr (11, [.ref tby, .int 0, .int 0, .int 0, .ref tst, .int 0, .ref tla, .ref tbe, .ref tsu, .int 0]))] t.heap ∧ va_K (dC, dI) vwCl [] t ∧ va_D (va_A [(tp, .inr (11, [.ref tby, .int 0, .int 0, .int (-1), .ref tst, .int 0, .ref tla, .ref tbe, .ref tsu, .int 0]))] sz) [(tp, .inr (11, [.ref tby, .int 0, .int 0, .int 0, .ref tst, .int 0, .ref tla, .ref tbe, .ref tsu, .int 0]))]) (va_A [(tp, .inr (11, [.ref tby, .int 0, .int 0, .int (-1), .ref tst, .int 0, .ref tla, .ref tbe, .ref tsu, .int 0]))] sz)) 0 0 (va_A [(tp, .inr (11, [.ref tby, .int 0, .int 0, .int (-1), .ref tst, .int 0, .ref tla, .ref tbe, .ref tsu, .int 0]))] sz) := by
  refine Met.ofW (cc := cX10_fail) (maxL := 1) (ret := none) (by decide) rfl ?_
  intro p e s m args below meth c s₁ B hml hv
  obtain ⟨rfl, hsz, hP, hK, hD0⟩ := hv
  have hx := B.exec
  have hb := B.bytes
  have hr := B.returns
  have hts := atoms_spec (ws := wsX10_fail) B.pre
  have hown : s.vm.findClass RX10 = some m.cls := findClass_of_methodNamed B.named
  have hlocks := B.notSynchronized
  subst hsz
  have hD := hD0.self (sz := s.heap.size)
  generalize hAe : va_A [(tp, .inr (11, [.ref tby, .int 0, .int 0, .int (-1), .ref tst, .int 0, .ref tla, .ref tbe, .ref tsu, .int 0]))] s.heap.size = A at hD ⊢
  have hA : ∀ q : Nat, s.heap.size ≤ q → A q := fun q h => by rw [← hAe]; exact Or.inr h
  have hS : va_S A s.heap s.heap [] := va_S.rf
  have hP : va_P (dC, dI) vwCl [(tp, .inr (11, [.ref tby, .int 0, .int 0, .int (-1), .ref tst, .int 0, .ref tla, .ref tbe, .ref tsu, .int 0]))] s.heap := hP
  have hl := lv_entry ([.ref tp]) (n := 1) (Nat.le_of_ble_eq_true rfl)
  rw [lg_entry_eq]
  generalize (lg_sl ([.ref tp]) ++ List.replicate (1 - (lg_sl ([.ref tp])).length) Slot.unset).toArray = ls at hl ⊢
  have hl : lv_has ls 1 [(0, .ref tp)] := hl
  refine lv_aload_n hx hb dX10_fail_0 rfl (lv_at hl 0 rfl) ?_
  refine va_get (D := (dC, dI)) (ci := 11) (v := .int (-1)) (C := RX10) (T := TX10) (N := 10) hx hb hts iw_X10_fail_X10 hown hK hP 0 rfl rfl 3 (by decide) (hts (.fieldLink RX10 34 "UnlikeBoats$Tape" "fault" "I") (List.mem_of_getElem? (i := 1) rfl)) (fun _ h9 => h9) rfl dX10_fail_1 ?_
  refine lv_iconst (v := -1) hx hb dX10_fail_4 (by decide) ?_
  refine lv_icmp_ne (tgt := 16) hx hb dX10_fail_5 (by decide) (fun c1 => by first | exact absurd c1 (by decide) | exact absurd (by decide) c1) (fun c1 => ?_)
  refine lv_aload_n hx hb dX10_fail_8 rfl (lv_at hl 0 rfl) ?_
  refine lv_aload_n hx hb dX10_fail_9 rfl (lv_at hl 0 rfl) ?_
  refine va_get (D := (dC, dI)) (ci := 11) (v := .int 0) (C := RX10) (T := TX10) (N := 10) hx hb hts iw_X10_fail_X10 hown hK hP 0 rfl rfl 2 (by decide) (hts (.fieldLink RX10 31 "UnlikeBoats$Tape" "at" "I") (List.mem_of_getElem? (i := 2) rfl)) (fun _ h9 => h9) rfl dX10_fail_10 ?_
  refine va_put (D := (dC, dI)) (ci := 11) (v := .int 0) (ty := .int) (C := RX10) (T := TX10) (N := 10) hx hb hts iw_X10_fail_X10 tyX10 tyX10_ok nmX10 hown hK hP hD hS 0 rfl rfl 3 (by decide) (hts (.fieldLink RX10 34 "UnlikeBoats$Tape" "fault" "I") (List.mem_of_getElem? (i := 1) rfl)) (fun _ h9 => h9) rfl (by decide +kernel) rfl rfl (Nat.le_of_ble_eq_true rfl) dX10_fail_13 (fun H locs hP hD hS => ?_)
  have hP : va_P (dC, dI) vwCl [(tp, .inr (11, [.ref tby, .int 0, .int 0, .int 0, .ref tst, .int 0, .ref tla, .ref tbe, .ref tsu, .int 0]))] H := hP
  have hD : va_D A [(tp, .inr (11, [.ref tby, .int 0, .int 0, .int 0, .ref tst, .int 0, .ref tla, .ref tbe, .ref tsu, .int 0]))] := hD
  have hP9 := hP.sub (ws' := [(tp, .inr (11, [.ref tby, .int 0, .int 0, .int 0, .ref tst, .int 0, .ref tla, .ref tbe, .ref tsu, .int 0]))]) [0] rfl
  have hD9 := hD.sub (ws' := [(tp, .inr (11, [.ref tby, .int 0, .int 0, .int 0, .ref tst, .int 0, .ref tla, .ref tbe, .ref tsu, .int 0]))]) [0] (by decide) rfl
  have hK9 := hK.sub (tys' := []) [] rfl
  exact W.vret hx hb hr (fun t ht hW => ⟨⟨(), rfl, trivial, (by rw [ht]; exact hP9), va_K.moved hW.alike hK9, hD9⟩, hS.F ht⟩) hS.2.2 dX10_fail_16
set_option maxHeartbeats 4000000 in
set_option maxRecDepth 100000 in
theorem c_fail2 (l : Launch) (dC : Nat → ClassId) (dI : Nat → Nat → Nat) (tp : Nat) (tby : Nat) (tst : Nat) (tla : Nat) (tbe : Nat) (tsu : Nat) (sz : Nat)  : Met l yX10_fail wsX10_fail ({ frames := 0, cells := 0, slots := 0, locals := 0 }) (va_Pc [.ref tp] (fun U => U.heap.size = sz ∧ va_P (dC, dI) vwCl [(tp, .inr (11, [.ref tby, .int 0, .int 0, .int 0, .ref tst, .int 0, .ref tla, .ref tbe, .ref tsu, .int 0]))] U.heap ∧ va_K (dC, dI) vwCl [] U ∧ va_D (fun _ => True) [(tp, .inr (11, [.ref tby, .int 0, .int 0, .int 0, .ref tst, .int 0, .ref tla, .ref tbe, .ref tsu, .int 0]))])) (va_Qv (S := Unit) (fun _ => True) (fun u t => va_P (dC, dI) vwCl [(tp, .inr (11, [.ref tby, .int 0, .int 0, .int 0, .ref tst, .int 0, .ref tla, .ref tbe, .ref tsu, .int 0]))] t.heap ∧ va_K (dC, dI) vwCl [] t ∧ va_D (va_A [(tp, .inr (11, [.ref tby, .int 0, .int 0, .int 0, .ref tst, .int 0, .ref tla, .ref tbe, .ref tsu, .int 0]))] sz) [(tp, .inr (11, [.ref tby, .int 0, .int 0, .int 0, .ref tst, .int 0, .ref tla, .ref tbe, .ref tsu, .int 0]))]) (va_A [(tp, .inr (11, [.ref tby, .int 0, .int 0, .int 0, .ref tst, .int 0, .ref tla, .ref tbe, .ref tsu, .int 0]))] sz)) 0 0 (va_A [(tp, .inr (11, [.ref tby, .int 0, .int 0, .int 0, .ref tst, .int 0, .ref tla, .ref tbe, .ref tsu, .int 0]))] sz) := by
  refine Met.ofW (cc := cX10_fail) (maxL := 1) (ret := none) (by decide) rfl ?_
  intro p e s m args below meth c s₁ B hml hv
  obtain ⟨rfl, hsz, hP, hK, hD0⟩ := hv
  have hx := B.exec
  have hb := B.bytes
  have hr := B.returns
  have hts := atoms_spec (ws := wsX10_fail) B.pre
  have hown : s.vm.findClass RX10 = some m.cls := findClass_of_methodNamed B.named
  have hlocks := B.notSynchronized
  subst hsz
  have hD := hD0.self (sz := s.heap.size)
  generalize hAe : va_A [(tp, .inr (11, [.ref tby, .int 0, .int 0, .int 0, .ref tst, .int 0, .ref tla, .ref tbe, .ref tsu, .int 0]))] s.heap.size = A at hD ⊢
  have hA : ∀ q : Nat, s.heap.size ≤ q → A q := fun q h => by rw [← hAe]; exact Or.inr h
  have hS : va_S A s.heap s.heap [] := va_S.rf
  have hP : va_P (dC, dI) vwCl [(tp, .inr (11, [.ref tby, .int 0, .int 0, .int 0, .ref tst, .int 0, .ref tla, .ref tbe, .ref tsu, .int 0]))] s.heap := hP
  have hl := lv_entry ([.ref tp]) (n := 1) (Nat.le_of_ble_eq_true rfl)
  rw [lg_entry_eq]
  generalize (lg_sl ([.ref tp]) ++ List.replicate (1 - (lg_sl ([.ref tp])).length) Slot.unset).toArray = ls at hl ⊢
  have hl : lv_has ls 1 [(0, .ref tp)] := hl
  refine lv_aload_n hx hb dX10_fail_0 rfl (lv_at hl 0 rfl) ?_
  refine va_get (D := (dC, dI)) (ci := 11) (v := .int 0) (C := RX10) (T := TX10) (N := 10) hx hb hts iw_X10_fail_X10 hown hK hP 0 rfl rfl 3 (by decide) (hts (.fieldLink RX10 34 "UnlikeBoats$Tape" "fault" "I") (List.mem_of_getElem? (i := 1) rfl)) (fun _ h9 => h9) rfl dX10_fail_1 ?_
  refine lv_iconst (v := -1) hx hb dX10_fail_4 (by decide) ?_
  refine lv_icmp_ne (tgt := 16) hx hb dX10_fail_5 (by decide) (fun c1 => ?_) (fun c1 => by first | exact absurd c1 (by decide) | exact absurd (by decide) c1)
  have hP9 := hP.sub (ws' := [(tp, .inr (11, [.ref tby, .int 0, .int 0, .int 0, .ref tst, .int 0, .ref tla, .ref tbe, .ref tsu, .int 0]))]) [0] rfl
  have hD9 := hD.sub (ws' := [(tp, .inr (11, [.ref tby, .int 0, .int 0, .int 0, .ref tst, .int 0, .ref tla, .ref tbe, .ref tsu, .int 0]))]) [0] (by decide) rfl
  have hK9 := hK.sub (tys' := []) [] rfl
  exact W.vret hx hb hr (fun t ht hW => ⟨⟨(), rfl, trivial, (by rw [ht]; exact hP9), va_K.moved hW.alike hK9, hD9⟩, hS.F ht⟩) hS.2.2 dX10_fail_16
set_option maxHeartbeats 4000000 in
set_option maxRecDepth 100000 in
theorem c_readClause (l : Launch) (dC : Nat → ClassId) (dI : Nat → Nat → Nat) (tp : Nat) (tby : Nat) (tst : Nat) (tla : Nat) (tbe : Nat) (tsu : Nat) (sz : Nat)  : Met l yX10_readClause wsX10_readClause ({ frames := 1, cells := 0, slots := 0, locals := 40 }) (va_Pc [.ref tp] (fun U => U.heap.size = sz ∧ va_P (dC, dI) vwCl [(tp, .inr (11, [.ref tby, .int 0, .int 0, .int (-1), .ref tst, .int 0, .ref tla, .ref tbe, .ref tsu, .int 0]))] U.heap ∧ va_K (dC, dI) vwCl [] U ∧ va_D (fun _ => True) [(tp, .inr (11, [.ref tby, .int 0, .int 0, .int (-1), .ref tst, .int 0, .ref tla, .ref tbe, .ref tsu, .int 0]))] ∧ ub_NX U ∧ ub_ST U)) (va_Qv (S := Unit) (fun _ => True) (fun u t => va_P (dC, dI) vwCl [(tp, .inr (11, [.ref tby, .int 0, .int 0, .int 0, .ref tst, .int 0, .ref tla, .ref tbe, .ref tsu, .int 0]))] t.heap ∧ va_K (dC, dI) vwCl [] t ∧ va_D (va_A [(tp, .inr (11, [.ref tby, .int 0, .int 0, .int (-1), .ref tst, .int 0, .ref tla, .ref tbe, .ref tsu, .int 0]))] sz) [(tp, .inr (11, [.ref tby, .int 0, .int 0, .int 0, .ref tst, .int 0, .ref tla, .ref tbe, .ref tsu, .int 0]))]) (va_A [(tp, .inr (11, [.ref tby, .int 0, .int 0, .int (-1), .ref tst, .int 0, .ref tla, .ref tbe, .ref tsu, .int 0]))] sz)) 0 0 (va_A [(tp, .inr (11, [.ref tby, .int 0, .int 0, .int (-1), .ref tst, .int 0, .ref tla, .ref tbe, .ref tsu, .int 0]))] sz) := by
  refine Met.ofW (cc := cX10_readClause) (maxL := 3) (ret := none) (by decide) rfl ?_
  intro p e s m args below meth c s₁ B hml hv
  obtain ⟨rfl, hsz, hP, hK, hD0, hN, hT⟩ := hv
  have hx := B.exec
  have hb := B.bytes
  have hr := B.returns
  have hts := atoms_spec (ws := wsX10_readClause) B.pre
  have hown : s.vm.findClass RX10 = some m.cls := findClass_of_methodNamed B.named
  have hlocks := B.notSynchronized
  subst hsz
  have hD := hD0.self (sz := s.heap.size)
  generalize hAe : va_A [(tp, .inr (11, [.ref tby, .int 0, .int 0, .int (-1), .ref tst, .int 0, .ref tla, .ref tbe, .ref tsu, .int 0]))] s.heap.size = A at hD ⊢
  have hA : ∀ q : Nat, s.heap.size ≤ q → A q := fun q h => by rw [← hAe]; exact Or.inr h
  rw [hAe] at hT
  have hS : va_S A s.heap s.heap [] := va_S.rf
  have hP : va_P (dC, dI) vwCl [(tp, .inr (11, [.ref tby, .int 0, .int 0, .int (-1), .ref tst, .int 0, .ref tla, .ref tbe, .ref tsu, .int 0]))] s.heap := hP
  have hl := lv_entry ([.ref tp]) (n := 3) (Nat.le_of_ble_eq_true rfl)
  rw [lg_entry_eq]
  generalize (lg_sl ([.ref tp]) ++ List.replicate (3 - (lg_sl ([.ref tp])).length) Slot.unset).toArray = ls at hl ⊢
  have hl : lv_has ls 3 [(0, .ref tp)] := hl
  refine lv_aload_n hx hb dX10_readClause_0 rfl (lv_at hl 0 rfl) ?_
  have hPc := hP.sub (ws' := [(tp, .inr (11, [.ref tby, .int 0, .int 0, .int (-1), .ref tst, .int 0, .ref tla, .ref tbe, .ref tsu, .int 0]))]) [0] rfl
  have hKc := hK.sub (tys' := []) [] rfl
  refine va_calli (va_runV (As := []) (rest := []) ⟨hx, hb, hml, hown, hts⟩ (c_next1 l dC dI tp tby tst tla tbe tsu) (cwV 0 hts gX10_readClause_X10_next rfl rfl rfl (by decide +kernel) ⟨Nat.le_of_ble_eq_true rfl, Nat.le_of_ble_eq_true rfl⟩) ⟨fun a U g mk q => by obtain ⟨e0, qP, qK⟩ := q; exact ⟨e0, qP, va_K.moved (u := U) (U := U.calling g mk a) (Vm.Alike.refl U.vm) qK⟩, va_recv hK hP (ci := 11) (q0 := 0) rfl rfl, fun U hU hW => ⟨rfl, by rw [hU]; exact hPc, va_K.moved hW.alike hKc⟩⟩ rfl rfl hl.1 rfl (lv_room (Nat.le_of_ble_eq_true rfl)) dX10_readClause_1 ⟨Nat.le_of_ble_eq_true rfl, Nat.le_of_ble_eq_true rfl⟩) hS (fun _ _ h => h.elim) (fun _ h => h.elim) (fun r1 u2 t H1 locs ht hvm hw hB hz1 hk1 hS => ?_)
  have hP := ub_keep hP hk1
  generalize H1 = H at hP hS ⊢
  obtain rfl : (-1 : Int32) = r1 := hw.symm
  refine lv_istore_n (lv' := [(1, .int (-1)), (0, .ref tp)]) hx hb dX10_readClause_4 rfl hl (by decide) rfl (fun ls hl => ?_)
  obtain ⟨qs, hqs⟩ := hT
  refine va_ldcS hx hb hown hqs dX10_readClause_5 ?_
  refine lv_iload_n hx hb dX10_readClause_7 rfl (lv_at hl 0 rfl) ?_
  refine va_calli (va_runSN (As := [.ref qs, .int (-1)]) (rest := []) ⟨hx, hb, hml, hown, hts⟩ (c_isOneOf0 l qs) ⟨va_cnB 2 hts gX10_readClause_X12_isOneOf_n66 rfl rfl rfl (ub_nx4 hN) (hts (.initialized RX12) (List.mem_of_getElem? (i := 16) rfl)) (by decide +kernel) ⟨Nat.le_of_ble_eq_true rfl, Nat.le_of_ble_eq_true rfl⟩, (hts (.static yX12_isOneOf) (List.mem_of_getElem? (i := 15) rfl)), trivial⟩ ⟨fun _ _ _ _ q => q, fun _ _ _ => ⟨rfl, trivial⟩⟩ rfl rfl hl.1 rfl (lv_room (Nat.le_of_ble_eq_true rfl)) dX10_readClause_8 ⟨Nat.le_of_ble_eq_true rfl, Nat.le_of_ble_eq_true rfl⟩) hS (fun _ _ h => h.elim) (fun _ h => h.elim) (fun r3 u4 t H1 locs ht hvm hw hB hz1 hk1 hS => ?_)
  have hP := ub_keep hP hk1
  generalize H1 = H at hP hS ⊢
  obtain rfl : (0 : Int32) = r3 := hw.symm
  refine lv_if_eq (tgt := 23) hx hb dX10_readClause_11 (by decide) (fun c5 => ?_) (fun c5 => by first | exact absurd c5 (by decide) | exact absurd (by decide) c5)
  refine lv_aload_n hx hb dX10_readClause_23 rfl (lv_at hl 1 rfl) ?_
  have hPc := hP.sub (ws' := [(tp, .inr (11, [.ref tby, .int 0, .int 0, .int (-1), .ref tst, .int 0, .ref tla, .ref tbe, .ref tsu, .int 0]))]) [0] rfl
  have hKc := hK.sub (tys' := []) [] rfl
  have hDc := hD.sub (ws' := [(tp, .inr (11, [.ref tby, .int 0, .int 0, .int (-1), .ref tst, .int 0, .ref tla, .ref tbe, .ref tsu, .int 0]))]) [0] (by decide) rfl
  have hFc := va_free (wc := [(tp, .inr (11, [.ref tby, .int 0, .int 0, .int (-1), .ref tst, .int 0, .ref tla, .ref tbe, .ref tsu, .int 0]))]) hD hS hA [0] rfl
  refine va_callv (va_runV (As := []) (rest := []) ⟨hx, hb, hml, hown, hts⟩ (c_fail1 l dC dI tp tby tst tla tbe tsu H.size) (cwV 0 hts gX10_readClause_X10_fail rfl rfl rfl (by decide +kernel) ⟨Nat.le_of_ble_eq_true rfl, Nat.le_of_ble_eq_true rfl⟩) ⟨fun a U g mk q => by obtain ⟨e0, e1, qP, qK, qD⟩ := q; exact ⟨e0, e1, qP, va_K.moved (u := U) (U := U.calling g mk a) (Vm.Alike.refl U.vm) qK, qD⟩, va_recv hK hP (ci := 11) (q0 := 0) rfl rfl, fun U hU hW => ⟨rfl, by rw [hU], by rw [hU]; exact hPc, va_K.moved hW.alike hKc, hDc.weaken (fun _ _ _ _ => trivial)⟩⟩ rfl rfl hl.1 rfl (lv_room (Nat.le_of_ble_eq_true rfl)) dX10_readClause_24 ⟨Nat.le_of_ble_eq_true rfl, Nat.le_of_ble_eq_true rfl⟩) hS (fun q _ h => hFc q h) hFc (fun u7 t H1 locs ht hvm hw hB hz1 hk1 hS => ?_)
  obtain ⟨hP1, hK1, hD1⟩ := hB
  rw [ht] at hP1
  obtain ⟨hP, hD⟩ := va_join (wr := []) (w1 := [(tp, .inr (11, [.ref tby, .int 0, .int 0, .int 0, .ref tst, .int 0, .ref tla, .ref tbe, .ref tsu, .int 0]))]) hP hD [0] [] rfl rfl (by decide) (by decide) hk1 hFc hP1 hD1
  generalize H1 = H at hP hS ⊢
  have hP : va_P (dC, dI) vwCl [(tp, .inr (11, [.ref tby, .int 0, .int 0, .int 0, .ref tst, .int 0, .ref tla, .ref tbe, .ref tsu, .int 0]))] H := hP
  have hD : va_D A [(tp, .inr (11, [.ref tby, .int 0, .int 0, .int 0, .ref tst, .int 0, .ref tla, .ref tbe, .ref tsu, .int 0]))] := hD
  refine W.widen (k := 0) (n := 0) (by omega) (by omega) ?_
  have hP9 := hP.sub (ws' := [(tp, .inr (11, [.ref tby, .int 0, .int 0, .int 0, .ref tst, .int 0, .ref tla, .ref tbe, .ref tsu, .int 0]))]) [0] rfl
  have hD9 := hD.sub (ws' := [(tp, .inr (11, [.ref tby, .int 0, .int 0, .int 0, .ref tst, .int 0, .ref tla, .ref tbe, .ref tsu, .int 0]))]) [0] (by decide) rfl
  have hK9 := hK.sub (tys' := []) [] rfl
  exact W.vret hx hb hr (fun t ht hW => ⟨⟨(), rfl, trivial, (by rw [ht]; exact hP9), va_K.moved hW.alike hK9, hD9⟩, hS.F ht⟩) hS.2.2 dX10_readClause_27
set_option maxHeartbeats 4000000 in
set_option maxRecDepth 100000 in
theorem c_read (l : Launch) (dC : Nat → ClassId) (dI : Nat → Nat → Nat) (tp : Nat) (tby : Nat) (tst : Nat) (tla : Nat) (tbe : Nat) (tsu : Nat) (cI : ClassId) (gb : Nat → Int32) (sz : Nat)  : Met l yX10_read wsX10_read ({ frames := 2, cells := 0, slots := 0, locals := 80 }) (va_Pc [.ref tp] (fun U => U.heap.size = sz ∧ va_P (dC, dI) vwCl [(tp, .inr (11, [.ref tby, .int 0, .int 0, .int 0, .ref tst, .int 0, .ref tla, .ref tbe, .ref tsu, .int 0])), (tbe, .inl (cI, 52, .inl gb))] U.heap ∧ va_K (dC, dI) vwCl [(cI, .int)] U ∧ va_D (fun _ => True) [(tp, .inr (11, [.ref tby, .int 0, .int 0, .int 0, .ref tst, .int 0, .ref tla, .ref tbe, .ref tsu, .int 0])), (tbe, .inl (cI, 52, .inl gb))] ∧ ub_NX U ∧ ub_ST U)) (va_Qi (S := Unit) (fun r _ => r = 0) (fun _ _ => True) (va_A [(tp, .inr (11, [.ref tby, .int 0, .int 0, .int 0, .ref tst, .int 0, .ref tla, .ref tbe, .ref tsu, .int 0])), (tbe, .inl (cI, 52, .inl gb))] sz)) 0 0 (va_A [(tp, .inr (11, [.ref tby, .int 0, .int 0, .int 0, .ref tst, .int 0, .ref tla, .ref tbe, .ref tsu, .int 0])), (tbe, .inl (cI, 52, .inl gb))] sz) := by
  refine Met.ofW (cc := cX10_read) (maxL := 2) (ret := (some .int)) (by decide) rfl ?_
  intro p e s m args below meth c s₁ B hml hv
  obtain ⟨rfl, hsz, hP, hK, hD0, hN, hT⟩ := hv
  have hx := B.exec
  have hb := B.bytes
  have hr := B.returns
  have hts := atoms_spec (ws := wsX10_read) B.pre
  have hown : s.vm.findClass RX10 = some m.cls := findClass_of_methodNamed B.named
  have hlocks := B.notSynchronized
  subst hsz
  have hD := hD0.self (sz := s.heap.size)
  generalize hAe : va_A [(tp, .inr (11, [.ref tby, .int 0, .int 0, .int 0, .ref tst, .int 0, .ref tla, .ref tbe, .ref tsu, .int 0])), (tbe, .inl (cI, 52, .inl gb))] s.heap.size = A at hD ⊢
  have hA : ∀ q : Nat, s.heap.size ≤ q → A q := fun q h => by rw [← hAe]; exact Or.inr h
  rw [hAe] at hT
  have hS : va_S A s.heap s.heap [] := va_S.rf
  have hP : va_P (dC, dI) vwCl [(tp, .inr (11, [.ref tby, .int 0, .int 0, .int 0, .ref tst, .int 0, .ref tla, .ref tbe, .ref tsu, .int 0])), (tbe, .inl (cI, 52, .inl gb))] s.heap := hP
  have hl := lv_entry ([.ref tp]) (n := 2) (Nat.le_of_ble_eq_true rfl)
  rw [lg_entry_eq]
  generalize (lg_sl ([.ref tp]) ++ List.replicate (2 - (lg_sl ([.ref tp])).length) Slot.unset).toArray = ls at hl ⊢
  have hl : lv_has ls 2 [(0, .ref tp)] := hl
  refine lv_aload_n hx hb dX10_read_0 rfl (lv_at hl 0 rfl) ?_
  refine lv_iconst (v := 0) hx hb dX10_read_1 (by decide) ?_
  refine va_put (D := (dC, dI)) (ci := 11) (v := .int 0) (ty := .int) (C := RX10) (T := TX10) (N := 10) hx hb hts iw_X10_read_X10 tyX10 tyX10_ok nmX10 hown hK hP hD hS 0 rfl rfl 2 (by decide) (hts (.fieldLink RX10 31 "UnlikeBoats$Tape" "at" "I") (List.mem_of_getElem? (i := 1) rfl)) (fun _ h9 => h9) rfl (by decide +kernel) rfl rfl (Nat.le_of_ble_eq_true rfl) dX10_read_2 (fun H locs hP hD hS => ?_)
  have hP : va_P (dC, dI) vwCl [(tp, .inr (11, [.ref tby, .int 0, .int 0, .int 0, .ref tst, .int 0, .ref tla, .ref tbe, .ref tsu, .int 0])), (tbe, .inl (cI, 52, .inl gb))] H := hP
  have hD : va_D A [(tp, .inr (11, [.ref tby, .int 0, .int 0, .int 0, .ref tst, .int 0, .ref tla, .ref tbe, .ref tsu, .int 0])), (tbe, .inl (cI, 52, .inl gb))] := hD
  refine lv_aload_n hx hb dX10_read_5 rfl (lv_at hl 0 rfl) ?_
  refine lv_iconst (v := -1) hx hb dX10_read_6 (by decide) ?_
  refine va_put (D := (dC, dI)) (ci := 11) (v := .int (-1)) (ty := .int) (C := RX10) (T := TX10) (N := 10) hx hb hts iw_X10_read_X10 tyX10 tyX10_ok nmX10 hown hK hP hD hS 0 rfl rfl 3 (by decide) (hts (.fieldLink RX10 34 "UnlikeBoats$Tape" "fault" "I") (List.mem_of_getElem? (i := 2) rfl)) (fun _ h9 => h9) rfl (by decide +kernel) rfl rfl (Nat.le_of_ble_eq_true rfl) dX10_read_7 (fun H locs hP hD hS => ?_)
  have hP : va_P (dC, dI) vwCl [(tp, .inr (11, [.ref tby, .int 0, .int 0, .int (-1), .ref tst, .int 0, .ref tla, .ref tbe, .ref tsu, .int 0])), (tbe, .inl (cI, 52, .inl gb))] H := hP
  have hD : va_D A [(tp, .inr (11, [.ref tby, .int 0, .int 0, .int (-1), .ref tst, .int 0, .ref tla, .ref tbe, .ref tsu, .int 0])), (tbe, .inl (cI, 52, .inl gb))] := hD
  refine lv_aload_n hx hb dX10_read_10 rfl (lv_at hl 0 rfl) ?_
  refine lv_iconst (v := 0) hx hb dX10_read_11 (by decide) ?_
  refine va_put (D := (dC, dI)) (ci := 11) (v := .int 0) (ty := .int) (C := RX10) (T := TX10) (N := 10) hx hb hts iw_X10_read_X10 tyX10 tyX10_ok nmX10 hown hK hP hD hS 0 rfl rfl 5 (by decide) (hts (.fieldLink RX10 37 "UnlikeBoats$Tape" "size" "I") (List.mem_of_getElem? (i := 3) rfl)) (fun _ h9 => h9) rfl (by decide +kernel) rfl rfl (Nat.le_of_ble_eq_true rfl) dX10_read_12 (fun H locs hP hD hS => ?_)
  have hP : va_P (dC, dI) vwCl [(tp, .inr (11, [.ref tby, .int 0, .int 0, .int (-1), .ref tst, .int 0, .ref tla, .ref tbe, .ref tsu, .int 0])), (tbe, .inl (cI, 52, .inl gb))] H := hP
  have hD : va_D A [(tp, .inr (11, [.ref tby, .int 0, .int 0, .int (-1), .ref tst, .int 0, .ref tla, .ref tbe, .ref tsu, .int 0])), (tbe, .inl (cI, 52, .inl gb))] := hD
  refine lv_aload_n hx hb dX10_read_15 rfl (lv_at hl 0 rfl) ?_
  refine lv_iconst (v := 0) hx hb dX10_read_16 (by decide) ?_
  refine va_put (D := (dC, dI)) (ci := 11) (v := .int 0) (ty := .int) (C := RX10) (T := TX10) (N := 10) hx hb hts iw_X10_read_X10 tyX10 tyX10_ok nmX10 hown hK hP hD hS 0 rfl rfl 9 (by decide) (hts (.fieldLink RX10 40 "UnlikeBoats$Tape" "clauses" "I") (List.mem_of_getElem? (i := 4) rfl)) (fun _ h9 => h9) rfl (by decide +kernel) rfl rfl (Nat.le_of_ble_eq_true rfl) dX10_read_17 (fun H locs hP hD hS => ?_)
  have hP : va_P (dC, dI) vwCl [(tp, .inr (11, [.ref tby, .int 0, .int 0, .int (-1), .ref tst, .int 0, .ref tla, .ref tbe, .ref tsu, .int 0])), (tbe, .inl (cI, 52, .inl gb))] H := hP
  have hD : va_D A [(tp, .inr (11, [.ref tby, .int 0, .int 0, .int (-1), .ref tst, .int 0, .ref tla, .ref tbe, .ref tsu, .int 0])), (tbe, .inl (cI, 52, .inl gb))] := hD
  refine lv_aload_n hx hb dX10_read_20 rfl (lv_at hl 0 rfl) ?_
  have hPc := hP.sub (ws' := [(tp, .inr (11, [.ref tby, .int 0, .int 0, .int (-1), .ref tst, .int 0, .ref tla, .ref tbe, .ref tsu, .int 0]))]) [0] rfl
  have hKc := hK.sub (tys' := []) [] rfl
  have hDc := hD.sub (ws' := [(tp, .inr (11, [.ref tby, .int 0, .int 0, .int (-1), .ref tst, .int 0, .ref tla, .ref tbe, .ref tsu, .int 0]))]) [0] (by decide) rfl
  have hFc := va_free (wc := [(tp, .inr (11, [.ref tby, .int 0, .int 0, .int (-1), .ref tst, .int 0, .ref tla, .ref tbe, .ref tsu, .int 0]))]) hD hS hA [0] rfl
  refine va_callv (va_runV (As := []) (rest := []) ⟨hx, hb, hml, hown, hts⟩ (c_readClause l dC dI tp tby tst tla tbe tsu H.size) (cwV 0 hts gX10_read_X10_readClause rfl rfl rfl (by decide +kernel) ⟨Nat.le_of_ble_eq_true rfl, Nat.le_of_ble_eq_true rfl⟩) ⟨fun a U g mk q => by obtain ⟨e0, e1, qP, qK, qD, qN, qT⟩ := q; exact ⟨e0, e1, qP, va_K.moved (u := U) (U := U.calling g mk a) (Vm.Alike.refl U.vm) qK, qD, ub_NX_c qN, ub_T_c qT⟩, va_recv hK hP (ci := 11) (q0 := 0) rfl rfl, fun U hU hW => ⟨rfl, by rw [hU], by rw [hU]; exact hPc, va_K.moved hW.alike hKc, hDc.weaken (fun _ _ _ _ => trivial), ub_NX_w hW hN, ub_T_w hU hW hS hT⟩⟩ rfl rfl hl.1 rfl (lv_room (Nat.le_of_ble_eq_true rfl)) dX10_read_21 ⟨Nat.le_of_ble_eq_true rfl, Nat.le_of_ble_eq_true rfl⟩) hS (fun q _ h => hFc q h) hFc (fun u2 t H1 locs ht hvm hw hB hz1 hk1 hS => ?_)
  obtain ⟨hP1, hK1, hD1⟩ := hB
  rw [ht] at hP1
  obtain ⟨hP, hD⟩ := va_join (wr := [(tbe, .inl (cI, 52, .inl gb))]) (w1 := [(tp, .inr (11, [.ref tby, .int 0, .int 0, .int 0, .ref tst, .int 0, .ref tla, .ref tbe, .ref tsu, .int 0]))]) hP hD [0] [1] rfl rfl (by decide) (by decide) hk1 hFc hP1 hD1
  generalize H1 = H at hP hS ⊢
  have hP : va_P (dC, dI) vwCl [(tbe, .inl (cI, 52, .inl gb)), (tp, .inr (11, [.ref tby, .int 0, .int 0, .int 0, .ref tst, .int 0, .ref tla, .ref tbe, .ref tsu, .int 0]))] H := hP
  have hD : va_D A [(tbe, .inl (cI, 52, .inl gb)), (tp, .inr (11, [.ref tby, .int 0, .int 0, .int 0, .ref tst, .int 0, .ref tla, .ref tbe, .ref tsu, .int 0]))] := hD
  refine W.widen (k := 0) (n := 0) (by omega) (by omega) ?_
  refine lv_iconst (v := 0) hx hb dX10_read_24 (by decide) ?_
  refine lv_istore_n (lv' := [(1, .int 0), (0, .ref tp)]) hx hb dX10_read_25 rfl hl (by decide) rfl (fun ls hl => ?_)
  refine lv_iload_n hx hb dX10_read_26 rfl (lv_at hl 0 rfl) ?_
  refine lv_sipush (v := 200) hx hb dX10_read_27 (by decide) ?_
  refine lv_icmp_ge (tgt := 62) hx hb dX10_read_30 (by decide) (fun c3 => by first | exact absurd c3 (by decide) | exact absurd (by decide) c3) (fun c3 => ?_)
  refine lv_aload_n hx hb dX10_read_33 rfl (lv_at hl 1 rfl) ?_
  have hPc := hP.sub (ws' := [(tp, .inr (11, [.ref tby, .int 0, .int 0, .int 0, .ref tst, .int 0, .ref tla, .ref tbe, .ref tsu, .int 0]))]) [1] rfl
  have hKc := hK.sub (tys' := []) [] rfl
  refine va_calli (va_runV (As := []) (rest := []) ⟨hx, hb, hml, hown, hts⟩ (c_next2 l dC dI tp tby tst tla tbe tsu) (cwV 0 hts gX10_read_X10_next rfl rfl rfl (by decide +kernel) ⟨Nat.le_of_ble_eq_true rfl, Nat.le_of_ble_eq_true rfl⟩) ⟨fun a U g mk q => by obtain ⟨e0, qP, qK⟩ := q; exact ⟨e0, qP, va_K.moved (u := U) (U := U.calling g mk a) (Vm.Alike.refl U.vm) qK⟩, va_recv hK hP (ci := 11) (q0 := 1) rfl rfl, fun U hU hW => ⟨rfl, by rw [hU]; exact hPc, va_K.moved hW.alike hKc⟩⟩ rfl rfl hl.1 rfl (lv_room (Nat.le_of_ble_eq_true rfl)) dX10_read_34 ⟨Nat.le_of_ble_eq_true rfl, Nat.le_of_ble_eq_true rfl⟩) hS (fun _ _ h => h.elim) (fun _ h => h.elim) (fun r4 u5 t H1 locs ht hvm hw hB hz1 hk1 hS => ?_)
  have hP := ub_keep hP hk1
  generalize H1 = H at hP hS ⊢
  obtain rfl : (-2 : Int32) = r4 := hw.symm
  refine lv_bipush (v := 59) hx hb dX10_read_37 (by decide) ?_
  refine lv_icmp_ne (tgt := 62) hx hb dX10_read_39 (by decide) (fun c6 => ?_) (fun c6 => by first | exact absurd c6 (by decide) | exact absurd (by decide) c6)
  refine lv_aload_n hx hb dX10_read_62 rfl (lv_at hl 1 rfl) ?_
  have hPc := hP.sub (ws' := [(tp, .inr (11, [.ref tby, .int 0, .int 0, .int 0, .ref tst, .int 0, .ref tla, .ref tbe, .ref tsu, .int 0]))]) [1] rfl
  have hKc := hK.sub (tys' := []) [] rfl
  refine va_calli (va_runV (As := []) (rest := []) ⟨hx, hb, hml, hown, hts⟩ (c_next2 l dC dI tp tby tst tla tbe tsu) (cwV 0 hts gX10_read_X10_next rfl rfl rfl (by decide +kernel) ⟨Nat.le_of_ble_eq_true rfl, Nat.le_of_ble_eq_true rfl⟩) ⟨fun a U g mk q => by obtain ⟨e0, qP, qK⟩ := q; exact ⟨e0, qP, va_K.moved (u := U) (U := U.calling g mk a) (Vm.Alike.refl U.vm) qK⟩, va_recv hK hP (ci := 11) (q0 := 1) rfl rfl, fun U hU hW => ⟨rfl, by rw [hU]; exact hPc, va_K.moved hW.alike hKc⟩⟩ rfl rfl hl.1 rfl (lv_room (Nat.le_of_ble_eq_true rfl)) dX10_read_63 ⟨Nat.le_of_ble_eq_true rfl, Nat.le_of_ble_eq_true rfl⟩) hS (fun _ _ h => h.elim) (fun _ h => h.elim) (fun r7 u8 t H1 locs ht hvm hw hB hz1 hk1 hS => ?_)
  have hP := ub_keep hP hk1
  generalize H1 = H at hP hS ⊢
  obtain rfl : (-2 : Int32) = r7 := hw.symm
  refine lv_iconst (v := -1) hx hb dX10_read_66 (by decide) ?_
  refine lv_icmp_eq (tgt := 74) hx hb dX10_read_67 (by decide) (fun c9 => by first | exact absurd c9 (by decide) | exact absurd (by decide) c9) (fun c9 => ?_)
  refine lv_aload_n hx hb dX10_read_70 rfl (lv_at hl 1 rfl) ?_
  have hPc := hP.sub (ws' := [(tp, .inr (11, [.ref tby, .int 0, .int 0, .int 0, .ref tst, .int 0, .ref tla, .ref tbe, .ref tsu, .int 0]))]) [1] rfl
  have hKc := hK.sub (tys' := []) [] rfl
  have hDc := hD.sub (ws' := [(tp, .inr (11, [.ref tby, .int 0, .int 0, .int 0, .ref tst, .int 0, .ref tla, .ref tbe, .ref tsu, .int 0]))]) [1] (by decide) rfl
  have hFc := va_free (wc := [(tp, .inr (11, [.ref tby, .int 0, .int 0, .int 0, .ref tst, .int 0, .ref tla, .ref tbe, .ref tsu, .int 0]))]) hD hS hA [1] rfl
  refine va_callv (va_runV (As := []) (rest := []) ⟨hx, hb, hml, hown, hts⟩ (c_fail2 l dC dI tp tby tst tla tbe tsu H.size) (cwV 0 hts gX10_read_X10_fail rfl rfl rfl (by decide +kernel) ⟨Nat.le_of_ble_eq_true rfl, Nat.le_of_ble_eq_true rfl⟩) ⟨fun a U g mk q => by obtain ⟨e0, e1, qP, qK, qD⟩ := q; exact ⟨e0, e1, qP, va_K.moved (u := U) (U := U.calling g mk a) (Vm.Alike.refl U.vm) qK, qD⟩, va_recv hK hP (ci := 11) (q0 := 1) rfl rfl, fun U hU hW => ⟨rfl, by rw [hU], by rw [hU]; exact hPc, va_K.moved hW.alike hKc, hDc.weaken (fun _ _ _ _ => trivial)⟩⟩ rfl rfl hl.1 rfl (lv_room (Nat.le_of_ble_eq_true rfl)) dX10_read_71 ⟨Nat.le_of_ble_eq_true rfl, Nat.le_of_ble_eq_true rfl⟩) hS (fun q _ h => hFc q h) hFc (fun u11 t H1 locs ht hvm hw hB hz1 hk1 hS => ?_)
  obtain ⟨hP1, hK1, hD1⟩ := hB
  rw [ht] at hP1
  obtain ⟨hP, hD⟩ := va_join (wr := [(tbe, .inl (cI, 52, .inl gb))]) (w1 := [(tp, .inr (11, [.ref tby, .int 0, .int 0, .int 0, .ref tst, .int 0, .ref tla, .ref tbe, .ref tsu, .int 0]))]) hP hD [1] [0] rfl rfl (by decide) (by decide) hk1 hFc hP1 hD1
  generalize H1 = H at hP hS ⊢
  have hP : va_P (dC, dI) vwCl [(tbe, .inl (cI, 52, .inl gb)), (tp, .inr (11, [.ref tby, .int 0, .int 0, .int 0, .ref tst, .int 0, .ref tla, .ref tbe, .ref tsu, .int 0]))] H := hP
  have hD : va_D A [(tbe, .inl (cI, 52, .inl gb)), (tp, .inr (11, [.ref tby, .int 0, .int 0, .int 0, .ref tst, .int 0, .ref tla, .ref tbe, .ref tsu, .int 0]))] := hD
  refine W.widen (k := 0) (n := 0) (by omega) (by omega) ?_
  refine lv_aload_n hx hb dX10_read_74 rfl (lv_at hl 1 rfl) ?_
  refine va_get (D := (dC, dI)) (ci := 11) (v := .ref tbe) (C := RX10) (T := TX10) (N := 10) hx hb hts iw_X10_read_X10 hown hK hP 1 rfl rfl 7 (by decide) (hts (.fieldLink RX10 21 "UnlikeBoats$Tape" "begins" "[I") (List.mem_of_getElem? (i := 5) rfl)) (fun _ h9 => h9) rfl dX10_read_75 ?_
  refine lv_aload_n hx hb dX10_read_78 rfl (lv_at hl 1 rfl) ?_
  refine va_get (D := (dC, dI)) (ci := 11) (v := .int 0) (C := RX10) (T := TX10) (N := 10) hx hb hts iw_X10_read_X10 hown hK hP 1 rfl rfl 9 (by decide) (hts (.fieldLink RX10 40 "UnlikeBoats$Tape" "clauses" "I") (List.mem_of_getElem? (i := 4) rfl)) (fun _ h9 => h9) rfl dX10_read_79 ?_
  refine lv_aload_n hx hb dX10_read_82 rfl (lv_at hl 1 rfl) ?_
  refine va_get (D := (dC, dI)) (ci := 11) (v := .int 0) (C := RX10) (T := TX10) (N := 10) hx hb hts iw_X10_read_X10 hown hK hP 1 rfl rfl 5 (by decide) (hts (.fieldLink RX10 37 "UnlikeBoats$Tape" "size" "I") (List.mem_of_getElem? (i := 3) rfl)) (fun _ h9 => h9) rfl dX10_read_83 ?_
  refine va_iast hx hb hK hP hD hS 0 0 rfl rfl (vp_in_nI (n := 0) (N := 52) (by decide) (by decide)) dX10_read_86 (fun H locs hP hD hS => ?_)
  obtain ⟨f12, ef12⟩ : ∃ g : Nat → Int32, g = upd gb (0 : Int32).toNatClampNeg 0 := ⟨_, rfl⟩
  have hP : va_P (dC, dI) vwCl [(tbe, .inl (cI, 52, .inl (upd gb (0 : Int32).toNatClampNeg 0))), (tp, .inr (11, [.ref tby, .int 0, .int 0, .int 0, .ref tst, .int 0, .ref tla, .ref tbe, .ref tsu, .int 0]))] H := hP
  have hD : va_D A [(tbe, .inl (cI, 52, .inl (upd gb (0 : Int32).toNatClampNeg 0))), (tp, .inr (11, [.ref tby, .int 0, .int 0, .int 0, .ref tst, .int 0, .ref tla, .ref tbe, .ref tsu, .int 0]))] := hD
  rw [← ef12] at hP hD
  refine lv_aload_n hx hb dX10_read_87 rfl (lv_at hl 1 rfl) ?_
  refine va_get (D := (dC, dI)) (ci := 11) (v := .int 0) (C := RX10) (T := TX10) (N := 10) hx hb hts iw_X10_read_X10 hown hK hP 1 rfl rfl 3 (by decide) (hts (.fieldLink RX10 34 "UnlikeBoats$Tape" "fault" "I") (List.mem_of_getElem? (i := 2) rfl)) (fun _ h9 => h9) rfl dX10_read_88 ?_
  exact W.iret (v := (0)) hx hb hr (fun t ht hW => ⟨⟨(0), (), rfl, rfl, trivial⟩, hS.F ht⟩) hS.2.2 dX10_read_91
set_option maxHeartbeats 4000000 in
set_option maxRecDepth 100000 in
theorem c_fault (l : Launch) (dC : Nat → ClassId) (dI : Nat → Nat → Nat) (x : Nat) (bk : Nat) (tp : Nat) (sh : Nat) (sc : Nat) (he : Nat) (of : Nat) (tby : Nat) (tst : Nat) (tla : Nat) (tbe : Nat) (tsu : Nat) (cI : ClassId) (gb : Nat → Int32) (sz : Nat)  : Met l yX12_fault wsX12_fault ({ frames := 3, cells := 0, slots := 0, locals := 120 }) (va_Pc [.ref x] (fun U => U.heap.size = sz ∧ va_P (dC, dI) vwCl [(x, .inr (13, [.ref bk, .ref tp, .ref sh, .ref sc, .ref he, .ref of])), (tp, .inr (11, [.ref tby, .int 0, .int 0, .int 0, .ref tst, .int 0, .ref tla, .ref tbe, .ref tsu, .int 0])), (tbe, .inl (cI, 52, .inl gb))] U.heap ∧ va_K (dC, dI) vwCl [(cI, .int)] U ∧ va_D (fun _ => True) [(x, .inr (13, [.ref bk, .ref tp, .ref sh, .ref sc, .ref he, .ref of])), (tp, .inr (11, [.ref tby, .int 0, .int 0, .int 0, .ref tst, .int 0, .ref tla, .ref tbe, .ref tsu, .int 0])), (tbe, .inl (cI, 52, .inl gb))] ∧ ub_NX U ∧ ub_ST U)) (va_Qi (S := Unit) (fun r _ => r = 0) (fun _ _ => True) (va_A [(x, .inr (13, [.ref bk, .ref tp, .ref sh, .ref sc, .ref he, .ref of])), (tp, .inr (11, [.ref tby, .int 0, .int 0, .int 0, .ref tst, .int 0, .ref tla, .ref tbe, .ref tsu, .int 0])), (tbe, .inl (cI, 52, .inl gb))] sz)) 0 0 (va_A [(x, .inr (13, [.ref bk, .ref tp, .ref sh, .ref sc, .ref he, .ref of])), (tp, .inr (11, [.ref tby, .int 0, .int 0, .int 0, .ref tst, .int 0, .ref tla, .ref tbe, .ref tsu, .int 0])), (tbe, .inl (cI, 52, .inl gb))] sz) := by
  refine Met.ofW (cc := cX12_fault) (maxL := 1) (ret := (some .int)) (by decide) rfl ?_
  intro p e s m args below meth c s₁ B hml hv
  obtain ⟨rfl, hsz, hP, hK, hD0, hN, hT⟩ := hv
  have hx := B.exec
  have hb := B.bytes
  have hr := B.returns
  have hts := atoms_spec (ws := wsX12_fault) B.pre
  have hown : s.vm.findClass RX12 = some m.cls := findClass_of_methodNamed B.named
  have hlocks := B.notSynchronized
  subst hsz
  have hD := hD0.self (sz := s.heap.size)
  generalize hAe : va_A [(x, .inr (13, [.ref bk, .ref tp, .ref sh, .ref sc, .ref he, .ref of])), (tp, .inr (11, [.ref tby, .int 0, .int 0, .int 0, .ref tst, .int 0, .ref tla, .ref tbe, .ref tsu, .int 0])), (tbe, .inl (cI, 52, .inl gb))] s.heap.size = A at hD ⊢
  have hA : ∀ q : Nat, s.heap.size ≤ q → A q := fun q h => by rw [← hAe]; exact Or.inr h
  rw [hAe] at hT
  have hS : va_S A s.heap s.heap [] := va_S.rf
  have hP : va_P (dC, dI) vwCl [(x, .inr (13, [.ref bk, .ref tp, .ref sh, .ref sc, .ref he, .ref of])), (tp, .inr (11, [.ref tby, .int 0, .int 0, .int 0, .ref tst, .int 0, .ref tla, .ref tbe, .ref tsu, .int 0])), (tbe, .inl (cI, 52, .inl gb))] s.heap := hP
  have hl := lv_entry ([.ref x]) (n := 1) (Nat.le_of_ble_eq_true rfl)
  rw [lg_entry_eq]
  generalize (lg_sl ([.ref x]) ++ List.replicate (1 - (lg_sl ([.ref x])).length) Slot.unset).toArray = ls at hl ⊢
  have hl : lv_has ls 1 [(0, .ref x)] := hl
  refine lv_aload_n hx hb dX12_fault_0 rfl (lv_at hl 0 rfl) ?_
  refine va_get (D := (dC, dI)) (ci := 13) (v := .ref tp) (C := RX12) (T := TX12) (N := 6) hx hb hts iw_X12_fault_X12 hown hK hP 0 rfl rfl 1 (by decide) (hts (.fieldLink RX12 19 "UnlikeBoats" "tape" "LUnlikeBoats$Tape;") (List.mem_of_getElem? (i := 1) rfl)) (fun _ h9 => h9) rfl dX12_fault_1 ?_
  have hPc := hP.sub (ws' := [(tp, .inr (11, [.ref tby, .int 0, .int 0, .int 0, .ref tst, .int 0, .ref tla, .ref tbe, .ref tsu, .int 0])), (tbe, .inl (cI, 52, .inl gb))]) [1, 2] rfl
  have hKc := hK.sub (tys' := [(cI, .int)]) [0] rfl
  have hDc := hD.sub (ws' := [(tp, .inr (11, [.ref tby, .int 0, .int 0, .int 0, .ref tst, .int 0, .ref tla, .ref tbe, .ref tsu, .int 0])), (tbe, .inl (cI, 52, .inl gb))]) [1, 2] (by decide) rfl
  have hFc := va_free (wc := [(tp, .inr (11, [.ref tby, .int 0, .int 0, .int 0, .ref tst, .int 0, .ref tla, .ref tbe, .ref tsu, .int 0])), (tbe, .inl (cI, 52, .inl gb))]) hD hS hA [1, 2] rfl
  refine va_calli (va_runV (As := []) (rest := []) ⟨hx, hb, hml, hown, hts⟩ (c_read l dC dI tp tby tst tla tbe tsu cI gb s.heap.size) (cwV 0 hts gX12_fault_X10_read rfl rfl rfl (by decide +kernel) ⟨Nat.le_of_ble_eq_true rfl, Nat.le_of_ble_eq_true rfl⟩) ⟨fun a U g mk q => by obtain ⟨e0, e1, qP, qK, qD, qN, qT⟩ := q; exact ⟨e0, e1, qP, va_K.moved (u := U) (U := U.calling g mk a) (Vm.Alike.refl U.vm) qK, qD, ub_NX_c qN, ub_T_c qT⟩, va_recv hK hP (ci := 11) (q0 := 1) rfl rfl, fun U hU hW => ⟨rfl, by rw [hU], by rw [hU]; exact hPc, va_K.moved hW.alike hKc, hDc.weaken (fun _ _ _ _ => trivial), ub_NX_w hW hN, ub_T_w hU hW hS hT⟩⟩ rfl rfl hl.1 rfl (lv_room (Nat.le_of_ble_eq_true rfl)) dX12_fault_4 ⟨Nat.le_of_ble_eq_true rfl, Nat.le_of_ble_eq_true rfl⟩) hS (fun q _ h => hFc q h) hFc (fun r1 u2 t H1 locs ht hvm hw hB hz1 hk1 hS => ?_)
  have hP1 : va_P (dC, dI) vwCl [] H1 := ub_P0
  have hD1 : va_D (va_A [(tp, .inr (11, [.ref tby, .int 0, .int 0, .int 0, .ref tst, .int 0, .ref tla, .ref tbe, .ref tsu, .int 0])), (tbe, .inl (cI, 52, .inl gb))] s.heap.size) [] := ub_D0
  obtain ⟨hP, hD⟩ := va_join (wr := [(x, .inr (13, [.ref bk, .ref tp, .ref sh, .ref sc, .ref he, .ref of]))]) (w1 := []) hP hD [1, 2] [0] rfl rfl (by decide) (by decide) hk1 hFc hP1 hD1
  generalize H1 = H at hP hS ⊢
  have hP : va_P (dC, dI) vwCl [(x, .inr (13, [.ref bk, .ref tp, .ref sh, .ref sc, .ref he, .ref of]))] H := hP
  have hD : va_D A [(x, .inr (13, [.ref bk, .ref tp, .ref sh, .ref sc, .ref he, .ref of]))] := hD
  refine W.widen (k := 0) (n := 0) (by omega) (by omega) ?_
  obtain rfl : (0 : Int32) = r1 := hw.symm
  exact W.iret (v := (0)) hx hb hr (fun t ht hW => ⟨⟨(0), (), rfl, rfl, trivial⟩, hS.F ht⟩) hS.2.2 dX12_fault_7
set_option maxHeartbeats 4000000 in
set_option maxRecDepth 100000 in
theorem c_rules (l : Launch) (dC : Nat → ClassId) (dI : Nat → Nat → Nat) (x : Nat) (bk : Nat) (tp : Nat) (sh : Nat) (sc : Nat) (he : Nat) (of : Nat) (lc : Nat) (lr : Nat) (la : Nat) (le : Nat) (lw : Nat) (lp : Nat) (ltr : Nat) (stk : Nat) (ed : Nat) (tby : Nat) (tst : Nat) (tla : Nat) (tbe : Nat) (tsu : Nat) (cI : ClassId) (gb : Nat → Int32) (n : Int32) (sz : Nat)  : Met l yX12_rules wsX12_rules ({ frames := 3, cells := 0, slots := 0, locals := 120 }) (va_Pc [.ref x, .int n] (fun U => U.heap.size = sz ∧ va_P (dC, dI) vwCl [(x, .inr (13, [.ref bk, .ref tp, .ref sh, .ref sc, .ref he, .ref of])), (bk, .inr (1, [.int 0, .int 0, .int 0, .ref lc, .ref lr, .ref la, .ref le, .ref lw, .ref lp, .ref ltr, .ref stk])), (lr, .inr (0, [.int 0, .ref ed, .int 0])), (tp, .inr (11, [.ref tby, .int 0, .int 0, .int 0, .ref tst, .int 0, .ref tla, .ref tbe, .ref tsu, .int 0])), (tbe, .inl (cI, 52, .inl gb))] U.heap ∧ va_K (dC, dI) vwCl [(cI, .int)] U ∧ va_D (fun _ => True) [(x, .inr (13, [.ref bk, .ref tp, .ref sh, .ref sc, .ref he, .ref of])), (bk, .inr (1, [.int 0, .int 0, .int 0, .ref lc, .ref lr, .ref la, .ref le, .ref lw, .ref lp, .ref ltr, .ref stk])), (lr, .inr (0, [.int 0, .ref ed, .int 0])), (tp, .inr (11, [.ref tby, .int 0, .int 0, .int 0, .ref tst, .int 0, .ref tla, .ref tbe, .ref tsu, .int 0])), (tbe, .inl (cI, 52, .inl gb))] ∧ ub_NX U ∧ ub_ST U)) (va_Qi (S := Unit) (fun r _ => r = -1) (fun _ _ => True) (va_A [(x, .inr (13, [.ref bk, .ref tp, .ref sh, .ref sc, .ref he, .ref of])), (bk, .inr (1, [.int 0, .int 0, .int 0, .ref lc, .ref lr, .ref la, .ref le, .ref lw, .ref lp, .ref ltr, .ref stk])), (lr, .inr (0, [.int 0, .ref ed, .int 0])), (tp, .inr (11, [.ref tby, .int 0, .int 0, .int 0, .ref tst, .int 0, .ref tla, .ref tbe, .ref tsu, .int 0])), (tbe, .inl (cI, 52, .inl gb))] sz)) 0 0 (va_A [(x, .inr (13, [.ref bk, .ref tp, .ref sh, .ref sc, .ref he, .ref of])), (bk, .inr (1, [.int 0, .int 0, .int 0, .ref lc, .ref lr, .ref la, .ref le, .ref lw, .ref lp, .ref ltr, .ref stk])), (lr, .inr (0, [.int 0, .ref ed, .int 0])), (tp, .inr (11, [.ref tby, .int 0, .int 0, .int 0, .ref tst, .int 0, .ref tla, .ref tbe, .ref tsu, .int 0])), (tbe, .inl (cI, 52, .inl gb))] sz) := by
  refine Met.ofW (cc := cX12_rules) (maxL := 2) (ret := (some .int)) (by decide) rfl ?_
  intro p e s m args below meth c s₁ B hml hv
  obtain ⟨rfl, hsz, hP, hK, hD0, hN, hT⟩ := hv
  have hx := B.exec
  have hb := B.bytes
  have hr := B.returns
  have hts := atoms_spec (ws := wsX12_rules) B.pre
  have hown : s.vm.findClass RX12 = some m.cls := findClass_of_methodNamed B.named
  have hlocks := B.notSynchronized
  subst hsz
  have hD := hD0.self (sz := s.heap.size)
  generalize hAe : va_A [(x, .inr (13, [.ref bk, .ref tp, .ref sh, .ref sc, .ref he, .ref of])), (bk, .inr (1, [.int 0, .int 0, .int 0, .ref lc, .ref lr, .ref la, .ref le, .ref lw, .ref lp, .ref ltr, .ref stk])), (lr, .inr (0, [.int 0, .ref ed, .int 0])), (tp, .inr (11, [.ref tby, .int 0, .int 0, .int 0, .ref tst, .int 0, .ref tla, .ref tbe, .ref tsu, .int 0])), (tbe, .inl (cI, 52, .inl gb))] s.heap.size = A at hD ⊢
  have hA : ∀ q : Nat, s.heap.size ≤ q → A q := fun q h => by rw [← hAe]; exact Or.inr h
  rw [hAe] at hT
  have hS : va_S A s.heap s.heap [] := va_S.rf
  have hP : va_P (dC, dI) vwCl [(x, .inr (13, [.ref bk, .ref tp, .ref sh, .ref sc, .ref he, .ref of])), (bk, .inr (1, [.int 0, .int 0, .int 0, .ref lc, .ref lr, .ref la, .ref le, .ref lw, .ref lp, .ref ltr, .ref stk])), (lr, .inr (0, [.int 0, .ref ed, .int 0])), (tp, .inr (11, [.ref tby, .int 0, .int 0, .int 0, .ref tst, .int 0, .ref tla, .ref tbe, .ref tsu, .int 0])), (tbe, .inl (cI, 52, .inl gb))] s.heap := hP
  have hl := lv_entry ([.ref x, .int n]) (n := 2) (Nat.le_of_ble_eq_true rfl)
  rw [lg_entry_eq]
  generalize (lg_sl ([.ref x, .int n]) ++ List.replicate (2 - (lg_sl ([.ref x, .int n])).length) Slot.unset).toArray = ls at hl ⊢
  have hl : lv_has ls 2 [(0, .ref x), (1, .int n)] := hl
  refine lv_iload_n hx hb dX12_rules_0 rfl (lv_at hl 1 rfl) ?_
  refine va_calli (va_runS (As := [.int n]) (rest := []) ⟨hx, hb, hml, hown, hts⟩ (c_isDay l n) (va_cwS 1 hts gX12_rules_X12_isDay rfl rfl rfl (by decide +kernel) ⟨Nat.le_of_ble_eq_true rfl, Nat.le_of_ble_eq_true rfl⟩) ⟨fun _ _ _ _ q => q, fun _ _ _ => ⟨rfl, trivial⟩⟩ rfl rfl hl.1 rfl (lv_room (Nat.le_of_ble_eq_true rfl)) dX12_rules_1 ⟨Nat.le_of_ble_eq_true rfl, Nat.le_of_ble_eq_true rfl⟩) hS (fun _ _ h => h.elim) (fun _ h => h.elim) (fun r1 u2 t H1 locs ht hvm hw hB hz1 hk1 hS => ?_)
  have hP := ub_keep hP hk1
  generalize H1 = H at hP hS ⊢
  rcases hw with ⟨rfl, hw1, hw2⟩ | ⟨rfl, hw1⟩
  · --in
    have d3a := hw1
    have d3b := hw2
    refine lv_if_eq (tgt := 22) hx hb dX12_rules_4 (by decide) (fun c4 => by first | exact absurd c4 (by decide) | exact absurd (by decide) c4) (fun c4 => ?_)
    refine lv_aload_n hx hb dX12_rules_7 rfl (lv_at hl 0 rfl) ?_
    refine va_get (D := (dC, dI)) (ci := 13) (v := .ref bk) (C := RX12) (T := TX12) (N := 6) hx hb hts iw_X12_rules_X12 hown hK hP 0 rfl rfl 0 (by decide) (hts (.fieldLink RX12 10 "UnlikeBoats" "book" "LUnlikeBoats$Book;") (List.mem_of_getElem? (i := 1) rfl)) (fun _ h9 => h9) rfl dX12_rules_8 ?_
    refine va_get (D := (dC, dI)) (ci := 1) (v := .ref lr) (C := RX0) (T := TX0) (N := 11) hx hb hts iw_X12_rules_X0 hown hK hP 1 rfl rfl 4 (by decide) (hts (.fieldLink RX12 113 "UnlikeBoats$Book" "rules" "Ljava/util/ArrayList;") (List.mem_of_getElem? (i := 2) rfl)) (fun _ h9 => h9) rfl dX12_rules_11 ?_
    have hPc := hP.sub (ws' := [(lr, .inr (0, [.int 0, .ref ed, .int 0]))]) [2] rfl
    have hKc := hK.sub (tys' := []) [] rfl
    refine va_calli (va_runV (As := []) (rest := []) ⟨hx, hb, hml, hown, hts⟩ (c_size l dC dI lr (0) ed (0)) (cwV 0 hts gX12_rules_Jx4a65c_size_8abf5 rfl rfl rfl (by decide +kernel) ⟨Nat.le_of_ble_eq_true rfl, Nat.le_of_ble_eq_true rfl⟩) ⟨fun a U g mk q => by obtain ⟨e0, qP, qK⟩ := q; exact ⟨e0, qP, va_K.moved (u := U) (U := U.calling g mk a) (Vm.Alike.refl U.vm) qK⟩, va_recv hK hP (ci := 0) (q0 := 2) rfl rfl, fun U hU hW => ⟨rfl, by rw [hU]; exact hPc, va_K.moved hW.alike hKc⟩⟩ rfl rfl hl.1 rfl (lv_room (Nat.le_of_ble_eq_true rfl)) dX12_rules_14 ⟨Nat.le_of_ble_eq_true rfl, Nat.le_of_ble_eq_true rfl⟩) hS (fun _ _ h => h.elim) (fun _ h => h.elim) (fun r5 u6 t H1 locs ht hvm hw hB hz1 hk1 hS => ?_)
    have hP := ub_keep hP hk1
    generalize H1 = H at hP hS ⊢
    obtain rfl : (0 : Int32) = r5 := hw.symm
    refine lv_bipush (v := 16) hx hb dX12_rules_17 (by decide) ?_
    refine lv_icmp_lt (tgt := 24) hx hb dX12_rules_19 (by decide) (fun c7 => ?_) (fun c7 => by first | exact absurd c7 (by decide) | exact absurd (by decide) c7)
    refine lv_aload_n hx hb dX12_rules_24 rfl (lv_at hl 0 rfl) ?_
    refine va_get (D := (dC, dI)) (ci := 13) (v := .ref tp) (C := RX12) (T := TX12) (N := 6) hx hb hts iw_X12_rules_X12 hown hK hP 0 rfl rfl 1 (by decide) (hts (.fieldLink RX12 19 "UnlikeBoats" "tape" "LUnlikeBoats$Tape;") (List.mem_of_getElem? (i := 3) rfl)) (fun _ h9 => h9) rfl dX12_rules_25 ?_
    have hPc := hP.sub (ws' := [(tp, .inr (11, [.ref tby, .int 0, .int 0, .int 0, .ref tst, .int 0, .ref tla, .ref tbe, .ref tsu, .int 0])), (tbe, .inl (cI, 52, .inl gb))]) [3, 4] rfl
    have hKc := hK.sub (tys' := [(cI, .int)]) [0] rfl
    have hDc := hD.sub (ws' := [(tp, .inr (11, [.ref tby, .int 0, .int 0, .int 0, .ref tst, .int 0, .ref tla, .ref tbe, .ref tsu, .int 0])), (tbe, .inl (cI, 52, .inl gb))]) [3, 4] (by decide) rfl
    have hFc := va_free (wc := [(tp, .inr (11, [.ref tby, .int 0, .int 0, .int 0, .ref tst, .int 0, .ref tla, .ref tbe, .ref tsu, .int 0])), (tbe, .inl (cI, 52, .inl gb))]) hD hS hA [3, 4] rfl
    refine va_calli (va_runV (As := []) (rest := []) ⟨hx, hb, hml, hown, hts⟩ (c_read l dC dI tp tby tst tla tbe tsu cI gb H.size) (cwV 0 hts gX12_rules_X10_read rfl rfl rfl (by decide +kernel) ⟨Nat.le_of_ble_eq_true rfl, Nat.le_of_ble_eq_true rfl⟩) ⟨fun a U g mk q => by obtain ⟨e0, e1, qP, qK, qD, qN, qT⟩ := q; exact ⟨e0, e1, qP, va_K.moved (u := U) (U := U.calling g mk a) (Vm.Alike.refl U.vm) qK, qD, ub_NX_c qN, ub_T_c qT⟩, va_recv hK hP (ci := 11) (q0 := 3) rfl rfl, fun U hU hW => ⟨rfl, by rw [hU], by rw [hU]; exact hPc, va_K.moved hW.alike hKc, hDc.weaken (fun _ _ _ _ => trivial), ub_NX_w hW hN, ub_T_w hU hW hS hT⟩⟩ rfl rfl hl.1 rfl (lv_room (Nat.le_of_ble_eq_true rfl)) dX12_rules_28 ⟨Nat.le_of_ble_eq_true rfl, Nat.le_of_ble_eq_true rfl⟩) hS (fun q _ h => hFc q h) hFc (fun r8 u9 t H1 locs ht hvm hw hB hz1 hk1 hS => ?_)
    have hP1 : va_P (dC, dI) vwCl [] H1 := ub_P0
    have hD1 : va_D (va_A [(tp, .inr (11, [.ref tby, .int 0, .int 0, .int 0, .ref tst, .int 0, .ref tla, .ref tbe, .ref tsu, .int 0])), (tbe, .inl (cI, 52, .inl gb))] H.size) [] := ub_D0
    obtain ⟨hP, hD⟩ := va_join (wr := [(x, .inr (13, [.ref bk, .ref tp, .ref sh, .ref sc, .ref he, .ref of])), (bk, .inr (1, [.int 0, .int 0, .int 0, .ref lc, .ref lr, .ref la, .ref le, .ref lw, .ref lp, .ref ltr, .ref stk])), (lr, .inr (0, [.int 0, .ref ed, .int 0]))]) (w1 := []) hP hD [3, 4] [0, 1, 2] rfl rfl (by decide) (by decide) hk1 hFc hP1 hD1
    generalize H1 = H at hP hS ⊢
    have hP : va_P (dC, dI) vwCl [(x, .inr (13, [.ref bk, .ref tp, .ref sh, .ref sc, .ref he, .ref of])), (bk, .inr (1, [.int 0, .int 0, .int 0, .ref lc, .ref lr, .ref la, .ref le, .ref lw, .ref lp, .ref ltr, .ref stk])), (lr, .inr (0, [.int 0, .ref ed, .int 0]))] H := hP
    have hD : va_D A [(x, .inr (13, [.ref bk, .ref tp, .ref sh, .ref sc, .ref he, .ref of])), (bk, .inr (1, [.int 0, .int 0, .int 0, .ref lc, .ref lr, .ref la, .ref le, .ref lw, .ref lp, .ref ltr, .ref stk])), (lr, .inr (0, [.int 0, .ref ed, .int 0]))] := hD
    refine W.widen (k := 0) (n := 0) (by omega) (by omega) ?_
    obtain rfl : (0 : Int32) = r8 := hw.symm
    refine lv_iconst (v := -1) hx hb dX12_rules_31 (by decide) ?_
    refine lv_icmp_eq (tgt := 37) hx hb dX12_rules_32 (by decide) (fun c10 => by first | exact absurd c10 (by decide) | exact absurd (by decide) c10) (fun c10 => ?_)
    refine lv_iconst (v := -1) hx hb dX12_rules_35 (by decide) ?_
    exact W.iret (v := (-1)) hx hb hr (fun t ht hW => ⟨⟨(-1), (), rfl, rfl, trivial⟩, hS.F ht⟩) hS.2.2 dX12_rules_36
  · --out
    have d11 := hw1
    refine lv_if_eq (tgt := 22) hx hb dX12_rules_4 (by decide) (fun c12 => ?_) (fun c12 => by first | exact absurd c12 (by decide) | exact absurd (by decide) c12)
    refine lv_iconst (v := -1) hx hb dX12_rules_22 (by decide) ?_
    exact W.iret (v := (-1)) hx hb hr (fun t ht hW => ⟨⟨(-1), (), rfl, rfl, trivial⟩, hS.F ht⟩) hS.2.2 dX12_rules_23
end
