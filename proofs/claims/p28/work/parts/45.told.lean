def RL : String := "UnlikeBoatsLaw"
abbrev cL_told : ByteArray := method_3_code
def yL_told : MethodName := ⟨RL, "told", "(LUnlikeBoats;II[J)I"⟩
theorem dX12_told_0 : decode cX12_told 0 = .ok (.aload_n 0, 1) := by decide +kernel
theorem dX12_told_1 : decode cX12_told 1 = .ok (.getfield 10, 3) := by decide +kernel
theorem dX12_told_4 : decode cX12_told 4 = .ok (.iload_n 1, 1) := by decide +kernel
theorem dX12_told_5 : decode cX12_told 5 = .ok (.invokevirtual 135, 3) := by decide +kernel
theorem dX12_told_8 : decode cX12_told 8 = .ok (.ifCond .ne 14, 3) := by decide +kernel
theorem dX12_told_11 : decode cX12_told 11 = .ok (.new 292, 3) := by decide +kernel
theorem dX12_told_14 : decode cX12_told 14 = .ok (.dup, 1) := by decide +kernel
theorem dX12_told_15 : decode cX12_told 15 = .ok (.ldc_w 294, 3) := by decide +kernel
theorem dX12_told_18 : decode cX12_told 18 = .ok (.invokespecial 296, 3) := by decide +kernel
theorem dX12_told_21 : decode cX12_told 21 = .ok (.athrow, 1) := by decide +kernel
theorem dX12_told_22 : decode cX12_told 22 = .ok (.aload_n 0, 1) := by decide +kernel
theorem dX12_told_23 : decode cX12_told 23 = .ok (.getfield 10, 3) := by decide +kernel
theorem dX12_told_26 : decode cX12_told 26 = .ok (.getfield 127, 3) := by decide +kernel
theorem dX12_told_29 : decode cX12_told 29 = .ok (.iload_n 1, 1) := by decide +kernel
theorem dX12_told_30 : decode cX12_told 30 = .ok (.invokevirtual 138, 3) := by decide +kernel
theorem dX12_told_33 : decode cX12_told 33 = .ok (.checkcast 130, 3) := by decide +kernel
theorem dX12_told_36 : decode cX12_told 36 = .ok (.astore_n 3, 1) := by decide +kernel
theorem dX12_told_37 : decode cX12_told 37 = .ok (.iload_n 2, 1) := by decide +kernel
theorem dX12_told_38 : decode cX12_told 38 = .ok (.tableswitch 109 0 8 #[50, 55, 60, 65, 70, 75, 80, 92, 104], 50) := by decide +kernel
theorem dX12_told_88 : decode cX12_told 88 = .ok (.aload_n 3, 1) := by decide +kernel
theorem dX12_told_89 : decode cX12_told 89 = .ok (.getfield 299, 3) := by decide +kernel
theorem dX12_told_92 : decode cX12_told 92 = .ok (.ireturn, 1) := by decide +kernel
theorem dX12_told_93 : decode cX12_told 93 = .ok (.aload_n 3, 1) := by decide +kernel
theorem dX12_told_94 : decode cX12_told 94 = .ok (.getfield 302, 3) := by decide +kernel
theorem dX12_told_97 : decode cX12_told 97 = .ok (.ireturn, 1) := by decide +kernel
theorem dX12_told_98 : decode cX12_told 98 = .ok (.aload_n 3, 1) := by decide +kernel
theorem dX12_told_99 : decode cX12_told 99 = .ok (.getfield 305, 3) := by decide +kernel
theorem dX12_told_102 : decode cX12_told 102 = .ok (.ireturn, 1) := by decide +kernel
theorem dX12_told_103 : decode cX12_told 103 = .ok (.aload_n 3, 1) := by decide +kernel
theorem dX12_told_104 : decode cX12_told 104 = .ok (.getfield 308, 3) := by decide +kernel
theorem dX12_told_107 : decode cX12_told 107 = .ok (.ireturn, 1) := by decide +kernel
theorem dX12_told_108 : decode cX12_told 108 = .ok (.aload_n 3, 1) := by decide +kernel
theorem dX12_told_109 : decode cX12_told 109 = .ok (.getfield 311, 3) := by decide +kernel
theorem dX12_told_112 : decode cX12_told 112 = .ok (.ireturn, 1) := by decide +kernel
theorem dX12_told_113 : decode cX12_told 113 = .ok (.aload_n 3, 1) := by decide +kernel
theorem dX12_told_114 : decode cX12_told 114 = .ok (.getfield 314, 3) := by decide +kernel
theorem dX12_told_117 : decode cX12_told 117 = .ok (.ireturn, 1) := by decide +kernel
theorem dX12_told_118 : decode cX12_told 118 = .ok (.aload_n 3, 1) := by decide +kernel
theorem dX12_told_119 : decode cX12_told 119 = .ok (.aload_n 0, 1) := by decide +kernel
theorem dX12_told_120 : decode cX12_told 120 = .ok (.getfield 10, 3) := by decide +kernel
theorem dX12_told_123 : decode cX12_told 123 = .ok (.getfield 55, 3) := by decide +kernel
theorem dX12_told_126 : decode cX12_told 126 = .ok (.invokevirtual 317, 3) := by decide +kernel
theorem dX12_told_129 : decode cX12_told 129 = .ok (.ireturn, 1) := by decide +kernel
theorem dX12_told_130 : decode cX12_told 130 = .ok (.aload_n 3, 1) := by decide +kernel
theorem dX12_told_131 : decode cX12_told 131 = .ok (.aload_n 0, 1) := by decide +kernel
theorem dX12_told_132 : decode cX12_told 132 = .ok (.getfield 10, 3) := by decide +kernel
theorem dX12_told_135 : decode cX12_told 135 = .ok (.getfield 55, 3) := by decide +kernel
theorem dX12_told_138 : decode cX12_told 138 = .ok (.invokevirtual 320, 3) := by decide +kernel
theorem dX12_told_141 : decode cX12_told 141 = .ok (.ireturn, 1) := by decide +kernel
theorem dX12_told_142 : decode cX12_told 142 = .ok (.aload_n 3, 1) := by decide +kernel
theorem dX12_told_143 : decode cX12_told 143 = .ok (.getfield 323, 3) := by decide +kernel
theorem dX12_told_146 : decode cX12_told 146 = .ok (.ireturn, 1) := by decide +kernel
theorem dX12_told_147 : decode cX12_told 147 = .ok (.new 292, 3) := by decide +kernel
theorem dX12_told_150 : decode cX12_told 150 = .ok (.dup, 1) := by decide +kernel
theorem dX12_told_151 : decode cX12_told 151 = .ok (.ldc_w 326, 3) := by decide +kernel
theorem dX12_told_154 : decode cX12_told 154 = .ok (.invokespecial 296, 3) := by decide +kernel
theorem dX12_told_157 : decode cX12_told 157 = .ok (.athrow, 1) := by decide +kernel
theorem dL_told_0 : decode cL_told 0 = .ok (.aload_n 3, 1) := by decide +kernel
theorem dL_told_1 : decode cL_told 1 = .ok (.iconst 0, 1) := by decide +kernel
theorem dL_told_2 : decode cL_told 2 = .ok (.aload_n 0, 1) := by decide +kernel
theorem dL_told_3 : decode cL_told 3 = .ok (.iload_n 1, 1) := by decide +kernel
theorem dL_told_4 : decode cL_told 4 = .ok (.iload_n 2, 1) := by decide +kernel
theorem dL_told_5 : decode cL_told 5 = .ok (.invokevirtual 7, 3) := by decide +kernel
theorem dL_told_8 : decode cL_told 8 = .ok (.i2l, 1) := by decide +kernel
theorem dL_told_9 : decode cL_told 9 = .ok (.lastore, 1) := by decide +kernel
theorem dL_told_10 : decode cL_told 10 = .ok (.goto 7, 3) := by decide +kernel
theorem dL_told_13 : decode cL_told 13 = .ok (.astore 4, 2) := by decide +kernel
theorem dL_told_15 : decode cL_told 15 = .ok (.iconst 1, 1) := by decide +kernel
theorem dL_told_16 : decode cL_told 16 = .ok (.ireturn, 1) := by decide +kernel
theorem dL_told_17 : decode cL_told 17 = .ok (.iconst 0, 1) := by decide +kernel
theorem dL_told_18 : decode cL_told 18 = .ok (.ireturn, 1) := by decide +kernel

/-! NoSuchElementException's own maker calls its superclass's by entry 13 of its file; the kit's rows know the makers that call by entry 7 alone. So: the words of this throw, with the first step of the chain by hand; the proof goes the way of the library's Stand.ctorThrowS and of the kit's vx_throwSW, which it uses step by step. -/
def ub_XN : String := "java/util/NoSuchElementException"
def ub_TL : List Cond := [.methodLink RX12 296 (Bundle.initS ub_XN), .instantiable ub_XN 6, .castable ub_XN ub_XN, .selects ub_XN Bundle.tFill0 Bundle.tFill0, .selects ub_XN Bundle.tFill Bundle.tFill, .lays ub_XN Bundle.tN "cause" "Ljava/lang/Throwable;", .lays ub_XN Bundle.tN "stackTrace" Bundle.steD, .lays ub_XN Bundle.tN "suppressedExceptions" Bundle.listD, .lays ub_XN Bundle.tN "detailMessage" "Ljava/lang/String;", .isRef (.static Bundle.tN "UNASSIGNED_STACK" Bundle.steD), .isRef (.static Bundle.tN "SUPPRESSED_SENTINEL" Bundle.listD), .fieldLink Bundle.tN 198 Bundle.tN "backtrace" "Ljava/lang/Object;", .lays Bundle.tN Bundle.tN "backtrace" "Ljava/lang/Object;", .lays ub_XN Bundle.tN "backtrace" "Ljava/lang/Object;"]
abbrev ub_rx : ByteArray := prog_39_method_4_code
def ub_PA : List Cond := Bundle.passSAtoms ub_XN "java/lang/RuntimeException" 13 ub_rx
def ub_AT : List Cond := Bundle.throwableAtoms ++ (Bundle.throwableSAtoms ++ (ub_PA ++ (Bundle.chainSAtoms "java/lang/RuntimeException" ["java/lang/Exception"] ++ ub_TL)))
def ub_ATn : List Cond := ub_AT.filter vx_no
set_option maxHeartbeats 4000000 in
set_option maxRecDepth 100000 in
theorem ub_ctorThrow {p : Program} {l : Launch} {e : Env} {R : Room} {s : State} {m : MethodId} {args : Array Value} {below : List Frame} {meth : Method} {c : Code} {W0 : State} {locs : List Loc} {cells slots : Nat} (X : Stand p l e R s m args below meth c W0 locs cells slots) (hexec : p.tables.exec = Jvm.exec) (htr : e.platform.stackTraces = false)
    (hown : s.vm.findClass RX12 = some m.cls) (h : ∀ a ∈ ub_AT, a.before args s = true)
    (hlocs : ∀ x ∈ locs, ∀ cell, s.heap[x.base]? = some cell → cell.vm.isStatics = false)
    {a : Addr} {cX : ClassId} {kX : Class} (hfoundX : s.vm.findClass ub_XN = some cX) (hkX : s.vm.classes[cX]? = some kX) (hcell : W0.heap[a]? = some (freshCell cX kX)) (hnew : s.heap.size ≤ a)
    {msg : Value} (hmsg : msg.isRef = true)
    {g : JFrame} (hg : g.method = m) (hsize : g.locals.size = c.maxLocals) (hlocked : g.locked = none) (hentered : g.entered = []) {rest : List Value} (hstack : g.stack = msg :: .ref a :: .ref a :: rest)
    (hd6 : decode c.code g.pc = .ok (.invokespecial 296, 3)) (hd9 : decode c.code (g.pc + 3) = .ok (.athrow, 1)) (hout : ∀ x ∈ c.exceptionTable.toList, covers x (g.pc + 3) = false)
    (hRframes : 5 < R.frames) (hRlocals : 2 * g.monitorRoom + ((Value.ref a :: rest).map fun v => v.category).sum + (13 * (2 + 1) + 42) ≤ R.locals) (hlocks : meth.locks = false) :
    ∃ U : State, Steps p.tables e below (W0.setTop g) U ∧ U.status = .running ∧ Ended U below (.threw a) ∧ s.WarmedH U.vm ∧ s.sameButNew ({ U with vm := s.vm } : State) locs cells slots ∧
      ∃ ce, U.heap[a]? = some ce ∧ s.vm.findClass ub_XN = some ce.cls ∧ ce.vm = .none := by
  have h0 : ∀ x ∈ Bundle.throwableAtoms, x.before args s = true := fun x hx => h x (List.mem_append_left _ hx)
  have h1 : ∀ x ∈ Bundle.throwableSAtoms, x.before args s = true := fun x hx => h x (List.mem_append_right _ (List.mem_append_left _ hx))
  have h2 : ∀ x ∈ ub_PA, x.before args s = true := fun x hx => h x (List.mem_append_right _ (List.mem_append_right _ (List.mem_append_left _ hx)))
  have h3 : ∀ x ∈ Bundle.chainSAtoms "java/lang/RuntimeException" ["java/lang/Exception"], x.before args s = true := fun x hx => h x (List.mem_append_right _ (List.mem_append_right _ (List.mem_append_right _ (List.mem_append_left _ hx))))
  have h4 : ∀ x ∈ ub_TL, x.before args s = true := fun x hx => h x (List.mem_append_right _ (List.mem_append_right _ (List.mem_append_right _ (List.mem_append_right _ hx))))
  have howns : e.platform.frameOwnsMonitors = true := by rw [X.admits.platform]
  have hfin : e.platform.finalization = false := by rw [X.admits.platform]
  have hpl : e.platform.magicAccessors = ({} : Platform).magicAccessors := by rw [X.admits.platform]
  obtain ⟨T, Z0, L, -, Y⟩ := ThrowableC.of_atoms (args := args) howns hfin hpl h0
  obtain ⟨Z, M, LZ, LM, hnZ⟩ := Init0T.ofS_atoms (args := args) hpl L Y h1
  have fX := Bundle.fit_spec (show Bundle.fit ub_XN = true by decide +kernel)
  have fY := Bundle.fit_spec (show Bundle.fit "java/lang/RuntimeException" = true by decide +kernel)
  obtain ⟨P1, L1, hP1m, hs1⟩ := PassC.ofS_atoms (args := args) (s := s) hpl (X := ub_XN) (Y := "java/lang/RuntimeException") (index := 13) (bytes := ub_rx) fX.1 fY.2 (by decide +kernel) (by decide +kernel) (by decide +kernel) (by decide +kernel) h2
  obtain ⟨P2, Ps, hlen, L2, hL, hm2, hsup, hpass⟩ := Bundle.chainS (args := args) hpl hnZ ["java/lang/Exception"] "java/lang/RuntimeException" (by decide +kernel) (by decide +kernel) h3
  have hlink1 := Option.some.inj (hs1.symm.trans hm2)
  have hfound : s.vm.findClass ub_XN = some P1.m.cls := findClass_of_methodNamed hP1m
  cases Option.some.inj (hfoundX.symm.trans hfound)
  obtain ⟨c1, kX', hc1, hk, hord, -, -, hn6⟩ := Cond.instantiable_spec (h4 (.instantiable ub_XN 6) (List.mem_of_getElem? (i := 1) rfl))
  cases Option.some.inj (hc1.symm.trans hfound)
  cases Option.some.inj (hkX.symm.trans hk)
  have hsel0 : selectMethod e.platform s.vm P1.m.cls T.fill0 = .method T.fill0 := by
    obtain ⟨c2, r2, m2, q1, q2, q3, q4, -⟩ := Cond.selects_spec (h4 (.selects ub_XN Bundle.tFill0 Bundle.tFill0) (List.mem_of_getElem? (i := 3) rfl))
    cases Option.some.inj (q1.symm.trans hfound)
    cases Option.some.inj (q2.symm.trans (State.methodFound?_of_named Y.fill0 (by decide)))
    cases Option.some.inj (q3.symm.trans Y.fill0)
    rw [Launch.admits_selectMethod X.admits]; exact q4
  have hselF : selectMethod e.platform s.vm P1.m.cls T.fill = .method T.fill := by
    obtain ⟨c2, r2, m2, q1, q2, q3, q4, -⟩ := Cond.selects_spec (h4 (.selects ub_XN Bundle.tFill Bundle.tFill) (List.mem_of_getElem? (i := 4) rfl))
    cases Option.some.inj (q1.symm.trans hfound)
    cases Option.some.inj (q2.symm.trans (State.methodFound?_of_named Y.fill (by decide)))
    cases Option.some.inj (q3.symm.trans Y.fill)
    rw [Launch.admits_selectMethod X.admits]; exact q4
  obtain ⟨cellS0, hcS0, hiss⟩ := Y.statics
  obtain ⟨u0, hu0⟩ := Cond.staticRefV Y.unassigned L.unassignedStatic L.statics hcS0 hiss (h4 (.isRef (.static Bundle.tN "UNASSIGNED_STACK" Bundle.steD)) (List.mem_of_getElem? (i := 9) rfl))
  obtain ⟨sen, hsen⟩ := Cond.staticRefV Y.sentinel L.sentinelStatic L.statics hcS0 hiss (h4 (.isRef (.static Bundle.tN "SUPPRESSED_SENTINEL" Bundle.listD)) (List.mem_of_getElem? (i := 10) rfl))
  obtain ⟨ci198, i198, fB, hk198, hg198, ha198, hsB, -, hnB, htB, hffB⟩ := Cond.ownField (t := .object "java/lang/Object") Y.found L.cls (by decide +kernel) (h4 (.fieldLink Bundle.tN 198 Bundle.tN "backtrace" "Ljava/lang/Object;") (List.mem_of_getElem? (i := 11) rfl)) (h4 (.lays Bundle.tN Bundle.tN "backtrace" "Ljava/lang/Object;") (List.mem_of_getElem? (i := 12) rfl)) e.platform hpl
  obtain ⟨cellS, hcS', heS, -, hkeep⟩ := X.same.2.2.2.2.2 T.aS cellS0 hcS0
  have hcellS : W0.heap[T.aS]? = some cellS := hcS'
  have hout' : ∀ i, (⟨T.aS, i⟩ : Loc) ∉ locs := fun i hmem => by
    have hz := hlocs _ hmem cellS0 hcS0
    rw [hiss] at hz
    cases hz
  have hknownS : cellS.vm ≠ .unknown := by
    rw [heS]
    intro hu
    rw [show cellS0.vm = .unknown from hu] at hiss
    cases hiss
  have hneS : T.aS ≠ a := Nat.ne_of_lt (Nat.lt_of_lt_of_le (Array.getElem?_eq_some_iff.mp hcS0).1 hnew)
  obtain ⟨iM, hffM⟩ := Y.msg
  obtain ⟨tyC, dC, hdC, hdnC⟩ := Cond.laysAt hfound hk Y.cause (h4 (.lays ub_XN Bundle.tN "cause" "Ljava/lang/Throwable;") (List.mem_of_getElem? (i := 5) rfl))
  obtain ⟨tyS, dS, hdS, hdnS⟩ := Cond.laysAt hfound hk Y.stack (h4 (.lays ub_XN Bundle.tN "stackTrace" Bundle.steD) (List.mem_of_getElem? (i := 6) rfl))
  obtain ⟨tyP, dP, hdP, hdnP⟩ := Cond.laysAt hfound hk Y.supp (h4 (.lays ub_XN Bundle.tN "suppressedExceptions" Bundle.listD) (List.mem_of_getElem? (i := 7) rfl))
  obtain ⟨tyM, dM, hdM, hdnM⟩ := Cond.laysAt hfound hk hffM (h4 (.lays ub_XN Bundle.tN "detailMessage" "Ljava/lang/String;") (List.mem_of_getElem? (i := 8) rfl))
  obtain ⟨tyB, dB, hdB, hdnB⟩ := Cond.laysAt hfound hk hffB (h4 (.lays ub_XN Bundle.tN "backtrace" "Ljava/lang/Object;") (List.mem_of_getElem? (i := 13) rfl))
  have bC := Cond.laysApart hdB hdC hdnB hdnC (by rw [hnB, Y.causeName]; decide)
  have bS := Cond.laysApart hdB hdS hdnB hdnS (by rw [hnB, Y.stackName]; decide)
  have bP := Cond.laysApart hdB hdP hdnB hdnP (by rw [hnB, Y.suppName]; decide)
  have hskip : SkipFacts T e.platform s (fun u => u) u0 ((preparedCellV T.toThrowableT (freshCell P1.m.cls kX) a u0 sen).withEntry W0.cur) :=
    ⟨{ ci198 := ci198, i198 := i198, fBack := fB }, ⟨hk198, hg198, ha198, hsB⟩, by
      have hz := fresh_default (c := P1.m.cls) tyB
      rw [htB] at hz
      simpa [preparedCellV, Cell.setSlot, Cell.withEntry, Array.getElem?_setIfInBounds, bC, bS, bP, bC.symm, bS.symm, bP.symm, defaultValue] using hz, fun _ _ => rfl⟩
  obtain ⟨tm, methC, cdC, kC, vm₁, hnC, -, -, -, -, -, -, -, hW₁, st1⟩ := Steps.initColdS (tb := p.tables) (e := e) (below := below) (s := s) (U := W0) X.here hexec X.warmed hpl hown (t := Bundle.initS ub_XN) rfl rfl fX.2
    (h4 (.methodLink RX12 296 (Bundle.initS ub_XN)) (List.mem_of_getElem? (i := 0) rfl)) (h2 (.instanceMethod (Bundle.initS ub_XN)) (List.mem_of_getElem? (i := 0) rfl)) (bytes := ub_rx) (maxL := 2) (h2 (.code (Bundle.initS ub_XN) ub_rx 2 none) (List.mem_of_getElem? (i := 1) rfl))
    (f := g) hg (a := a) (msg := msg) (rest := .ref a :: rest) hstack hd6
  cases Option.some.inj (hnC.symm.trans hP1m)
  have X₁ := X.noted hW₁
  obtain ⟨vm₂, X₂, st2⟩ := X₁.ctorMessageOffV hexec (g := { g with stack := .ref a :: rest }) hg hsize T L Z LZ M LM (P1 :: P2 :: Ps)
    (fun P hP => by
      rcases List.mem_cons.mp hP with rfl | hP
      · exact L1
      · rcases List.mem_cons.mp hP with rfl | hP
        · exact L2
        · exact hL P hP) ⟨hlink1, hsup, hpass⟩ (u0 := u0) (sen := sen) (self := a) hmsg (cell := freshCell P1.m.cls kX) (cellS := cellS)
    hcell (fun _ => by simp) (by simp) rfl rfl hsel0 hselF hcellS hneS hknownS (by rw [hkeep _ (hout' _)]; exact hu0) (by rw [hkeep _ (hout' _)]; exact hsen)
    (Takes.of_laid hk hord tyC (by rw [Y.causeType]; rfl)) (Takes.of_laid hk hord tyS (by rw [Y.stackType]; exact fits_refV_array _ u0)) (Takes.of_laid hk hord tyP (by rw [Y.suppType]; exact fits_refV_object _ sen))
    (Takes.of_laid hk hord tyM (by rw [Y.msgType]; exact fits_refV_object _ ⟨msg, hmsg⟩)) Y.objLocals hskip htr [] hd6
    (by simp only [List.length_cons, hlen, List.length_nil]; omega) (by simp only [List.length_cons, hlen, List.length_nil]; exact hRlocals)
  obtain ⟨hwalk, hrun, hended, hWU, hsame⟩ := X₂.athrowLeaves hexec (g := { g with stack := .ref a :: rest, pc := g.pc + 3 }) hg hlocked hentered hout (a := a) (rest := rest) rfl hd9
  have hlt : a < ((W0.setVm vm₁).setVm vm₂).heap.size := (Array.getElem?_eq_some_iff.mp hcell).1
  have hU := heapAt_setCell_self (s := (W0.setVm vm₁).setVm vm₂) (plainBareV T.toThrowableT (freshCell P1.m.cls kX) a u0 sen msg) hlt
  refine ⟨_, st1 _ (fun acts => ?_), hrun, hended, hWU, hsame.weaken (fun y hy hlt' => ?_) (Nat.le_refl _) (Nat.le_refl _), _, hU, hfound, rfl⟩
  · rw [doInvoke_state]
    exact st2 _ hwalk
  · rcases List.mem_append.mp hy with q1 | q1
    · exact q1
    · exfalso
      have hb9 : y.base = a := by
        simp only [List.mem_cons, List.not_mem_nil, or_false] at q1
        rcases q1 with rfl | rfl | rfl | rfl | rfl <;> rfl
      rw [hb9] at hlt'
      exact Nat.not_lt.mpr hnew hlt'
set_option maxHeartbeats 4000000 in
set_option maxRecDepth 100000 in
/-- new NoSuchElementException("no such race"), thrown -/
theorem ub_throw {p : Program} {l : Launch} {e : Env} {R : Room} {s : State} {m : MethodId} {args : Array Value} {below : List Frame} {meth : Method} {c : Code} {H : Heap} {locs : List Loc} {cells slots : Nat} {free : Addr → Prop} {ls : Array Slot} {rest : List Value} {Qc : Array Value → State → Outcome → State → Prop} {XC : String → State → State → Prop} {cc : ByteArray} {pc : Nat} (hexec : p.tables.exec = Jvm.exec) (hb : c.code = cc) (hl : l.stackTraces = false) {ik is mc ms sa : Nat} {text : String} {A : Nat → Prop}
    (hown : s.vm.findClass RX12 = some m.cls)
    (hk : (Cond.classLink RX12 ik ub_XN).before args s = true) (hini : (Cond.initialized ub_XN).before args s = true) (hstr : vk_R RX12 is text sa s) (hat : ∀ w ∈ ub_ATn, w.before args s = true)
    (hgood : ∀ w ∈ Cond.classLink RX12 ik ub_XN :: Cond.initialized ub_XN :: ub_ATn, vx_ot w = true)
    (hU : vx_Zq Bundle.tN "UNASSIGNED_STACK" Bundle.steD A s s.heap) (hN : vx_Zq Bundle.tN "SUPPRESSED_SENTINEL" Bundle.listD A s s.heap) (hS : va_S A s.heap H locs) (hsize : ls.size = c.maxLocals)
    (d0 : decode cc pc = .ok (.new ik, 3)) (d3 : decode cc (pc + 3) = .ok (.dup, 1)) (d4 : decode cc (pc + 4) = .ok (.ldc_w is, 3)) (d7 : decode cc (pc + 7) = .ok (.invokespecial 296, 3)) (d10 : decode cc (pc + 10) = .ok (.athrow, 1))
    (hout : ∀ x ∈ c.exceptionTable.toList, covers x (pc + 10) = false)
    (hRframes : 5 < R.frames) (hRlocals : (rest.map fun v => v.category).sum + (13 * (2 + 1) + 43) ≤ R.locals) (hRcells : cells + 1 ≤ R.cells) (hRslots : slots + 6 ≤ R.slots) (hlocks : meth.locks = false)
    (hx : ∀ t : State, s.vm.Alike t.vm → H.size ≤ t.heap.size → (∀ q : Nat, q < H.size → t.heap[q]? = H[q]?) → XC ub_XN s t)
    (hf : ∀ z ∈ locs, free z.base) (hc : cells + 1 ≤ mc) (hs : slots + 6 ≤ ms) :
    W p l e R s m args below meth c H locs cells slots (vx_MQ below Qc XC args s mc ms free) (F0 m pc ls rest) := by
  intro T hT X
  have htr : e.platform.stackTraces = false := (show e.platform.stackTraces = l.stackTraces by rw [X.admits.platform]).trans hl
  have Y := vx_rebase X (R' := { frames := R.frames, locals := R.locals, cells := 1, slots := 6 }) (Nat.le_refl _) (Nat.le_refl _) hRcells hRslots
  obtain ⟨s', hA⟩ : ∃ z, z = (T.setVm s.vm).setFrames (.invoking m args :: below) := ⟨_, rfl⟩
  rw [← hA] at Y
  have hvm : s'.vm = s.vm := by rw [hA]; rfl
  have hhp : s'.heap = H := by rw [hA]; exact hT
  have hW0 : s.WarmedH s'.vm := by rw [hvm]; exact State.WarmedH.refl s
  have hat' : ∀ w ∈ ub_ATn, w.before args s' = true := fun w hw => vx_ot_at hW0 hvm.symm (hgood w (List.mem_cons_of_mem _ (List.mem_cons_of_mem _ hw))) (hat w hw)
  have hk' : (Cond.classLink RX12 ik ub_XN).before args s' = true := vx_ot_at hW0 hvm.symm (hgood _ List.mem_cons_self) hk
  have hini' : (Cond.initialized ub_XN).before args s' = true := vx_ot_at hW0 hvm.symm (hgood _ (List.mem_cons_of_mem _ List.mem_cons_self)) hini
  have hU' : vx_Zq Bundle.tN "UNASSIGNED_STACK" Bundle.steD A s' s'.heap := by rw [hhp]; exact vx_Zq.moved hW0.alike (hU.kept hS.2.1)
  have hN' : vx_Zq Bundle.tN "SUPPRESSED_SENTINEL" Bundle.listD A s' s'.heap := by rw [hhp]; exact vx_Zq.moved hW0.alike (hN.kept hS.2.1)
  have h : ∀ w ∈ ub_AT, w.before args s' = true := vx_own hat' (vx_isRefq hU'.1) (vx_isRefq hN'.1) hU'.2.word hN'.2.word
  have hown' : s'.vm.findClass RX12 = some m.cls := by rw [hvm]; exact hown
  have hins : (Cond.instantiable ub_XN 6).before args s' = true := h _ (List.mem_append_right _ (List.mem_append_right _ (List.mem_append_right _ (List.mem_append_right _ (List.mem_of_getElem? (i := 1) rfl)))))
  obtain ⟨vm₁, cX, kX, hfX, hkX, -, -, X₁, st1⟩ := Y.newCold hexec (own := RX12) (C := ub_XN) (index := ik) (n := 6) hown' hk' hins hini'
    (g := F0 m pc ls rest) rfl (by rw [hb]; exact d0) (Nat.le_refl _) (Nat.le_refl _)
  generalize hT1 : (T.setVm vm₁).pushCell { cls := cX, slots := kX.instanceTypes.map defaultValue, vm := .none } = T1 at X₁ st1
  have hcat : (Value.ref T.heap.size).category = 1 := rfl
  have hcellA : T1.heap[T.heap.size]? = some (freshCell cX kX) := by rw [← hT1]; exact State.heap_pushCell_size _ _
  have d3' : decode c.code (pc + 3) = .ok (.dup, 1) := by rw [hb]; exact d3
  have d4' : decode c.code (pc + 4) = .ok (.ldc_w is, 3) := by rw [hb]; exact d4
  have hstr' : vk_R RX12 is text sa s' := vk_R.warm hW0 hstr
  obtain ⟨U, hsteps, hrun, hend, hW, hsame, ce, hce, hOc, hOv⟩ := ub_ctorThrow X₁ hexec htr hown' h (fun x hx => nomatch hx) hfX hkX hcellA (by rw [hhp, hT]; exact Nat.le_refl _) (msg := .ref sa) rfl
    (g := { method := m, pc := pc + 7, locals := ls, stack := .ref sa :: .ref T.heap.size :: .ref T.heap.size :: rest, locked := none }) rfl hsize rfl rfl (rest := rest) rfl
    (by rw [hb]; exact d7) (by rw [hb]; exact d10) hout hRframes (by simp only [List.map_cons, List.sum_cons, hcat]; omega) hlocks
  obtain ⟨f1, f2⟩ := vx_frame hsame
  rw [hhp] at f1 f2
  have hWs : s.WarmedH U.vm := State.WarmedH.trans hW0 hW
  have hcl : s.vm.findClass ub_XN = some ce.cls := by
    rw [hvm] at hOc
    exact hOc
  have hall : s.sameButNew ({ U with vm := s.vm } : State) locs mc ms := by
    subst hA
    obtain ⟨e1, e2⟩ := hsame
    rw [State.setFrames_setFrames] at e1
    have h2 : (T.setVm s.vm).sameButNew ({ U with vm := s.vm } : State) [] (0 + 1) (0 + 6) := ⟨e1, e2⟩
    have h3 := X.same.trans h2
    rw [List.append_nil] at h3
    exact h3.mono hc hs
  refine ⟨U, ?_, .threw T.heap.size, hrun, hend, Or.inr ⟨T.heap.size, rfl, ub_XN, ce, locs, hx U hWs.alike f1 (fun q hq => f2 q hq (fun z hz => nomatch hz)), hce, hOv, hcl, hWs, hall, hf⟩⟩
  refine st1 _ ?_
  show Steps p.tables e below (T1.setTop { method := m, pc := pc + 3, locals := ls, stack := .ref T.heap.size :: rest, locked := none }) _
  jvm_step X₁.here [X₁.here.top, hexec, d3', Value.category]
  exact X₁.ldcStringW hexec (own := RX12) (text := text) (index := is) (a := sa) hown' hstr'.1 hstr'.2
    (g := { method := m, pc := pc + 4, locals := ls, stack := .ref T.heap.size :: .ref T.heap.size :: rest, locked := none }) rfl d4' _ hsteps
abbrev wsXW0 : List Cond := ub_ATn.filter goodWord
theorem gw_XW : List.all wsXW0 goodWord = true := List.all_eq_true.mpr (fun _ h => (List.mem_filter.mp h).2)
def ub_EX (A : Nat → Prop) (U : State) (H : Heap) : Prop := vx_Zq Bundle.tN "UNASSIGNED_STACK" Bundle.steD A U H ∧ vx_Zq Bundle.tN "SUPPRESSED_SENTINEL" Bundle.listD A U H ∧ ((∃ q : Nat, vk_R RX12 294 "no such race" q U) ∧ (∃ q : Nat, vk_R RX12 326 "no such thing of a race" q U)) ∧ va_Nw (.castable "java/util/NoSuchElementException" "java/util/NoSuchElementException") U ∧ va_Nw (.declares ⟨"java/lang/RuntimeException", "<init>", "(Ljava/lang/String;)V"⟩) U ∧ va_Nw (.declares ⟨"java/lang/Exception", "<init>", "(Ljava/lang/String;)V"⟩) U ∧ va_Nw (.declares ⟨"java/lang/Throwable", "<init>", "(Ljava/lang/String;)V"⟩) U
theorem ub_EX_c {A : Nat → Prop} {U : State} {a : Array Value} {g : JFrame} {mk : MethodId} (h : ub_EX A U U.heap) : ub_EX A (U.calling g mk a) (U.calling g mk a).heap := by
  obtain ⟨h1, h2, ⟨⟨q, h3⟩, q', h3'⟩, h4, h5, h6, h7⟩ := h
  exact ⟨vx_Zq.moved (U := U.calling g mk a) (Vm.Alike.refl U.vm) h1, vx_Zq.moved (U := U.calling g mk a) (Vm.Alike.refl U.vm) h2, ⟨⟨q, vk_R.same rfl h3⟩, ⟨q', vk_R.same rfl h3'⟩⟩, va_Nw.same rfl rfl h4, va_Nw.same rfl rfl h5, va_Nw.same rfl rfl h6, va_Nw.same rfl rfl h7⟩
theorem ub_EX_w {s U : State} {H : Heap} {locs : List Loc} {A A1 : Nat → Prop} (hU : U.heap = H) (hW : s.WarmedH U.vm) (hS : va_S A s.heap H locs) (hF : ∀ q, A1 q → A q) (h : ub_EX A s s.heap) : ub_EX A1 U U.heap := by
  obtain ⟨h1, h2, ⟨⟨q, h3⟩, q', h3'⟩, h4, h5, h6, h7⟩ := h
  rw [hU]
  exact ⟨vx_Zq.moved hW.alike ((h1.kept hS.2.1).narrow hF), vx_Zq.moved hW.alike ((h2.kept hS.2.1).narrow hF), ⟨⟨q, vk_R.warm hW h3⟩, ⟨q', vk_R.warm hW h3'⟩⟩, va_Nw.warmC hW h4, va_Nw.warmD hW h5, va_Nw.warmD hW h6, va_Nw.warmD hW h7⟩
theorem ub_EX_n {s : State} {A A1 : Nat → Prop} (hF : ∀ q, A1 q → A q) (h : ub_EX A s s.heap) : ub_EX A1 s s.heap :=
  ⟨h.1.narrow hF, h.2.1.narrow hF, h.2.2⟩
def v_u_told : List Cond := .code yX12_told cX12_told 4 (some .int) :: (vA ++ wsXW0)
theorem told_in1 : ∀ w ∈ (.code yX12_told cX12_told 4 (some .int) :: vA), w ∈ v_u_told := fun w h => (List.mem_cons.mp h).elim (fun e => by rw [e]; exact List.mem_cons_self) (fun h2 => List.mem_cons_of_mem _ (List.mem_append_left _ h2))
theorem told_in2 : ∀ w ∈ wsXW0, w ∈ v_u_told := fun w h => List.mem_cons_of_mem _ (List.mem_append_right _ h)
abbrev XCt : String → State → State → Prop := vx_X (S := Unit) (fun _ => True) (fun E _ _ => E = "java/util/NoSuchElementException") (fun _ => False)
set_option maxHeartbeats 4000000 in
set_option maxRecDepth 100000 in
theorem q_u_told (l : Launch) (hfl : l.stackTraces = false) (dC : Nat → ClassId) (dI : Nat → Nat → Nat) (cT : Nat → ClassId) (cf : Nat → Nat) (hC : CF cf) (ad : Nat → Nat) (E : Nat → va_E) (sz : Nat) (a0 : Int32) (a1 : Int32) (hI0 : IXL cT (shC cf) (spC cf) (LC cf) ad E)  : vx_Met l yX12_told v_u_told ({ frames := 8, cells := 1, slots := 6, locals := 320 }) (va_Pc [.ref (ad 0), .int a0, .int a1] (fun U => (HWL dC dI (TYC cT) cf ad E sz) U ∧ ub_EX (fun _ => False) U U.heap)) (va_Qi (S := Unit) (fun _ _ => True) (fun _ _ => True) (fun _ => False)) XCt 1 6 (fun _ => False) := by
  obtain ⟨⟨hc0, hc1, hc2, hc3, hc4, hc5⟩, hcr⟩ := id hC
  refine vx_ofW (cc := cX12_told) (maxL := 4) (ret := (some .int)) (by decide) rfl ?_
  intro p e s m args below meth c s₁ B hml hexn hv
  obtain ⟨hargs, ⟨hsz, hP, hK, hD0, hEV⟩, hEX⟩ := hv
  subst hsz
  have hx := B.exec
  have hb := B.bytes
  have hr := B.returns
  have htx := atoms_spec (ws := v_u_told) B.pre
  have hts := fun w (h : w ∈ (.code yX12_told cX12_told 4 (some .int) :: vA)) => htx w (told_in1 w h)
  have hown : s.vm.findClass RX12 = some m.cls := findClass_of_methodNamed B.named
  have hlocks := B.notSynchronized
  have hinX0 : ∀ w ∈ u_ws RX0 TX0 11, w ∈ (.code yX12_told cX12_told 4 (some .int) :: vA) := fun w h => vA_in _ w (in_X0 w h)
  have hinX12 : ∀ w ∈ u_ws RX12 TX12 6, w ∈ (.code yX12_told cX12_told 4 (some .int) :: vA) := fun w h => vA_in _ w (in_X12 w h)
  have hinX5 : ∀ w ∈ u_ws RX5 TX5 12, w ∈ (.code yX12_told cX12_told 4 (some .int) :: vA) := fun w h => vA_in _ w (in_X5 w h)
  have hS : va_S (fun _ : Nat => False) s.heap s.heap [] := va_S.rf
  have hD := hD0
  have hI := hI0
  have hKp : Kp (wl [] []) E E := Kp.rf
  have hl := lv_entry ([.ref (ad 0), .int a0, .int a1]) (n := 4) (Nat.le_of_ble_eq_true rfl)
  obtain ⟨Q, hQ⟩ : ∃ Q, Q = vx_MQ below (va_Qi (S := Unit) (fun r _ => True) (fun _ _ => True) (fun _ => False)) XCt args s 1 6 (fun _ => False) := ⟨_, rfl⟩
  rw [← hQ, show entryFrame m args 4 = _ from (congrArg (fun z => entryFrame m z 4) hargs).trans (lg_entry_eq _ _ _)]
  generalize (lg_sl ([.ref (ad 0), .int a0, .int a1]) ++ List.replicate (4 - (lg_sl ([.ref (ad 0), .int a0, .int a1])).length) Slot.unset).toArray = ls at hl ⊢
  have hl : lv_has ls 4 [(0, .ref (ad 0)), (1, .int a0), (2, .int a1)] := hl
  refine lv_aload_n hx hb dX12_told_0 rfl (lv_at hl 0 rfl) ?_
  refine th_getL (ci := 13) (C := RX12) (T := TX12) (N := 6) (v := .ref (ad 1)) hx hb hts hinX12 hown hK hP hI 0 (mF 0 rfl) rfl rfl 0 (Nat.le_of_ble_eq_true rfl) (hts _ (vA_in _ _ (in_10 _ (List.mem_of_getElem? (i := 17) rfl)))) (fun _ h9 => h9) (hI.fr 0 (mF 0 rfl) rfl (Nat.le_of_ble_eq_true rfl) 1 rfl) dX12_told_1 ?_
  refine lv_iload_n hx hb dX12_told_4 rfl (lv_at hl 1 rfl) ?_
  refine th_riL (va_runV (As := [.int a0]) (rest := []) ⟨hx, hb, hml, hown, hts⟩ (q_isRaceC l dC dI cT cf hC ad E s.heap.size a0 hI) (cwV 1 hts (gi_V (in_18 _ (List.mem_of_getElem? (i := 0) rfl)) (in_6 _ (List.mem_of_getElem? (i := 7) rfl)) (in_6 _ (List.mem_of_getElem? (i := 8) rfl)) (in_5 _ (List.mem_of_getElem? (i := 6) rfl)) (in_6 _ (List.mem_of_getElem? (i := 9) rfl))) rfl rfl rfl (by decide +kernel) ⟨Nat.le_of_ble_eq_true rfl, Nat.le_of_ble_eq_true rfl⟩) ⟨HWL_bl, va_recv hK hP (ci := 1) (q0 := posL 1 (LC cf)) rfl (hI.ob 1 (mF 1 rfl) rfl), (HWL_wiR hP hK (WL_D hD) hS hEV)⟩ rfl rfl hl.1 rfl (lv_room (Nat.le_of_ble_eq_true rfl)) dX12_told_5 ⟨Nat.le_of_ble_eq_true rfl, Nat.le_of_ble_eq_true rfl⟩) hS hP (fun r1 H locs hw hP hS => ?_)
  rcases hw with hw | hw
  · -- isRaceC, case 0
    obtain ⟨rfl, f2, f3⟩ := hw
    refine lv_if_ne (tgt := 22) hx hb dX12_told_8 (by decide) (fun c4 => ?_) (fun c4 => ?_)
    · --8 taken
      refine lv_aload_n hx hb dX12_told_22 rfl (lv_at hl 0 rfl) ?_
      refine th_getL (ci := 13) (C := RX12) (T := TX12) (N := 6) (v := .ref (ad 1)) hx hb hts hinX12 hown hK hP hI 0 (mF 0 rfl) rfl rfl 0 (Nat.le_of_ble_eq_true rfl) (hts _ (vA_in _ _ (in_10 _ (List.mem_of_getElem? (i := 17) rfl)))) (fun _ h9 => h9) (hI.fr 0 (mF 0 rfl) rfl (Nat.le_of_ble_eq_true rfl) 1 rfl) dX12_told_23 ?_
      refine th_getL (ci := 1) (C := RX0) (T := TX0) (N := 11) (v := .ref (ad 9)) hx hb hts hinX0 hown hK hP hI 1 (mF 1 rfl) rfl rfl 5 (Nat.le_of_ble_eq_true rfl) (hts _ (vA_in _ _ (in_14 _ (List.mem_of_getElem? (i := 7) rfl)))) (fun _ h9 => h9) (hI.fr 1 (mF 1 rfl) rfl (Nat.le_of_ble_eq_true rfl) 9 rfl) dX12_told_26 ?_
      refine lv_iload_n hx hb dX12_told_29 rfl (lv_at hl 1 rfl) ?_
      refine th_rrL (va_runV (As := [.int a0]) (rest := []) ⟨hx, hb, hml, hown, hts⟩ (q_get2 l dC dI cT cf hC ad E H.size a0 hI (by omega)) (cwV 1 hts (gi_V (in_14 _ (List.mem_of_getElem? (i := 24) rfl)) (in_4 _ (List.mem_of_getElem? (i := 38) rfl)) (in_4 _ (List.mem_of_getElem? (i := 39) rfl)) (in_3 _ (List.mem_of_getElem? (i := 18) rfl)) (in_3 _ (List.mem_of_getElem? (i := 39) rfl))) rfl rfl rfl (by decide +kernel) ⟨Nat.le_of_ble_eq_true rfl, Nat.le_of_ble_eq_true rfl⟩) ⟨HWL_bl, va_recv hK hP (ci := 0) (q0 := posL 9 (LC cf)) rfl (hI.ob 9 (mF 9 rfl) rfl), (HWL_wiR hP hK (WL_D hD) hS hEV)⟩ rfl rfl hl.1 rfl (lv_room (Nat.le_of_ble_eq_true rfl)) dX12_told_30 ⟨Nat.le_of_ble_eq_true rfl, Nat.le_of_ble_eq_true rfl⟩) hS hP (fun r5 H locs hw hP hS => ?_)
      obtain rfl := hw
      have lv6 : a0.toNatClampNeg < cf 2 := by rw [tn_]; omega
      refine va_castS (cC := dC 6) hx hb hown (hts _ (vA_in _ _ (in_17 _ (List.mem_of_getElem? (i := 38) rfl)))) (hK.1 6 _ rfl).2 (va_recv hK hP (ci := 6) (q0 := posL (64 * (a0.toNatClampNeg + 1) + 6) (LC cf)) rfl (hI.ob (64 * (a0.toNatClampNeg + 1) + 6) (mP 6 a0.toNatClampNeg (by decide) lv6 (kl_le hC 2 (by decide))) (shC_p 6 a0.toNatClampNeg (by decide)))) dX12_told_33 ?_
      refine lv_astore_n (lv' := [(3, .ref (ad (64 * (a0.toNatClampNeg + 1) + 6))), (0, .ref (ad 0)), (1, .int a0), (2, .int a1)]) hx hb dX12_told_36 rfl hl (by decide) rfl (fun ls hl => ?_)
      refine lv_iload_n hx hb dX12_told_37 rfl (lv_at hl 3 rfl) ?_
      rcases (show (a1.toInt < 0 ∨ 8 < a1.toInt) ∨ a1.toInt = 0 ∨ a1.toInt = 1 ∨ a1.toInt = 2 ∨ a1.toInt = 3 ∨ a1.toInt = 4 ∨ a1.toInt = 5 ∨ a1.toInt = 6 ∨ a1.toInt = 7 ∨ a1.toInt = 8 by omega) with c7 | c7 | c7 | c7 | c7 | c7 | c7 | c7 | c7 | c7
      · --None
        refine lv_tableOut (tgt := 147) hx hb dX12_told_38 c7 (by decide) ?_
        rw [hQ]
        obtain ⟨hU9, hNn9, ⟨⟨sa1, hst1⟩, sa2, hst2⟩, hca, hd1, hd2, hd3⟩ := hEX
        exact ub_throw (text := "no such thing of a race") (ik := 292) (is := 326) (sa := sa2) (A := fun _ : Nat => False) hx hb hfl hown (hts _ (vA_in _ _ (in_23 _ (List.mem_of_getElem? (i := 27) rfl)))) (hts _ (vA_in _ _ (in_23 _ (List.mem_of_getElem? (i := 28) rfl)))) hst2 (vx_hat (B := [.castable "java/util/NoSuchElementException" "java/util/NoSuchElementException", .declares ⟨"java/lang/RuntimeException", "<init>", "(Ljava/lang/String;)V"⟩, .declares ⟨"java/lang/Exception", "<init>", "(Ljava/lang/String;)V"⟩, .declares ⟨"java/lang/Throwable", "<init>", "(Ljava/lang/String;)V"⟩]) (fun w h => htx w (told_in2 w h)) (by decide +kernel) (vx_c (va_Nw.use rfl hca) (vx_c (va_Nw.use rfl hd1) (vx_c (va_Nw.use rfl hd2) (vx_c (va_Nw.use rfl hd3) vx_n))))) (by decide +kernel) hU9 hNn9 hS (by rw [hml]; exact hl.1) dX12_told_147 dX12_told_150 dX12_told_151 dX12_told_154 dX12_told_157 (fun x hx9 => (hexn x hx9).elim) (Nat.le_of_ble_eq_true rfl) (Nat.le_of_ble_eq_true rfl) (Nat.le_of_ble_eq_true rfl) (Nat.le_of_ble_eq_true rfl) hlocks (fun t h1 h2 h3 => ⟨(), trivial, rfl, Nat.le_trans hS.1 h2, fun q q1 _ => by rw [h3 q (Nat.lt_of_lt_of_le q1 hS.1)]; exact hS.2.1 q q1 (fun hh => hh)⟩) hS.2.2 (Nat.le_refl _) (Nat.le_refl _)
      · --0
        refine lv_tableIn (off := 50) (tgt := 88) hx hb dX12_told_38 (by omega) (by omega) (by rw [c7]; rfl) (by decide) ?_
        refine lv_aload_n hx hb dX12_told_88 rfl (lv_at hl 0 rfl) ?_
        have i8 : 0 ≤ (xi (E (64 * (a0.toNatClampNeg + 1) + 6)) 1).toInt ∧ (xi (E (64 * (a0.toNatClampNeg + 1) + 6)) 1).toInt ≤ 400 := hI0.iv (64 * (a0.toNatClampNeg + 1) + 6) (mP 6 a0.toNatClampNeg (by decide) lv6 (kl_le hC 2 (by decide))) (shC_p 6 a0.toNatClampNeg (by decide)) (Nat.le_of_ble_eq_true rfl) (spC_p 6 a0.toNatClampNeg (by decide) 1)
        refine th_getL (ci := 6) (C := RX5) (T := TX5) (N := 12) (v := .int (xi (E (64 * (a0.toNatClampNeg + 1) + 6)) 1)) hx hb hts hinX5 hown hK hP hI (64 * (a0.toNatClampNeg + 1) + 6) (mP 6 a0.toNatClampNeg (by decide) lv6 (kl_le hC 2 (by decide))) (shC_p 6 a0.toNatClampNeg (by decide)) rfl 1 (Nat.le_of_ble_eq_true rfl) (hts _ (vA_in _ _ (in_23 _ (List.mem_of_getElem? (i := 29) rfl)))) (fun _ h9 => h9) (th_v0L hKp hI0 (64 * (a0.toNatClampNeg + 1) + 6) (mP 6 a0.toNatClampNeg (by decide) lv6 (kl_le hC 2 (by decide))) (shC_p 6 a0.toNatClampNeg (by decide)) (Nat.le_of_ble_eq_true rfl) (spC_p 6 a0.toNatClampNeg (by decide) 1) (wl_p rfl rfl (by omega))) dX12_told_89 ?_
        rw [hQ]
        refine W.widen (k := 1) (n := 6) (by omega) (by omega) ?_
        refine vx_ret ?_
        exact W.iret (v := (xi (E (64 * (a0.toNatClampNeg + 1) + 6)) 1)) hx hb hr (fun t ht hW => ⟨⟨(xi (E (64 * (a0.toNatClampNeg + 1) + 6)) 1), (), rfl, trivial, trivial⟩, hS.F ht⟩) hS.2.2 dX12_told_92
      · --1
        refine lv_tableIn (off := 55) (tgt := 93) hx hb dX12_told_38 (by omega) (by omega) (by rw [c7]; rfl) (by decide) ?_
        refine lv_aload_n hx hb dX12_told_93 rfl (lv_at hl 0 rfl) ?_
        have i9 : 0 ≤ (xi (E (64 * (a0.toNatClampNeg + 1) + 6)) 2).toInt ∧ (xi (E (64 * (a0.toNatClampNeg + 1) + 6)) 2).toInt ≤ 1000 := hI0.iv (64 * (a0.toNatClampNeg + 1) + 6) (mP 6 a0.toNatClampNeg (by decide) lv6 (kl_le hC 2 (by decide))) (shC_p 6 a0.toNatClampNeg (by decide)) (Nat.le_of_ble_eq_true rfl) (spC_p 6 a0.toNatClampNeg (by decide) 2)
        refine th_getL (ci := 6) (C := RX5) (T := TX5) (N := 12) (v := .int (xi (E (64 * (a0.toNatClampNeg + 1) + 6)) 2)) hx hb hts hinX5 hown hK hP hI (64 * (a0.toNatClampNeg + 1) + 6) (mP 6 a0.toNatClampNeg (by decide) lv6 (kl_le hC 2 (by decide))) (shC_p 6 a0.toNatClampNeg (by decide)) rfl 2 (Nat.le_of_ble_eq_true rfl) (hts _ (vA_in _ _ (in_23 _ (List.mem_of_getElem? (i := 30) rfl)))) (fun _ h9 => h9) (th_v0L hKp hI0 (64 * (a0.toNatClampNeg + 1) + 6) (mP 6 a0.toNatClampNeg (by decide) lv6 (kl_le hC 2 (by decide))) (shC_p 6 a0.toNatClampNeg (by decide)) (Nat.le_of_ble_eq_true rfl) (spC_p 6 a0.toNatClampNeg (by decide) 2) (wl_p rfl rfl (by omega))) dX12_told_94 ?_
        rw [hQ]
        refine W.widen (k := 1) (n := 6) (by omega) (by omega) ?_
        refine vx_ret ?_
        exact W.iret (v := (xi (E (64 * (a0.toNatClampNeg + 1) + 6)) 2)) hx hb hr (fun t ht hW => ⟨⟨(xi (E (64 * (a0.toNatClampNeg + 1) + 6)) 2), (), rfl, trivial, trivial⟩, hS.F ht⟩) hS.2.2 dX12_told_97
      · --2
        refine lv_tableIn (off := 60) (tgt := 98) hx hb dX12_told_38 (by omega) (by omega) (by rw [c7]; rfl) (by decide) ?_
        refine lv_aload_n hx hb dX12_told_98 rfl (lv_at hl 0 rfl) ?_
        have i10 : 0 ≤ (xi (E (64 * (a0.toNatClampNeg + 1) + 6)) 3).toInt ∧ (xi (E (64 * (a0.toNatClampNeg + 1) + 6)) 3).toInt ≤ 1 := hI0.iv (64 * (a0.toNatClampNeg + 1) + 6) (mP 6 a0.toNatClampNeg (by decide) lv6 (kl_le hC 2 (by decide))) (shC_p 6 a0.toNatClampNeg (by decide)) (Nat.le_of_ble_eq_true rfl) (spC_p 6 a0.toNatClampNeg (by decide) 3)
        refine th_getL (ci := 6) (C := RX5) (T := TX5) (N := 12) (v := .int (xi (E (64 * (a0.toNatClampNeg + 1) + 6)) 3)) hx hb hts hinX5 hown hK hP hI (64 * (a0.toNatClampNeg + 1) + 6) (mP 6 a0.toNatClampNeg (by decide) lv6 (kl_le hC 2 (by decide))) (shC_p 6 a0.toNatClampNeg (by decide)) rfl 3 (Nat.le_of_ble_eq_true rfl) (hts _ (vA_in _ _ (in_23 _ (List.mem_of_getElem? (i := 31) rfl)))) (fun _ h9 => h9) (th_v0L hKp hI0 (64 * (a0.toNatClampNeg + 1) + 6) (mP 6 a0.toNatClampNeg (by decide) lv6 (kl_le hC 2 (by decide))) (shC_p 6 a0.toNatClampNeg (by decide)) (Nat.le_of_ble_eq_true rfl) (spC_p 6 a0.toNatClampNeg (by decide) 3) (wl_p rfl rfl (by omega))) dX12_told_99 ?_
        rw [hQ]
        refine W.widen (k := 1) (n := 6) (by omega) (by omega) ?_
        refine vx_ret ?_
        exact W.iret (v := (xi (E (64 * (a0.toNatClampNeg + 1) + 6)) 3)) hx hb hr (fun t ht hW => ⟨⟨(xi (E (64 * (a0.toNatClampNeg + 1) + 6)) 3), (), rfl, trivial, trivial⟩, hS.F ht⟩) hS.2.2 dX12_told_102
      · --3
        refine lv_tableIn (off := 65) (tgt := 103) hx hb dX12_told_38 (by omega) (by omega) (by rw [c7]; rfl) (by decide) ?_
        refine lv_aload_n hx hb dX12_told_103 rfl (lv_at hl 0 rfl) ?_
        have i11 : 0 ≤ (xi (E (64 * (a0.toNatClampNeg + 1) + 6)) 4).toInt ∧ (xi (E (64 * (a0.toNatClampNeg + 1) + 6)) 4).toInt ≤ 7 := hI0.iv (64 * (a0.toNatClampNeg + 1) + 6) (mP 6 a0.toNatClampNeg (by decide) lv6 (kl_le hC 2 (by decide))) (shC_p 6 a0.toNatClampNeg (by decide)) (Nat.le_of_ble_eq_true rfl) (spC_p 6 a0.toNatClampNeg (by decide) 4)
        refine th_getL (ci := 6) (C := RX5) (T := TX5) (N := 12) (v := .int (xi (E (64 * (a0.toNatClampNeg + 1) + 6)) 4)) hx hb hts hinX5 hown hK hP hI (64 * (a0.toNatClampNeg + 1) + 6) (mP 6 a0.toNatClampNeg (by decide) lv6 (kl_le hC 2 (by decide))) (shC_p 6 a0.toNatClampNeg (by decide)) rfl 4 (Nat.le_of_ble_eq_true rfl) (hts _ (vA_in _ _ (in_23 _ (List.mem_of_getElem? (i := 32) rfl)))) (fun _ h9 => h9) (th_v0L hKp hI0 (64 * (a0.toNatClampNeg + 1) + 6) (mP 6 a0.toNatClampNeg (by decide) lv6 (kl_le hC 2 (by decide))) (shC_p 6 a0.toNatClampNeg (by decide)) (Nat.le_of_ble_eq_true rfl) (spC_p 6 a0.toNatClampNeg (by decide) 4) (wl_p rfl rfl (by omega))) dX12_told_104 ?_
        rw [hQ]
        refine W.widen (k := 1) (n := 6) (by omega) (by omega) ?_
        refine vx_ret ?_
        exact W.iret (v := (xi (E (64 * (a0.toNatClampNeg + 1) + 6)) 4)) hx hb hr (fun t ht hW => ⟨⟨(xi (E (64 * (a0.toNatClampNeg + 1) + 6)) 4), (), rfl, trivial, trivial⟩, hS.F ht⟩) hS.2.2 dX12_told_107
      · --4
        refine lv_tableIn (off := 70) (tgt := 108) hx hb dX12_told_38 (by omega) (by omega) (by rw [c7]; rfl) (by decide) ?_
        refine lv_aload_n hx hb dX12_told_108 rfl (lv_at hl 0 rfl) ?_
        have i12 : 0 ≤ (xi (E (64 * (a0.toNatClampNeg + 1) + 6)) 5).toInt ∧ (xi (E (64 * (a0.toNatClampNeg + 1) + 6)) 5).toInt ≤ 99 := hI0.iv (64 * (a0.toNatClampNeg + 1) + 6) (mP 6 a0.toNatClampNeg (by decide) lv6 (kl_le hC 2 (by decide))) (shC_p 6 a0.toNatClampNeg (by decide)) (Nat.le_of_ble_eq_true rfl) (spC_p 6 a0.toNatClampNeg (by decide) 5)
        refine th_getL (ci := 6) (C := RX5) (T := TX5) (N := 12) (v := .int (xi (E (64 * (a0.toNatClampNeg + 1) + 6)) 5)) hx hb hts hinX5 hown hK hP hI (64 * (a0.toNatClampNeg + 1) + 6) (mP 6 a0.toNatClampNeg (by decide) lv6 (kl_le hC 2 (by decide))) (shC_p 6 a0.toNatClampNeg (by decide)) rfl 5 (Nat.le_of_ble_eq_true rfl) (hts _ (vA_in _ _ (in_23 _ (List.mem_of_getElem? (i := 33) rfl)))) (fun _ h9 => h9) (th_v0L hKp hI0 (64 * (a0.toNatClampNeg + 1) + 6) (mP 6 a0.toNatClampNeg (by decide) lv6 (kl_le hC 2 (by decide))) (shC_p 6 a0.toNatClampNeg (by decide)) (Nat.le_of_ble_eq_true rfl) (spC_p 6 a0.toNatClampNeg (by decide) 5) (wl_p rfl rfl (by omega))) dX12_told_109 ?_
        rw [hQ]
        refine W.widen (k := 1) (n := 6) (by omega) (by omega) ?_
        refine vx_ret ?_
        exact W.iret (v := (xi (E (64 * (a0.toNatClampNeg + 1) + 6)) 5)) hx hb hr (fun t ht hW => ⟨⟨(xi (E (64 * (a0.toNatClampNeg + 1) + 6)) 5), (), rfl, trivial, trivial⟩, hS.F ht⟩) hS.2.2 dX12_told_112
      · --5
        refine lv_tableIn (off := 75) (tgt := 113) hx hb dX12_told_38 (by omega) (by omega) (by rw [c7]; rfl) (by decide) ?_
        refine lv_aload_n hx hb dX12_told_113 rfl (lv_at hl 0 rfl) ?_
        have i13 : 0 ≤ (xi (E (64 * (a0.toNatClampNeg + 1) + 6)) 6).toInt ∧ (xi (E (64 * (a0.toNatClampNeg + 1) + 6)) 6).toInt ≤ 99 := hI0.iv (64 * (a0.toNatClampNeg + 1) + 6) (mP 6 a0.toNatClampNeg (by decide) lv6 (kl_le hC 2 (by decide))) (shC_p 6 a0.toNatClampNeg (by decide)) (Nat.le_of_ble_eq_true rfl) (spC_p 6 a0.toNatClampNeg (by decide) 6)
        refine th_getL (ci := 6) (C := RX5) (T := TX5) (N := 12) (v := .int (xi (E (64 * (a0.toNatClampNeg + 1) + 6)) 6)) hx hb hts hinX5 hown hK hP hI (64 * (a0.toNatClampNeg + 1) + 6) (mP 6 a0.toNatClampNeg (by decide) lv6 (kl_le hC 2 (by decide))) (shC_p 6 a0.toNatClampNeg (by decide)) rfl 6 (Nat.le_of_ble_eq_true rfl) (hts _ (vA_in _ _ (in_23 _ (List.mem_of_getElem? (i := 34) rfl)))) (fun _ h9 => h9) (th_v0L hKp hI0 (64 * (a0.toNatClampNeg + 1) + 6) (mP 6 a0.toNatClampNeg (by decide) lv6 (kl_le hC 2 (by decide))) (shC_p 6 a0.toNatClampNeg (by decide)) (Nat.le_of_ble_eq_true rfl) (spC_p 6 a0.toNatClampNeg (by decide) 6) (wl_p rfl rfl (by omega))) dX12_told_114 ?_
        rw [hQ]
        refine W.widen (k := 1) (n := 6) (by omega) (by omega) ?_
        refine vx_ret ?_
        exact W.iret (v := (xi (E (64 * (a0.toNatClampNeg + 1) + 6)) 6)) hx hb hr (fun t ht hW => ⟨⟨(xi (E (64 * (a0.toNatClampNeg + 1) + 6)) 6), (), rfl, trivial, trivial⟩, hS.F ht⟩) hS.2.2 dX12_told_117
      · --6
        refine lv_tableIn (off := 80) (tgt := 118) hx hb dX12_told_38 (by omega) (by omega) (by rw [c7]; rfl) (by decide) ?_
        refine lv_aload_n hx hb dX12_told_118 rfl (lv_at hl 0 rfl) ?_
        refine lv_aload_n hx hb dX12_told_119 rfl (lv_at hl 1 rfl) ?_
        refine th_getL (ci := 13) (C := RX12) (T := TX12) (N := 6) (v := .ref (ad 1)) hx hb hts hinX12 hown hK hP hI 0 (mF 0 rfl) rfl rfl 0 (Nat.le_of_ble_eq_true rfl) (hts _ (vA_in _ _ (in_10 _ (List.mem_of_getElem? (i := 17) rfl)))) (fun _ h9 => h9) (hI.fr 0 (mF 0 rfl) rfl (Nat.le_of_ble_eq_true rfl) 1 rfl) dX12_told_120 ?_
        have i14 : 0 ≤ (xi (E 1) 0).toInt ∧ (xi (E 1) 0).toInt ≤ 400 := hI0.iv 1 (mF 1 rfl) rfl (Nat.le_of_ble_eq_true rfl) rfl
        refine th_getL (ci := 1) (C := RX0) (T := TX0) (N := 11) (v := .int (xi (E 1) 0)) hx hb hts hinX0 hown hK hP hI 1 (mF 1 rfl) rfl rfl 0 (Nat.le_of_ble_eq_true rfl) (hts _ (vA_in _ _ (in_10 _ (List.mem_of_getElem? (i := 26) rfl)))) (fun _ h9 => h9) (th_v0L hKp hI0 1 (mF 1 rfl) rfl (Nat.le_of_ble_eq_true rfl) rfl rfl) dX12_told_123 ?_
        refine th_riL (va_runV (As := [.int (xi (E 1) 0)]) (rest := []) ⟨hx, hb, hml, hown, hts⟩ (q_enteredIn l dC dI cT cf hC ad E H.size (xi (E 1) 0) a0.toNatClampNeg hI (by omega)) (cwV 1 hts (gi_V (in_23 _ (List.mem_of_getElem? (i := 36) rfl)) (in_12 _ (List.mem_of_getElem? (i := 30) rfl)) (in_12 _ (List.mem_of_getElem? (i := 31) rfl)) (in_6 _ (List.mem_of_getElem? (i := 17) rfl)) (in_12 _ (List.mem_of_getElem? (i := 32) rfl))) rfl rfl rfl (by decide +kernel) ⟨Nat.le_of_ble_eq_true rfl, Nat.le_of_ble_eq_true rfl⟩) ⟨HWL_bl, va_recv hK hP (ci := 6) (q0 := posL (64 * (a0.toNatClampNeg + 1) + 6) (LC cf)) rfl (hI.ob (64 * (a0.toNatClampNeg + 1) + 6) (mP 6 a0.toNatClampNeg (by decide) lv6 (kl_le hC 2 (by decide))) (shC_p 6 a0.toNatClampNeg (by decide))), (HWL_wiR hP hK (WL_D hD) hS hEV)⟩ rfl rfl hl.1 rfl (lv_room (Nat.le_of_ble_eq_true rfl)) dX12_told_126 ⟨Nat.le_of_ble_eq_true rfl, Nat.le_of_ble_eq_true rfl⟩) hS hP (fun r15 H locs hw hP hS => ?_)
        have f16 := hw
        rw [hQ]
        refine W.widen (k := 1) (n := 6) (by omega) (by omega) ?_
        refine vx_ret ?_
        exact W.iret (v := r15) hx hb hr (fun t ht hW => ⟨⟨r15, (), rfl, trivial, trivial⟩, hS.F ht⟩) hS.2.2 dX12_told_129
      · --7
        refine lv_tableIn (off := 92) (tgt := 130) hx hb dX12_told_38 (by omega) (by omega) (by rw [c7]; rfl) (by decide) ?_
        refine lv_aload_n hx hb dX12_told_130 rfl (lv_at hl 0 rfl) ?_
        refine lv_aload_n hx hb dX12_told_131 rfl (lv_at hl 1 rfl) ?_
        refine th_getL (ci := 13) (C := RX12) (T := TX12) (N := 6) (v := .ref (ad 1)) hx hb hts hinX12 hown hK hP hI 0 (mF 0 rfl) rfl rfl 0 (Nat.le_of_ble_eq_true rfl) (hts _ (vA_in _ _ (in_10 _ (List.mem_of_getElem? (i := 17) rfl)))) (fun _ h9 => h9) (hI.fr 0 (mF 0 rfl) rfl (Nat.le_of_ble_eq_true rfl) 1 rfl) dX12_told_132 ?_
        have i17 : 0 ≤ (xi (E 1) 0).toInt ∧ (xi (E 1) 0).toInt ≤ 400 := hI0.iv 1 (mF 1 rfl) rfl (Nat.le_of_ble_eq_true rfl) rfl
        refine th_getL (ci := 1) (C := RX0) (T := TX0) (N := 11) (v := .int (xi (E 1) 0)) hx hb hts hinX0 hown hK hP hI 1 (mF 1 rfl) rfl rfl 0 (Nat.le_of_ble_eq_true rfl) (hts _ (vA_in _ _ (in_10 _ (List.mem_of_getElem? (i := 26) rfl)))) (fun _ h9 => h9) (th_v0L hKp hI0 1 (mF 1 rfl) rfl (Nat.le_of_ble_eq_true rfl) rfl rfl) dX12_told_135 ?_
        refine th_riL (va_runV (As := [.int (xi (E 1) 0)]) (rest := []) ⟨hx, hb, hml, hown, hts⟩ (q_swiftIn l dC dI cT cf hC ad E H.size (xi (E 1) 0) a0.toNatClampNeg hI (by omega) i17) (cwV 1 hts (gi_V (in_23 _ (List.mem_of_getElem? (i := 37) rfl)) (in_15 _ (List.mem_of_getElem? (i := 23) rfl)) (in_15 _ (List.mem_of_getElem? (i := 24) rfl)) (in_6 _ (List.mem_of_getElem? (i := 17) rfl)) (in_15 _ (List.mem_of_getElem? (i := 25) rfl))) rfl rfl rfl (by decide +kernel) ⟨Nat.le_of_ble_eq_true rfl, Nat.le_of_ble_eq_true rfl⟩) ⟨HWL_bl, va_recv hK hP (ci := 6) (q0 := posL (64 * (a0.toNatClampNeg + 1) + 6) (LC cf)) rfl (hI.ob (64 * (a0.toNatClampNeg + 1) + 6) (mP 6 a0.toNatClampNeg (by decide) lv6 (kl_le hC 2 (by decide))) (shC_p 6 a0.toNatClampNeg (by decide))), (HWL_wiR hP hK (WL_D hD) hS hEV)⟩ rfl rfl hl.1 rfl (lv_room (Nat.le_of_ble_eq_true rfl)) dX12_told_138 ⟨Nat.le_of_ble_eq_true rfl, Nat.le_of_ble_eq_true rfl⟩) hS hP (fun r18 H locs hw hP hS => ?_)
        have f19 := hw
        rw [hQ]
        refine W.widen (k := 1) (n := 6) (by omega) (by omega) ?_
        refine vx_ret ?_
        exact W.iret (v := r18) hx hb hr (fun t ht hW => ⟨⟨r18, (), rfl, trivial, trivial⟩, hS.F ht⟩) hS.2.2 dX12_told_141
      · --8
        refine lv_tableIn (off := 104) (tgt := 142) hx hb dX12_told_38 (by omega) (by omega) (by rw [c7]; rfl) (by decide) ?_
        refine lv_aload_n hx hb dX12_told_142 rfl (lv_at hl 0 rfl) ?_
        have i20 : 0 ≤ (xi (E (64 * (a0.toNatClampNeg + 1) + 6)) 0).toInt ∧ (xi (E (64 * (a0.toNatClampNeg + 1) + 6)) 0).toInt ≤ 400 := hI0.iv (64 * (a0.toNatClampNeg + 1) + 6) (mP 6 a0.toNatClampNeg (by decide) lv6 (kl_le hC 2 (by decide))) (shC_p 6 a0.toNatClampNeg (by decide)) (Nat.le_of_ble_eq_true rfl) (spC_p 6 a0.toNatClampNeg (by decide) 0)
        refine th_getL (ci := 6) (C := RX5) (T := TX5) (N := 12) (v := .int (xi (E (64 * (a0.toNatClampNeg + 1) + 6)) 0)) hx hb hts hinX5 hown hK hP hI (64 * (a0.toNatClampNeg + 1) + 6) (mP 6 a0.toNatClampNeg (by decide) lv6 (kl_le hC 2 (by decide))) (shC_p 6 a0.toNatClampNeg (by decide)) rfl 0 (Nat.le_of_ble_eq_true rfl) (hts _ (vA_in _ _ (in_23 _ (List.mem_of_getElem? (i := 35) rfl)))) (fun _ h9 => h9) (th_v0L hKp hI0 (64 * (a0.toNatClampNeg + 1) + 6) (mP 6 a0.toNatClampNeg (by decide) lv6 (kl_le hC 2 (by decide))) (shC_p 6 a0.toNatClampNeg (by decide)) (Nat.le_of_ble_eq_true rfl) (spC_p 6 a0.toNatClampNeg (by decide) 0) (wl_p rfl rfl (by omega))) dX12_told_143 ?_
        rw [hQ]
        refine W.widen (k := 1) (n := 6) (by omega) (by omega) ?_
        refine vx_ret ?_
        exact W.iret (v := (xi (E (64 * (a0.toNatClampNeg + 1) + 6)) 0)) hx hb hr (fun t ht hW => ⟨⟨(xi (E (64 * (a0.toNatClampNeg + 1) + 6)) 0), (), rfl, trivial, trivial⟩, hS.F ht⟩) hS.2.2 dX12_told_146
    · --8 not
      exact absurd c4 (by decide)
  · -- isRaceC, case 1
    obtain ⟨rfl, f21⟩ := hw
    refine lv_if_ne (tgt := 22) hx hb dX12_told_8 (by decide) (fun c22 => ?_) (fun c22 => ?_)
    · --8 taken
      exact absurd c22 (by decide)
    · --8 not
      rw [hQ]
      obtain ⟨hU9, hNn9, ⟨⟨sa1, hst1⟩, sa2, hst2⟩, hca, hd1, hd2, hd3⟩ := hEX
      exact ub_throw (text := "no such race") (ik := 292) (is := 294) (sa := sa1) (A := fun _ : Nat => False) hx hb hfl hown (hts _ (vA_in _ _ (in_23 _ (List.mem_of_getElem? (i := 27) rfl)))) (hts _ (vA_in _ _ (in_23 _ (List.mem_of_getElem? (i := 28) rfl)))) hst1 (vx_hat (B := [.castable "java/util/NoSuchElementException" "java/util/NoSuchElementException", .declares ⟨"java/lang/RuntimeException", "<init>", "(Ljava/lang/String;)V"⟩, .declares ⟨"java/lang/Exception", "<init>", "(Ljava/lang/String;)V"⟩, .declares ⟨"java/lang/Throwable", "<init>", "(Ljava/lang/String;)V"⟩]) (fun w h => htx w (told_in2 w h)) (by decide +kernel) (vx_c (va_Nw.use rfl hca) (vx_c (va_Nw.use rfl hd1) (vx_c (va_Nw.use rfl hd2) (vx_c (va_Nw.use rfl hd3) vx_n))))) (by decide +kernel) hU9 hNn9 hS (by rw [hml]; exact hl.1) dX12_told_11 dX12_told_14 dX12_told_15 dX12_told_18 dX12_told_21 (fun x hx9 => (hexn x hx9).elim) (Nat.le_of_ble_eq_true rfl) (Nat.le_of_ble_eq_true rfl) (Nat.le_of_ble_eq_true rfl) (Nat.le_of_ble_eq_true rfl) hlocks (fun t h1 h2 h3 => ⟨(), trivial, rfl, Nat.le_trans hS.1 h2, fun q q1 _ => by rw [h3 q (Nat.lt_of_lt_of_le q1 hS.1)]; exact hS.2.1 q q1 (fun hh => hh)⟩) hS.2.2 (Nat.le_refl _) (Nat.le_refl _)
theorem va_D_right {A : Nat → Prop} {w1 w2 : va_W} (h : va_D A (w1 ++ w2)) : va_D A w2 := by
  rw [va_D_iff] at h ⊢
  rw [List.map_append] at h
  exact ⟨(List.nodup_append.mp h.1).2.1, fun q hq => h.2 q (List.mem_append_right _ hq)⟩
theorem EVC_n {eo : Nat} {s : State} {A A1 : Nat → Prop} (hF : ∀ q, A1 q → A q) (h : EVC eo A s s.heap) : EVC eo A1 s s.heap := EVC_w rfl (State.WarmedH.refl s) va_S.rf hF h
def A_l_told : List Cond := [.classLink RL 13 "java/util/NoSuchElementException", .methodLink RL 7 yX12_told, .instanceMethod yX12_told, .selects RX12 yX12_told yX12_told, .initialized RX12, .code yX12_told cX12_told 4 (some .int)]
def v_l_told : List Cond := .codeWith yL_told cL_told 5 (some .int) [(0, 10, 13, 13)] :: (A_l_told ++ (vA ++ wsXW0))
theorem ltold_in : ∀ w ∈ A_l_told, w ∈ v_l_told := fun w h => List.mem_cons_of_mem _ (List.mem_append_left _ h)
theorem good_of {w : Cond} (h : goodWord w = true) : (w.onTables && w.keeps) = true ∨ ∃ ty, w = .arrayClass ty := good_of_word h
theorem vXW_good : ∀ w ∈ v_u_told, goodWord w = true := fun w h => (List.mem_cons.mp h).elim (fun e => by rw [e]; rfl) (fun h2 => (List.mem_append.mp h2).elim (fun h3 => List.all_eq_true.mp vA_good w h3) (fun h3 => List.all_eq_true.mp gw_XW w h3))
theorem g_l_told : GoodIn v_l_told (wsV RL 7 RX12 yX12_told v_u_told) := goodIn_app (fun w h => ⟨ltold_in w (by simp only [List.mem_cons, List.not_mem_nil, or_false] at h; rcases h with rfl | rfl | rfl | rfl <;> simp [A_l_told]), good_of_word (by simp only [List.mem_cons, List.not_mem_nil, or_false] at h; rcases h with rfl | rfl | rfl | rfl <;> rfl)⟩) (fun w h => ⟨(List.mem_cons.mp h).elim (fun e => by rw [e]; exact ltold_in _ (List.mem_of_getElem? (i := 5) rfl)) (fun h2 => List.mem_cons_of_mem _ (List.mem_append_right _ h2)), good_of_word (vXW_good w h)⟩)
set_option maxHeartbeats 4000000 in
set_option maxRecDepth 100000 in
theorem l_told (l : Launch) (hfl : l.stackTraces = false) (dC : Nat → ClassId) (dI : Nat → Nat → Nat) (cT : Nat → ClassId) (cf : Nat → Nat) (hC : CF cf) (ad : Nat → Nat) (E : Nat → va_E) (sz : Nat) (a0 a1 : Int32) (ou : Nat) (cL : ClassId) (f : Nat → Int64) (hI0 : IXL cT (shC cf) (spC cf) (LC cf) ad E) : Met l yL_told v_l_told ({ frames := 9, cells := 1, slots := 6, locals := 360 }) (va_Pc [.ref (ad 0), .int a0, .int a1, .ref ou] (fun U => U.heap.size = sz ∧ va_P (dC, dI) vwCl ((ou, .inl (cL, 1, .inr (.inl f))) :: WL (LC cf) ad E) U.heap ∧ va_K (dC, dI) vwCl ((cL, .long) :: TYC cT) U ∧ va_D (fun _ => True) ((ou, .inl (cL, 1, .inr (.inl f))) :: WL (LC cf) ad E) ∧ EVC (cf 6) (va_A ((ou, .inl (cL, 1, .inr (.inl f))) :: WL (LC cf) ad E) sz) U U.heap ∧ ub_EX (va_A ((ou, .inl (cL, 1, .inr (.inl f))) :: WL (LC cf) ad E) sz) U U.heap)) (va_Qi (S := Nat → Int64) (fun _ _ => True) (fun f' t => va_P (dC, dI) vwCl ((ou, .inl (cL, 1, .inr (.inl f'))) :: WL (LC cf) ad E) t.heap ∧ va_D (va_A ((ou, .inl (cL, 1, .inr (.inl f))) :: WL (LC cf) ad E) sz) ((ou, .inl (cL, 1, .inr (.inl f'))) :: WL (LC cf) ad E)) (va_A ((ou, .inl (cL, 1, .inr (.inl f))) :: WL (LC cf) ad E) sz)) 1 6 (va_A ((ou, .inl (cL, 1, .inr (.inl f))) :: WL (LC cf) ad E) sz) := by
  refine va_MetW (cc := cL_told) (maxL := 5) (ret := some .int) (hh := [(0, 10, 13, 13)]) (by decide) rfl ?_
  intro p e s m args below meth c s₁ B hml hv
  obtain ⟨rfl, hsz, hP, hK, hD0, hEV, hEX⟩ := hv
  subst hsz
  have hx := B.exec
  have hb := B.bytes
  have hr := B.returns
  have hts := atoms_spec (ws := v_l_told) B.pre
  have hown : s.vm.findClass RL = some m.cls := findClass_of_methodNamed B.named
  have hlocks := B.notSynchronized
  generalize hAe : va_A ((ou, .inl (cL, 1, .inr (.inl f))) :: WL (LC cf) ad E) s.heap.size = A at hEV hEX ⊢
  have hA : ∀ q : Nat, s.heap.size ≤ q → A q := fun q h => by rw [← hAe]; exact Or.inr h
  have hD : va_D A ((ou, .inl (cL, 1, .inr (.inl f))) :: WL (LC cf) ad E) := by rw [← hAe]; exact hD0.self
  have hS : va_S A s.heap s.heap [] := va_S.rf
  have hl := lv_entry ([.ref (ad 0), .int a0, .int a1, .ref ou]) (n := 5) (Nat.le_of_ble_eq_true rfl)
  rw [lg_entry_eq]
  generalize (lg_sl ([.ref (ad 0), .int a0, .int a1, .ref ou]) ++ List.replicate (5 - (lg_sl ([.ref (ad 0), .int a0, .int a1, .ref ou])).length) Slot.unset).toArray = ls at hl ⊢
  have hct : c.exceptionTable.toList = [⟨0, 10, 13, 13⟩] := vx_table (x := yL_told) B (hts _ List.mem_cons_self)
  have hl : lv_has ls 5 [(0, .ref (ad 0)), (1, .int a0), (2, .int a1), (3, .ref ou)] := hl
  refine lv_aload_n hx hb dL_told_0 rfl (lv_at hl 3 rfl) ?_
  refine lv_iconst (v := 0) hx hb dL_told_1 (by decide) ?_
  refine lv_aload_n hx hb dL_told_2 rfl (lv_at hl 0 rfl) ?_
  refine lv_iload_n hx hb dL_told_3 rfl (lv_at hl 1 rfl) ?_
  refine lv_iload_n hx hb dL_told_4 rfl (lv_at hl 2 rfl) ?_
  have hPc : va_P (dC, dI) vwCl (WL (LC cf) ad E) s.heap := va_P_sub hP (fun x hx => List.mem_cons_of_mem _ hx)
  have hDc : va_D A (WL (LC cf) ad E) := va_D_right (w1 := [(ou, .inl (cL, 1, .inr (.inl f)))]) hD
  have hKc : va_K (dC, dI) vwCl (TYC cT) s := hK.sub (tys' := TYC cT) [1, 2, 3, 4] rfl
  have hFA : ∀ z, va_A (WL (LC cf) ad E) s.heap.size z → A z := fun z h => h.elim (fun ⟨k, e, hk⟩ => hDc.2 k _ hk) (fun h => hA z h)
  have hca := hEX.2.2.2.1
  refine vx_calli (vx_runV (As := [.int a0, .int a1]) (rest := [.int 0, .ref ou]) ⟨hx, hb, hml, hown, hts⟩ (q_u_told l hfl dC dI cT cf hC ad E s.heap.size a0 a1 hI0) (cwV 2 hts g_l_told rfl rfl rfl (by decide +kernel) ⟨Nat.le_of_ble_eq_true rfl, Nat.le_of_ble_eq_true rfl⟩) ⟨fun a U g mk q => ⟨(HWL_bl a U g mk ⟨q.1, q.2.1⟩).1, (HWL_bl a U g mk ⟨q.1, q.2.1⟩).2, ub_EX_c q.2.2⟩, va_recv hKc hPc (ci := 13) (q0 := posL 0 (LC cf)) rfl (hI0.ob 0 (mF 0 rfl) rfl), fun U hU hW => ⟨rfl, ((HWL_wi (av := []) hPc hKc hDc hS hA hEV) U hU hW).2, ub_EX_w hU hW hS (fun _ hh => hh.elim) hEX⟩⟩ rfl rfl hl.1 rfl (lv_room (Nat.le_of_ble_eq_true rfl)) dL_told_5 ⟨Nat.le_of_ble_eq_true rfl, Nat.le_of_ble_eq_true rfl⟩) hS (fun _ _ h => h.elim) (fun _ h => h.elim) (fun _ _ h => h.elim) (fun E1 ce q9 u t H1 locs hth hvm hpx hBX hz1 hk1 hS hce hcv hcl => ?_) (fun r u t H1 locs hth hvm hw hB hz1 hk1 hS => ?_)
  · obtain rfl : "java/util/NoSuchElementException" = E1 := hBX.symm
    refine vx_catch (name := "java/util/NoSuchElementException") hown [] ⟨0, 10, 13, 13⟩ [] hct (fun _ hh => nomatch hh) (by decide) (by decide) (hts (.classLink RL 13 "java/util/NoSuchElementException") (ltold_in _ (List.mem_of_getElem? (i := 0) rfl))) (va_Nw.use rfl hca) hce hcv hcl ?_
    have hP := ub_keep hP hk1
    generalize H1 = H at hP hS ⊢
    refine W.widen (k := 1) (n := 6) (by omega) (by omega) ?_
    refine lv_astore (lv' := [(4, .ref q9), (0, .ref (ad 0)), (1, .int a0), (2, .int a1), (3, .ref ou)]) hx hb dL_told_13 hl (by decide) rfl (fun ls hl => ?_)
    refine lv_iconst (v := 1) hx hb dL_told_15 (by decide) ?_
    exact W.iret (v := (1)) hx hb hr (fun t ht hW => ⟨⟨(1), f, rfl, trivial, by rw [ht]; exact hP, hD⟩, hS.F ht⟩) hS.2.2 dL_told_16
  · have hP := ub_keep hP hk1
    generalize H1 = H at hP hS ⊢
    refine W.widen (k := 1) (n := 6) (by omega) (by omega) ?_
    refine lv_i2l hx hb dL_told_8 rfl ?_
    refine va_last hx hb hK hP hD hS 0 0 rfl rfl (vp_in_nI (n := 0) (N := 1) (by decide) (by decide)) dL_told_9 (fun H locs hP hD hS => ?_)
    refine lv_goto (tgt := 17) hx hb dL_told_10 rfl ?_
    refine lv_iconst (v := 0) hx hb dL_told_17 (by decide) ?_
    exact W.iret (v := (0)) hx hb hr (fun t ht hW => ⟨⟨(0), _, rfl, trivial, by rw [ht]; exact hP, hD⟩, hS.F ht⟩) hS.2.2 dL_told_18

