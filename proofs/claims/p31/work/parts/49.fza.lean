

/-! ===== Math.floorMod, exactly ===== -/
def fmE (a b : Int32) : Int32 := if 0 ≤ a ^^^ b then a - a / b * b else if a - a / b * b = 0 then 0 else a - a / b * b + b
def fmSE (a b : Int32) : Spec := { pre := .and (.code fmX cJ9_floorMod_7cf53 3 (some .int)) (.and (.count 2) (.and (.isInt (.arg 0)) (.and (.isInt (.arg 1)) (.and (.eq (.arg 0) (.int a)) (.eq (.arg 1) (.int b)))))), post := .and .returned (.and (.isInt .result) (.eq .result (.int (fmE a b)))), changes := some [] }
set_option maxHeartbeats 4000000 in
theorem fm_meetsE (l : Launch) (a0 b0 : Int32) (hb0 : ¬ b0 = 0) : MeetsLoose l fmX (fmSE a0 b0) := by
  refine MeetsLoose.of_body_ov (code := cJ9_floorMod_7cf53) (maxLocals := 3) (ret := some .int) fm_noRow ?_ ?_
  · intro args s h
    simp only [fmSE, Cond.before_and, Bool.and_eq_true] at h
    exact h.1
  · intro p e s m args below meth c s₁ B
    have hpre := B.pre
    simp only [fmSE, Cond.before_and, Bool.and_eq_true] at hpre
    obtain ⟨a, b, rfl⟩ := Cond.two_ints hpre.2.1 hpre.2.2.1 hpre.2.2.2.1
    have ea : a = a0 := by
      have h := hpre.2.2.2.2.1
      simpa [Cond.before, Cond.holds, Cond.value, Term.eval] using h
    have eb : b = b0 := by
      have h := hpre.2.2.2.2.2
      simpa [Cond.before, Cond.holds, Cond.value, Term.eval] using h
    subst ea
    subst eb
    have hb : ¬ b = 0 := hb0
    have hloc : argsToLocals #[.int a, .int b] 3 = #[.val (.int a), .val (.int b), .unset] := rfl
    have fin : ∀ r : Int32, r = fmE a b → (∀ fs, Steps p.tables e below (s₁.setTop (entryFrame m #[.int a, .int b] 3)) (s₁.setFrames fs) ∨ handOver s₁ (some (.int r)) below ≠ some fs) →
        ∃ s₂ o, Steps p.tables e below (s₁.setTop (entryFrame m #[.int a, .int b] 3)) s₂ ∧ s₂.status = .running ∧ Ended s₂ below o ∧
          (fmSE a b).ensures #[.int a, .int b] s o s₂ := by
      intro r hE hwalk
      obtain ⟨fs, hfs⟩ := handOver_isSome (s := s₁) (some (.int r)) B.hears₁
      refine ⟨s₁.setFrames fs, .returned (some (.int r)), (hwalk fs).resolve_right (fun h => h hfs), B.here.running, B.ended hfs (by intro h; cases h), ?_, State.sameBut_nil.mpr ?_⟩
      · simp [fmSE, Cond.after, Cond.holds, Cond.value, Term.eval, hE]
      · rw [State.frames_setFrames _ B.cur₁, B.back]
    obtain ⟨r, hr⟩ : ∃ r : Int32, r = a - a / b * b := ⟨_, rfl⟩
    have hst : storeLocals #[.val (.int a), .val (.int b), .unset] 2 (.int r) = some #[.val (.int a), .val (.int b), .val (.int r)] := rfl
    by_cases h1 : 0 ≤ a ^^^ b
    · refine fin (r) (by unfold fmE; rw [if_pos h1]; exact hr) (fun fs => ?_)
      by_cases hfs : handOver s₁ (some (.int (r))) below = some fs
      · left
        unfold entryFrame; rw [hloc]
        refine Steps.instrAtOv (c := _) (by simpa using B.here) ?_
        simp [jvm, wpRun, exec, B.here.top, B.exec, B.bytes, dJ9_floorMod_7cf53_0]
        refine Steps.instrAtOv (c := _) (by simpa using B.here) ?_
        simp [jvm, wpRun, exec, B.here.top, B.exec, B.bytes, dJ9_floorMod_7cf53_1]
        refine Steps.instrAtOv (c := _) (by simpa using B.here) ?_
        simp [jvm, wpRun, exec, B.here.top, B.exec, B.bytes, dJ9_floorMod_7cf53_2, irem.wp_sem, hb]
        rw [← hr]
        refine Steps.instrAtOv (c := _) (by simpa using B.here) ?_
        simp [jvm, wpRun, exec, B.here.top, B.exec, B.bytes, dJ9_floorMod_7cf53_3, hst]
        refine Steps.instrAtOv (c := _) (by simpa using B.here) ?_
        simp [jvm, wpRun, exec, B.here.top, B.exec, B.bytes, dJ9_floorMod_7cf53_4]
        refine Steps.instrAtOv (c := _) (by simpa using B.here) ?_
        simp [jvm, wpRun, exec, B.here.top, B.exec, B.bytes, dJ9_floorMod_7cf53_5]
        refine Steps.instrAtOv (c := _) (by simpa using B.here) ?_
        simp [jvm, wpRun, exec, B.here.top, B.exec, B.bytes, dJ9_floorMod_7cf53_6]
        refine Steps.instrAtOv (c := _) (by simpa using B.here) ?_
        simp [jvm, wpRun, exec, B.here.top, B.exec, B.bytes, dJ9_floorMod_7cf53_7, Op.ifCond.holds, h1]
        refine Steps.instrAtOv (c := _) (by simpa using B.here) ?_
        simp [jvm, wpRun, exec, B.here.top, B.exec, B.bytes, dJ9_floorMod_7cf53_18]
        refine Steps.instrAtOv (c := _) (by simpa using B.here) ?_
        simp [jvm, wpRun, exec, B.here.top, B.exec, B.bytes, dJ9_floorMod_7cf53_19, B.method₁, B.returns, narrow]
        intro acts
        rw [ret_to B.frames₁ B.method₁ B.notSynchronized rfl rfl hfs]
        exact Steps.refl _
      · exact Or.inr hfs
    · by_cases h2 : r = 0
      · refine fin (0) (by unfold fmE; rw [if_neg h1, ← hr, if_pos h2]) (fun fs => ?_)
        by_cases hfs : handOver s₁ (some (.int (0))) below = some fs
        · left
          unfold entryFrame; rw [hloc]
          refine Steps.instrAtOv (c := _) (by simpa using B.here) ?_
          simp [jvm, wpRun, exec, B.here.top, B.exec, B.bytes, dJ9_floorMod_7cf53_0]
          refine Steps.instrAtOv (c := _) (by simpa using B.here) ?_
          simp [jvm, wpRun, exec, B.here.top, B.exec, B.bytes, dJ9_floorMod_7cf53_1]
          refine Steps.instrAtOv (c := _) (by simpa using B.here) ?_
          simp [jvm, wpRun, exec, B.here.top, B.exec, B.bytes, dJ9_floorMod_7cf53_2, irem.wp_sem, hb]
          rw [← hr]
          refine Steps.instrAtOv (c := _) (by simpa using B.here) ?_
          simp [jvm, wpRun, exec, B.here.top, B.exec, B.bytes, dJ9_floorMod_7cf53_3, hst]
          refine Steps.instrAtOv (c := _) (by simpa using B.here) ?_
          simp [jvm, wpRun, exec, B.here.top, B.exec, B.bytes, dJ9_floorMod_7cf53_4]
          refine Steps.instrAtOv (c := _) (by simpa using B.here) ?_
          simp [jvm, wpRun, exec, B.here.top, B.exec, B.bytes, dJ9_floorMod_7cf53_5]
          refine Steps.instrAtOv (c := _) (by simpa using B.here) ?_
          simp [jvm, wpRun, exec, B.here.top, B.exec, B.bytes, dJ9_floorMod_7cf53_6]
          refine Steps.instrAtOv (c := _) (by simpa using B.here) ?_
          simp [jvm, wpRun, exec, B.here.top, B.exec, B.bytes, dJ9_floorMod_7cf53_7, Op.ifCond.holds, h1]
          refine Steps.instrAtOv (c := _) (by simpa using B.here) ?_
          simp [jvm, wpRun, exec, B.here.top, B.exec, B.bytes, dJ9_floorMod_7cf53_10]
          refine Steps.instrAtOv (c := _) (by simpa using B.here) ?_
          simp [jvm, wpRun, exec, B.here.top, B.exec, B.bytes, dJ9_floorMod_7cf53_11, Op.ifCond.holds, h2]
          refine Steps.instrAtOv (c := _) (by simpa using B.here) ?_
          simp [jvm, wpRun, exec, B.here.top, B.exec, B.bytes, dJ9_floorMod_7cf53_18]
          refine Steps.instrAtOv (c := _) (by simpa using B.here) ?_
          simp [jvm, wpRun, exec, B.here.top, B.exec, B.bytes, dJ9_floorMod_7cf53_19, B.method₁, B.returns, narrow]
          intro acts
          rw [ret_to B.frames₁ B.method₁ B.notSynchronized rfl rfl hfs]
          exact Steps.refl _
        · exact Or.inr hfs
      · refine fin (r + b) (by unfold fmE; rw [if_neg h1, ← hr, if_neg h2]) (fun fs => ?_)
        by_cases hfs : handOver s₁ (some (.int (r + b))) below = some fs
        · left
          unfold entryFrame; rw [hloc]
          refine Steps.instrAtOv (c := _) (by simpa using B.here) ?_
          simp [jvm, wpRun, exec, B.here.top, B.exec, B.bytes, dJ9_floorMod_7cf53_0]
          refine Steps.instrAtOv (c := _) (by simpa using B.here) ?_
          simp [jvm, wpRun, exec, B.here.top, B.exec, B.bytes, dJ9_floorMod_7cf53_1]
          refine Steps.instrAtOv (c := _) (by simpa using B.here) ?_
          simp [jvm, wpRun, exec, B.here.top, B.exec, B.bytes, dJ9_floorMod_7cf53_2, irem.wp_sem, hb]
          rw [← hr]
          refine Steps.instrAtOv (c := _) (by simpa using B.here) ?_
          simp [jvm, wpRun, exec, B.here.top, B.exec, B.bytes, dJ9_floorMod_7cf53_3, hst]
          refine Steps.instrAtOv (c := _) (by simpa using B.here) ?_
          simp [jvm, wpRun, exec, B.here.top, B.exec, B.bytes, dJ9_floorMod_7cf53_4]
          refine Steps.instrAtOv (c := _) (by simpa using B.here) ?_
          simp [jvm, wpRun, exec, B.here.top, B.exec, B.bytes, dJ9_floorMod_7cf53_5]
          refine Steps.instrAtOv (c := _) (by simpa using B.here) ?_
          simp [jvm, wpRun, exec, B.here.top, B.exec, B.bytes, dJ9_floorMod_7cf53_6]
          refine Steps.instrAtOv (c := _) (by simpa using B.here) ?_
          simp [jvm, wpRun, exec, B.here.top, B.exec, B.bytes, dJ9_floorMod_7cf53_7, Op.ifCond.holds, h1]
          refine Steps.instrAtOv (c := _) (by simpa using B.here) ?_
          simp [jvm, wpRun, exec, B.here.top, B.exec, B.bytes, dJ9_floorMod_7cf53_10]
          refine Steps.instrAtOv (c := _) (by simpa using B.here) ?_
          simp [jvm, wpRun, exec, B.here.top, B.exec, B.bytes, dJ9_floorMod_7cf53_11, Op.ifCond.holds, h2]
          refine Steps.instrAtOv (c := _) (by simpa using B.here) ?_
          simp [jvm, wpRun, exec, B.here.top, B.exec, B.bytes, dJ9_floorMod_7cf53_14]
          refine Steps.instrAtOv (c := _) (by simpa using B.here) ?_
          simp [jvm, wpRun, exec, B.here.top, B.exec, B.bytes, dJ9_floorMod_7cf53_15]
          refine Steps.instrAtOv (c := _) (by simpa using B.here) ?_
          simp [jvm, wpRun, exec, B.here.top, B.exec, B.bytes, dJ9_floorMod_7cf53_16]
          refine Steps.instrAtOv (c := _) (by simpa using B.here) ?_
          simp [jvm, wpRun, exec, B.here.top, B.exec, B.bytes, dJ9_floorMod_7cf53_17, B.method₁, B.returns, narrow]
          intro acts
          rw [ret_to B.frames₁ B.method₁ B.notSynchronized rfl rfl hfs]
          exact Steps.refl _
        · exact Or.inr hfs
section FME
variable {p : Program} {l : Launch} {e : Env} {R : Room} {s : State} {m : MethodId} {args : Array Value} {below : List Frame} {meth : Method} {c : Code} {H : Heap} {locs : List Loc} {cells slots : Nat} {Q : State → Prop} {pc : Nat} {ls : Array Slot} {rest : List Value} {cc : ByteArray}
theorem fm_VE {T : State} (X : Stand p l e R s m args below meth c T locs cells slots) (hexec : p.tables.exec = Jvm.exec) {own : String} {index : Nat} (hown : s.vm.findClass own = some m.cls)
    (hlink : (Cond.methodLink own index fmX).before args s = true) (hstat : (Cond.static fmX).before args s = true) (hinit : (Cond.initialized "java/lang/Math").before args s = true)
    (hcode : (Cond.code fmX cJ9_floorMod_7cf53 3 (some .int)).before args s = true)
    {g : JFrame} (hg : g.method = m) (hsize : g.locals.size = c.maxLocals) {a b : Int32} (hb0 : ¬ b = 0) {rest : List Value} (hstack : g.stack = .int b :: .int a :: rest) (hdg : decode c.code g.pc = .ok (.invokestatic index, 3))
    (hframes : 1 ≤ R.frames) (hlocals : 2 * g.monitorRoom + (rest.map fun v => v.category).sum + 14 ≤ R.locals) (hcells : cells ≤ R.cells) (hslots : slots ≤ R.slots) :
    ∃ vm', Stand p l e R s m args below meth c (T.setVm vm') locs cells slots ∧
      ∀ target, Steps p.tables e below ((T.setVm vm').setTop { g with pc := g.pc + 3, stack := .int (fmE a b) :: rest }) target → Steps p.tables e below (T.setTop g) target := by
  obtain ⟨v, T', X', ⟨first, t, hpost⟩, hstep⟩ := X.staticByContractV hexec hown hlink hstat hinit hcode (by decide)
    (fm_meetsE l a b hb0)
    rfl rfl rfl rfl
    (fun args' first o s₂ h => by
      simp only [fmSE, Cond.after_and, Bool.and_eq_true] at h
      cases o with
      | returned r => exact ⟨r, rfl⟩
      | threw y => simp [Cond.after, Cond.holds, Cond.value] at h)
    hg hsize (argsL := [.int a, .int b]) (rest := rest)
    (fun sig hs => by
      have h : parseMethodDescriptor "(II)I" = some { parameters := [.int, .int], returnType := some .int } := by decide +kernel
      rw [show fmX.desc = "(II)I" from rfl, h] at hs
      rw [← Option.some.inj hs]; rfl)
    hstack hdg
    (fun vm' hW => by
      simp only [fmSE, Cond.before_and, Bool.and_eq_true]
      refine ⟨?_, rfl, rfl, rfl, ?_, ?_⟩
      · have q := hcode
        rw [← Cond.code_setVm hW.alike] at q
        simp only [Cond.before, Cond.holds, Cond.value, State.methodNamed?, State.vm_setVm] at q ⊢
        exact q
      · simp [Cond.before, Cond.holds, Cond.value, Term.eval]
      · simp [Cond.before, Cond.holds, Cond.value, Term.eval])
    (by show 0 + 1 ≤ R.frames; omega) (by show 2 * g.monitorRoom + (rest.map fun v => v.category).sum + (3 + 11) + 0 ≤ R.locals; omega) (by show cells + 0 ≤ R.cells; omega) (by show slots + 0 ≤ R.slots; omega)
  obtain rfl : v = some (.int (fmE a b)) := by
    rcases v with _ | w
    · simp [fmSE, Cond.after, Cond.holds, Cond.value, Term.eval] at hpost
    · cases w <;> simp [fmSE, Cond.after, Cond.holds, Cond.value, Term.eval] at hpost
      rw [hpost]
  exact ⟨T', X', fun target h => hstep target h⟩
theorem th_floorModE (hexec : p.tables.exec = Jvm.exec) (hb : c.code = cc) (hml : c.maxLocals = ls.size) {own : String} {index : Nat} (hown : s.vm.findClass own = some m.cls) (hlink : (Cond.methodLink own index fmX).before args s = true) (hstat : (Cond.static fmX).before args s = true) (hini : (Cond.initialized "java/lang/Math").before args s = true) (hcode : (Cond.code fmX cJ9_floorMod_7cf53 3 (some .int)).before args s = true)
    (hframes : 1 ≤ R.frames) (hlocals : (rest.map fun v => v.category).sum + 14 ≤ R.locals) (hc : cells ≤ R.cells) (hs : slots ≤ R.slots) {x y : Int32} (hy : ¬ y = 0) (hdg : decode cc pc = .ok (.invokestatic index, 3))
    (kk : W p l e R s m args below meth c H locs cells slots Q (F0 m (pc + 3) ls (.int (fmE x y) :: rest))) : W p l e R s m args below meth c H locs cells slots Q (F0 m pc ls (.int y :: .int x :: rest)) := by
  intro T hT X
  obtain ⟨vm', X', st⟩ := fm_VE X hexec hown hlink hstat hini hcode (g := F0 m pc ls (.int y :: .int x :: rest)) rfl (by rw [hml]) (a := x) (b := y) hy (rest := rest) rfl (by rw [hb]; exact hdg) hframes (by show 2 * 0 + _ + 14 ≤ _; omega) hc hs
  obtain ⟨t, a1, b1⟩ := kk (T.setVm vm') hT X'
  exact ⟨t, st t a1, b1⟩
end FME

theorem fmE_8k : ∀ k : Fin 15, (fmE (Int32.ofInt ((k.val : Int) - 7)) 8).toInt = ((k.val : Int) - 7) % 8 := by decide +kernel
theorem fmE_8 {a : Int32} (h : -7 ≤ a.toInt ∧ a.toInt ≤ 7) : (fmE a 8).toInt = a.toInt % 8 := by
  have e := fmE_8k ⟨(a.toInt + 7).toNat, by omega⟩
  have e1 : (((a.toInt + 7).toNat : Nat) : Int) - 7 = a.toInt := by omega
  have e2 : (fmE (Int32.ofInt ((((a.toInt + 7).toNat : Nat) : Int) - 7)) 8).toInt = ((((a.toInt + 7).toNat : Nat) : Int) - 7) % 8 := e
  rw [e1, Int32.ofInt_toInt] at e2
  exact e2
section
/-! ===== the reference's finding ===== -/
theorem st_x : ∀ w : Nat, w < 8 → stX w = if w = 0 ∨ w = 4 then 0 else if w < 4 then 1 else -1 := by decide
theorem st_y : ∀ w : Nat, w < 8 → stY w = if w = 2 ∨ w = 6 then 0 else if 2 < w ∧ w < 6 then 1 else -1 := by decide
theorem st_xv {a : Int32} {v : Int} (h : 0 ≤ a.toInt ∧ a.toInt ≤ 7) (hv : (a.toInt = 0 ∨ a.toInt = 4) ∧ v = 0 ∨ (¬ a.toInt = 0 ∧ a.toInt < 4) ∧ v = 1 ∨ (4 < a.toInt) ∧ v = -1) : v = stX a.toNatClampNeg := by
  rw [st_x _ (by rw [tn_]; omega), tn_]
  by_cases c : a.toInt.toNat = 0 ∨ a.toInt.toNat = 4
  · rw [if_pos c]
    omega
  · rw [if_neg c]
    by_cases c2 : a.toInt.toNat < 4
    · rw [if_pos c2]
      omega
    · rw [if_neg c2]
      omega
theorem st_yv {a : Int32} {v : Int} (h : 0 ≤ a.toInt ∧ a.toInt ≤ 7) (hv : (a.toInt = 2 ∨ a.toInt = 6) ∧ v = 0 ∨ (2 < a.toInt ∧ a.toInt < 6) ∧ v = 1 ∨ (a.toInt < 2 ∨ 6 < a.toInt) ∧ v = -1) : v = stY a.toNatClampNeg := by
  rw [st_y _ (by rw [tn_]; omega), tn_]
  by_cases c : a.toInt.toNat = 2 ∨ a.toInt.toNat = 6
  · rw [if_pos c]
    omega
  · rw [if_neg c]
    by_cases c2 : 2 < a.toInt.toNat ∧ a.toInt.toNat < 6
    · rw [if_pos c2]
      omega
    · rw [if_neg c2]
      omega
def mPR (E : Nat → va_E) (p : Nat) : Nat := (xi (E 46) p).toNatClampNeg
/-- there is no FAULT at a pair of listed STATES -/
def XMp (E : Nat → va_E) (p : Nat) (who q : Int32) (i j : Nat) : Prop := ¬ wML (pL (xi (E 16) (mPR E p)).toNatClampNeg (xi (E 17) (mPR E p)).toInt (xi (E 18) (mPR E p)).toInt (rI E 56 i) (rI E 57 i) (rI E 58 i) (rI E 56 (128 + j)) (rI E 57 (128 + j)) (rI E 58 (128 + j))) E (if who.toInt = 0 then 97 else 98) (lawM E (xi (E 13) (mPR E p)) q) = 0
def FinM (E : Nat → va_E) (p : Nat) (who q r : Int32) : Prop := ∃ al wr : Int, Cnt al wr (∃ i j, prc (xi (E 59) 1).toNatClampNeg (xi (E 59) 0).toNatClampNeg 0 i j) (∀ i j, prc (xi (E 59) 1).toNatClampNeg (xi (E 59) 0).toNatClampNeg 0 i j → XMp E p who q i j) ∧ (r.toInt = 1 ↔ (¬ al = 0 ∧ wr = al))
theorem lM_e {E : Nat → va_E} {p i j : Nat} {c8 c9 c10 c11 c12 c3 c13 : Int32} (h8 : c8.toInt = far4 (rI E 56 i) (rI E 57 i) (rI E 56 (128 + j)) (rI E 57 (128 + j))) (h9 : c9.toInt = sb (rI E 58 i) (((xi (E 16) (mPR E p)).toNatClampNeg : Nat) : Int)) (h10 : c10.toInt = sb (rI E 58 (128 + j)) (((xi (E 16) (mPR E p)).toNatClampNeg : Nat) : Int)) (h11 : c11.toInt = upw (stX (xi (E 16) (mPR E p)).toNatClampNeg) (stY (xi (E 16) (mPR E p)).toNatClampNeg) (rI E 56 i) (rI E 57 i) (rI E 56 (128 + j)) (rI E 57 (128 + j))) (h12 : c12.toInt = far4 (rI E 56 i) (rI E 57 i) (xi (E 17) (mPR E p)).toInt (xi (E 18) (mPR E p)).toInt) (h3 : c3.toInt = far4 (rI E 56 (128 + j)) (rI E 57 (128 + j)) (xi (E 17) (mPR E p)).toInt (xi (E 18) (mPR E p)).toInt) (h13 : c13.toInt = eqI (rI E 58 i) (rI E 58 (128 + j))) : lset (lset (lset (lset (lset (lset (lset lz 8 c8) 9 c9) 10 c10) 11 c11) 12 c12) 3 c3) 13 c13 = pL (xi (E 16) (mPR E p)).toNatClampNeg (xi (E 17) (mPR E p)).toInt (xi (E 18) (mPR E p)).toInt (rI E 56 i) (rI E 57 i) (rI E 58 i) (rI E 56 (128 + j)) (rI E 57 (128 + j)) (rI E 58 (128 + j)) := by
  rw [ls_ord, fI_of h8, fI_of h9, fI_of h10, fI_of h11, fI_of h12, fI_of h3, fI_of h13]
  rfl
end

