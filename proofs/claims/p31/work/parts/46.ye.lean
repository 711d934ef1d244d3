

/-! ===== how the class joins two numbers; the class's stack ===== -/
theorem lgc {x y : Int64} {r : Int32} (e : r = lg_cmp x y) : (0 < r.toInt ∧ y.toInt < x.toInt) ∨ (r.toInt = 0 ∧ x.toInt = y.toInt) ∨ (r.toInt < 0 ∧ x.toInt < y.toInt) := by
  rw [e]
  unfold lg_cmp
  by_cases h : x > y
  · rw [if_pos h]
    exact Or.inl ⟨by decide, Int64.lt_iff_toInt_lt.mp h⟩
  · have h' : ¬ y.toInt < x.toInt := fun q => h (Int64.lt_iff_toInt_lt.mpr q)
    by_cases h1 : x = y
    · rw [if_neg h, if_pos h1]
      exact Or.inr (Or.inl ⟨rfl, by rw [h1]⟩)
    · have h1' : ¬ x.toInt = y.toInt := fun q => h1 (Int64.toInt_inj.mp q)
      rw [if_neg h, if_neg h1]
      exact Or.inr (Or.inr ⟨by decide, by omega⟩)
theorem cl_hi {n : Int} (h : 10000000 ≤ n) : (10000000 : Int32) = cl n := cl_of (by
  have z : (10000000 : Int32).toInt = 10000000 := rfl
  omega)
theorem cl_lo {n : Int} (h : n ≤ -10000000) : (-10000000 : Int32) = cl n := cl_of (by
  have z : (-10000000 : Int32).toInt = -10000000 := rfl
  omega)
theorem cl_mid {x : Int64} {r : Int32} {n : Int} (hx : x.toInt = n) (h : n ≤ 10000000) (h' : -10000000 ≤ n) (e : r = x.toInt32) : r = cl n := cl_of (by
  rw [e, Int64.toInt_toInt32, ti_bm (by omega) (by omega)]
  omega)
theorem ti_dvq {a b q : Int32} (ha : -16777216 ≤ a.toInt ∧ a.toInt ≤ 16777215) (e : q = a / b) : q.toInt = a.toInt.tdiv b.toInt := by
  have hq : (a.toInt.tdiv b.toInt).natAbs ≤ a.toInt.natAbs := Int.natAbs_tdiv_le_natAbs _ _
  rw [e, Int32.toInt_div]
  exact ti_bm (by omega) (by omega)
theorem cl_in (n : Int) : -10000000 ≤ (cl n).toInt ∧ (cl n).toInt ≤ 10000000 := by
  have h : (cl n).toInt = max (-10000000) (min 10000000 n) := by
    unfold cl
    rw [Int32.toInt_ofInt]
    exact ti_bm (by omega) (by omega)
  omega
/-- a stack of numbers in their bounds -/
def B7 (x : Int32) : Prop := -16777216 ≤ x.toInt ∧ x.toInt ≤ 16777215
theorem cl_b (n : Int) : B7 (cl n) := by
  have h := cl_in n
  exact ⟨by omega, by omega⟩
theorem b24 {x : BitVec 32} : (-16777216 ≤ x.toInt ∧ x.toInt ≤ 16777215) ↔ (x.sshiftRight 24 = 0#32 ∨ x.sshiftRight 24 = -1#32) := by
  have h : (x.sshiftRight 24).toInt = x.toInt / 16777216 := by
    rw [BitVec.toInt_sshiftRight, Int.shiftRight_eq_div_pow]
    rfl
  have z0 : (0#32).toInt = 0 := by decide
  have z1 : (-1#32).toInt = -1 := by decide
  constructor
  · intro q
    rcases (show x.toInt / 16777216 = 0 ∨ x.toInt / 16777216 = -1 by omega) with e | e
    · exact Or.inl (BitVec.toInt_inj.mp (by omega))
    · exact Or.inr (BitVec.toInt_inj.mp (by omega))
  · intro q
    rcases q with e | e
    · have e2 := congrArg BitVec.toInt e
      omega
    · have e2 := congrArg BitVec.toInt e
      omega
theorem b24_and {x y : Int32} (hx : B7 x) (hy : B7 y) : B7 (x &&& y) := by
  refine b24.mpr ?_
  show (x.toBitVec &&& y.toBitVec).sshiftRight 24 = 0#32 ∨ (x.toBitVec &&& y.toBitVec).sshiftRight 24 = -1#32
  rw [BitVec.sshiftRight_and_distrib]
  rcases b24.mp hx with e | e <;> rcases b24.mp hy with e1 | e1 <;> rw [e, e1] <;> decide
theorem b24_or {x y : Int32} (hx : B7 x) (hy : B7 y) : B7 (x ||| y) := by
  refine b24.mpr ?_
  show (x.toBitVec ||| y.toBitVec).sshiftRight 24 = 0#32 ∨ (x.toBitVec ||| y.toBitVec).sshiftRight 24 = -1#32
  rw [BitVec.sshiftRight_or_distrib]
  rcases b24.mp hx with e | e <;> rcases b24.mp hy with e1 | e1 <;> rw [e, e1] <;> decide
def Bds (st : List Int32) : Prop := ∀ x ∈ st, B7 x
/-- the letters (class) -/
def cL (E : Nat → va_E) : Nat → Int32 := fun p => if p < 14 then xi (E 19) p else 0
/-- a piece of a row -/
def sg (f : Nat → Int) (a b : Nat) : List Int := (List.range' a (b - a)).map f
theorem sg_nil {f : Nat → Int} {a b : Nat} (h : b ≤ a) : sg f a b = [] := by
  unfold sg
  rw [show b - a = 0 by omega]
  rfl
theorem sg_s {f : Nat → Int} {a b : Nat} (h : a ≤ b) : sg f a (b + 1) = sg f a b ++ [f b] := by
  unfold sg
  rw [show b + 1 - a = (b - a) + 1 by omega, List.range'_concat, List.map_append]
  simp only [List.map_cons, List.map_nil]
  rw [show a + 1 * (b - a) = b by omega]
/-- the row 20 holds the stack st, its top last -/
def StR (E : Nat → va_E) (st : List Int32) : Prop := ∀ j, j < st.length → xi (E 20) j = st.getD (st.length - 1 - j) 0
theorem StR.nil {E : Nat → va_E} : StR E [] := fun j h => absurd h (Nat.not_lt_zero j)
theorem StR.push {E E1 : Nat → va_E} {st : List Int32} {x : Int32} (h : StR E st) (p : Pw E E1 20 st.length (.int x)) : StR E1 (x :: st) := fun j hj => by
  simp only [List.length_cons] at hj
  by_cases e : j = st.length
  · rw [e, show xi (E1 20) st.length = x from vi_e p.1]
    simp only [List.length_cons]
    rw [show st.length + 1 - 1 - st.length = 0 by omega]
    rfl
  · rw [show xi (E1 20) j = xi (E 20) j from congrArg vi (p.2 20 j (by omega)), h j (by omega)]
    simp only [List.length_cons]
    rw [show st.length + 1 - 1 - j = (st.length - 1 - j) + 1 by omega]
    rfl
theorem StR.set {E E1 : Nat → va_E} {st : List Int32} {a x : Int32} (h : StR E (a :: st)) (p : Pw E E1 20 st.length (.int x)) : StR E1 (x :: st) := StR.push (fun j hj => by
  have h1 := h j (by simp only [List.length_cons]; omega)
  rw [h1]
  simp only [List.length_cons]
  rw [show st.length + 1 - 1 - j = (st.length - 1 - j) + 1 by omega]
  rfl) p
theorem StR.top {E : Nat → va_E} {st : List Int32} {a : Int32} (h : StR E (a :: st)) : xi (E 20) st.length = a := by
  rw [h st.length (by simp only [List.length_cons]; omega)]
  simp only [List.length_cons]
  rw [show st.length + 1 - 1 - st.length = 0 by omega]
  rfl
theorem StR.tl {E : Nat → va_E} {st : List Int32} {a : Int32} (h : StR E (a :: st)) : StR E st := fun j hj => by
  rw [h j (by simp only [List.length_cons]; omega)]
  simp only [List.length_cons]
  rw [show st.length + 1 - 1 - j = (st.length - 1 - j) + 1 by omega]
  rfl
theorem StR.kp {E E1 : Nat → va_E} {st : List Int32} (h : StR E st) (hk : ∀ j, xi (E1 20) j = xi (E 20) j) : StR E1 st := fun j hj => by
  rw [hk, h j hj]
/-- the class's run: what stands on its stack behind the steps a .. i - 1 -/
def RunI (L : Nat → Int32) (f : Nat → Int) (a : Nat) (E : Nat → va_E) (i h : Nat) : Prop := a ≤ i ∧ StR E (X L (sg f a i) []) ∧ (X L (sg f a i) []).length = h ∧ Bds (X L (sg f a i) [])
section RN
variable {L : Nat → Int32} {f : Nat → Int} {a : Nat} {E E1 : Nat → va_E} {i h : Nat} {v : Int32}
theorem RunI.start : RunI L f a E a 0 := by
  unfold RunI
  rw [sg_nil (Nat.le_refl a)]
  exact ⟨Nat.le_refl a, StR.nil, rfl, fun x hx => absurd hx (List.not_mem_nil)⟩
theorem X_s (ha : a ≤ i) : X L (sg f a (i + 1)) [] = x1 L (f i) (X L (sg f a i) []) := by
  rw [sg_s ha, X_app]
  rfl
theorem B7_01 {c : Prop} [Decidable c] : B7 (if c then 1 else 0) := by
  by_cases q : c
  · rw [if_pos q]
    exact ⟨by decide, by decide⟩
  · rw [if_neg q]
    exact ⟨by decide, by decide⟩
theorem RunI.push (hr : RunI L f a E i h) (hc : -100 < f i) (hv : v = if 0 ≤ f i then Int32.ofInt (f i) else L (-1 - f i).toNat) (hb : B7 v) (p : Pw E E1 20 h (.int v)) : RunI L f a E1 (i + 1) (h + 1) := by
  obtain ⟨h1, h2, h3, h4⟩ := hr
  have e : X L (sg f a (i + 1)) [] = v :: X L (sg f a i) [] := by
    rw [X_s h1]
    unfold x1
    rw [if_neg (by omega), hv]
  unfold RunI
  rw [e]
  rw [← h3] at p
  refine ⟨by omega, h2.push p, by rw [List.length_cons, h3], fun x hx => ?_⟩
  rcases List.mem_cons.mp hx with q | q
  · rw [q]
    exact hb
  · exact h4 x q
theorem RunI.not0 (hr : RunI L f a E i h) (hc : f i = -133) (h0 : h = 0) : RunI L f a E (i + 1) h := by
  obtain ⟨h1, h2, h3, h4⟩ := hr
  have e0 : X L (sg f a i) [] = [] := List.length_eq_zero_iff.mp (h3.trans h0)
  have e : X L (sg f a (i + 1)) [] = X L (sg f a i) [] := by
    rw [X_s h1, e0]
    unfold x1
    rw [if_pos (by omega), if_pos (by omega)]
  unfold RunI
  rw [e]
  exact ⟨by omega, h2, h3, h4⟩
theorem RunI.not (hr : RunI L f a E i (h + 1)) (hc : f i = -133) (hv : v = if xi (E 20) h = 0 then 1 else 0) (p : Pw E E1 20 h (.int v)) : RunI L f a E1 (i + 1) (h + 1) := by
  obtain ⟨h1, h2, h3, h4⟩ := hr
  rcases hs : X L (sg f a i) [] with _ | ⟨b, st⟩
  · rw [hs] at h3
    exact absurd h3 (by simp only [List.length_nil]; omega)
  · rw [hs] at h2 h3 h4
    have l : st.length = h := by
      simp only [List.length_cons] at h3
      omega
    have e : X L (sg f a (i + 1)) [] = v :: st := by
      rw [X_s h1, hs]
      unfold x1
      rw [if_pos (by omega), if_pos (by omega), hv, ← l, h2.top]
    unfold RunI
    rw [e]
    rw [← l] at p
    refine ⟨by omega, h2.set p, by rw [List.length_cons, l], fun x hx => ?_⟩
    rcases List.mem_cons.mp hx with q | q
    · rw [q, hv]
      exact B7_01
    · exact h4 x (List.mem_cons_of_mem _ q)
theorem RunI.join0 (hr : RunI L f a E i h) (hc : f i ≤ -100) (hc3 : ¬ f i = -133) (h0 : h < 2) : RunI L f a E (i + 1) h := by
  obtain ⟨h1, h2, h3, h4⟩ := hr
  have e : X L (sg f a (i + 1)) [] = X L (sg f a i) [] := by
    rw [X_s h1]
    unfold x1
    rw [if_pos hc, if_neg (by omega)]
    rcases hs : X L (sg f a i) [] with _ | ⟨b, _ | ⟨c, st⟩⟩
    · rfl
    · rfl
    · rw [hs] at h3
      simp only [List.length_cons] at h3
      omega
  unfold RunI
  rw [e]
  exact ⟨by omega, h2, h3, h4⟩
theorem jn_b {s : Int} {x y : Int32} (hx : B7 x) (hy : B7 y) : B7 (jn s x y) := by
  unfold jn
  by_cases c1 : s = 43
  · rw [if_pos c1]
    exact cl_b _
  rw [if_neg c1]
  by_cases c2 : s = 45
  · rw [if_pos c2]
    exact cl_b _
  rw [if_neg c2]
  by_cases c3 : s = 42
  · rw [if_pos c3]
    exact cl_b _
  rw [if_neg c3]
  by_cases c4 : s = 47
  · rw [if_pos c4]
    by_cases c5 : y = 0
    · rw [if_pos c5]
      exact ⟨by decide, by decide⟩
    · rw [if_neg c5]
      exact cl_b _
  rw [if_neg c4]
  by_cases c6 : s = 61
  · rw [if_pos c6]
    exact B7_01
  rw [if_neg c6]
  by_cases c7 : s = 60
  · rw [if_pos c7]
    exact B7_01
  rw [if_neg c7]
  by_cases c8 : s = 62
  · rw [if_pos c8]
    exact B7_01
  rw [if_neg c8]
  by_cases c9 : s = 38
  · rw [if_pos c9]
    exact b24_and hx hy
  · rw [if_neg c9]
    exact b24_or hx hy
theorem RunI.join (hr : RunI L f a E i (h + 2)) (hc : f i ≤ -100) (hc3 : ¬ f i = -133) (hv : v = jn (-100 - f i) (xi (E 20) h) (xi (E 20) (h + 1))) (p : Pw E E1 20 h (.int v)) : RunI L f a E1 (i + 1) (h + 1) := by
  obtain ⟨h1, h2, h3, h4⟩ := hr
  rcases hs : X L (sg f a i) [] with _ | ⟨b, _ | ⟨c, st⟩⟩
  · rw [hs] at h3
    simp only [List.length_nil] at h3
    omega
  · rw [hs] at h3
    simp only [List.length_cons, List.length_nil] at h3
    omega
  · rw [hs] at h2 h3 h4
    have l : st.length = h := by
      simp only [List.length_cons] at h3
      omega
    have tb : xi (E 20) (h + 1) = b := by
      have q := h2.top
      simp only [List.length_cons] at q
      rw [l] at q
      exact q
    have tc : xi (E 20) h = c := by
      have q := h2.tl.top
      rw [l] at q
      exact q
    have e : X L (sg f a (i + 1)) [] = v :: st := by
      rw [X_s h1, hs]
      unfold x1
      rw [if_pos hc, if_neg (by omega), hv, tb, tc]
    unfold RunI
    rw [e]
    rw [← l] at p
    refine ⟨by omega, h2.tl.set p, by rw [List.length_cons, l], fun x hx => ?_⟩
    rcases List.mem_cons.mp hx with q | q
    · rw [q, hv, tb, tc]
      exact jn_b (h4 c (List.mem_cons_of_mem _ (List.mem_cons_self))) (h4 b (List.mem_cons_self))
    · exact h4 x (List.mem_cons_of_mem _ (List.mem_cons_of_mem _ q))
theorem RunI.kp {E1 : Nat → va_E} (hr : RunI L f a E i h) (hk : ∀ j, xi (E1 20) j = xi (E 20) j) : RunI L f a E1 i h := ⟨hr.1, hr.2.1.kp hk, hr.2.2.1, hr.2.2.2⟩
/-- what run answers -/
def rT (st : List Int32) : Int32 := st.headD 0
theorem RunI.out0 (hr : RunI L f a E i h) (h0 : h = 0) : (0 : Int32) = rT (X L (sg f a i) []) := by
  rw [List.length_eq_zero_iff.mp (hr.2.2.1.trans h0)]
  rfl
theorem RunI.out (hr : RunI L f a E i (h + 1)) : xi (E 20) h = rT (X L (sg f a i) []) := by
  obtain ⟨h1, h2, h3, h4⟩ := hr
  rcases hs : X L (sg f a i) [] with _ | ⟨b, st⟩
  · rw [hs] at h3
    simp only [List.length_nil] at h3
    omega
  · rw [hs] at h2 h3
    have l : st.length = h := by
      simp only [List.length_cons] at h3
      omega
    have q := h2.top
    rw [l] at q
    exact q
end RN
theorem jn_o {s : Int} {a b r : Int32} (h1 : ¬ s = 43) (h2 : ¬ s = 45) (h3 : ¬ s = 42) (h4 : ¬ s = 47) (h5 : ¬ s = 61) (h6 : ¬ s = 60) (h7 : ¬ s = 62) (h8 : ¬ s = 38) (e : r = a ||| b) : r = jn s a b := by
  unfold jn
  rw [if_neg h1, if_neg h2, if_neg h3, if_neg h4, if_neg h5, if_neg h6, if_neg h7, if_neg h8]
  exact e
section
def v_joinX : List Cond := .code yX7_join cX7_join 5 (some .int) :: vA
abbrev rm_joinX : Room := { frames := 0, cells := 0, slots := 0, locals := 0 }
set_option maxHeartbeats 4000000 in
set_option maxRecDepth 100000 in
theorem q_joinX (l : Launch) (a0 : Int32) (a1 : Int32) (a2 : Int32) (hh0 : -16777216 ≤ a1.toInt ∧ a1.toInt ≤ 16777215) : Met l yX7_join v_joinX rm_joinX (va_Pc [.int a0, .int a1, .int a2] (fun _ => True)) (va_Qi (S := Unit) (fun r _ => (r = jn a0.toInt a1 a2)) (fun _ _ => True) (fun _ => False)) 0 0 (fun _ => False) := by
  refine Met.ofW (cc := cX7_join) (maxL := 5) (ret := (some .int)) (by decide) rfl ?_
  intro p e s m args below meth c s₁ B hml hv
  obtain ⟨hargs, -⟩ := hv
  have hx := B.exec
  have hb := B.bytes
  have hr := B.returns
  have hts := atoms_spec (ws := v_joinX) B.pre
  have hown : s.vm.findClass RX7 = some m.cls := findClass_of_methodNamed B.named
  have hlocks := B.notSynchronized
  have hS : va_S (fun _ : Nat => False) s.heap s.heap [] := va_S.rf
  have hl := lv_entry ([.int a0, .int a1, .int a2]) (n := 5) (Nat.le_of_ble_eq_true rfl)
  obtain ⟨Q, hQ⟩ : ∃ Q, Q = MQ below (va_Qi (S := Unit) (fun r _ => (r = jn a0.toInt a1 a2)) (fun _ _ => True) (fun _ => False)) args s 0 0 (fun _ => False) := ⟨_, rfl⟩
  rw [← hQ, show entryFrame m args 5 = _ from (congrArg (fun z => entryFrame m z 5) hargs).trans (lg_entry_eq _ _ _)]
  generalize (lg_sl ([.int a0, .int a1, .int a2]) ++ List.replicate (5 - (lg_sl ([.int a0, .int a1, .int a2])).length) Slot.unset).toArray = ls at hl ⊢
  have hl : lv_has ls 5 [(0, .int a0), (1, .int a1), (2, .int a2)] := hl
  refine lv_iload_n hx hb dX7_join_0 rfl (lv_at hl 0 rfl) ?_
  rcases (show (a0.toInt < 38 ∨ 62 < a0.toInt) ∨ a0.toInt = 38 ∨ a0.toInt = 39 ∨ a0.toInt = 40 ∨ a0.toInt = 41 ∨ a0.toInt = 42 ∨ a0.toInt = 43 ∨ a0.toInt = 44 ∨ a0.toInt = 45 ∨ a0.toInt = 46 ∨ a0.toInt = 47 ∨ a0.toInt = 48 ∨ a0.toInt = 49 ∨ a0.toInt = 50 ∨ a0.toInt = 51 ∨ a0.toInt = 52 ∨ a0.toInt = 53 ∨ a0.toInt = 54 ∨ a0.toInt = 55 ∨ a0.toInt = 56 ∨ a0.toInt = 57 ∨ a0.toInt = 58 ∨ a0.toInt = 59 ∨ a0.toInt = 60 ∨ a0.toInt = 61 ∨ a0.toInt = 62 by omega) with c1 | c1 | c1 | c1 | c1 | c1 | c1 | c1 | c1 | c1 | c1 | c1 | c1 | c1 | c1 | c1 | c1 | c1 | c1 | c1 | c1 | c1 | c1 | c1 | c1 | c1
  · --None
    refine lv_tableOut (tgt := 196) hx hb dX7_join_1 c1 (by decide) ?_
    refine lv_iload_n hx hb dX7_join_196 rfl (lv_at hl 1 rfl) ?_
    refine lv_iload_n hx hb dX7_join_197 rfl (lv_at hl 2 rfl) ?_
    refine lv_ior hx hb dX7_join_198 ?_
    refine lv_topi (fun y2 ey2 => ?_)
    rw [hQ]
    exact W.iret (v := y2) hx hb hr (fun t ht hW => ⟨⟨y2, (), rfl, jn_o (by omega) (by omega) (by omega) (by omega) (by omega) (by omega) (by omega) (by omega) ey2, trivial⟩, hS.F ht⟩) hS.2.2 dX7_join_199
  · --38
    refine lv_tableIn (off := 191) (tgt := 192) hx hb dX7_join_1 (by omega) (by omega) (by rw [c1]; rfl) (by decide) ?_
    refine lv_iload_n hx hb dX7_join_192 rfl (lv_at hl 1 rfl) ?_
    refine lv_iload_n hx hb dX7_join_193 rfl (lv_at hl 2 rfl) ?_
    refine lv_iand hx hb dX7_join_194 ?_
    refine lv_topi (fun y3 ey3 => ?_)
    rw [hQ]
    exact W.iret (v := y3) hx hb hr (fun t ht hW => ⟨⟨y3, (), rfl, (by rw [show a0.toInt = 38 by omega]; exact ey3), trivial⟩, hS.F ht⟩) hS.2.2 dX7_join_195
  · --39
    refine lv_tableIn (off := 195) (tgt := 196) hx hb dX7_join_1 (by omega) (by omega) (by rw [c1]; rfl) (by decide) ?_
    refine lv_iload_n hx hb dX7_join_196 rfl (lv_at hl 1 rfl) ?_
    refine lv_iload_n hx hb dX7_join_197 rfl (lv_at hl 2 rfl) ?_
    refine lv_ior hx hb dX7_join_198 ?_
    refine lv_topi (fun y4 ey4 => ?_)
    rw [hQ]
    exact W.iret (v := y4) hx hb hr (fun t ht hW => ⟨⟨y4, (), rfl, jn_o (by omega) (by omega) (by omega) (by omega) (by omega) (by omega) (by omega) (by omega) ey4, trivial⟩, hS.F ht⟩) hS.2.2 dX7_join_199
  · --40
    refine lv_tableIn (off := 195) (tgt := 196) hx hb dX7_join_1 (by omega) (by omega) (by rw [c1]; rfl) (by decide) ?_
    refine lv_iload_n hx hb dX7_join_196 rfl (lv_at hl 1 rfl) ?_
    refine lv_iload_n hx hb dX7_join_197 rfl (lv_at hl 2 rfl) ?_
    refine lv_ior hx hb dX7_join_198 ?_
    refine lv_topi (fun y5 ey5 => ?_)
    rw [hQ]
    exact W.iret (v := y5) hx hb hr (fun t ht hW => ⟨⟨y5, (), rfl, jn_o (by omega) (by omega) (by omega) (by omega) (by omega) (by omega) (by omega) (by omega) ey5, trivial⟩, hS.F ht⟩) hS.2.2 dX7_join_199
  · --41
    refine lv_tableIn (off := 195) (tgt := 196) hx hb dX7_join_1 (by omega) (by omega) (by rw [c1]; rfl) (by decide) ?_
    refine lv_iload_n hx hb dX7_join_196 rfl (lv_at hl 1 rfl) ?_
    refine lv_iload_n hx hb dX7_join_197 rfl (lv_at hl 2 rfl) ?_
    refine lv_ior hx hb dX7_join_198 ?_
    refine lv_topi (fun y6 ey6 => ?_)
    rw [hQ]
    exact W.iret (v := y6) hx hb hr (fun t ht hW => ⟨⟨y6, (), rfl, jn_o (by omega) (by omega) (by omega) (by omega) (by omega) (by omega) (by omega) (by omega) ey6, trivial⟩, hS.F ht⟩) hS.2.2 dX7_join_199
  · --42
    refine lv_tableIn (off := 133) (tgt := 134) hx hb dX7_join_1 (by omega) (by omega) (by rw [c1]; rfl) (by decide) ?_
    refine lv_iload_n hx hb dX7_join_134 rfl (lv_at hl 1 rfl) ?_
    refine lv_i2l hx hb dX7_join_135 rfl ?_
    refine lv_topl (fun y7 ey7 => ?_)
    refine lv_iload_n hx hb dX7_join_136 rfl (lv_at hl 2 rfl) ?_
    refine lv_i2l hx hb dX7_join_137 rfl ?_
    refine lv_topl (fun y8 ey8 => ?_)
    refine lv_lmul hx hb dX7_join_138 ?_
    refine lv_topl (fun y9 ey9 => ?_)
    refine lv_lstore_n (lv' := [(3, .long y9), (0, .int a0), (1, .int a1), (2, .int a2)]) hx hb dX7_join_139 rfl hl (by decide) rfl (fun ls hl => ?_)
    refine lv_goto (tgt := 200) hx hb dX7_join_140 (by decide) ?_
    refine lv_lload_n hx hb dX7_join_200 rfl (lv_at hl 0 rfl) ?_
    refine lv_ldc2 hx hb hown (hts _ (vA_in _ _ (in_7 _ (zs16 (zs1 (zs1 (zs0))))))) dX7_join_201 ?_
    refine lv_topl (fun y10 ey10 => ?_)
    refine W.lcmp hx hb dX7_join_204 ?_
    refine lv_topi (fun y11 ey11 => ?_)
    refine lv_if_le (tgt := 213) hx hb dX7_join_205 (by decide) (fun c12 => ?_) (fun c12 => ?_)
    · --205 taken
      have t13 : y11.toInt ≤ 0 := ti_le c12
      have i14 : -2147483648 ≤ y11.toInt ∧ y11.toInt ≤ 0 := iv_le_l t13 (iv_all _) (il_ 0) (by decide)
      refine lv_lload_n hx hb dX7_join_213 rfl (lv_at hl 0 rfl) ?_
      refine lv_ldc2 hx hb hown (hts _ (vA_in _ _ (in_7 _ (zs16 (zs4 (zs0)))))) dX7_join_214 ?_
      refine lv_topl (fun y15 ey15 => ?_)
      refine W.lcmp hx hb dX7_join_217 ?_
      refine lv_topi (fun y16 ey16 => ?_)
      refine lv_if_ge (tgt := 226) hx hb dX7_join_218 (by decide) (fun c17 => ?_) (fun c17 => ?_)
      · --218 taken
        have t18 : (0 : Int) ≤ y16.toInt := ti_le c17
        have i19 : 0 ≤ y16.toInt ∧ y16.toInt ≤ 2147483647 := iv_le_r t18 (il_ 0) (iv_all _) (by decide)
        refine lv_lload_n hx hb dX7_join_226 rfl (lv_at hl 0 rfl) ?_
        refine lv_l2i hx hb dX7_join_227 rfl ?_
        refine lv_topi (fun y20 ey20 => ?_)
        rw [hQ]
        exact W.iret (v := y20) hx hb hr (fun t ht hW => ⟨⟨y20, (), rfl, (by have jx : y9.toInt = a1.toInt * a2.toInt := tl_mul (ey9.trans (by rw [ey7, ey8])); have l1 : y10.toInt = 10000000 := (by rw [ey10]; decide); have c1 := lgc ey11; have l2 : y15.toInt = -10000000 := (by rw [ey15]; decide); have c2 := lgc ey16; rw [show a0.toInt = 42 by omega]; exact cl_mid jx (by omega) (by omega) ey20), trivial⟩, hS.F ht⟩) hS.2.2 dX7_join_228
      · --218 not
        have t21 : y16.toInt < 0 := ti_nle c17
        have i22 : -2147483648 ≤ y16.toInt ∧ y16.toInt ≤ -1 := iv_lt_l t21 (iv_all _) (il_ 0) (by decide)
        refine lv_ldc hx hb hown (hts _ (vA_in _ _ (in_7 _ (zs16 (zs4 (zs1 (zs0))))))) dX7_join_221 ?_
        refine lv_goto (tgt := 228) hx hb dX7_join_223 (by decide) ?_
        rw [hQ]
        exact W.iret (v := (-10000000)) hx hb hr (fun t ht hW => ⟨⟨(-10000000), (), rfl, (by have jx : y9.toInt = a1.toInt * a2.toInt := tl_mul (ey9.trans (by rw [ey7, ey8])); have l1 : y10.toInt = 10000000 := (by rw [ey10]; decide); have c1 := lgc ey11; have l2 : y15.toInt = -10000000 := (by rw [ey15]; decide); have c2 := lgc ey16; rw [show a0.toInt = 42 by omega]; exact cl_lo (by omega)), trivial⟩, hS.F ht⟩) hS.2.2 dX7_join_228
    · --205 not
      have t23 : (0 : Int) < y11.toInt := ti_nle c12
      have i24 : 1 ≤ y11.toInt ∧ y11.toInt ≤ 2147483647 := iv_lt_r t23 (il_ 0) (iv_all _) (by decide)
      refine lv_ldc hx hb hown (hts _ (vA_in _ _ (in_7 _ (zs16 (zs1 (zs1 (zs1 (zs0)))))))) dX7_join_208 ?_
      refine lv_goto (tgt := 228) hx hb dX7_join_210 (by decide) ?_
      rw [hQ]
      exact W.iret (v := 10000000) hx hb hr (fun t ht hW => ⟨⟨10000000, (), rfl, (by have jx : y9.toInt = a1.toInt * a2.toInt := tl_mul (ey9.trans (by rw [ey7, ey8])); have l1 : y10.toInt = 10000000 := (by rw [ey10]; decide); have c1 := lgc ey11; rw [show a0.toInt = 42 by omega]; exact cl_hi (by omega)), trivial⟩, hS.F ht⟩) hS.2.2 dX7_join_228
  · --43
    refine lv_tableIn (off := 115) (tgt := 116) hx hb dX7_join_1 (by omega) (by omega) (by rw [c1]; rfl) (by decide) ?_
    refine lv_iload_n hx hb dX7_join_116 rfl (lv_at hl 1 rfl) ?_
    refine lv_i2l hx hb dX7_join_117 rfl ?_
    refine lv_topl (fun y25 ey25 => ?_)
    refine lv_iload_n hx hb dX7_join_118 rfl (lv_at hl 2 rfl) ?_
    refine lv_i2l hx hb dX7_join_119 rfl ?_
    refine lv_topl (fun y26 ey26 => ?_)
    refine lv_ladd hx hb dX7_join_120 ?_
    refine lv_topl (fun y27 ey27 => ?_)
    refine lv_lstore_n (lv' := [(3, .long y27), (0, .int a0), (1, .int a1), (2, .int a2)]) hx hb dX7_join_121 rfl hl (by decide) rfl (fun ls hl => ?_)
    refine lv_goto (tgt := 200) hx hb dX7_join_122 (by decide) ?_
    refine lv_lload_n hx hb dX7_join_200 rfl (lv_at hl 0 rfl) ?_
    refine lv_ldc2 hx hb hown (hts _ (vA_in _ _ (in_7 _ (zs16 (zs1 (zs1 (zs0))))))) dX7_join_201 ?_
    refine lv_topl (fun y28 ey28 => ?_)
    refine W.lcmp hx hb dX7_join_204 ?_
    refine lv_topi (fun y29 ey29 => ?_)
    refine lv_if_le (tgt := 213) hx hb dX7_join_205 (by decide) (fun c30 => ?_) (fun c30 => ?_)
    · --205 taken
      have t31 : y29.toInt ≤ 0 := ti_le c30
      have i32 : -2147483648 ≤ y29.toInt ∧ y29.toInt ≤ 0 := iv_le_l t31 (iv_all _) (il_ 0) (by decide)
      refine lv_lload_n hx hb dX7_join_213 rfl (lv_at hl 0 rfl) ?_
      refine lv_ldc2 hx hb hown (hts _ (vA_in _ _ (in_7 _ (zs16 (zs4 (zs0)))))) dX7_join_214 ?_
      refine lv_topl (fun y33 ey33 => ?_)
      refine W.lcmp hx hb dX7_join_217 ?_
      refine lv_topi (fun y34 ey34 => ?_)
      refine lv_if_ge (tgt := 226) hx hb dX7_join_218 (by decide) (fun c35 => ?_) (fun c35 => ?_)
      · --218 taken
        have t36 : (0 : Int) ≤ y34.toInt := ti_le c35
        have i37 : 0 ≤ y34.toInt ∧ y34.toInt ≤ 2147483647 := iv_le_r t36 (il_ 0) (iv_all _) (by decide)
        refine lv_lload_n hx hb dX7_join_226 rfl (lv_at hl 0 rfl) ?_
        refine lv_l2i hx hb dX7_join_227 rfl ?_
        refine lv_topi (fun y38 ey38 => ?_)
        rw [hQ]
        exact W.iret (v := y38) hx hb hr (fun t ht hW => ⟨⟨y38, (), rfl, (by have jx : y27.toInt = a1.toInt + a2.toInt := tl_add (ey27.trans (by rw [ey25, ey26])); have l1 : y28.toInt = 10000000 := (by rw [ey28]; decide); have c1 := lgc ey29; have l2 : y33.toInt = -10000000 := (by rw [ey33]; decide); have c2 := lgc ey34; rw [show a0.toInt = 43 by omega]; exact cl_mid jx (by omega) (by omega) ey38), trivial⟩, hS.F ht⟩) hS.2.2 dX7_join_228
      · --218 not
        have t39 : y34.toInt < 0 := ti_nle c35
        have i40 : -2147483648 ≤ y34.toInt ∧ y34.toInt ≤ -1 := iv_lt_l t39 (iv_all _) (il_ 0) (by decide)
        refine lv_ldc hx hb hown (hts _ (vA_in _ _ (in_7 _ (zs16 (zs4 (zs1 (zs0))))))) dX7_join_221 ?_
        refine lv_goto (tgt := 228) hx hb dX7_join_223 (by decide) ?_
        rw [hQ]
        exact W.iret (v := (-10000000)) hx hb hr (fun t ht hW => ⟨⟨(-10000000), (), rfl, (by have jx : y27.toInt = a1.toInt + a2.toInt := tl_add (ey27.trans (by rw [ey25, ey26])); have l1 : y28.toInt = 10000000 := (by rw [ey28]; decide); have c1 := lgc ey29; have l2 : y33.toInt = -10000000 := (by rw [ey33]; decide); have c2 := lgc ey34; rw [show a0.toInt = 43 by omega]; exact cl_lo (by omega)), trivial⟩, hS.F ht⟩) hS.2.2 dX7_join_228
    · --205 not
      have t41 : (0 : Int) < y29.toInt := ti_nle c30
      have i42 : 1 ≤ y29.toInt ∧ y29.toInt ≤ 2147483647 := iv_lt_r t41 (il_ 0) (iv_all _) (by decide)
      refine lv_ldc hx hb hown (hts _ (vA_in _ _ (in_7 _ (zs16 (zs1 (zs1 (zs1 (zs0)))))))) dX7_join_208 ?_
      refine lv_goto (tgt := 228) hx hb dX7_join_210 (by decide) ?_
      rw [hQ]
      exact W.iret (v := 10000000) hx hb hr (fun t ht hW => ⟨⟨10000000, (), rfl, (by have jx : y27.toInt = a1.toInt + a2.toInt := tl_add (ey27.trans (by rw [ey25, ey26])); have l1 : y28.toInt = 10000000 := (by rw [ey28]; decide); have c1 := lgc ey29; rw [show a0.toInt = 43 by omega]; exact cl_hi (by omega)), trivial⟩, hS.F ht⟩) hS.2.2 dX7_join_228
  · --44
    refine lv_tableIn (off := 195) (tgt := 196) hx hb dX7_join_1 (by omega) (by omega) (by rw [c1]; rfl) (by decide) ?_
    refine lv_iload_n hx hb dX7_join_196 rfl (lv_at hl 1 rfl) ?_
    refine lv_iload_n hx hb dX7_join_197 rfl (lv_at hl 2 rfl) ?_
    refine lv_ior hx hb dX7_join_198 ?_
    refine lv_topi (fun y43 ey43 => ?_)
    rw [hQ]
    exact W.iret (v := y43) hx hb hr (fun t ht hW => ⟨⟨y43, (), rfl, jn_o (by omega) (by omega) (by omega) (by omega) (by omega) (by omega) (by omega) (by omega) ey43, trivial⟩, hS.F ht⟩) hS.2.2 dX7_join_199
  · --45
    refine lv_tableIn (off := 124) (tgt := 125) hx hb dX7_join_1 (by omega) (by omega) (by rw [c1]; rfl) (by decide) ?_
    refine lv_iload_n hx hb dX7_join_125 rfl (lv_at hl 1 rfl) ?_
    refine lv_i2l hx hb dX7_join_126 rfl ?_
    refine lv_topl (fun y44 ey44 => ?_)
    refine lv_iload_n hx hb dX7_join_127 rfl (lv_at hl 2 rfl) ?_
    refine lv_i2l hx hb dX7_join_128 rfl ?_
    refine lv_topl (fun y45 ey45 => ?_)
    refine lv_lsub hx hb dX7_join_129 ?_
    refine lv_topl (fun y46 ey46 => ?_)
    refine lv_lstore_n (lv' := [(3, .long y46), (0, .int a0), (1, .int a1), (2, .int a2)]) hx hb dX7_join_130 rfl hl (by decide) rfl (fun ls hl => ?_)
    refine lv_goto (tgt := 200) hx hb dX7_join_131 (by decide) ?_
    refine lv_lload_n hx hb dX7_join_200 rfl (lv_at hl 0 rfl) ?_
    refine lv_ldc2 hx hb hown (hts _ (vA_in _ _ (in_7 _ (zs16 (zs1 (zs1 (zs0))))))) dX7_join_201 ?_
    refine lv_topl (fun y47 ey47 => ?_)
    refine W.lcmp hx hb dX7_join_204 ?_
    refine lv_topi (fun y48 ey48 => ?_)
    refine lv_if_le (tgt := 213) hx hb dX7_join_205 (by decide) (fun c49 => ?_) (fun c49 => ?_)
    · --205 taken
      have t50 : y48.toInt ≤ 0 := ti_le c49
      have i51 : -2147483648 ≤ y48.toInt ∧ y48.toInt ≤ 0 := iv_le_l t50 (iv_all _) (il_ 0) (by decide)
      refine lv_lload_n hx hb dX7_join_213 rfl (lv_at hl 0 rfl) ?_
      refine lv_ldc2 hx hb hown (hts _ (vA_in _ _ (in_7 _ (zs16 (zs4 (zs0)))))) dX7_join_214 ?_
      refine lv_topl (fun y52 ey52 => ?_)
      refine W.lcmp hx hb dX7_join_217 ?_
      refine lv_topi (fun y53 ey53 => ?_)
      refine lv_if_ge (tgt := 226) hx hb dX7_join_218 (by decide) (fun c54 => ?_) (fun c54 => ?_)
      · --218 taken
        have t55 : (0 : Int) ≤ y53.toInt := ti_le c54
        have i56 : 0 ≤ y53.toInt ∧ y53.toInt ≤ 2147483647 := iv_le_r t55 (il_ 0) (iv_all _) (by decide)
        refine lv_lload_n hx hb dX7_join_226 rfl (lv_at hl 0 rfl) ?_
        refine lv_l2i hx hb dX7_join_227 rfl ?_
        refine lv_topi (fun y57 ey57 => ?_)
        rw [hQ]
        exact W.iret (v := y57) hx hb hr (fun t ht hW => ⟨⟨y57, (), rfl, (by have jx : y46.toInt = a1.toInt - a2.toInt := tl_sub (ey46.trans (by rw [ey44, ey45])); have l1 : y47.toInt = 10000000 := (by rw [ey47]; decide); have c1 := lgc ey48; have l2 : y52.toInt = -10000000 := (by rw [ey52]; decide); have c2 := lgc ey53; rw [show a0.toInt = 45 by omega]; exact cl_mid jx (by omega) (by omega) ey57), trivial⟩, hS.F ht⟩) hS.2.2 dX7_join_228
      · --218 not
        have t58 : y53.toInt < 0 := ti_nle c54
        have i59 : -2147483648 ≤ y53.toInt ∧ y53.toInt ≤ -1 := iv_lt_l t58 (iv_all _) (il_ 0) (by decide)
        refine lv_ldc hx hb hown (hts _ (vA_in _ _ (in_7 _ (zs16 (zs4 (zs1 (zs0))))))) dX7_join_221 ?_
        refine lv_goto (tgt := 228) hx hb dX7_join_223 (by decide) ?_
        rw [hQ]
        exact W.iret (v := (-10000000)) hx hb hr (fun t ht hW => ⟨⟨(-10000000), (), rfl, (by have jx : y46.toInt = a1.toInt - a2.toInt := tl_sub (ey46.trans (by rw [ey44, ey45])); have l1 : y47.toInt = 10000000 := (by rw [ey47]; decide); have c1 := lgc ey48; have l2 : y52.toInt = -10000000 := (by rw [ey52]; decide); have c2 := lgc ey53; rw [show a0.toInt = 45 by omega]; exact cl_lo (by omega)), trivial⟩, hS.F ht⟩) hS.2.2 dX7_join_228
    · --205 not
      have t60 : (0 : Int) < y48.toInt := ti_nle c49
      have i61 : 1 ≤ y48.toInt ∧ y48.toInt ≤ 2147483647 := iv_lt_r t60 (il_ 0) (iv_all _) (by decide)
      refine lv_ldc hx hb hown (hts _ (vA_in _ _ (in_7 _ (zs16 (zs1 (zs1 (zs1 (zs0)))))))) dX7_join_208 ?_
      refine lv_goto (tgt := 228) hx hb dX7_join_210 (by decide) ?_
      rw [hQ]
      exact W.iret (v := 10000000) hx hb hr (fun t ht hW => ⟨⟨10000000, (), rfl, (by have jx : y46.toInt = a1.toInt - a2.toInt := tl_sub (ey46.trans (by rw [ey44, ey45])); have l1 : y47.toInt = 10000000 := (by rw [ey47]; decide); have c1 := lgc ey48; rw [show a0.toInt = 45 by omega]; exact cl_hi (by omega)), trivial⟩, hS.F ht⟩) hS.2.2 dX7_join_228
  · --46
    refine lv_tableIn (off := 195) (tgt := 196) hx hb dX7_join_1 (by omega) (by omega) (by rw [c1]; rfl) (by decide) ?_
    refine lv_iload_n hx hb dX7_join_196 rfl (lv_at hl 1 rfl) ?_
    refine lv_iload_n hx hb dX7_join_197 rfl (lv_at hl 2 rfl) ?_
    refine lv_ior hx hb dX7_join_198 ?_
    refine lv_topi (fun y62 ey62 => ?_)
    rw [hQ]
    exact W.iret (v := y62) hx hb hr (fun t ht hW => ⟨⟨y62, (), rfl, jn_o (by omega) (by omega) (by omega) (by omega) (by omega) (by omega) (by omega) (by omega) ey62, trivial⟩, hS.F ht⟩) hS.2.2 dX7_join_199
  · --47
    refine lv_tableIn (off := 142) (tgt := 143) hx hb dX7_join_1 (by omega) (by omega) (by rw [c1]; rfl) (by decide) ?_
    refine lv_iload_n hx hb dX7_join_143 rfl (lv_at hl 2 rfl) ?_
    refine lv_if_ne (tgt := 151) hx hb dX7_join_144 (by decide) (fun c63 => ?_) (fun c63 => ?_)
    · --144 taken
      have t64 : ¬ a2.toInt = 0 := ti_ne c63
      refine lv_iload_n hx hb dX7_join_151 rfl (lv_at hl 1 rfl) ?_
      refine lv_iload_n hx hb dX7_join_152 rfl (lv_at hl 2 rfl) ?_
      refine lv_idiv hx hb dX7_join_153 (fun h9 => t64 (by rw [h9]; rfl)) ?_
      refine lv_topi (fun y65 ey65 => ?_)
      refine lv_i2l hx hb dX7_join_154 rfl ?_
      refine lv_topl (fun y66 ey66 => ?_)
      refine lv_lstore_n (lv' := [(3, .long y66), (0, .int a0), (1, .int a1), (2, .int a2)]) hx hb dX7_join_155 rfl hl (by decide) rfl (fun ls hl => ?_)
      refine lv_goto (tgt := 200) hx hb dX7_join_156 (by decide) ?_
      refine lv_lload_n hx hb dX7_join_200 rfl (lv_at hl 0 rfl) ?_
      refine lv_ldc2 hx hb hown (hts _ (vA_in _ _ (in_7 _ (zs16 (zs1 (zs1 (zs0))))))) dX7_join_201 ?_
      refine lv_topl (fun y67 ey67 => ?_)
      refine W.lcmp hx hb dX7_join_204 ?_
      refine lv_topi (fun y68 ey68 => ?_)
      refine lv_if_le (tgt := 213) hx hb dX7_join_205 (by decide) (fun c69 => ?_) (fun c69 => ?_)
      · --205 taken
        have t70 : y68.toInt ≤ 0 := ti_le c69
        have i71 : -2147483648 ≤ y68.toInt ∧ y68.toInt ≤ 0 := iv_le_l t70 (iv_all _) (il_ 0) (by decide)
        refine lv_lload_n hx hb dX7_join_213 rfl (lv_at hl 0 rfl) ?_
        refine lv_ldc2 hx hb hown (hts _ (vA_in _ _ (in_7 _ (zs16 (zs4 (zs0)))))) dX7_join_214 ?_
        refine lv_topl (fun y72 ey72 => ?_)
        refine W.lcmp hx hb dX7_join_217 ?_
        refine lv_topi (fun y73 ey73 => ?_)
        refine lv_if_ge (tgt := 226) hx hb dX7_join_218 (by decide) (fun c74 => ?_) (fun c74 => ?_)
        · --218 taken
          have t75 : (0 : Int) ≤ y73.toInt := ti_le c74
          have i76 : 0 ≤ y73.toInt ∧ y73.toInt ≤ 2147483647 := iv_le_r t75 (il_ 0) (iv_all _) (by decide)
          refine lv_lload_n hx hb dX7_join_226 rfl (lv_at hl 0 rfl) ?_
          refine lv_l2i hx hb dX7_join_227 rfl ?_
          refine lv_topi (fun y77 ey77 => ?_)
          rw [hQ]
          exact W.iret (v := y77) hx hb hr (fun t ht hW => ⟨⟨y77, (), rfl, (by have jx : y66.toInt = a1.toInt.tdiv a2.toInt := (congrArg Int64.toInt ey66).trans ((Int32.toInt_toInt64 _).trans (ti_dvq ⟨by omega, by omega⟩ ey65)); have l1 : y67.toInt = 10000000 := (by rw [ey67]; decide); have c1 := lgc ey68; have l2 : y72.toInt = -10000000 := (by rw [ey72]; decide); have c2 := lgc ey73; rw [show a0.toInt = 47 by omega]; exact (cl_mid jx (by omega) (by omega) ey77).trans (if_neg (fun q9 => absurd (congrArg Int32.toInt q9) (show ¬ a2.toInt = 0 by omega))).symm), trivial⟩, hS.F ht⟩) hS.2.2 dX7_join_228
        · --218 not
          have t78 : y73.toInt < 0 := ti_nle c74
          have i79 : -2147483648 ≤ y73.toInt ∧ y73.toInt ≤ -1 := iv_lt_l t78 (iv_all _) (il_ 0) (by decide)
          refine lv_ldc hx hb hown (hts _ (vA_in _ _ (in_7 _ (zs16 (zs4 (zs1 (zs0))))))) dX7_join_221 ?_
          refine lv_goto (tgt := 228) hx hb dX7_join_223 (by decide) ?_
          rw [hQ]
          exact W.iret (v := (-10000000)) hx hb hr (fun t ht hW => ⟨⟨(-10000000), (), rfl, (by have jx : y66.toInt = a1.toInt.tdiv a2.toInt := (congrArg Int64.toInt ey66).trans ((Int32.toInt_toInt64 _).trans (ti_dvq ⟨by omega, by omega⟩ ey65)); have l1 : y67.toInt = 10000000 := (by rw [ey67]; decide); have c1 := lgc ey68; have l2 : y72.toInt = -10000000 := (by rw [ey72]; decide); have c2 := lgc ey73; rw [show a0.toInt = 47 by omega]; exact (cl_lo (by omega)).trans (if_neg (fun q9 => absurd (congrArg Int32.toInt q9) (show ¬ a2.toInt = 0 by omega))).symm), trivial⟩, hS.F ht⟩) hS.2.2 dX7_join_228
      · --205 not
        have t80 : (0 : Int) < y68.toInt := ti_nle c69
        have i81 : 1 ≤ y68.toInt ∧ y68.toInt ≤ 2147483647 := iv_lt_r t80 (il_ 0) (iv_all _) (by decide)
        refine lv_ldc hx hb hown (hts _ (vA_in _ _ (in_7 _ (zs16 (zs1 (zs1 (zs1 (zs0)))))))) dX7_join_208 ?_
        refine lv_goto (tgt := 228) hx hb dX7_join_210 (by decide) ?_
        rw [hQ]
        exact W.iret (v := 10000000) hx hb hr (fun t ht hW => ⟨⟨10000000, (), rfl, (by have jx : y66.toInt = a1.toInt.tdiv a2.toInt := (congrArg Int64.toInt ey66).trans ((Int32.toInt_toInt64 _).trans (ti_dvq ⟨by omega, by omega⟩ ey65)); have l1 : y67.toInt = 10000000 := (by rw [ey67]; decide); have c1 := lgc ey68; rw [show a0.toInt = 47 by omega]; exact (cl_hi (by omega)).trans (if_neg (fun q9 => absurd (congrArg Int32.toInt q9) (show ¬ a2.toInt = 0 by omega))).symm), trivial⟩, hS.F ht⟩) hS.2.2 dX7_join_228
    · --144 not
      have t82 : a2.toInt = 0 := ti_eq c63
      have i83 : 0 ≤ a2.toInt ∧ a2.toInt ≤ 0 := iv_eqi t82 (iv_all _) (il_ 0) (by decide)
      refine lv_lconst hx hb dX7_join_147 rfl ?_
      refine lv_topl (fun y84 ey84 => ?_)
      refine lv_goto (tgt := 155) hx hb dX7_join_148 (by decide) ?_
      refine lv_lstore_n (lv' := [(3, .long y84), (0, .int a0), (1, .int a1), (2, .int a2)]) hx hb dX7_join_155 rfl hl (by decide) rfl (fun ls hl => ?_)
      refine lv_goto (tgt := 200) hx hb dX7_join_156 (by decide) ?_
      refine lv_lload_n hx hb dX7_join_200 rfl (lv_at hl 0 rfl) ?_
      refine lv_ldc2 hx hb hown (hts _ (vA_in _ _ (in_7 _ (zs16 (zs1 (zs1 (zs0))))))) dX7_join_201 ?_
      refine lv_topl (fun y85 ey85 => ?_)
      refine W.lcmp hx hb dX7_join_204 ?_
      refine lv_topi (fun y86 ey86 => ?_)
      refine lv_if_le (tgt := 213) hx hb dX7_join_205 (by decide) (fun c87 => ?_) (fun c87 => ?_)
      · --205 taken
        have t88 : y86.toInt ≤ 0 := ti_le c87
        have i89 : -2147483648 ≤ y86.toInt ∧ y86.toInt ≤ 0 := iv_le_l t88 (iv_all _) (il_ 0) (by decide)
        refine lv_lload_n hx hb dX7_join_213 rfl (lv_at hl 0 rfl) ?_
        refine lv_ldc2 hx hb hown (hts _ (vA_in _ _ (in_7 _ (zs16 (zs4 (zs0)))))) dX7_join_214 ?_
        refine lv_topl (fun y90 ey90 => ?_)
        refine W.lcmp hx hb dX7_join_217 ?_
        refine lv_topi (fun y91 ey91 => ?_)
        refine lv_if_ge (tgt := 226) hx hb dX7_join_218 (by decide) (fun c92 => ?_) (fun c92 => ?_)
        · --218 taken
          have t93 : (0 : Int) ≤ y91.toInt := ti_le c92
          have i94 : 0 ≤ y91.toInt ∧ y91.toInt ≤ 2147483647 := iv_le_r t93 (il_ 0) (iv_all _) (by decide)
          refine lv_lload_n hx hb dX7_join_226 rfl (lv_at hl 0 rfl) ?_
          refine lv_l2i hx hb dX7_join_227 rfl ?_
          refine lv_topi (fun y95 ey95 => ?_)
          rw [hQ]
          exact W.iret (v := y95) hx hb hr (fun t ht hW => ⟨⟨y95, (), rfl, (by have jx : y84.toInt = 0 := congrArg Int64.toInt ey84; have l1 : y85.toInt = 10000000 := (by rw [ey85]; decide); have c1 := lgc ey86; have l2 : y90.toInt = -10000000 := (by rw [ey90]; decide); have c2 := lgc ey91; first | (exfalso; omega) | (rw [show a0.toInt = 47 by omega]; exact (show cl 0 = jn 47 a1 a2 from (show cl 0 = 0 by decide).trans (if_pos (Int32.toInt_inj.mp (show a2.toInt = 0 by omega))).symm) ▸ (cl_mid jx (by omega) (by omega) ey95))), trivial⟩, hS.F ht⟩) hS.2.2 dX7_join_228
        · --218 not
          have t96 : y91.toInt < 0 := ti_nle c92
          have i97 : -2147483648 ≤ y91.toInt ∧ y91.toInt ≤ -1 := iv_lt_l t96 (iv_all _) (il_ 0) (by decide)
          refine lv_ldc hx hb hown (hts _ (vA_in _ _ (in_7 _ (zs16 (zs4 (zs1 (zs0))))))) dX7_join_221 ?_
          refine lv_goto (tgt := 228) hx hb dX7_join_223 (by decide) ?_
          rw [hQ]
          exact W.iret (v := (-10000000)) hx hb hr (fun t ht hW => ⟨⟨(-10000000), (), rfl, (by have jx : y84.toInt = 0 := congrArg Int64.toInt ey84; have l1 : y85.toInt = 10000000 := (by rw [ey85]; decide); have c1 := lgc ey86; have l2 : y90.toInt = -10000000 := (by rw [ey90]; decide); have c2 := lgc ey91; first | (exfalso; omega) | (rw [show a0.toInt = 47 by omega]; exact (show cl 0 = jn 47 a1 a2 from (show cl 0 = 0 by decide).trans (if_pos (Int32.toInt_inj.mp (show a2.toInt = 0 by omega))).symm) ▸ (cl_lo (by omega)))), trivial⟩, hS.F ht⟩) hS.2.2 dX7_join_228
      · --205 not
        have t98 : (0 : Int) < y86.toInt := ti_nle c87
        have i99 : 1 ≤ y86.toInt ∧ y86.toInt ≤ 2147483647 := iv_lt_r t98 (il_ 0) (iv_all _) (by decide)
        refine lv_ldc hx hb hown (hts _ (vA_in _ _ (in_7 _ (zs16 (zs1 (zs1 (zs1 (zs0)))))))) dX7_join_208 ?_
        refine lv_goto (tgt := 228) hx hb dX7_join_210 (by decide) ?_
        rw [hQ]
        exact W.iret (v := 10000000) hx hb hr (fun t ht hW => ⟨⟨10000000, (), rfl, (by have jx : y84.toInt = 0 := congrArg Int64.toInt ey84; have l1 : y85.toInt = 10000000 := (by rw [ey85]; decide); have c1 := lgc ey86; first | (exfalso; omega) | (rw [show a0.toInt = 47 by omega]; exact (show cl 0 = jn 47 a1 a2 from (show cl 0 = 0 by decide).trans (if_pos (Int32.toInt_inj.mp (show a2.toInt = 0 by omega))).symm) ▸ (cl_hi (by omega)))), trivial⟩, hS.F ht⟩) hS.2.2 dX7_join_228
  · --48
    refine lv_tableIn (off := 195) (tgt := 196) hx hb dX7_join_1 (by omega) (by omega) (by rw [c1]; rfl) (by decide) ?_
    refine lv_iload_n hx hb dX7_join_196 rfl (lv_at hl 1 rfl) ?_
    refine lv_iload_n hx hb dX7_join_197 rfl (lv_at hl 2 rfl) ?_
    refine lv_ior hx hb dX7_join_198 ?_
    refine lv_topi (fun y100 ey100 => ?_)
    rw [hQ]
    exact W.iret (v := y100) hx hb hr (fun t ht hW => ⟨⟨y100, (), rfl, jn_o (by omega) (by omega) (by omega) (by omega) (by omega) (by omega) (by omega) (by omega) ey100, trivial⟩, hS.F ht⟩) hS.2.2 dX7_join_199
  · --49
    refine lv_tableIn (off := 195) (tgt := 196) hx hb dX7_join_1 (by omega) (by omega) (by rw [c1]; rfl) (by decide) ?_
    refine lv_iload_n hx hb dX7_join_196 rfl (lv_at hl 1 rfl) ?_
    refine lv_iload_n hx hb dX7_join_197 rfl (lv_at hl 2 rfl) ?_
    refine lv_ior hx hb dX7_join_198 ?_
    refine lv_topi (fun y101 ey101 => ?_)
    rw [hQ]
    exact W.iret (v := y101) hx hb hr (fun t ht hW => ⟨⟨y101, (), rfl, jn_o (by omega) (by omega) (by omega) (by omega) (by omega) (by omega) (by omega) (by omega) ey101, trivial⟩, hS.F ht⟩) hS.2.2 dX7_join_199
  · --50
    refine lv_tableIn (off := 195) (tgt := 196) hx hb dX7_join_1 (by omega) (by omega) (by rw [c1]; rfl) (by decide) ?_
    refine lv_iload_n hx hb dX7_join_196 rfl (lv_at hl 1 rfl) ?_
    refine lv_iload_n hx hb dX7_join_197 rfl (lv_at hl 2 rfl) ?_
    refine lv_ior hx hb dX7_join_198 ?_
    refine lv_topi (fun y102 ey102 => ?_)
    rw [hQ]
    exact W.iret (v := y102) hx hb hr (fun t ht hW => ⟨⟨y102, (), rfl, jn_o (by omega) (by omega) (by omega) (by omega) (by omega) (by omega) (by omega) (by omega) ey102, trivial⟩, hS.F ht⟩) hS.2.2 dX7_join_199
  · --51
    refine lv_tableIn (off := 195) (tgt := 196) hx hb dX7_join_1 (by omega) (by omega) (by rw [c1]; rfl) (by decide) ?_
    refine lv_iload_n hx hb dX7_join_196 rfl (lv_at hl 1 rfl) ?_
    refine lv_iload_n hx hb dX7_join_197 rfl (lv_at hl 2 rfl) ?_
    refine lv_ior hx hb dX7_join_198 ?_
    refine lv_topi (fun y103 ey103 => ?_)
    rw [hQ]
    exact W.iret (v := y103) hx hb hr (fun t ht hW => ⟨⟨y103, (), rfl, jn_o (by omega) (by omega) (by omega) (by omega) (by omega) (by omega) (by omega) (by omega) ey103, trivial⟩, hS.F ht⟩) hS.2.2 dX7_join_199
  · --52
    refine lv_tableIn (off := 195) (tgt := 196) hx hb dX7_join_1 (by omega) (by omega) (by rw [c1]; rfl) (by decide) ?_
    refine lv_iload_n hx hb dX7_join_196 rfl (lv_at hl 1 rfl) ?_
    refine lv_iload_n hx hb dX7_join_197 rfl (lv_at hl 2 rfl) ?_
    refine lv_ior hx hb dX7_join_198 ?_
    refine lv_topi (fun y104 ey104 => ?_)
    rw [hQ]
    exact W.iret (v := y104) hx hb hr (fun t ht hW => ⟨⟨y104, (), rfl, jn_o (by omega) (by omega) (by omega) (by omega) (by omega) (by omega) (by omega) (by omega) ey104, trivial⟩, hS.F ht⟩) hS.2.2 dX7_join_199
  · --53
    refine lv_tableIn (off := 195) (tgt := 196) hx hb dX7_join_1 (by omega) (by omega) (by rw [c1]; rfl) (by decide) ?_
    refine lv_iload_n hx hb dX7_join_196 rfl (lv_at hl 1 rfl) ?_
    refine lv_iload_n hx hb dX7_join_197 rfl (lv_at hl 2 rfl) ?_
    refine lv_ior hx hb dX7_join_198 ?_
    refine lv_topi (fun y105 ey105 => ?_)
    rw [hQ]
    exact W.iret (v := y105) hx hb hr (fun t ht hW => ⟨⟨y105, (), rfl, jn_o (by omega) (by omega) (by omega) (by omega) (by omega) (by omega) (by omega) (by omega) ey105, trivial⟩, hS.F ht⟩) hS.2.2 dX7_join_199
  · --54
    refine lv_tableIn (off := 195) (tgt := 196) hx hb dX7_join_1 (by omega) (by omega) (by rw [c1]; rfl) (by decide) ?_
    refine lv_iload_n hx hb dX7_join_196 rfl (lv_at hl 1 rfl) ?_
    refine lv_iload_n hx hb dX7_join_197 rfl (lv_at hl 2 rfl) ?_
    refine lv_ior hx hb dX7_join_198 ?_
    refine lv_topi (fun y106 ey106 => ?_)
    rw [hQ]
    exact W.iret (v := y106) hx hb hr (fun t ht hW => ⟨⟨y106, (), rfl, jn_o (by omega) (by omega) (by omega) (by omega) (by omega) (by omega) (by omega) (by omega) ey106, trivial⟩, hS.F ht⟩) hS.2.2 dX7_join_199
  · --55
    refine lv_tableIn (off := 195) (tgt := 196) hx hb dX7_join_1 (by omega) (by omega) (by rw [c1]; rfl) (by decide) ?_
    refine lv_iload_n hx hb dX7_join_196 rfl (lv_at hl 1 rfl) ?_
    refine lv_iload_n hx hb dX7_join_197 rfl (lv_at hl 2 rfl) ?_
    refine lv_ior hx hb dX7_join_198 ?_
    refine lv_topi (fun y107 ey107 => ?_)
    rw [hQ]
    exact W.iret (v := y107) hx hb hr (fun t ht hW => ⟨⟨y107, (), rfl, jn_o (by omega) (by omega) (by omega) (by omega) (by omega) (by omega) (by omega) (by omega) ey107, trivial⟩, hS.F ht⟩) hS.2.2 dX7_join_199
  · --56
    refine lv_tableIn (off := 195) (tgt := 196) hx hb dX7_join_1 (by omega) (by omega) (by rw [c1]; rfl) (by decide) ?_
    refine lv_iload_n hx hb dX7_join_196 rfl (lv_at hl 1 rfl) ?_
    refine lv_iload_n hx hb dX7_join_197 rfl (lv_at hl 2 rfl) ?_
    refine lv_ior hx hb dX7_join_198 ?_
    refine lv_topi (fun y108 ey108 => ?_)
    rw [hQ]
    exact W.iret (v := y108) hx hb hr (fun t ht hW => ⟨⟨y108, (), rfl, jn_o (by omega) (by omega) (by omega) (by omega) (by omega) (by omega) (by omega) (by omega) ey108, trivial⟩, hS.F ht⟩) hS.2.2 dX7_join_199
  · --57
    refine lv_tableIn (off := 195) (tgt := 196) hx hb dX7_join_1 (by omega) (by omega) (by rw [c1]; rfl) (by decide) ?_
    refine lv_iload_n hx hb dX7_join_196 rfl (lv_at hl 1 rfl) ?_
    refine lv_iload_n hx hb dX7_join_197 rfl (lv_at hl 2 rfl) ?_
    refine lv_ior hx hb dX7_join_198 ?_
    refine lv_topi (fun y109 ey109 => ?_)
    rw [hQ]
    exact W.iret (v := y109) hx hb hr (fun t ht hW => ⟨⟨y109, (), rfl, jn_o (by omega) (by omega) (by omega) (by omega) (by omega) (by omega) (by omega) (by omega) ey109, trivial⟩, hS.F ht⟩) hS.2.2 dX7_join_199
  · --58
    refine lv_tableIn (off := 195) (tgt := 196) hx hb dX7_join_1 (by omega) (by omega) (by rw [c1]; rfl) (by decide) ?_
    refine lv_iload_n hx hb dX7_join_196 rfl (lv_at hl 1 rfl) ?_
    refine lv_iload_n hx hb dX7_join_197 rfl (lv_at hl 2 rfl) ?_
    refine lv_ior hx hb dX7_join_198 ?_
    refine lv_topi (fun y110 ey110 => ?_)
    rw [hQ]
    exact W.iret (v := y110) hx hb hr (fun t ht hW => ⟨⟨y110, (), rfl, jn_o (by omega) (by omega) (by omega) (by omega) (by omega) (by omega) (by omega) (by omega) ey110, trivial⟩, hS.F ht⟩) hS.2.2 dX7_join_199
  · --59
    refine lv_tableIn (off := 195) (tgt := 196) hx hb dX7_join_1 (by omega) (by omega) (by rw [c1]; rfl) (by decide) ?_
    refine lv_iload_n hx hb dX7_join_196 rfl (lv_at hl 1 rfl) ?_
    refine lv_iload_n hx hb dX7_join_197 rfl (lv_at hl 2 rfl) ?_
    refine lv_ior hx hb dX7_join_198 ?_
    refine lv_topi (fun y111 ey111 => ?_)
    rw [hQ]
    exact W.iret (v := y111) hx hb hr (fun t ht hW => ⟨⟨y111, (), rfl, jn_o (by omega) (by omega) (by omega) (by omega) (by omega) (by omega) (by omega) (by omega) ey111, trivial⟩, hS.F ht⟩) hS.2.2 dX7_join_199
  · --60
    refine lv_tableIn (off := 169) (tgt := 170) hx hb dX7_join_1 (by omega) (by omega) (by rw [c1]; rfl) (by decide) ?_
    refine lv_iload_n hx hb dX7_join_170 rfl (lv_at hl 1 rfl) ?_
    refine lv_iload_n hx hb dX7_join_171 rfl (lv_at hl 2 rfl) ?_
    refine lv_icmp_ge (tgt := 179) hx hb dX7_join_172 (by decide) (fun c112 => ?_) (fun c112 => ?_)
    · --172 taken
      have t113 : a2.toInt ≤ a1.toInt := ti_le c112
      have i114 : -2147483648 ≤ a2.toInt ∧ a2.toInt ≤ 16777215 := iv_le_l t113 (iv_all _) hh0 (by decide)
      refine lv_iconst (v := 0) hx hb dX7_join_179 (by decide) ?_
      rw [hQ]
      exact W.iret (v := 0) hx hb hr (fun t ht hW => ⟨⟨0, (), rfl, (by rw [show a0.toInt = 60 by omega]; exact jn_lt0 (by omega)), trivial⟩, hS.F ht⟩) hS.2.2 dX7_join_180
    · --172 not
      have t115 : a1.toInt < a2.toInt := ti_nle c112
      have i116 : -16777215 ≤ a2.toInt ∧ a2.toInt ≤ 2147483647 := iv_lt_r t115 hh0 (iv_all _) (by decide)
      refine lv_iconst (v := 1) hx hb dX7_join_175 (by decide) ?_
      refine lv_goto (tgt := 180) hx hb dX7_join_176 (by decide) ?_
      rw [hQ]
      exact W.iret (v := 1) hx hb hr (fun t ht hW => ⟨⟨1, (), rfl, (by rw [show a0.toInt = 60 by omega]; exact jn_lt1 (by omega)), trivial⟩, hS.F ht⟩) hS.2.2 dX7_join_180
  · --61
    refine lv_tableIn (off := 158) (tgt := 159) hx hb dX7_join_1 (by omega) (by omega) (by rw [c1]; rfl) (by decide) ?_
    refine lv_iload_n hx hb dX7_join_159 rfl (lv_at hl 1 rfl) ?_
    refine lv_iload_n hx hb dX7_join_160 rfl (lv_at hl 2 rfl) ?_
    refine lv_icmp_ne (tgt := 168) hx hb dX7_join_161 (by decide) (fun c117 => ?_) (fun c117 => ?_)
    · --161 taken
      have t118 : ¬ a1.toInt = a2.toInt := ti_ne c117
      refine lv_iconst (v := 0) hx hb dX7_join_168 (by decide) ?_
      rw [hQ]
      exact W.iret (v := 0) hx hb hr (fun t ht hW => ⟨⟨0, (), rfl, (by rw [show a0.toInt = 61 by omega]; exact jn_eq0 (by omega)), trivial⟩, hS.F ht⟩) hS.2.2 dX7_join_169
    · --161 not
      have t119 : a1.toInt = a2.toInt := ti_eq c117
      have i120 : -16777216 ≤ a2.toInt ∧ a2.toInt ≤ 16777215 := iv_eqi t119.symm (iv_all _) hh0 (by decide)
      refine lv_iconst (v := 1) hx hb dX7_join_164 (by decide) ?_
      refine lv_goto (tgt := 169) hx hb dX7_join_165 (by decide) ?_
      rw [hQ]
      exact W.iret (v := 1) hx hb hr (fun t ht hW => ⟨⟨1, (), rfl, (by rw [show a0.toInt = 61 by omega]; exact jn_eq1 (by omega)), trivial⟩, hS.F ht⟩) hS.2.2 dX7_join_169
  · --62
    refine lv_tableIn (off := 180) (tgt := 181) hx hb dX7_join_1 (by omega) (by omega) (by rw [c1]; rfl) (by decide) ?_
    refine lv_iload_n hx hb dX7_join_181 rfl (lv_at hl 1 rfl) ?_
    refine lv_iload_n hx hb dX7_join_182 rfl (lv_at hl 2 rfl) ?_
    refine lv_icmp_le (tgt := 190) hx hb dX7_join_183 (by decide) (fun c121 => ?_) (fun c121 => ?_)
    · --183 taken
      have t122 : a1.toInt ≤ a2.toInt := ti_le c121
      have i123 : -16777216 ≤ a2.toInt ∧ a2.toInt ≤ 2147483647 := iv_le_r t122 hh0 (iv_all _) (by decide)
      refine lv_iconst (v := 0) hx hb dX7_join_190 (by decide) ?_
      rw [hQ]
      exact W.iret (v := 0) hx hb hr (fun t ht hW => ⟨⟨0, (), rfl, (by rw [show a0.toInt = 62 by omega]; exact jn_gt0 (by omega)), trivial⟩, hS.F ht⟩) hS.2.2 dX7_join_191
    · --183 not
      have t124 : a2.toInt < a1.toInt := ti_nle c121
      have i125 : -2147483648 ≤ a2.toInt ∧ a2.toInt ≤ 16777214 := iv_lt_l t124 (iv_all _) hh0 (by decide)
      refine lv_iconst (v := 1) hx hb dX7_join_186 (by decide) ?_
      refine lv_goto (tgt := 191) hx hb dX7_join_187 (by decide) ?_
      rw [hQ]
      exact W.iret (v := 1) hx hb hr (fun t ht hW => ⟨⟨1, (), rfl, (by rw [show a0.toInt = 62 by omega]; exact jn_gt1 (by omega)), trivial⟩, hS.F ht⟩) hS.2.2 dX7_join_191
def v_letterAtX : List Cond := .code yX7_letterAt cX7_letterAt 2 (some .int) :: vA
abbrev rm_letterAtX : Room := { frames := 0, cells := 0, slots := 0, locals := 0 }
set_option maxHeartbeats 4000000 in
set_option maxRecDepth 100000 in
theorem q_letterAtX (l : Launch) (dC : Nat → ClassId) (dI : Nat → Nat → Nat) (cT : Nat → ClassId) (cf : Nat → Nat) (hC : CF cf) (ad : Nat → Nat) (E : Nat → va_E) (sz : Nat) (a0 : Int32) (hI0 : IXL cT (shC cf) (spC cf) (LC cf) ad E) (hh0 : 0 ≤ a0.toInt ∧ a0.toInt ≤ 2147483647) : Met l yX7_letterAt v_letterAtX rm_letterAtX (va_Pc [.int a0, .ref (ad 19)] (HWL dC dI (TYC cT) cf ad E sz)) (va_Qi (S := Unit) (fun r _ => (r = cL E a0.toNatClampNeg)) (fun _ _ => True) (fun _ => False)) 0 0 (fun _ => False) := by
  obtain ⟨⟨hc0, hc1, hc2, hc3, hc4, hc5⟩, hcr⟩ := id hC
  refine Met.ofW (cc := cX7_letterAt) (maxL := 2) (ret := (some .int)) (by decide) rfl ?_
  intro p e s m args below meth c s₁ B hml hv
  obtain ⟨hargs, hsz, hP, hK, hD0, hEV⟩ := hv
  subst hsz
  have hx := B.exec
  have hb := B.bytes
  have hr := B.returns
  have hts := atoms_spec (ws := v_letterAtX) B.pre
  have hown : s.vm.findClass RX7 = some m.cls := findClass_of_methodNamed B.named
  have hlocks := B.notSynchronized
  have hS : va_S (fun _ : Nat => False) s.heap s.heap [] := va_S.rf
  have hD := hD0
  have hI := hI0
  have hKp : Kp (wl [] []) E E := Kp.rf
  have hl := lv_entry ([.int a0, .ref (ad 19)]) (n := 2) (Nat.le_of_ble_eq_true rfl)
  obtain ⟨Q, hQ⟩ : ∃ Q, Q = MQ below (va_Qi (S := Unit) (fun r _ => (r = cL E a0.toNatClampNeg)) (fun _ _ => True) (fun _ => False)) args s 0 0 (fun _ => False) := ⟨_, rfl⟩
  rw [← hQ, show entryFrame m args 2 = _ from (congrArg (fun z => entryFrame m z 2) hargs).trans (lg_entry_eq _ _ _)]
  generalize (lg_sl ([.int a0, .ref (ad 19)]) ++ List.replicate (2 - (lg_sl ([.int a0, .ref (ad 19)])).length) Slot.unset).toArray = ls at hl ⊢
  have hl : lv_has ls 2 [(0, .int a0), (1, .ref (ad 19))] := hl
  refine lv_iload_n hx hb dX7_letterAt_0 rfl (lv_at hl 0 rfl) ?_
  refine lv_aload_n hx hb dX7_letterAt_1 rfl (lv_at hl 1 rfl) ?_
  refine va_alen (v := 14) hx hb hK hP (posL 19 (LC cf)) 0 (hI.ar 19 (mF 19 rfl) rfl) rfl rfl dX7_letterAt_2 ?_
  refine lv_icmp_ge (tgt := 12) hx hb dX7_letterAt_3 (by decide) (fun c1 => ?_) (fun c1 => ?_)
  · --3 taken
    have t2 : (14 : Int) ≤ a0.toInt := ti_le c1
    have i3 : 14 ≤ a0.toInt ∧ a0.toInt ≤ 2147483647 := iv_le_r t2 (il_ 14) hh0 (by decide)
    refine lv_iconst (v := 0) hx hb dX7_letterAt_12 (by decide) ?_
    rw [hQ]
    exact W.iret (v := 0) hx hb hr (fun t ht hW => ⟨⟨0, (), rfl, (if_neg (show ¬ a0.toNatClampNeg < 14 by rw [tn_]; omega)).symm, trivial⟩, hS.F ht⟩) hS.2.2 dX7_letterAt_13
  · --3 not
    have t4 : a0.toInt < 14 := ti_nle c1
    have i5 : 0 ≤ a0.toInt ∧ a0.toInt ≤ 13 := iv_lt_l t4 hh0 (il_ 14) (by decide)
    refine lv_aload_n hx hb dX7_letterAt_6 rfl (lv_at hl 1 rfl) ?_
    refine lv_iload_n hx hb dX7_letterAt_7 rfl (lv_at hl 0 rfl) ?_
    have n7 : vp_in a0 14 := (iv_in (n := 14) i5 (by decide))
    refine th_ialdL hx hb hK hP hI 19 (mF 19 rfl) rfl rfl n7 dX7_letterAt_8 (fun y6 ey6 => ?_)
    have ey6 := ey6.trans (hKp.ei 19 _ rfl)
    refine lv_goto (tgt := 13) hx hb dX7_letterAt_9 (by decide) ?_
    rw [hQ]
    exact W.iret (v := y6) hx hb hr (fun t ht hW => ⟨⟨y6, (), rfl, ey6.trans (if_pos (show a0.toNatClampNeg < 14 by rw [tn_]; omega)).symm, trivial⟩, hS.F ht⟩) hS.2.2 dX7_letterAt_13
end
section
/-! ===== run and worthOf of the class, over ints ===== -/
section RN2
variable {L : Nat → Int32} {f : Nat → Int} {a : Nat} {E E1 : Nat → va_E} {i i' : Nat} {x xh y z b b1 b2 v : Int32}
theorem RunI.b7 (hr : RunI L f a E i x.toNatClampNeg) (h0 : 0 ≤ z.toInt) (h1 : z.toInt < x.toInt) (e : b = xi (E 20) z.toNatClampNeg) : B7 b := by
  obtain ⟨-, h2, h3, h4⟩ := hr
  have hz : z.toNatClampNeg < (X L (sg f a i) []).length := by
    rw [h3, tn_, tn_]
    omega
  rw [e, h2 _ hz]
  refine h4 _ ?_
  have hk : (X L (sg f a i) []).length - 1 - z.toNatClampNeg < (X L (sg f a i) []).length := by omega
  rw [List.getD_eq_getElem?_getD, List.getElem?_eq_getElem hk]
  exact List.getElem_mem hk
theorem RunI.notI (hr : RunI L f a E i x.toNatClampNeg) (hc : f i = -133) (hx : 0 < x.toInt) (hy : y.toInt = x.toInt - 1) (hz : z.toInt = x.toInt - 1) (eb : b = xi (E 20) z.toNatClampNeg) (hv : v = if b = 0 then 1 else 0) (p : Pw E E1 20 y.toNatClampNeg (.int v)) (hi : i' = i + 1) : RunI L f a E1 i' x.toNatClampNeg := by
  have e1 : x.toNatClampNeg = y.toNatClampNeg + 1 := by
    rw [tn_, tn_]
    omega
  have e2 : z.toNatClampNeg = y.toNatClampNeg := by
    rw [tn_, tn_]
    omega
  rw [e2] at eb
  rw [eb] at hv
  rw [e1] at hr ⊢
  rw [hi]
  exact hr.not hc hv p
theorem RunI.joinI (hr : RunI L f a E i x.toNatClampNeg) (hc : f i ≤ -100) (hc3 : ¬ f i = -133) (hx : 1 < x.toInt) (hh : xh.toInt = x.toInt - 1) (hy : y.toInt = xh.toInt - 1) (hz : z.toInt = xh.toInt - 1) (e1 : b1 = xi (E 20) z.toNatClampNeg) (e2 : b2 = xi (E 20) xh.toNatClampNeg) (hv : v = jn (-100 - f i) b1 b2) (p : Pw E E1 20 y.toNatClampNeg (.int v)) (hi : i' = i + 1) : RunI L f a E1 i' xh.toNatClampNeg := by
  have g1 : x.toNatClampNeg = y.toNatClampNeg + 2 := by
    rw [tn_, tn_]
    omega
  have g2 : z.toNatClampNeg = y.toNatClampNeg := by
    rw [tn_, tn_]
    omega
  have g3 : xh.toNatClampNeg = y.toNatClampNeg + 1 := by
    rw [tn_, tn_]
    omega
  rw [g2] at e1
  rw [g3] at e2
  rw [e1, e2] at hv
  rw [g1] at hr
  rw [g3, hi]
  exact hr.join hc hc3 hv p
theorem RunI.pushI (hr : RunI L f a E i x.toNatClampNeg) (hc : -100 < f i) (hv : v = if 0 ≤ f i then Int32.ofInt (f i) else L (-1 - f i).toNat) (hb : B7 v) (p : Pw E E1 20 x.toNatClampNeg (.int v)) (h0 : 0 ≤ x.toInt) (hy : y.toInt = x.toInt + 1) (hi : i' = i + 1) : RunI L f a E1 i' y.toNatClampNeg := by
  have g1 : y.toNatClampNeg = x.toNatClampNeg + 1 := by
    rw [tn_, tn_]
    omega
  rw [g1, hi]
  exact hr.push hc hv hb p
theorem RunI.not0I (hr : RunI L f a E i x.toNatClampNeg) (hc : f i = -133) (h0 : x.toInt ≤ 0) (hi : i' = i + 1) : RunI L f a E i' x.toNatClampNeg := by
  rw [hi]
  exact hr.not0 hc (by rw [tn_]; omega)
theorem RunI.join0I (hr : RunI L f a E i x.toNatClampNeg) (hc : f i ≤ -100) (hc3 : ¬ f i = -133) (h0 : x.toInt ≤ 1) (hi : i' = i + 1) : RunI L f a E i' x.toNatClampNeg := by
  rw [hi]
  exact hr.join0 hc hc3 (by rw [tn_]; omega)
theorem RunI.outI {j : Nat} (hr : RunI L f a E i x.toNatClampNeg) (hx : 0 < x.toInt) (hy : y.toInt = x.toInt - 1) (e : b = xi (E 20) y.toNatClampNeg) (hi : i = j) : b = rT (X L (sg f a j) []) := by
  have g1 : x.toNatClampNeg = y.toNatClampNeg + 1 := by
    rw [tn_, tn_]
    omega
  rw [g1] at hr
  rw [e, ← hi]
  exact hr.out
theorem RunI.out0I {j : Nat} (hr : RunI L f a E i x.toNatClampNeg) (hx : x.toInt ≤ 0) (hi : i = j) : (0 : Int32) = rT (X L (sg f a j) []) := by
  rw [← hi]
  exact hr.out0 (by rw [tn_]; omega)
/-- a step that is pushed: a number, or a letter -/
theorem psh_n {s : Int32} (h : 0 ≤ s.toInt) (e : f i = s.toInt) : s = if 0 ≤ f i then Int32.ofInt (f i) else L (-1 - f i).toNat := by
  rw [e, if_pos h, Int32.ofInt_toInt]
theorem psh_l {s q r : Int32} (h : s.toInt < 0) (e : f i = s.toInt) (hq : q.toInt = -1 - s.toInt) (hr : r = L q.toNatClampNeg) : r = if 0 ≤ f i then Int32.ofInt (f i) else L (-1 - f i).toNat := by
  rw [e, if_neg (by omega), hr, tn_, hq]
end RN2
theorem cL_k {E E' : Nat → va_E} (h : ∀ j, xi (E' 19) j = xi (E 19) j) : cL E' = cL E := funext (fun p => by
  unfold cL
  rw [h])
/-! ===== WORTH of a LABEL ===== -/
abbrev Cla : Type := Int × List Int × List Int
def holds (L : Nat → Int32) (c : Cla) : Prop := c.2.1 = [] ∨ ¬ rT (X L c.2.1 []) = 0
def wo (L : Nat → Int32) (lab : Int) : List Cla → Int32
  | [] => if lab = 110 then 1000 else 0
  | c :: r => if c.1 = lab ∧ (c.2.1 = [] ∨ ¬ rT (X L c.2.1 []) = 0) then rT (X L c.2.2 []) else wo L lab r
/-- the rows of RULES i -/
def rSt (E : Nat → va_E) (i : Nat) : Nat → Int := fun j => (xi (E (64 * (i + 1) + 2)) j).toInt
def rLa (E : Nat → va_E) (i : Nat) : Nat → Int := fun j => (xi (E (64 * (i + 1) + 3)) j).toInt
def rBe (E : Nat → va_E) (i : Nat) : Nat → Int := fun j => (xi (E (64 * (i + 1) + 4)) j).toInt
def rSu (E : Nat → va_E) (i : Nat) : Nat → Int := fun j => (xi (E (64 * (i + 1) + 5)) j).toInt
/-- CLAUSE k of rows -/
def clA (st la be su : Nat → Int) (k : Nat) : Cla := (la k, sg st (be k).toNat (su k).toNat, sg st (su k).toNat (be (k + 1)).toNat)
def clsA (st la be su : Nat → Int) (m : Nat) : List Cla := (List.range m).map (clA st la be su)
def clE (E : Nat → va_E) (i m : Nat) : List Cla := clsA (rSt E i) (rLa E i) (rBe E i) (rSu E i) m
def RuOk (st be su : Nat → Int) (m s : Nat) : Prop := (∀ k, k < m → 0 ≤ be k ∧ be k ≤ su k ∧ su k ≤ be (k + 1) ∧ be (k + 1) ≤ (s : Int)) ∧ ∀ j, j < s → st j ≤ 16777215
def RulOk (E : Nat → va_E) (i m s : Nat) : Prop := RuOk (rSt E i) (rBe E i) (rSu E i) m s
/-- how far worthOf is -/
def WoI (L : Nat → Int32) (lab : Int) (g : Nat → Cla) (m k : Nat) : Prop := wo L lab ((List.range m).map g) = wo L lab ((List.range' k (m - k)).map g)
section WO
variable {L : Nat → Int32} {lab : Int} {g : Nat → Cla} {m k k' : Nat}
theorem WoI.start : WoI L lab g m 0 := by
  unfold WoI
  rw [List.range_eq_range']
  rfl
theorem wo_s (h : k < m) : wo L lab ((List.range' k (m - k)).map g) = if (g k).1 = lab ∧ ((g k).2.1 = [] ∨ ¬ rT (X L (g k).2.1 []) = 0) then rT (X L (g k).2.2 []) else wo L lab ((List.range' (k + 1) (m - (k + 1))).map g) := by
  rw [show m - k = (m - (k + 1)) + 1 by omega, List.range'_succ, List.map_cons]
  rfl
theorem WoI.step (h : WoI L lab g m k) (hk : k < m) (hn : ¬ ((g k).1 = lab ∧ ((g k).2.1 = [] ∨ ¬ rT (X L (g k).2.1 []) = 0))) (e : k' = k + 1) : WoI L lab g m k' := by
  unfold WoI at h ⊢
  rw [h, wo_s hk, if_neg hn, e]
theorem WoI.found {v : Int32} (h : WoI L lab g m k) (hk : k < m) (h1 : (g k).1 = lab) (h2 : (g k).2.1 = [] ∨ ¬ rT (X L (g k).2.1 []) = 0) (hv : v = rT (X L (g k).2.2 [])) : v = wo L lab ((List.range m).map g) := by
  unfold WoI at h
  rw [h, wo_s hk, if_pos ⟨h1, h2⟩, hv]
theorem WoI.none {v : Int32} (h : WoI L lab g m k) (hk : m ≤ k) (hv : v = if lab = 110 then 1000 else 0) : v = wo L lab ((List.range m).map g) := by
  unfold WoI at h
  rw [h, show m - k = 0 by omega, hv]
  rfl
end WO
theorem sg_ne {f : Nat → Int} {a b : Nat} (h : a < b) : ¬ sg f a b = [] := fun q => by
  have h1 := congrArg List.length q
  unfold sg at h1
  simp only [List.length_map, List.length_range', List.length_nil] at h1
  omega
end

