

/-! ===== how the class joins two numbers; the class's stack ===== -/
theorem lgc {x y : Int64} {r : Int32} (e : r = lg_cmp x y) : (0 < r.toInt ∧ y.toInt < x.toInt) ∨ (r.toInt = 0 ∧ x.toInt = y.toInt) ∨ (r.toInt < 0 ∧ x.toInt < y.toInt) := by
  rw [e]
  unfold lg_cmp
  by_cases h : x > y
  · rw [if_pos h]
    exact Or.inl ⟨by decide, Int64.lt_iff_toInt_lt.mp h⟩
  · have h' : ¬ y.toInt < x.toInt := fun q => h (Int64.lt_iff_toInt_lt.mpr q)
    by_cases h1 : x = y
    · rw [if_neg h, if_pos h1]
      exact Or.inr (Or.inl ⟨rfl, by rw [h1]⟩)
    · have h1' : ¬ x.toInt = y.toInt := fun q => h1 (Int64.toInt_inj.mp q)
      rw [if_neg h, if_neg h1]
      exact Or.inr (Or.inr ⟨by decide, by omega⟩)
theorem cl_hi {n : Int} (h : 10000000 ≤ n) : (10000000 : Int32) = cl n := cl_of (by
  have z : (10000000 : Int32).toInt = 10000000 := rfl
  omega)
theorem cl_lo {n : Int} (h : n ≤ -10000000) : (-10000000 : Int32) = cl n := cl_of (by
  have z : (-10000000 : Int32).toInt = -10000000 := rfl
  omega)
theorem cl_mid {x : Int64} {r : Int32} {n : Int} (hx : x.toInt = n) (h : n ≤ 10000000) (h' : -10000000 ≤ n) (e : r = x.toInt32) : r = cl n := cl_of (by
  rw [e, Int64.toInt_toInt32, ti_bm (by omega) (by omega)]
  omega)
theorem ti_dvq {a b q : Int32} (ha : -16777216 ≤ a.toInt ∧ a.toInt ≤ 16777215) (e : q = a / b) : q.toInt = a.toInt.tdiv b.toInt := by
  have hq : (a.toInt.tdiv b.toInt).natAbs ≤ a.toInt.natAbs := Int.natAbs_tdiv_le_natAbs _ _
  rw [e, Int32.toInt_div]
  exact ti_bm (by omega) (by omega)
theorem cl_in (n : Int) : -10000000 ≤ (cl n).toInt ∧ (cl n).toInt ≤ 10000000 := by
  have h : (cl n).toInt = max (-10000000) (min 10000000 n) := by
    unfold cl
    rw [Int32.toInt_ofInt]
    exact ti_bm (by omega) (by omega)
  omega
/-- a stack of numbers in their bounds -/
def B7 (x : Int32) : Prop := -16777216 ≤ x.toInt ∧ x.toInt ≤ 16777215
theorem cl_b (n : Int) : B7 (cl n) := by
  have h := cl_in n
  exact ⟨by omega, by omega⟩
theorem b24 {x : BitVec 32} : (-16777216 ≤ x.toInt ∧ x.toInt ≤ 16777215) ↔ (x.sshiftRight 24 = 0#32 ∨ x.sshiftRight 24 = -1#32) := by
  have h : (x.sshiftRight 24).toInt = x.toInt / 16777216 := by
    rw [BitVec.toInt_sshiftRight, Int.shiftRight_eq_div_pow]
    rfl
  have z0 : (0#32).toInt = 0 := by decide
  have z1 : (-1#32).toInt = -1 := by decide
  constructor
  · intro q
    rcases (show x.toInt / 16777216 = 0 ∨ x.toInt / 16777216 = -1 by omega) with e | e
    · exact Or.inl (BitVec.toInt_inj.mp (by omega))
    · exact Or.inr (BitVec.toInt_inj.mp (by omega))
  · intro q
    rcases q with e | e
    · have e2 := congrArg BitVec.toInt e
      omega
    · have e2 := congrArg BitVec.toInt e
      omega
theorem b24_and {x y : Int32} (hx : B7 x) (hy : B7 y) : B7 (x &&& y) := by
  refine b24.mpr ?_
  show (x.toBitVec &&& y.toBitVec).sshiftRight 24 = 0#32 ∨ (x.toBitVec &&& y.toBitVec).sshiftRight 24 = -1#32
  rw [BitVec.sshiftRight_and_distrib]
  rcases b24.mp hx with e | e <;> rcases b24.mp hy with e1 | e1 <;> rw [e, e1] <;> decide
theorem b24_or {x y : Int32} (hx : B7 x) (hy : B7 y) : B7 (x ||| y) := by
  refine b24.mpr ?_
  show (x.toBitVec ||| y.toBitVec).sshiftRight 24 = 0#32 ∨ (x.toBitVec ||| y.toBitVec).sshiftRight 24 = -1#32
  rw [BitVec.sshiftRight_or_distrib]
  rcases b24.mp hx with e | e <;> rcases b24.mp hy with e1 | e1 <;> rw [e, e1] <;> decide
def Bds (st : List Int32) : Prop := ∀ x ∈ st, B7 x
/-- the letters (class) -/
def cL (E : Nat → va_E) : Nat → Int32 := fun p => if p < 14 then xi (E 19) p else 0
/-- a piece of a row -/
def sg (f : Nat → Int) (a b : Nat) : List Int := (List.range' a (b - a)).map f
theorem sg_nil {f : Nat → Int} {a b : Nat} (h : b ≤ a) : sg f a b = [] := by
  unfold sg
  rw [show b - a = 0 by omega]
  rfl
theorem sg_s {f : Nat → Int} {a b : Nat} (h : a ≤ b) : sg f a (b + 1) = sg f a b ++ [f b] := by
  unfold sg
  rw [show b + 1 - a = (b - a) + 1 by omega, List.range'_concat, List.map_append]
  simp only [List.map_cons, List.map_nil]
  rw [show a + 1 * (b - a) = b by omega]
/-- the row 20 holds the stack st, its top last -/
def StR (E : Nat → va_E) (st : List Int32) : Prop := ∀ j, j < st.length → xi (E 20) j = st.getD (st.length - 1 - j) 0
theorem StR.nil {E : Nat → va_E} : StR E [] := fun j h => absurd h (Nat.not_lt_zero j)
theorem StR.push {E E1 : Nat → va_E} {st : List Int32} {x : Int32} (h : StR E st) (p : Pw E E1 20 st.length (.int x)) : StR E1 (x :: st) := fun j hj => by
  simp only [List.length_cons] at hj
  by_cases e : j = st.length
  · rw [e, show xi (E1 20) st.length = x from vi_e p.1]
    simp only [List.length_cons]
    rw [show st.length + 1 - 1 - st.length = 0 by omega]
    rfl
  · rw [show xi (E1 20) j = xi (E 20) j from congrArg vi (p.2 20 j (by omega)), h j (by omega)]
    simp only [List.length_cons]
    rw [show st.length + 1 - 1 - j = (st.length - 1 - j) + 1 by omega]
    rfl
theorem StR.set {E E1 : Nat → va_E} {st : List Int32} {a x : Int32} (h : StR E (a :: st)) (p : Pw E E1 20 st.length (.int x)) : StR E1 (x :: st) := StR.push (fun j hj => by
  have h1 := h j (by simp only [List.length_cons]; omega)
  rw [h1]
  simp only [List.length_cons]
  rw [show st.length + 1 - 1 - j = (st.length - 1 - j) + 1 by omega]
  rfl) p
theorem StR.top {E : Nat → va_E} {st : List Int32} {a : Int32} (h : StR E (a :: st)) : xi (E 20) st.length = a := by
  rw [h st.length (by simp only [List.length_cons]; omega)]
  simp only [List.length_cons]
  rw [show st.length + 1 - 1 - st.length = 0 by omega]
  rfl
theorem StR.tl {E : Nat → va_E} {st : List Int32} {a : Int32} (h : StR E (a :: st)) : StR E st := fun j hj => by
  rw [h j (by simp only [List.length_cons]; omega)]
  simp only [List.length_cons]
  rw [show st.length + 1 - 1 - j = (st.length - 1 - j) + 1 by omega]
  rfl
theorem StR.kp {E E1 : Nat → va_E} {st : List Int32} (h : StR E st) (hk : ∀ j, xi (E1 20) j = xi (E 20) j) : StR E1 st := fun j hj => by
  rw [hk, h j hj]
/-- the class's run: what stands on its stack behind the steps a .. i - 1 -/
def RunI (L : Nat → Int32) (f : Nat → Int) (a : Nat) (E : Nat → va_E) (i h : Nat) : Prop := a ≤ i ∧ StR E (X L (sg f a i) []) ∧ (X L (sg f a i) []).length = h ∧ Bds (X L (sg f a i) [])
section RN
variable {L : Nat → Int32} {f : Nat → Int} {a : Nat} {E E1 : Nat → va_E} {i h : Nat} {v : Int32}
theorem RunI.start : RunI L f a E a 0 := by
  unfold RunI
  rw [sg_nil (Nat.le_refl a)]
  exact ⟨Nat.le_refl a, StR.nil, rfl, fun x hx => absurd hx (List.not_mem_nil)⟩
theorem X_s (ha : a ≤ i) : X L (sg f a (i + 1)) [] = x1 L (f i) (X L (sg f a i) []) := by
  rw [sg_s ha, X_app]
  rfl
theorem B7_01 {c : Prop} [Decidable c] : B7 (if c then 1 else 0) := by
  by_cases q : c
  · rw [if_pos q]
    exact ⟨by decide, by decide⟩
  · rw [if_neg q]
    exact ⟨by decide, by decide⟩
theorem RunI.push (hr : RunI L f a E i h) (hc : -100 < f i) (hv : v = if 0 ≤ f i then Int32.ofInt (f i) else L (-1 - f i).toNat) (hb : B7 v) (p : Pw E E1 20 h (.int v)) : RunI L f a E1 (i + 1) (h + 1) := by
  obtain ⟨h1, h2, h3, h4⟩ := hr
  have e : X L (sg f a (i + 1)) [] = v :: X L (sg f a i) [] := by
    rw [X_s h1]
    unfold x1
    rw [if_neg (by omega), hv]
  unfold RunI
  rw [e]
  rw [← h3] at p
  refine ⟨by omega, h2.push p, by rw [List.length_cons, h3], fun x hx => ?_⟩
  rcases List.mem_cons.mp hx with q | q
  · rw [q]
    exact hb
  · exact h4 x q
theorem RunI.not0 (hr : RunI L f a E i h) (hc : f i = -133) (h0 : h = 0) : RunI L f a E (i + 1) h := by
  obtain ⟨h1, h2, h3, h4⟩ := hr
  have e0 : X L (sg f a i) [] = [] := List.length_eq_zero_iff.mp (h3.trans h0)
  have e : X L (sg f a (i + 1)) [] = X L (sg f a i) [] := by
    rw [X_s h1, e0]
    unfold x1
    rw [if_pos (by omega), if_pos (by omega)]
  unfold RunI
  rw [e]
  exact ⟨by omega, h2, h3, h4⟩
theorem RunI.not (hr : RunI L f a E i (h + 1)) (hc : f i = -133) (hv : v = if xi (E 20) h = 0 then 1 else 0) (p : Pw E E1 20 h (.int v)) : RunI L f a E1 (i + 1) (h + 1) := by
  obtain ⟨h1, h2, h3, h4⟩ := hr
  rcases hs : X L (sg f a i) [] with _ | ⟨b, st⟩
  · rw [hs] at h3
    exact absurd h3 (by simp only [List.length_nil]; omega)
  · rw [hs] at h2 h3 h4
    have l : st.length = h := by
      simp only [List.length_cons] at h3
      omega
    have e : X L (sg f a (i + 1)) [] = v :: st := by
      rw [X_s h1, hs]
      unfold x1
      rw [if_pos (by omega), if_pos (by omega), hv, ← l, h2.top]
    unfold RunI
    rw [e]
    rw [← l] at p
    refine ⟨by omega, h2.set p, by rw [List.length_cons, l], fun x hx => ?_⟩
    rcases List.mem_cons.mp hx with q | q
    · rw [q, hv]
      exact B7_01
    · exact h4 x (List.mem_cons_of_mem _ q)
theorem RunI.join0 (hr : RunI L f a E i h) (hc : f i ≤ -100) (hc3 : ¬ f i = -133) (h0 : h < 2) : RunI L f a E (i + 1) h := by
  obtain ⟨h1, h2, h3, h4⟩ := hr
  have e : X L (sg f a (i + 1)) [] = X L (sg f a i) [] := by
    rw [X_s h1]
    unfold x1
    rw [if_pos hc, if_neg (by omega)]
    rcases hs : X L (sg f a i) [] with _ | ⟨b, _ | ⟨c, st⟩⟩
    · rfl
    · rfl
    · rw [hs] at h3
      simp only [List.length_cons] at h3
      omega
  unfold RunI
  rw [e]
  exact ⟨by omega, h2, h3, h4⟩
theorem jn_b {s : Int} {x y : Int32} (hx : B7 x) (hy : B7 y) : B7 (jn s x y) := by
  unfold jn
  by_cases c1 : s = 43
  · rw [if_pos c1]
    exact cl_b _
  rw [if_neg c1]
  by_cases c2 : s = 45
  · rw [if_pos c2]
    exact cl_b _
  rw [if_neg c2]
  by_cases c3 : s = 42
  · rw [if_pos c3]
    exact cl_b _
  rw [if_neg c3]
  by_cases c4 : s = 47
  · rw [if_pos c4]
    by_cases c5 : y = 0
    · rw [if_pos c5]
      exact ⟨by decide, by decide⟩
    · rw [if_neg c5]
      exact cl_b _
  rw [if_neg c4]
  by_cases c6 : s = 61
  · rw [if_pos c6]
    exact B7_01
  rw [if_neg c6]
  by_cases c7 : s = 60
  · rw [if_pos c7]
    exact B7_01
  rw [if_neg c7]
  by_cases c8 : s = 62
  · rw [if_pos c8]
    exact B7_01
  rw [if_neg c8]
  by_cases c9 : s = 38
  · rw [if_pos c9]
    exact b24_and hx hy
  · rw [if_neg c9]
    exact b24_or hx hy
theorem RunI.join (hr : RunI L f a E i (h + 2)) (hc : f i ≤ -100) (hc3 : ¬ f i = -133) (hv : v = jn (-100 - f i) (xi (E 20) h) (xi (E 20) (h + 1))) (p : Pw E E1 20 h (.int v)) : RunI L f a E1 (i + 1) (h + 1) := by
  obtain ⟨h1, h2, h3, h4⟩ := hr
  rcases hs : X L (sg f a i) [] with _ | ⟨b, _ | ⟨c, st⟩⟩
  · rw [hs] at h3
    simp only [List.length_nil] at h3
    omega
  · rw [hs] at h3
    simp only [List.length_cons, List.length_nil] at h3
    omega
  · rw [hs] at h2 h3 h4
    have l : st.length = h := by
      simp only [List.length_cons] at h3
      omega
    have tb : xi (E 20) (h + 1) = b := by
      have q := h2.top
      simp only [List.length_cons] at q
      rw [l] at q
      exact q
    have tc : xi (E 20) h = c := by
      have q := h2.tl.top
      rw [l] at q
      exact q
    have e : X L (sg f a (i + 1)) [] = v :: st := by
      rw [X_s h1, hs]
      unfold x1
      rw [if_pos hc, if_neg (by omega), hv, tb, tc]
    unfold RunI
    rw [e]
    rw [← l] at p
    refine ⟨by omega, h2.tl.set p, by rw [List.length_cons, l], fun x hx => ?_⟩
    rcases List.mem_cons.mp hx with q | q
    · rw [q, hv, tb, tc]
      exact jn_b (h4 c (List.mem_cons_of_mem _ (List.mem_cons_self))) (h4 b (List.mem_cons_self))
    · exact h4 x (List.mem_cons_of_mem _ (List.mem_cons_of_mem _ q))
theorem RunI.kp {E1 : Nat → va_E} (hr : RunI L f a E i h) (hk : ∀ j, xi (E1 20) j = xi (E 20) j) : RunI L f a E1 i h := ⟨hr.1, hr.2.1.kp hk, hr.2.2.1, hr.2.2.2⟩
/-- what run answers -/
def rT (st : List Int32) : Int32 := st.headD 0
theorem RunI.out0 (hr : RunI L f a E i h) (h0 : h = 0) : (0 : Int32) = rT (X L (sg f a i) []) := by
  rw [List.length_eq_zero_iff.mp (hr.2.2.1.trans h0)]
  rfl
theorem RunI.out (hr : RunI L f a E i (h + 1)) : xi (E 20) h = rT (X L (sg f a i) []) := by
  obtain ⟨h1, h2, h3, h4⟩ := hr
  rcases hs : X L (sg f a i) [] with _ | ⟨b, st⟩
  · rw [hs] at h3
    simp only [List.length_nil] at h3
    omega
  · rw [hs] at h2 h3
    have l : st.length = h := by
      simp only [List.length_cons] at h3
      omega
    have q := h2.top
    rw [l] at q
    exact q
end RN
theorem jn_o {s : Int} {a b r : Int32} (h1 : ¬ s = 43) (h2 : ¬ s = 45) (h3 : ¬ s = 42) (h4 : ¬ s = 47) (h5 : ¬ s = 61) (h6 : ¬ s = 60) (h7 : ¬ s = 62) (h8 : ¬ s = 38) (e : r = a ||| b) : r = jn s a b := by
  unfold jn
  rw [if_neg h1, if_neg h2, if_neg h3, if_neg h4, if_neg h5, if_neg h6, if_neg h7, if_neg h8]
  exact e

