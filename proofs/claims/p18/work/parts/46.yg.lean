

/-! ===== run and worthOf of the class, over ints ===== -/
section RN2
variable {L : Nat → Int32} {f : Nat → Int} {a : Nat} {E E1 : Nat → va_E} {i i' : Nat} {x xh y z b b1 b2 v : Int32}
theorem RunI.b7 (hr : RunI L f a E i x.toNatClampNeg) (h0 : 0 ≤ z.toInt) (h1 : z.toInt < x.toInt) (e : b = xi (E 20) z.toNatClampNeg) : B7 b := by
  obtain ⟨-, h2, h3, h4⟩ := hr
  have hz : z.toNatClampNeg < (X L (sg f a i) []).length := by
    rw [h3, tn_, tn_]
    omega
  rw [e, h2 _ hz]
  refine h4 _ ?_
  have hk : (X L (sg f a i) []).length - 1 - z.toNatClampNeg < (X L (sg f a i) []).length := by omega
  rw [List.getD_eq_getElem?_getD, List.getElem?_eq_getElem hk]
  exact List.getElem_mem hk
theorem RunI.notI (hr : RunI L f a E i x.toNatClampNeg) (hc : f i = -133) (hx : 0 < x.toInt) (hy : y.toInt = x.toInt - 1) (hz : z.toInt = x.toInt - 1) (eb : b = xi (E 20) z.toNatClampNeg) (hv : v = if b = 0 then 1 else 0) (p : Pw E E1 20 y.toNatClampNeg (.int v)) (hi : i' = i + 1) : RunI L f a E1 i' x.toNatClampNeg := by
  have e1 : x.toNatClampNeg = y.toNatClampNeg + 1 := by
    rw [tn_, tn_]
    omega
  have e2 : z.toNatClampNeg = y.toNatClampNeg := by
    rw [tn_, tn_]
    omega
  rw [e2] at eb
  rw [eb] at hv
  rw [e1] at hr ⊢
  rw [hi]
  exact hr.not hc hv p
theorem RunI.joinI (hr : RunI L f a E i x.toNatClampNeg) (hc : f i ≤ -100) (hc3 : ¬ f i = -133) (hx : 1 < x.toInt) (hh : xh.toInt = x.toInt - 1) (hy : y.toInt = xh.toInt - 1) (hz : z.toInt = xh.toInt - 1) (e1 : b1 = xi (E 20) z.toNatClampNeg) (e2 : b2 = xi (E 20) xh.toNatClampNeg) (hv : v = jn (-100 - f i) b1 b2) (p : Pw E E1 20 y.toNatClampNeg (.int v)) (hi : i' = i + 1) : RunI L f a E1 i' xh.toNatClampNeg := by
  have g1 : x.toNatClampNeg = y.toNatClampNeg + 2 := by
    rw [tn_, tn_]
    omega
  have g2 : z.toNatClampNeg = y.toNatClampNeg := by
    rw [tn_, tn_]
    omega
  have g3 : xh.toNatClampNeg = y.toNatClampNeg + 1 := by
    rw [tn_, tn_]
    omega
  rw [g2] at e1
  rw [g3] at e2
  rw [e1, e2] at hv
  rw [g1] at hr
  rw [g3, hi]
  exact hr.join hc hc3 hv p
theorem RunI.pushI (hr : RunI L f a E i x.toNatClampNeg) (hc : -100 < f i) (hv : v = if 0 ≤ f i then Int32.ofInt (f i) else L (-1 - f i).toNat) (hb : B7 v) (p : Pw E E1 20 x.toNatClampNeg (.int v)) (h0 : 0 ≤ x.toInt) (hy : y.toInt = x.toInt + 1) (hi : i' = i + 1) : RunI L f a E1 i' y.toNatClampNeg := by
  have g1 : y.toNatClampNeg = x.toNatClampNeg + 1 := by
    rw [tn_, tn_]
    omega
  rw [g1, hi]
  exact hr.push hc hv hb p
theorem RunI.not0I (hr : RunI L f a E i x.toNatClampNeg) (hc : f i = -133) (h0 : x.toInt ≤ 0) (hi : i' = i + 1) : RunI L f a E i' x.toNatClampNeg := by
  rw [hi]
  exact hr.not0 hc (by rw [tn_]; omega)
theorem RunI.join0I (hr : RunI L f a E i x.toNatClampNeg) (hc : f i ≤ -100) (hc3 : ¬ f i = -133) (h0 : x.toInt ≤ 1) (hi : i' = i + 1) : RunI L f a E i' x.toNatClampNeg := by
  rw [hi]
  exact hr.join0 hc hc3 (by rw [tn_]; omega)
theorem RunI.outI {j : Nat} (hr : RunI L f a E i x.toNatClampNeg) (hx : 0 < x.toInt) (hy : y.toInt = x.toInt - 1) (e : b = xi (E 20) y.toNatClampNeg) (hi : i = j) : b = rT (X L (sg f a j) []) := by
  have g1 : x.toNatClampNeg = y.toNatClampNeg + 1 := by
    rw [tn_, tn_]
    omega
  rw [g1] at hr
  rw [e, ← hi]
  exact hr.out
theorem RunI.out0I {j : Nat} (hr : RunI L f a E i x.toNatClampNeg) (hx : x.toInt ≤ 0) (hi : i = j) : (0 : Int32) = rT (X L (sg f a j) []) := by
  rw [← hi]
  exact hr.out0 (by rw [tn_]; omega)
/-- a step that is pushed: a number, or a letter -/
theorem psh_n {s : Int32} (h : 0 ≤ s.toInt) (e : f i = s.toInt) : s = if 0 ≤ f i then Int32.ofInt (f i) else L (-1 - f i).toNat := by
  rw [e, if_pos h, Int32.ofInt_toInt]
theorem psh_l {s q r : Int32} (h : s.toInt < 0) (e : f i = s.toInt) (hq : q.toInt = -1 - s.toInt) (hr : r = L q.toNatClampNeg) : r = if 0 ≤ f i then Int32.ofInt (f i) else L (-1 - f i).toNat := by
  rw [e, if_neg (by omega), hr, tn_, hq]
end RN2
theorem cL_k {E E' : Nat → va_E} (h : ∀ j, xi (E' 19) j = xi (E 19) j) : cL E' = cL E := funext (fun p => by
  unfold cL
  rw [h])
/-! ===== WORTH of a LABEL ===== -/
abbrev Cla : Type := Int × List Int × List Int
def holds (L : Nat → Int32) (c : Cla) : Prop := c.2.1 = [] ∨ ¬ rT (X L c.2.1 []) = 0
def wo (L : Nat → Int32) (lab : Int) : List Cla → Int32
  | [] => if lab = 110 then 1000 else 0
  | c :: r => if c.1 = lab ∧ (c.2.1 = [] ∨ ¬ rT (X L c.2.1 []) = 0) then rT (X L c.2.2 []) else wo L lab r
/-- the rows of RULES i -/
def rSt (E : Nat → va_E) (i : Nat) : Nat → Int := fun j => (xi (E (64 * (i + 1) + 2)) j).toInt
def rLa (E : Nat → va_E) (i : Nat) : Nat → Int := fun j => (xi (E (64 * (i + 1) + 3)) j).toInt
def rBe (E : Nat → va_E) (i : Nat) : Nat → Int := fun j => (xi (E (64 * (i + 1) + 4)) j).toInt
def rSu (E : Nat → va_E) (i : Nat) : Nat → Int := fun j => (xi (E (64 * (i + 1) + 5)) j).toInt
/-- CLAUSE k of rows -/
def clA (st la be su : Nat → Int) (k : Nat) : Cla := (la k, sg st (be k).toNat (su k).toNat, sg st (su k).toNat (be (k + 1)).toNat)
def clsA (st la be su : Nat → Int) (m : Nat) : List Cla := (List.range m).map (clA st la be su)
def clE (E : Nat → va_E) (i m : Nat) : List Cla := clsA (rSt E i) (rLa E i) (rBe E i) (rSu E i) m
def RuOk (st be su : Nat → Int) (m s : Nat) : Prop := (∀ k, k < m → 0 ≤ be k ∧ be k ≤ su k ∧ su k ≤ be (k + 1) ∧ be (k + 1) ≤ (s : Int)) ∧ ∀ j, j < s → st j ≤ 16777215
def RulOk (E : Nat → va_E) (i m s : Nat) : Prop := RuOk (rSt E i) (rBe E i) (rSu E i) m s
/-- how far worthOf is -/
def WoI (L : Nat → Int32) (lab : Int) (g : Nat → Cla) (m k : Nat) : Prop := wo L lab ((List.range m).map g) = wo L lab ((List.range' k (m - k)).map g)
section WO
variable {L : Nat → Int32} {lab : Int} {g : Nat → Cla} {m k k' : Nat}
theorem WoI.start : WoI L lab g m 0 := by
  unfold WoI
  rw [List.range_eq_range']
  rfl
theorem wo_s (h : k < m) : wo L lab ((List.range' k (m - k)).map g) = if (g k).1 = lab ∧ ((g k).2.1 = [] ∨ ¬ rT (X L (g k).2.1 []) = 0) then rT (X L (g k).2.2 []) else wo L lab ((List.range' (k + 1) (m - (k + 1))).map g) := by
  rw [show m - k = (m - (k + 1)) + 1 by omega, List.range'_succ, List.map_cons]
  rfl
theorem WoI.step (h : WoI L lab g m k) (hk : k < m) (hn : ¬ ((g k).1 = lab ∧ ((g k).2.1 = [] ∨ ¬ rT (X L (g k).2.1 []) = 0))) (e : k' = k + 1) : WoI L lab g m k' := by
  unfold WoI at h ⊢
  rw [h, wo_s hk, if_neg hn, e]
theorem WoI.found {v : Int32} (h : WoI L lab g m k) (hk : k < m) (h1 : (g k).1 = lab) (h2 : (g k).2.1 = [] ∨ ¬ rT (X L (g k).2.1 []) = 0) (hv : v = rT (X L (g k).2.2 [])) : v = wo L lab ((List.range m).map g) := by
  unfold WoI at h
  rw [h, wo_s hk, if_pos ⟨h1, h2⟩, hv]
theorem WoI.none {v : Int32} (h : WoI L lab g m k) (hk : m ≤ k) (hv : v = if lab = 110 then 1000 else 0) : v = wo L lab ((List.range m).map g) := by
  unfold WoI at h
  rw [h, show m - k = 0 by omega, hv]
  rfl
end WO
theorem sg_ne {f : Nat → Int} {a b : Nat} (h : a < b) : ¬ sg f a b = [] := fun q => by
  have h1 := congrArg List.length q
  unfold sg at h1
  simp only [List.length_map, List.length_range', List.length_nil] at h1
  omega

