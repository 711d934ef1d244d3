

/-! ===== bytes that are fed ===== -/
theorem and255 (y : Int32) : (y &&& 255).toInt = y.toInt % 256 := by
  have h1 : (y &&& 255).toBitVec.toNat = y.toBitVec.toNat % 256 := by
    rw [Int32.toBitVec_and, BitVec.toNat_and]
    exact Nat.and_two_pow_sub_one_eq_mod _ 8
  show (y &&& 255).toBitVec.toInt = y.toBitVec.toInt % 256
  rw [BitVec.toInt_eq_toNat_cond, BitVec.toInt_eq_toNat_cond, h1]
  have := y.toBitVec.isLt
  split <;> split <;> omega
theorem i8_mod (y : Int32) : (y.toInt8.toInt32).toInt % 256 = y.toInt % 256 := by
  rw [Int8.toInt_toInt32, Int32.toInt_toInt8]
  exact Int.bmod_emod
def bys1 (y : Int32) : List Int := if y = 0 then [] else [y.toInt]
def bysP (a : Int32) : Nat → List Int
  | 0 => []
  | k + 1 => bysP a k ++ bys1 (ub_by a (24 - 8 * k))
def bys (a : Int32) : List Int := bysP a 4
/-- a row with some more behind -/
def Fed (t t' : Nat → Int) (n n' : Nat) (l : List Int) : Prop := n' = n + l.length ∧ (∀ j, (j < n ∨ n + l.length ≤ j) → t' j = t j) ∧ ∀ j, j < l.length → t' (n + j) = l.getD j 0
theorem Fed.rf {t : Nat → Int} {n : Nat} : Fed t t n n [] := ⟨rfl, fun _ _ => rfl, fun j hj => absurd hj (Nat.not_lt_zero _)⟩
theorem Fed.tr {t t1 t2 : Nat → Int} {n n1 n2 : Nat} {l m : List Int} (h : Fed t t1 n n1 l) (h1 : Fed t1 t2 n1 n2 m) : Fed t t2 n n2 (l ++ m) := by
  obtain ⟨a1, a2, a3⟩ := h
  obtain ⟨b1, b2, b3⟩ := h1
  refine ⟨by rw [List.length_append]; omega, fun j hj => ?_, fun j hj => ?_⟩
  · rw [List.length_append] at hj
    exact (b2 j (by omega)).trans (a2 j (by omega))
  · rw [List.length_append] at hj
    by_cases c : j < l.length
    · rw [b2 _ (by omega), a3 j c]
      simp only [List.getD_eq_getElem?_getD, List.getElem?_append_left c]
    · have e : n + j = n1 + (j - l.length) := by omega
      rw [e, b3 _ (by omega)]
      simp only [List.getD_eq_getElem?_getD, List.getElem?_append_right (Nat.le_of_not_lt c)]
theorem Fed.one {t t1 : Nat → Int} {n n1 : Nat} {v : Int} (hn : n1 = n + 1) (h0 : ∀ j, ¬ j = n → t1 j = t j) (h1 : t1 n = v) : Fed t t1 n n1 [v] := ⟨hn, fun j hj => h0 j (by
  simp only [List.length_singleton] at hj
  omega), fun j hj => by
  have : j = 0 := by
    simp only [List.length_singleton] at hj
    omega
  subst this
  exact h1⟩
theorem Fed.al {ta ta' tb tb' : Nat → Int} {na na' nb nb' : Nat} {l : List Int} (ha : Fed ta ta' na na' l) (hb : Fed tb tb' nb nb' l) (hn : na = nb) (ht : ta = tb) : na' = nb' ∧ ta' = tb' := by
  obtain ⟨a1, a2, a3⟩ := ha
  obtain ⟨b1, b2, b3⟩ := hb
  subst hn
  subst ht
  refine ⟨by omega, funext (fun j => ?_)⟩
  by_cases c : j < na ∨ na + l.length ≤ j
  · rw [a2 j c, b2 j c]
  · have e : j = na + (j - na) := by omega
    rw [e, a3 _ (by omega), b3 _ (by omega)]
/-- the class -/
def FedC (l : List Int) (E E' : Nat → va_E) : Prop := Fed (tT E) (tT E') (tN E) (tN E') l
theorem FedC.push {E1 E2 E3 : Nat → va_E} {x y y' : Int32} (p : Pw E1 E2 21 y.toNatClampNeg (.int x)) (q : Pw E2 E3 2 1 (.int y')) (hy : xi (E1 2) 1 = y) (t : y'.toInt = y.toInt + 1) (h0 : 0 ≤ y.toInt) : FedC [x.toInt] E1 E3 := by
  refine Fed.one ?_ (fun j hj => ?_) ?_
  · show (xi (E3 2) 1).toNatClampNeg = (xi (E1 2) 1).toNatClampNeg + 1
    rw [show xi (E3 2) 1 = y' from vi_e q.1, hy, tn_, tn_]
    omega
  · show (xi (E3 21) j).toInt = (xi (E1 21) j).toInt
    have hj' : ¬ j = (xi (E1 2) 1).toNatClampNeg := hj
    rw [hy] at hj'
    rw [show xi (E3 21) j = xi (E2 21) j from congrArg vi (q.2 21 j (by omega)), show xi (E2 21) j = xi (E1 21) j from congrArg vi (p.2 21 j (by omega))]
  · show (xi (E3 21) (xi (E1 2) 1).toNatClampNeg).toInt = x.toInt
    rw [hy, show xi (E3 21) y.toNatClampNeg = xi (E2 21) y.toNatClampNeg from congrArg vi (q.2 21 _ (by omega)), show xi (E2 21) y.toNatClampNeg = x from vi_e p.1]
theorem bysP_0 {a y : Int32} {k : Nat} (e : ub_by a (24 - 8 * k) = y) (h : y = 0) : bysP a (k + 1) = bysP a k := by
  show bysP a k ++ bys1 (ub_by a (24 - 8 * k)) = _
  rw [e, h]
  exact List.append_nil _
theorem bysP_1 {a y : Int32} {k : Nat} (e : ub_by a (24 - 8 * k) = y) (h : ¬ y = 0) : bysP a (k + 1) = bysP a k ++ [y.toInt] := by
  show bysP a k ++ bys1 (ub_by a (24 - 8 * k)) = _
  rw [e, show bys1 y = [y.toInt] from if_neg h]
/-- the reference -/
def lMn (E : Nat → va_E) : Nat := (xi (E 0) 16).toNatClampNeg
def fM (E : Nat → va_E) : Nat → Int := fun j => (xi (E 7) j).toInt % 256
def FedM (l : List Int) (E E' : Nat → va_E) : Prop := Fed (fM E) (fM E') (lMn E) (lMn E') l
theorem FedM.push {E1 E2 E3 : Nat → va_E} {x y y' : Int32} {v : Int} (p : Pw E1 E2 7 y.toNatClampNeg (.int x)) (q : Pw E2 E3 0 16 (.int y')) (hy : xi (E1 0) 16 = y) (t : y'.toInt = y.toInt + 1) (h0 : 0 ≤ y.toInt) (hv : x.toInt % 256 = v) : FedM [v] E1 E3 := by
  refine Fed.one ?_ (fun j hj => ?_) ?_
  · show (xi (E3 0) 16).toNatClampNeg = (xi (E1 0) 16).toNatClampNeg + 1
    rw [show xi (E3 0) 16 = y' from vi_e q.1, hy, tn_, tn_]
    omega
  · show (xi (E3 7) j).toInt % 256 = (xi (E1 7) j).toInt % 256
    have hj' : ¬ j = (xi (E1 0) 16).toNatClampNeg := hj
    rw [hy] at hj'
    rw [show xi (E3 7) j = xi (E2 7) j from congrArg vi (q.2 7 j (by omega)), show xi (E2 7) j = xi (E1 7) j from congrArg vi (p.2 7 j (by omega))]
  · show (xi (E3 7) (xi (E1 0) 16).toNatClampNeg).toInt % 256 = v
    rw [hy, show xi (E3 7) y.toNatClampNeg = xi (E2 7) y.toNatClampNeg from congrArg vi (q.2 7 _ (by omega)), show xi (E2 7) y.toNatClampNeg = x from vi_e p.1]
    exact hv
theorem byt_n {a z1 z2 y1 y2 : Int32} (e2 : z2 = z1.toInt8.toInt32) (e1 : z1 = a) (f1 : y1 = a) (f2 : y2 = y1 &&& 255) : (vp_nar .byte z2).toInt % 256 = y2.toInt := by
  have h1 : (vp_nar .byte z2).toInt % 256 = z2.toInt % 256 := i8_mod z2
  rw [h1, e2, i8_mod, e1, f2, f1, and255]
theorem FedM.pw0 {E E' : Nat → va_E} {j : Nat} {v : Value} (p : Pw E E' 0 j v) (hj : ¬ j = 16) : FedM [] E E' := ⟨by
  show (xi (E' 0) 16).toNatClampNeg = (xi (E 0) 16).toNatClampNeg + 0
  rw [show xi (E' 0) 16 = xi (E 0) 16 from congrArg vi (p.2 0 16 (by omega))]
  rfl, fun i _ => by
  show (xi (E' 7) i).toInt % 256 = (xi (E 7) i).toInt % 256
  rw [show xi (E' 7) i = xi (E 7) i from congrArg vi (p.2 7 i (by omega))], fun i hi => absurd hi (Nat.not_lt_zero _)⟩

