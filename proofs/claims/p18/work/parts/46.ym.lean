

/-! ===== letters ===== -/
def lz : Nat → Int32 := fun _ => 0
def lset (L : Nat → Int32) (p : Nat) (v : Int32) : Nat → Int32 := fun q => if q = p then v else L q
theorem lz_b : ∀ p, B7 (lz p) := fun _ => ⟨(by decide : (-16777216 : Int) ≤ (0 : Int32).toInt), (by decide : (0 : Int32).toInt ≤ 16777215)⟩
theorem ls_b {L : Nat → Int32} {p : Nat} {v : Int32} (h : ∀ q, B7 (L q)) (hv : B7 v) : ∀ q, B7 (lset L p v q) := fun q => by
  unfold lset
  by_cases e : q = p
  · rw [if_pos e]
    exact hv
  · rw [if_neg e]
    exact h q
theorem fl_s {E E1 : Nat → va_E} {o : Nat} {x y v : Int32} (h : ∀ j, j < x.toNatClampNeg → xi (E o) j = v) (p : Pw E E1 o x.toNatClampNeg (.int v)) (t : y.toInt = x.toInt + 1) (h0 : 0 ≤ x.toInt) : ∀ j, j < y.toNatClampNeg → xi (E1 o) j = v := fun j hj => by
  have e : y.toNatClampNeg = x.toNatClampNeg + 1 := by
    rw [tn_, tn_]
    omega
  by_cases q : j = x.toNatClampNeg
  · rw [q]
    exact vi_e p.1
  · rw [show xi (E1 o) j = xi (E o) j from congrArg vi (p.2 o j (fun r => q r.2))]
    exact h j (by omega)
theorem cL_0 {E : Nat → va_E} (h : ∀ j, j < 14 → xi (E 19) j = 0) : cL E = lz := funext (fun p => by
  unfold cL lz
  by_cases q : p < 14
  · rw [if_pos q]
    exact h p q
  · rw [if_neg q])
theorem cL_set {E E1 : Nat → va_E} {x v : Int32} {k : Nat} (p : Pw E E1 19 x.toNatClampNeg (.int v)) (hx : x.toNatClampNeg = k) (hk : k < 14) : cL E1 = lset (cL E) k v := funext (fun q => by
  rw [hx] at p
  unfold cL lset
  by_cases e : q = k
  · rw [if_pos e, e, if_pos hk]
    exact vi_e p.1
  · rw [if_neg e, show xi (E1 19) q = xi (E 19) q from congrArg vi (p.2 19 q (fun r => e r.2))])
theorem let_ne : ∀ p, p < 14 → ∀ q, q < 14 → q ≠ p → (lets.getD q 0).toNat ≠ (lets.getD p 0).toNat := by decide
theorem let_nz : ∀ p, p < 14 → 0 ≠ (lets.getD p 0).toNat := by decide
theorem let_128 : ∀ p, p < 14 → (lets.getD p 0).toNat < 128 := by decide
theorem let_hi {q : Nat} (h : 14 ≤ q) : lets.getD q 0 = 0 := by
  rw [List.getD_eq_getElem?_getD, List.getElem?_eq_none (show lets.length ≤ q from h)]
  rfl
theorem mL_0 {E : Nat → va_E} (h : ∀ j, j < 128 → xi (E 12) j = 0) : mLt E = lz := funext (fun p => by
  unfold mLt lz
  by_cases q : p < 14
  · exact h _ (let_128 p q)
  · rw [let_hi (by omega)]
    exact h 0 (by decide))
theorem mL_set {E E1 : Nat → va_E} {x v : Int32} {k : Nat} (p : Pw E E1 12 x.toNatClampNeg (.int v)) (hk : k < 14) (hx : x.toNatClampNeg = (lets.getD k 0).toNat) : mLt E1 = lset (mLt E) k v := funext (fun q => by
  rw [hx] at p
  unfold mLt lset
  by_cases e : q = k
  · rw [if_pos e, e]
    exact vi_e p.1
  · rw [if_neg e]
    refine congrArg vi (p.2 12 _ (fun r => ?_))
    by_cases c : q < 14
    · exact let_ne k hk q c e r.2
    · rw [let_hi (by omega)] at r
      exact let_nz k hk r.2)
/-! ===== RULES of the class ===== -/
def RulAll (cf : Nat → Nat) (E : Nat → va_E) : Prop := ∀ i, i < cf 1 → RulOk E i (cf (8 + 2 * i)) (cf (9 + 2 * i))
theorem rul_cg {E E' : Nat → va_E} {i : Nat} (h : ∀ t, 2 ≤ t → t < 6 → ∀ j, xi (E' (64 * (i + 1) + t)) j = xi (E (64 * (i + 1) + t)) j) : rSt E' i = rSt E i ∧ rLa E' i = rLa E i ∧ rBe E' i = rBe E i ∧ rSu E' i = rSu E i := ⟨funext (fun j => congrArg Int32.toInt (h 2 (by decide) (by decide) j)), funext (fun j => congrArg Int32.toInt (h 3 (by decide) (by decide) j)), funext (fun j => congrArg Int32.toInt (h 4 (by decide) (by decide) j)), funext (fun j => congrArg Int32.toInt (h 5 (by decide) (by decide) j))⟩
theorem RulOk.cg {E E' : Nat → va_E} {i m s : Nat} (h : RulOk E i m s) (hc : ∀ t, 2 ≤ t → t < 6 → ∀ j, xi (E' (64 * (i + 1) + t)) j = xi (E (64 * (i + 1) + t)) j) : RulOk E' i m s := by
  obtain ⟨e1, e2, e3, e4⟩ := rul_cg hc
  unfold RulOk
  rw [e1, e3, e4]
  exact h
theorem clE_cg {E E' : Nat → va_E} {i m : Nat} (hc : ∀ t, 2 ≤ t → t < 6 → ∀ j, xi (E' (64 * (i + 1) + t)) j = xi (E (64 * (i + 1) + t)) j) : clE E' i m = clE E i m := by
  obtain ⟨e1, e2, e3, e4⟩ := rul_cg hc
  unfold clE
  rw [e1, e2, e3, e4]
theorem kp_rul {w : Nat → Nat → Bool} {E E' : Nat → va_E} (hk : Kp w E E') (hw : ∀ o, 64 ≤ o → ∀ j, w o j = false) (i : Nat) : ∀ t, 2 ≤ t → t < 6 → ∀ j, xi (E' (64 * (i + 1) + t)) j = xi (E (64 * (i + 1) + t)) j := fun t _ _ j => congrArg vi (hk _ j (hw _ (by omega) j))
theorem RulAll.kp {cf : Nat → Nat} {w : Nat → Nat → Bool} {E E' : Nat → va_E} (h : RulAll cf E) (hk : Kp w E E') (hw : ∀ o, 64 ≤ o → ∀ j, w o j = false) : RulAll cf E' := fun i hi => (h i hi).cg (kp_rul hk hw i)
/-! ===== NUMBER ===== -/
theorem cO_in {gB gF gT : Nat → Int32} {boat day q : Int32} : ∀ n : Nat, n ≤ 4000 → (cO gB gF gT boat day q n).toInt = -1 ∨ (0 ≤ (cO gB gF gT boat day q n).toInt ∧ (cO gB gF gT boat day q n).toInt < (n : Int)) := by
  intro n
  induction n with
  | zero => exact fun _ => Or.inl rfl
  | succ n ih =>
    intro hn
    by_cases c : gB n = boat ∧ gT n ≤ q ∧ gF n ≤ day ∧ (cO gB gF gT boat day q n = -1 ∨ gF (cO gB gF gT boat day q n).toNatClampNeg ≤ gF n)
    · rw [show cO gB gF gT boat day q (n + 1) = nI n from if_pos c, nI_toInt (by omega)]
      exact Or.inr ⟨by omega, by omega⟩
    · rw [show cO gB gF gT boat day q (n + 1) = cO gB gF gT boat day q n from if_neg c]
      exact (ih (by omega)).imp id (fun h => ⟨h.1, by omega⟩)
/-- NUMBER out of RULES, CERTIFICATE and what RULES say of letters -/
def nuA (law paper a b c : Int32) (W : (Nat → Int32) → Int32) : Int := if law.toInt = -1 ∨ paper.toInt = -1 then 1000 else max 500 (min 2000 (W (lset (lset (lset lz 0 a) 1 b) 2 c)).toInt)
theorem nuA_0 {law paper a b c : Int32} {W : (Nat → Int32) → Int32} (h : law.toInt = -1 ∨ paper.toInt = -1) : (1000 : Int32).toInt = nuA law paper a b c W := by
  unfold nuA
  rw [if_pos h]
  rfl
theorem nuA_1 {law paper a b c w : Int32} {n : Int} {W : (Nat → Int32) → Int32} (h : ¬ law.toInt = -1) (h1 : ¬ paper.toInt = -1) (hw : w = W (lset (lset (lset lz 0 a) 1 b) 2 c)) (hn : n = max 500 (min 2000 w.toInt)) : n = nuA law paper a b c W := by
  unfold nuA
  rw [if_neg (fun q => q.elim h h1), hn, hw]
def lawC (cf : Nat → Nat) (E : Nat → va_E) (day q : Int32) : Int32 := cO (fun _ => 0) (fun k9 => xi (E (64 * (k9 + 1) + 1)) 0) (fun k9 => xi (E (64 * (k9 + 1) + 1)) 1) 0 day q (cf 1)
def papC (cf : Nat → Nat) (E : Nat → va_E) (boat day q : Int32) : Int32 := cO (fun k9 => xi (E (64 * (k9 + 1) + 0)) 0) (fun k9 => xi (E (64 * (k9 + 1) + 0)) 1) (fun k9 => xi (E (64 * (k9 + 1) + 0)) 2) boat day q (cf 0)
/-- WORTH of a label by RULES k -/
def wC (cf : Nat → Nat) (E : Nat → va_E) (lab : Int) (k : Nat) (L : Nat → Int32) : Int32 := wo L lab (clE E k (cf (8 + 2 * k)))
def numC (cf : Nat → Nat) (E : Nat → va_E) (boat day q : Int32) : Int := nuA (lawC cf E day q) (papC cf E boat day q) (xi (E (64 * ((papC cf E boat day q).toNatClampNeg + 1) + 0)) 3) (xi (E (64 * ((papC cf E boat day q).toNatClampNeg + 1) + 0)) 4) (xi (E (64 * ((papC cf E boat day q).toNatClampNeg + 1) + 0)) 5) (wC cf E 110 (lawC cf E day q).toNatClampNeg)
def lawM (E : Nat → va_E) (day q : Int32) : Int32 := cO (fun _ => 0) (xi (E 10)) (xi (E 11)) 0 day q (xi (E 0) 17).toNatClampNeg
def papM (E : Nat → va_E) (boat day q : Int32) : Int32 := cO (xi (E 1)) (xi (E 2)) (xi (E 6)) boat day q (xi (E 0) 9).toNatClampNeg
def numM (E : Nat → va_E) (boat day q : Int32) : Int := if (papM E boat day q).toInt = -1 then 1000 else max 500 (min 2000 (wML (lset (lset (lset lz 0 (xi (E 3) (papM E boat day q).toNatClampNeg)) 1 (xi (E 4) (papM E boat day q).toNatClampNeg)) 2 (xi (E 5) (papM E boat day q).toNatClampNeg)) E 110 (lawM E day q)).toInt)
theorem mTx_cg {E E' : Nat → va_E} {k : Nat} (h : ∀ j, xi (E' 8) j = xi (E 8) j) (h1 : ∀ j, xi (E' 9) j = xi (E 9) j) : mTx E' k = mTx E k := by
  unfold mTx
  rw [h1, show mBn (xi (E' 8)) (200 * k) = mBn (xi (E 8)) (200 * k) from funext (fun j => by unfold mBn; rw [h])]
theorem wML_cg {L : Nat → Int32} {E E' : Nat → va_E} {lab : Int} {k : Int32} (h : ∀ j, xi (E' 8) j = xi (E 8) j) (h1 : ∀ j, xi (E' 9) j = xi (E 9) j) : wML L E' lab k = wML L E lab k := by
  unfold wML
  rw [mTx_cg h h1]
theorem TXM.cg {E E' : Nat → va_E} (hx : TXM E) (h : ∀ j, xi (E' 8) j = xi (E 8) j) (h1 : ∀ j, xi (E' 9) j = xi (E 9) j) (h2 : xi (E' 0) 17 = xi (E 0) 17) : TXM E' := fun k hk => by
  rw [mTx_cg h h1]
  rw [h2] at hk
  exact hx k hk
theorem numM_0 {E : Nat → va_E} {boat day q : Int32} (h : (papM E boat day q).toInt = -1) : (1000 : Int32).toInt = numM E boat day q := by
  unfold numM
  rw [if_pos h]
  rfl
theorem numM_1 {E : Nat → va_E} {boat day q w c : Int32} {n : Int} (hc : c = papM E boat day q) (h : ¬ c.toInt = -1) (hw : w = wML (lset (lset (lset lz 0 (xi (E 3) c.toNatClampNeg)) 1 (xi (E 4) c.toNatClampNeg)) 2 (xi (E 5) c.toNatClampNeg)) E 110 (lawM E day q)) (hn : n = max 500 (min 2000 w.toInt)) : n = numM E boat day q := by
  unfold numM
  rw [← hc, if_neg h, hn, hw]
theorem numM_cg {E E' : Nat → va_E} {boat day q : Int32} (h : ∀ o ∈ [1, 2, 6, 10, 11, 8, 9, 3, 4, 5], ∀ j, xi (E' o) j = xi (E o) j) (h1 : xi (E' 0) 17 = xi (E 0) 17) (h2 : xi (E' 0) 9 = xi (E 0) 9) : numM E' boat day q = numM E boat day q := by
  have g : ∀ o ∈ [1, 2, 6, 10, 11, 8, 9, 3, 4, 5], xi (E' o) = xi (E o) := fun o ho => funext (h o ho)
  have hp : papM E' boat day q = papM E boat day q := by
    unfold papM
    rw [g 1 (by decide), g 2 (by decide), g 6 (by decide), h2]
  have hl : lawM E' day q = lawM E day q := by
    unfold lawM
    rw [g 10 (by decide), g 11 (by decide), h1]
  unfold numM
  rw [hp, hl, g 3 (by decide), g 4 (by decide), g 5 (by decide), wML_cg (E := E) (h 8 (by decide)) (h 9 (by decide))]
theorem numM_kp {w : Nat → Nat → Bool} {E E' : Nat → va_E} {boat day q : Int32} (hk : Kp w E E') (hw : ∀ o ∈ [1, 2, 6, 10, 11, 8, 9, 3, 4, 5], ∀ j, w o j = false) (h1 : w 0 17 = false) (h2 : w 0 9 = false) : numM E' boat day q = numM E boat day q := numM_cg (fun o ho j => congrArg vi (hk o j (hw o ho j))) (congrArg vi (hk 0 17 h1)) (congrArg vi (hk 0 9 h2))
/-- both sides -/
def RuRel (cf : Nat → Nat) (E EM : Nat → va_E) : Prop := RulAll cf E ∧ (xi (EM 0) 17).toInt = ((cf 1 : Nat) : Int) ∧ (∀ i, i < cf 1 → xi (E (64 * (i + 1) + 1)) 0 = xi (EM 10) i ∧ xi (E (64 * (i + 1) + 1)) 1 = xi (EM 11) i) ∧ ∀ i, i < cf 1 → ∃ a, mTx EM i = .good a (clE E i (cf (8 + 2 * i)))
theorem RuRel.txm {cf : Nat → Nat} {E EM : Nat → va_E} (h : RuRel cf E EM) : TXM EM := fun k hk => by
  obtain ⟨a1, a2, a3, a4⟩ := h
  obtain ⟨a, e⟩ := a4 k (by omega)
  rw [e]
  rfl
theorem cO_cg9 {gB gF gT gB' gF' gT' : Nat → Int32} {boat day q : Int32} : ∀ n : Nat, n ≤ 4000 → (∀ k, k < n → gB k = gB' k ∧ gF k = gF' k ∧ gT k = gT' k) → cO gB gF gT boat day q n = cO gB' gF' gT' boat day q n := by
  intro n
  induction n with
  | zero => exact fun _ _ => rfl
  | succ n ih =>
    intro hn h
    have i1 := ih (by omega) (fun k hk => h k (by omega))
    obtain ⟨e1, e2, e3⟩ := h n (by omega)
    have i2 := cO_in (gB := gB') (gF := gF') (gT := gT') (boat := boat) (day := day) (q := q) n (by omega)
    have hc : (cO gB gF gT boat day q n = -1 ∨ gF (cO gB gF gT boat day q n).toNatClampNeg ≤ gF n) ↔ (cO gB' gF' gT' boat day q n = -1 ∨ gF' (cO gB' gF' gT' boat day q n).toNatClampNeg ≤ gF' n) := by
      rw [i1, e2]
      rcases i2 with i2 | i2
      · have i3 : cO gB' gF' gT' boat day q n = -1 := Int32.toInt_inj.mp i2
        exact ⟨fun _ => Or.inl i3, fun _ => Or.inl i3⟩
      · rw [(h _ (by rw [tn_]; omega)).2.1]
    by_cases c : gB' n = boat ∧ gT' n ≤ q ∧ gF' n ≤ day ∧ (cO gB' gF' gT' boat day q n = -1 ∨ gF' (cO gB' gF' gT' boat day q n).toNatClampNeg ≤ gF' n)
    · have k1 : cO gB gF gT boat day q (n + 1) = nI n := if_pos ⟨e1.trans c.1, by rw [e3]; exact c.2.1, by rw [e2]; exact c.2.2.1, hc.mpr c.2.2.2⟩
      have k2 : cO gB' gF' gT' boat day q (n + 1) = nI n := if_pos c
      exact k1.trans k2.symm
    · have k1 : cO gB gF gT boat day q (n + 1) = cO gB gF gT boat day q n := if_neg (fun d => c ⟨e1.symm.trans d.1, by rw [← e3]; exact d.2.1, by rw [← e2]; exact d.2.2.1, hc.mp d.2.2.2⟩)
      have k2 : cO gB' gF' gT' boat day q (n + 1) = cO gB' gF' gT' boat day q n := if_neg c
      exact (k1.trans i1).trans k2.symm
theorem RuRel.law {cf : Nat → Nat} {E EM : Nat → va_E} (h : RuRel cf E EM) (h16 : cf 1 ≤ 16) (day q : Int32) : lawC cf E day q = lawM EM day q := by
  obtain ⟨a1, a2, a3, a4⟩ := h
  unfold lawC lawM
  rw [show (xi (EM 0) 17).toNatClampNeg = cf 1 by rw [tn_]; omega]
  exact cO_cg9 (cf 1) (by omega) (fun k hk => ⟨rfl, (a3 k hk).1, (a3 k hk).2⟩)
/-- WORTH is the same on both sides -/
theorem RuRel.worth {cf : Nat → Nat} {E EM : Nat → va_E} (h : RuRel cf E EM) {lab : Int} {k : Int32} {L : Nat → Int32} (h0 : 0 ≤ k.toInt) (h1 : k.toInt < ((cf 1 : Nat) : Int)) : wC cf E lab k.toNatClampNeg L = wML L EM lab k := by
  obtain ⟨a1, a2, a3, a4⟩ := h
  obtain ⟨a, e⟩ := a4 k.toNatClampNeg (by rw [tn_]; omega)
  unfold wML wC
  rw [if_neg (by omega), e]
  rfl
/-- CERTIFICATES alike -/
def CeRel (cf : Nat → Nat) (E EM : Nat → va_E) : Prop := (xi (EM 0) 9).toInt = ((cf 0 : Nat) : Int) ∧ ∀ i, i < cf 0 → xi (E (64 * (i + 1) + 0)) 0 = xi (EM 1) i ∧ xi (E (64 * (i + 1) + 0)) 1 = xi (EM 2) i ∧ xi (E (64 * (i + 1) + 0)) 2 = xi (EM 6) i ∧ xi (E (64 * (i + 1) + 0)) 3 = xi (EM 3) i ∧ xi (E (64 * (i + 1) + 0)) 4 = xi (EM 4) i ∧ xi (E (64 * (i + 1) + 0)) 5 = xi (EM 5) i
theorem num_eq {cf : Nat → Nat} {E EM : Nat → va_E} (h : RuRel cf E EM) (hc : CeRel cf E EM) (h16 : cf 1 ≤ 16) (h80 : cf 0 ≤ 80) (boat day q : Int32) : numC cf E boat day q = numM EM boat day q := by
  obtain ⟨c1, c2⟩ := hc
  have hp : papC cf E boat day q = papM EM boat day q := by
    unfold papC papM
    rw [show (xi (EM 0) 9).toNatClampNeg = cf 0 by rw [tn_]; omega]
    exact cO_cg9 (cf 0) (by omega) (fun k hk => ⟨(c2 k hk).1, (c2 k hk).2.1, (c2 k hk).2.2.1⟩)
  have hl := h.law h16 day q
  have i1 : (lawC cf E day q).toInt = -1 ∨ _ := cO_in (cf 1) (by omega)
  have i0 : (papC cf E boat day q).toInt = -1 ∨ _ := cO_in (cf 0) (by omega)
  unfold numC numM nuA
  rw [← hp, ← hl]
  by_cases e : (papC cf E boat day q).toInt = -1
  · rw [if_pos (Or.inr e), if_pos e]
  · rw [if_neg e]
    have g0 : 0 ≤ (papC cf E boat day q).toInt ∧ (papC cf E boat day q).toInt < ((cf 0 : Nat) : Int) := i0.elim (fun q9 => absurd q9 e) id
    obtain ⟨-, -, -, d3, d4, d5⟩ := c2 (papC cf E boat day q).toNatClampNeg (by rw [tn_]; omega)
    rw [d3, d4, d5]
    by_cases e1 : (lawC cf E day q).toInt = -1
    · rw [if_pos (Or.inl e1)]
      unfold wML
      rw [if_pos e1]
      decide
    · have g1 : 0 ≤ (lawC cf E day q).toInt ∧ (lawC cf E day q).toInt < ((cf 1 : Nat) : Int) := i1.elim (fun q9 => absurd q9 e1) id
      rw [if_neg (fun q9 => q9.elim e1 e), h.worth g1.1 g1.2]

