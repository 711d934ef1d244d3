

/-! ===== the reference's decision: what it finds of A and of B ===== -/
/-- the rows that findings read -/
def kdL : List Nat := [8, 9, 10, 11, 13, 14, 15, 16, 17, 18, 19, 38, 39, 40, 41, 42, 43, 44, 45, 46, 47, 48, 49, 50]
def KdM (E E' : Nat → va_E) : Prop := (∀ o ∈ kdL, ∀ j, xi (E' o) j = xi (E o) j) ∧ xi (E' 0) 17 = xi (E 0) 17 ∧ xi (E' 0) 74 = xi (E 0) 74
theorem KdM.of {a : List Nat} {b : List (Nat × Nat)} {E E' : Nat → va_E} (h : Kp (wl a b) E E') (hw : kdL.all (fun o => !a.contains o && b.all (fun q => q.1 != o)) = true) (h1 : wl a b 0 17 = false) (h2 : wl a b 0 74 = false) : KdM E E' := ⟨fun o ho j => xik h (wl_row (List.all_eq_true.mp hw o ho)), xik h h1, xik h h2⟩
theorem KdM.rf {E : Nat → va_E} : KdM E E := ⟨fun _ _ _ => rfl, rfl, rfl⟩
theorem KdM.tr {E E1 E2 : Nat → va_E} (h : KdM E E1) (g : KdM E1 E2) : KdM E E2 := ⟨fun o ho j => (g.1 o ho j).trans (h.1 o ho j), g.2.1.trans h.2.1, g.2.2.trans h.2.2⟩
theorem KdM.rowm {E E' : Nat → va_E} (h : KdM E E') (o : Nat) (ho : o ∈ kdL) : xi (E' o) = xi (E o) := funext (h.1 o ho)
theorem KdM.wc {E E' : Nat → va_E} (h : KdM E E') : wcM E' = wcM E := wcM_cg (fun o h1 h2 i => h.1 o (by
  rcases (show o = 38 ∨ o = 39 ∨ o = 40 ∨ o = 41 ∨ o = 42 ∨ o = 43 ∨ o = 44 ∨ o = 45 by omega) with rfl | rfl | rfl | rfl | rfl | rfl | rfl | rfl <;> decide) i)
theorem KdM.wd {E E' : Nat → va_E} (h : KdM E E') : wdM E' = wdM E := funext (fun i => h.1 44 (by decide) i)
theorem KdM.law {E E' : Nat → va_E} (h : KdM E E') (day q : Int32) : lawM E' day q = lawM E day q := by
  unfold lawM
  rw [h.rowm 10 (by decide), h.rowm 11 (by decide), h.2.1]
theorem KdM.wml {E E' : Nat → va_E} (h : KdM E E') (L : Nat → Int32) (lab : Int) (k : Int32) : wML L E' lab k = wML L E lab k := wML_cg (h.1 8 (by decide)) (h.1 9 (by decide))
def nWM (E : Nat → va_E) : Nat := (xi (E 0) 74).toNatClampNeg
/-- both lists of STATES of PROTEST p as known in q -/
def AsM (E u : Nat → va_E) (p : Nat) (q : Int32) (k m : Nat) (b : Int32) : Prop := LM (rI u 56) (rI u 57) (rI u 58) k (xi (u 59) m).toNatClampNeg (StS (wcM E) (wdM E) (nWM E) (xi (E 46) p).toInt b.toInt q.toInt (xi (E 49) p).toInt (xi (E 19) (mPR E p)).toInt)
def AskM (E u : Nat → va_E) (p : Nat) (q : Int32) : Prop := AsM E u p q 0 0 (xi (E 47) p) ∧ AsM E u p q 128 1 (xi (E 48) p)
theorem AsM.cg {E E0 u : Nat → va_E} {p : Nat} {q b : Int32} {k m : Nat} (h : AsM E0 u p q k m b) (g : KdM E E0) : AsM E u p q k m b := by
  unfold AsM mPR nWM at h ⊢
  rw [g.wc, g.wd, g.2.2, g.1 46 (by decide), g.1 49 (by decide), g.1 19 (by decide)] at h
  exact h
theorem AskM.cg {E E0 u : Nat → va_E} {p : Nat} {q : Int32} (h : AskM E0 u p q) (g : KdM E E0) : AskM E u p q := ⟨by
  have h1 := h.1.cg g
  rw [g.1 47 (by decide)] at h1
  exact h1, by
  have h1 := h.2.cg g
  rw [g.1 48 (by decide)] at h1
  exact h1⟩
/-- the lists stand -/
theorem AsM.kp {E u u' : Nat → va_E} {p : Nat} {q b : Int32} {k m : Nat} (h : AsM E u p q k m b) (g : ∀ i, i < (xi (u 59) m).toNatClampNeg → xi (u' 56) (k + i) = xi (u 56) (k + i) ∧ xi (u' 57) (k + i) = xi (u 57) (k + i) ∧ xi (u' 58) (k + i) = xi (u 58) (k + i)) (g1 : xi (u' 59) m = xi (u 59) m) : AsM E u' p q k m b := by
  unfold AsM at h ⊢
  rw [g1]
  exact h.rows (fun i hi => ⟨congrArg Int32.toInt (g i hi).1, congrArg Int32.toInt (g i hi).2.1, congrArg Int32.toInt (g i hi).2.2⟩)
theorem AskM.kp {E u u' : Nat → va_E} {p : Nat} {q : Int32} (h : AskM E u p q) (g : ∀ o ∈ [56, 57, 58, 59], ∀ j, xi (u' o) j = xi (u o) j) : AskM E u' p q := ⟨h.1.kp (fun i _ => ⟨g 56 (by decide) _, g 57 (by decide) _, g 58 (by decide) _⟩) (g 59 (by decide) _), h.2.kp (fun i _ => ⟨g 56 (by decide) _, g 57 (by decide) _, g 58 (by decide) _⟩) (g 59 (by decide) _)⟩
/-- of one findStates -/
theorem AsM.of {E E1 E2 : Nat → va_E} {p N who : Nat} {q y b t : Int32} (s : StM E1 E2 who (StS (wcM E1) (wdM E1) N y.toInt b.toInt q.toInt t.toInt (xi (E1 19) y.toNatClampNeg).toInt)) (k : KdM E E1) (hN : N = nWM E) (e1 : y = xi (E 46) p) (e3 : t = xi (E 49) p) : AsM E E2 p q (128 * who) who b := by
  have h := s.1
  subst hN
  rw [k.wc, k.wd, k.1 19 (by decide), e1, e3] at h
  exact h
theorem AskM.of {E E1 E2 E3 : Nat → va_E} {p N N' : Nat} {q y a b t y' t' : Int32} (s0 : StM E1 E2 (0 : Int32).toNatClampNeg (StS (wcM E1) (wdM E1) N y.toInt a.toInt q.toInt t.toInt (xi (E1 19) y.toNatClampNeg).toInt)) (s1 : StM E2 E3 (1 : Int32).toNatClampNeg (StS (wcM E2) (wdM E2) N' y'.toInt b.toInt q.toInt t'.toInt (xi (E2 19) y'.toNatClampNeg).toInt)) (k1 : KdM E E1) (k2 : KdM E E2) (hN : N = nWM E) (hN' : N' = nWM E) (e1 : y = xi (E 46) p) (e2 : a = xi (E 47) p) (e3 : t = xi (E 49) p) (e4 : y' = xi (E 46) p) (e5 : b = xi (E 48) p) (e6 : t' = xi (E 49) p) (h0 : (xi (E2 59) 0).toInt ≤ 128) : AskM E E3 p q := by
  have a0 : AsM E E2 p q 0 0 a := AsM.of (who := 0) s0 k1 hN e1 e3
  have a1 : AsM E E3 p q 128 1 b := AsM.of (who := 1) s1 k2 hN' e4 e6
  rw [e2] at a0
  rw [e5] at a1
  have o1 : OthR E2 E3 128 := s1.2.1
  have o2 : ∀ j, j ≠ 1 → xi (E3 59) j = xi (E2 59) j := s1.2.2
  refine ⟨a0.kp (fun i hi => ?_) (o2 0 (by decide)), a1⟩
  have h1 : i < 128 := by
    rw [tn_] at hi
    omega
  exact o1 (0 + i) (Or.inl (by omega))
/-- who SURELY broke the rule, by the reference's rows -/
def MSure (E : Nat → va_E) (p : Nat) (who q : Int32) : Prop := Sure (wcM E) (wdM E) (nWM E) (xi (E 46) p).toInt (xi (E 47) p).toInt (xi (E 48) p).toInt q.toInt (xi (E 49) p).toInt (xi (E 19) (mPR E p)).toInt (xi (E 16) (mPR E p)).toNatClampNeg (xi (E 17) (mPR E p)).toInt (xi (E 18) (mPR E p)).toInt (fun L => wML L E (if who.toInt = 0 then 97 else 98) (lawM E (xi (E 13) (mPR E p)) q))
theorem XMp_cg {E u : Nat → va_E} {p : Nat} {who q : Int32} (k : KdM E u) (i j : Nat) : XMp u p who q i j ↔ ¬ (fun L => wML L E (if who.toInt = 0 then 97 else 98) (lawM E (xi (E 13) (mPR E p)) q)) (pL (xi (E 16) (mPR E p)).toNatClampNeg (xi (E 17) (mPR E p)).toInt (xi (E 18) (mPR E p)).toInt (rI u 56 i) (rI u 57 i) (rI u 58 i) (rI u 56 (128 + j)) (rI u 57 (128 + j)) (rI u 58 (128 + j))) = 0 := by
  unfold XMp
  rw [show mPR u p = mPR E p from congrArg Int32.toNatClampNeg (k.1 46 (by decide) p), k.1 16 (by decide), k.1 17 (by decide), k.1 18 (by decide), k.1 13 (by decide), k.law, k.wml]
theorem msure_of {E u : Nat → va_E} {p : Nat} {who q r : Int32} (hA : AskM E u p q) (k : KdM E u) (f : FinM u p who q r) : r.toInt = 1 ↔ MSure E p who q := by
  obtain ⟨al, wr, c, hr⟩ := f
  have e : (fun i j => XMp u p who q i j) = (fun i j => ¬ (fun L => wML L E (if who.toInt = 0 then 97 else 98) (lawM E (xi (E 13) (mPR E p)) q)) (pL (xi (E 16) (mPR E p)).toNatClampNeg (xi (E 17) (mPR E p)).toInt (xi (E 18) (mPR E p)).toInt (rI u 56 i) (rI u 57 i) (rI u 58 i) (rI u 56 (128 + j)) (rI u 57 (128 + j)) (rI u 58 (128 + j))) = 0) := funext (fun i => funext (fun j => propext (XMp_cg k i j)))
  have c2 : Cnt al wr (∃ i j, prc (xi (u 59) 1).toNatClampNeg (xi (u 59) 0).toNatClampNeg 0 i j) (∀ i j, prc (xi (u 59) 1).toNatClampNeg (xi (u 59) 0).toNatClampNeg 0 i j → (fun i j => XMp u p who q i j) i j) := c
  rw [e] at c2
  exact hr.trans (fin_e hA.1 hA.2 c2)
/-- what is decided, in bits -/
theorem dec_b {r1 r2 v : Int} {A B : Prop} (h1 : r1 = 1 ↔ A) (h2 : r2 = 1 ↔ B) (hv : v = (if r1 = 1 then 1 else 0) + (if r2 = 1 then 2 else 0)) : (v % 2 = 1 ↔ A) ∧ (v / 2 = 1 ↔ B) := by
  rw [← h1, ← h2, hv]
  by_cases c1 : r1 = 1 <;> by_cases c2 : r2 = 1
  · rw [if_pos c1, if_pos c2]
    omega
  · rw [if_pos c1, if_neg c2]
    omega
  · rw [if_neg c1, if_pos c2]
    omega
  · rw [if_neg c1, if_neg c2]
    omega
/-! ===== both sides' findings are the same ===== -/
theorem FndC.cg {cf : Nat → Nat} {E E' : Nat → va_E} {i : Nat} {who q : Int32} {s : Int} (h : K64 E E') : FndC cf E' i who q s ↔ FndC cf E i who q s := by
  have e14 : ri14 E' i = ri14 E i := congrArg Int32.toNatClampNeg (h (64 * (i + 1) + 14) (by omega) 0)
  have ew : (fun L => wV cf E' (if who.toInt = 0 then 97 else 98) (lawC cf E' (xi (E (64 * (ri14 E i + 1) + 6)) 1) q) L) = (fun L => wV cf E (if who.toInt = 0 then 97 else 98) (lawC cf E (xi (E (64 * (ri14 E i + 1) + 6)) 1) q) L) := funext (fun L => by
    rw [lawC_cg h]
    exact wV_cg (fun i t _ _ j => h (64 * (i + 1) + t) (by omega) j))
  unfold FndC
  rw [e14, h.wc, h.wd, h.pa, h.pa, h.pa, h.pa, h (64 * (ri14 E i + 1) + 6) (by omega), h (64 * (ri14 E i + 1) + 6) (by omega), h (64 * (ri14 E i + 1) + 6) (by omega), h (64 * (ri14 E i + 1) + 6) (by omega), ew]

