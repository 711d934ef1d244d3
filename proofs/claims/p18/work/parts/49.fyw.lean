

/-! ===== finding: more of loops, letters and tacks (pure) ===== -/
theorem TkS.cg {w0 w1 T : Int32} {wnd : Int} {pos pos' : Nat} (h : TkS w0 w1 wnd pos T) (e : pos' = pos) : TkS w0 w1 wnd pos' T := by
  subst e
  exact h
theorem bit_f {a v y1 y2 : Int32} (h0 : 0 ≤ a.toInt) (hv : 0 ≤ v.toInt ∧ v.toInt ≤ 31) (e1 : y1 = a >>> (v &&& 31)) (e2 : y2 = y1 &&& 1) (hn : ¬ y2.toInt = 0) : bt a v.toNatClampNeg = true := Decidable.byContradiction (fun q => hn ((bit_t h0 hv e1 e2).mpr q))
theorem exF_mono {P : Nat → Prop} {n m : Nat} (h : n ≤ m) : exF P n → exF P m := fun ⟨i, hi, hp⟩ => ⟨i, by omega, hp⟩
theorem SnP.skip {s : Int} {Z N : Nat → Prop} {n n' : Nat} (h : SnP s (exF Z n) (exF N n)) (e : n' = n + 1) (hz : ¬ Z n) (hn : ¬ N n) : SnP s (exF Z n') (exF N n') := h.cg ⟨fun q => (exF_s e).mpr (Or.inl q), fun q => ((exF_s e).mp q).elim id (fun q1 => absurd q1 hz)⟩ ⟨fun q => (exF_s e).mpr (Or.inl q), fun q => ((exF_s e).mp q).elim id (fun q1 => absurd q1 hn)⟩
theorem SnP.next {s r v : Int32} {Z N : Nat → Prop} {n n' : Nat} (h : SnP s.toInt (exF Z n) (exF N n)) (h2 : SnP r.toInt (Z n) (N n)) (ev : v = s ||| r) (e : n' = n + 1) : SnP v.toInt (exF Z n') (exF N n') := h.or h2 ev (exF_s e) (exF_s e)
/-- letters g, h, o of a tack's number -/
theorem gho : ∀ i : Nat, i < 8 → nI i >>> ((2 : Int32) &&& 31) = fI ((i : Int) / 4) ∧ (nI i >>> ((1 : Int32) &&& 31)) &&& 1 = fI ((i : Int) / 2 % 2) ∧ nI i &&& 1 = fI ((i : Int) % 2) ∧ (0 ≤ (nI i >>> ((2 : Int32) &&& 31)).toInt ∧ (nI i >>> ((2 : Int32) &&& 31)).toInt ≤ 1) := by decide
theorem gho_ {v a b b1 c : Int32} (h : 0 ≤ v.toInt ∧ v.toInt < 8) (ea : a = v >>> ((2 : Int32) &&& 31)) (eb : b1 = v >>> ((1 : Int32) &&& 31)) (eb2 : b = b1 &&& 1) (ec : c = v &&& 1) : a = fI ((v.toNatClampNeg : Int) / 4) ∧ b = fI ((v.toNatClampNeg : Int) / 2 % 2) ∧ c = fI ((v.toNatClampNeg : Int) % 2) ∧ (0 ≤ a.toInt ∧ a.toInt ≤ 1) := by
  have h1 : v.toNatClampNeg < 8 := by
    rw [tn_]
    omega
  obtain ⟨g1, g2, g3, g4⟩ := gho v.toNatClampNeg h1
  rw [nI_tn h.1] at g1 g2 g3 g4
  refine ⟨ea.trans g1, ?_, ec.trans g3, ?_⟩
  · rw [eb2, eb]
    exact g2
  · rw [ea]
    exact g4
theorem wV_cg {cf : Nat → Nat} {E E' : Nat → va_E} {lab : Int} {k : Int32} {L : Nat → Int32} (hc : ∀ i t, 2 ≤ t → t < 6 → ∀ j, xi (E' (64 * (i + 1) + t)) j = xi (E (64 * (i + 1) + t)) j) : wV cf E' lab k L = wV cf E lab k L := by
  unfold wV wC
  rw [clE_cg (hc k.toNatClampNeg)]
/-- what the Hearing asks of WORTH -/
def hWo (cf : Nat → Nat) (E : Nat → va_E) : (Nat → Int32) → Int32 := fun L => wV cf E (xi (E 5) 8).toInt (xi (E 5) 7) L
theorem hW_cg {cf : Nat → Nat} {E E' : Nat → va_E} (h8 : xi (E' 5) 8 = xi (E 5) 8) (h7 : xi (E' 5) 7 = xi (E 5) 7) (hc : ∀ i t, 2 ≤ t → t < 6 → ∀ j, xi (E' (64 * (i + 1) + t)) j = xi (E (64 * (i + 1) + t)) j) : hWo cf E' = hWo cf E := funext (fun L => by
  unfold hWo
  rw [h8, h7]
  exact wV_cg hc)
/-- all the letters' ways at one pair of places -/
def hZr (cf : Nat → Nat) (E : Nat → va_E) (L : Nat → Int32) : Prop := exF (zT (hWo cf E) (xi (E 5) 9) L) 8
def hNz (cf : Nat → Nat) (E : Nat → va_E) (L : Nat → Int32) : Prop := exF (nT (hWo cf E) (xi (E 5) 9) L) 8
def hLe (E : Nat → va_E) (ri : Nat) (x y u v : Int) : Nat → Int32 := bL (xi (E (64 * (ri + 1) + 6)) 4).toNatClampNeg (xi (E (64 * (ri + 1) + 6)) 5).toInt (xi (E (64 * (ri + 1) + 6)) 6).toInt x y u v
theorem hL_e {E : Nat → va_E} {ri : Nat} {x y u v : Int} {c1 c2 c3 c4 : Int32} (h1 : c1.toInt = far4 x y u v) (h2 : c2.toInt = upw (stX (xi (E (64 * (ri + 1) + 6)) 4).toNatClampNeg) (stY (xi (E (64 * (ri + 1) + 6)) 4).toNatClampNeg) x y u v) (h3 : c3.toInt = far4 x y (xi (E (64 * (ri + 1) + 6)) 5).toInt (xi (E (64 * (ri + 1) + 6)) 6).toInt) (h4 : c4.toInt = far4 u v (xi (E (64 * (ri + 1) + 6)) 5).toInt (xi (E (64 * (ri + 1) + 6)) 6).toInt) : lset (lset (lset (lset lz 8 c1) 11 c2) 12 c3) 3 c4 = hLe E ri x y u v := by
  unfold hLe bL
  rw [fI_of h1, fI_of h2, fI_of h3, fI_of h4]
theorem up1 {A B C D p q u : Int} (hu : u = (A - C) * p + (B - D) * q) (h : 0 < u) : (1 : Int32).toInt = upw p q A B C D := Eq.trans (b := (1 : Int)) rfl (by unfold upw; rw [← hu, if_pos h])
theorem up0 {A B C D p q u : Int} (hu : u = (A - C) * p + (B - D) * q) (h : ¬ 0 < u) : (0 : Int32).toInt = upw p q A B C D := Eq.trans (b := (0 : Int)) rfl (by unfold upw; rw [← hu, if_neg h])
theorem gL3 {L L' : Nat → Int32} {a b c : Int} {v1 v2 v3 : Int32} (h : L' = lset (lset (lset L 9 v1) 10 v2) 13 v3) (e1 : v1 = fI a) (e2 : v2 = fI b) (e3 : v3 = fI c) : L' = gL L a b c := by
  rw [h, e1, e2, e3]
  rfl
/-! ===== the class's find ===== -/
theorem lawC_cg {cf : Nat → Nat} {E E' : Nat → va_E} {day q : Int32} (h : K64 E E') : lawC cf E' day q = lawC cf E day q := by
  unfold lawC
  rw [show (fun k9 => xi (E' (64 * (k9 + 1) + 1)) 0) = (fun k9 => xi (E (64 * (k9 + 1) + 1)) 0) from funext (fun k9 => h (64 * (k9 + 1) + 1) (by omega) 0), show (fun k9 => xi (E' (64 * (k9 + 1) + 1)) 1) = (fun k9 => xi (E (64 * (k9 + 1) + 1)) 1) from funext (fun k9 => h (64 * (k9 + 1) + 1) (by omega) 1)]
theorem hW_to {cf : Nat → Nat} {E E' : Nat → va_E} {lab : Int} {k : Int32} (h : K64 E E') (h8 : (xi (E' 5) 8).toInt = lab) (h7 : xi (E' 5) 7 = k) : hWo cf E' = fun L => wV cf E lab k L := funext (fun L => by
  unfold hWo
  rw [h8, h7]
  exact wV_cg (fun i t _ _ j => h (64 * (i + 1) + t) (by omega) j))
theorem hL_cg {E E' : Nat → va_E} {ri : Nat} (h : K64 E E') : hLe E' ri = hLe E ri := funext (fun x => funext (fun y => funext (fun u => funext (fun v => by
  unfold hLe
  rw [h (64 * (ri + 1) + 6) (by omega), h (64 * (ri + 1) + 6) (by omega), h (64 * (ri + 1) + 6) (by omega)]))))
def ri14 (E : Nat → va_E) (i : Nat) : Nat := (xi (E (64 * (i + 1) + 14)) 0).toNatClampNeg
def FndC (cf : Nat → Nat) (E : Nat → va_E) (i : Nat) (who q : Int32) (s : Int) : Prop := Sure (wcE E) (wdE E) (cf 4) (pA E i 0) (pA E i 1) (pA E i 2) q.toInt (pA E i 3) s (xi (E (64 * (ri14 E i + 1) + 6)) 4).toNatClampNeg (xi (E (64 * (ri14 E i + 1) + 6)) 5).toInt (xi (E (64 * (ri14 E i + 1) + 6)) 6).toInt (fun L => wV cf E (if who.toInt = 0 then 97 else 98) (lawC cf E (xi (E (64 * (ri14 E i + 1) + 6)) 1) q) L)
/-- places of A that were gone through -/
def fZ (cf : Nat → Nat) (E : Nat → va_E) (ri : Nat) (x y : Int) : Prop := ∃ u8 v8 : Int, spn E 1 u8 v8 ∧ hZr cf E (hLe E ri x y u8 v8)
def fN (cf : Nat → Nat) (E : Nat → va_E) (ri : Nat) (x y : Int) : Prop := ∃ u8 v8 : Int, spn E 1 u8 v8 ∧ hNz cf E (hLe E ri x y u8 v8)
theorem ffC {cf : Nat → Nat} {E E' : Nat → va_E} {ri : Nat} {x y r : Int} (h : SnP r (∃ x8 y8 : Int, spn E' 1 x8 y8 ∧ hZr cf E' (hLe E' ri x y x8 y8)) (∃ x8 y8 : Int, spn E' 1 x8 y8 ∧ hNz cf E' (hLe E' ri x y x8 y8))) (k : K64 E E') (k0 : xi (E' 38) 1 = xi (E 38) 1 ∧ xi (E' 39) 1 = xi (E 39) 1 ∧ xi (E' 40) 1 = xi (E 40) 1 ∧ xi (E' 41) 1 = xi (E 41) 1) (k5 : xi (E' 5) 7 = xi (E 5) 7 ∧ xi (E' 5) 8 = xi (E 5) 8 ∧ xi (E' 5) 9 = xi (E 5) 9) : SnP r (fZ cf E ri x y) (fN cf E ri x y) := by
  obtain ⟨a1, a2, a3, a4⟩ := k0
  obtain ⟨b1, b2, b3⟩ := k5
  have es : spn E' 1 = spn E 1 := funext (fun x9 => funext (fun y9 => by
    unfold spn
    rw [a1, a2, a3, a4]))
  have ew : hWo cf E' = hWo cf E := hW_cg b2 b1 (fun i t _ _ j => k (64 * (i + 1) + t) (by omega) j)
  have ez : hZr cf E' = hZr cf E := funext (fun L => by
    unfold hZr
    rw [ew, b3])
  have en : hNz cf E' = hNz cf E := funext (fun L => by
    unfold hNz
    rw [ew, b3])
  rw [es, ez, en, hL_cg k] at h
  exact h
theorem find_e {cf : Nat → Nat} {E E' : Nat → va_E} {i : Nat} {who q : Int32} {s k : Int} (hS : SnP k (∃ x y, rng (xi (E' 38) 0).toInt (xi (E' 39) 0).toInt (xi (E' 40) 0).toInt (xi (E' 41) 0).toInt x y ∧ fZ cf E' (ri14 E i) x y) (∃ x y, rng (xi (E' 38) 0).toInt (xi (E' 39) 0).toInt (xi (E' 40) 0).toInt (xi (E' 41) 0).toInt x y ∧ fN cf E' (ri14 E i) x y)) (h64 : K64 E E') (hA : StC (wcE E) (wdE E) (cf 4) (pA E i 0) (pA E i 1) q.toInt (pA E i 3) s E' 0) (hB : StC (wcE E) (wdE E) (cf 4) (pA E i 0) (pA E i 2) q.toInt (pA E i 3) s E' 1) (g0 : Sts (wcE E) (wdE E) (cf 4) (pA E i 0) (pA E i 1) q.toInt (pA E i 3) s) (g1 : Sts (wcE E) (wdE E) (cf 4) (pA E i 0) (pA E i 2) q.toInt (pA E i 3) s) (hw : 0 ≤ (xi (E (64 * (ri14 E i + 1) + 6)) 4).toInt) (hT : TkS (xi (E' 42) 0) (xi (E' 42) 1) (xi (E (64 * (ri14 E i + 1) + 6)) 4).toInt 64 (xi (E' 5) 9)) (h8 : (xi (E' 5) 8).toInt = if who.toInt = 0 then 97 else 98) (h7 : xi (E' 5) 7 = lawC cf E (xi (E (64 * (ri14 E i + 1) + 6)) 1) q) : k = 2 ↔ FndC cf E i who q s := by
  have ew : hWo cf E' = fun L => wV cf E (if who.toInt = 0 then 97 else 98) (lawC cf E (xi (E (64 * (ri14 E i + 1) + 6)) 1) q) L := hW_to h64 h8 h7
  have el : hLe E' (ri14 E i) = hLe E (ri14 E i) := hL_cg h64
  have hT' : TkS (xi (E' 42) 0) (xi (E' 42) 1) (((xi (E (64 * (ri14 E i + 1) + 6)) 4).toNatClampNeg : Nat) : Int) 64 (xi (E' 5) 9) := by
    rw [show (((xi (E (64 * (ri14 E i + 1) + 6)) 4).toNatClampNeg : Nat) : Int) = (xi (E (64 * (ri14 E i + 1) + 6)) 4).toInt by rw [tn_]; omega]
    exact hT
  refine sure_of hS hA hB g0 g1 hT' ?_ ?_
  · unfold fZ hZr
    rw [ew, el]
    exact Iff.rfl
  · unfold fN hNz
    rw [ew, el]
    exact Iff.rfl
theorem find_y {P : Prop} {k : Int} (h : k = 2 ↔ P) (e : k = 2) : (1 : Int32).toInt = 1 ↔ P := ⟨fun _ => h.mp e, fun _ => rfl⟩
theorem find_n {P : Prop} {k : Int} {r : Int32} (h : k = 2 ↔ P) (e : ¬ k = 2) (hr : ¬ r.toInt = 1) : r.toInt = 1 ↔ P := ⟨fun q => absurd q hr, fun q => absurd (h.mpr q) e⟩
theorem find_0 {cf : Nat → Nat} {E : Nat → va_E} {i : Nat} {who q : Int32} {s : Int} (h : ¬ (Sts (wcE E) (wdE E) (cf 4) (pA E i 0) (pA E i 1) q.toInt (pA E i 3) s ∧ Sts (wcE E) (wdE E) (cf 4) (pA E i 0) (pA E i 2) q.toInt (pA E i 3) s)) : (-1 : Int32).toInt = 1 ↔ FndC cf E i who q s := ⟨fun q => absurd q (by decide), fun q => absurd ⟨q.1, q.2.1⟩ h⟩

