

/-! ===== WORDS, spans, STATES (pure) ===== -/
def ab (n : Int) : Int := if 0 ≤ n then n else -n
theorem mul_1 {a b : Int} (h : 1 ≤ a) (h1 : 1 ≤ b) : 1 ≤ a * b := by
  have h9 : (1 : Int) * 1 ≤ a * b := Int.mul_le_mul h h1 (by decide) (by omega)
  omega
/-- the fields of WORDS: 0 RACE, 1 BOAT, 2 told, 3 second, 4 x, 5 y, 6 SIZE -/
def wOf (w : Nat → Nat → Int) (r b q : Int) (i : Nat) : Prop := w 0 i = r ∧ w 1 i = b ∧ w 2 i ≤ q
def nearW (w : Nat → Nat → Int) (t s x y : Int) (i : Nat) : Prop := w 4 i - x ≤ s * ab (w 3 i - t) ∧ x - w 4 i - w 6 i ≤ s * ab (w 3 i - t) ∧ w 5 i - y ≤ s * ab (w 3 i - t) ∧ y - w 5 i - w 6 i ≤ s * ab (w 3 i - t)
def plc (w : Nat → Nat → Int) (n : Nat) (r b q t s x y : Int) : Prop := (0 ≤ x ∧ x ≤ 99 ∧ 0 ≤ y ∧ y ≤ 99) ∧ ∀ i, i < n → wOf w r b q i → nearW w t s x y i
def hrd (w : Nat → Nat → Int) (n : Nat) (r b q t : Int) : Prop := ∃ i, i < n ∧ wOf w r b q i ∧ w 3 i = t
def drs (w : Nat → Nat → Int) (wd : Nat → Int32) (n : Nat) (r b q t : Int) (d : Nat) : Prop := ∀ i, i < n → wOf w r b q i → w 3 i = t → bt (wd i) d = true
section PLC
variable {w : Nat → Nat → Int} {wd : Nat → Int32} {n : Nat} {r b q t s x y : Int} {d : Nat}
theorem plc_0 : plc w 0 r b q t s x y ↔ (0 ≤ x ∧ x ≤ 99 ∧ 0 ≤ y ∧ y ≤ 99) := ⟨fun h => h.1, fun h => ⟨h, fun i hi => absurd hi (Nat.not_lt_zero i)⟩⟩
theorem plc_skip (h : ¬ wOf w r b q n) : plc w (n + 1) r b q t s x y ↔ plc w n r b q t s x y := ⟨fun p => ⟨p.1, fun i hi => p.2 i (by omega)⟩, fun p => ⟨p.1, fun i hi hw => by
  by_cases e : i = n
  · subst e
    exact absurd hw h
  · exact p.2 i (by omega) hw⟩⟩
theorem plc_take (h : wOf w r b q n) : plc w (n + 1) r b q t s x y ↔ (plc w n r b q t s x y ∧ nearW w t s x y n) := ⟨fun p => ⟨⟨p.1, fun i hi => p.2 i (by omega)⟩, p.2 n (by omega) h⟩, fun p => ⟨p.1.1, fun i hi hw => by
  by_cases e : i = n
  · subst e
    exact p.2
  · exact p.1.2 i (by omega) hw⟩⟩
theorem hrd_0 : ¬ hrd w 0 r b q t := fun ⟨i, hi, _⟩ => absurd hi (Nat.not_lt_zero i)
theorem hrd_skip (h : ¬ (wOf w r b q n ∧ w 3 n = t)) : hrd w (n + 1) r b q t ↔ hrd w n r b q t := ⟨fun ⟨i, hi, h1, h2⟩ => ⟨i, by
  by_cases e : i = n
  · subst e
    exact absurd ⟨h1, h2⟩ h
  · omega, h1, h2⟩, fun ⟨i, hi, h1, h2⟩ => ⟨i, by omega, h1, h2⟩⟩
theorem hrd_take (h : wOf w r b q n) (h1 : w 3 n = t) : hrd w (n + 1) r b q t := ⟨n, by omega, h, h1⟩
theorem drs_0 : drs w wd 0 r b q t d := fun i hi => absurd hi (Nat.not_lt_zero i)
theorem drs_skip (h : ¬ (wOf w r b q n ∧ w 3 n = t)) : drs w wd (n + 1) r b q t d ↔ drs w wd n r b q t d := ⟨fun p i hi => p i (by omega), fun p i hi h1 h2 => by
  by_cases e : i = n
  · subst e
    exact absurd ⟨h1, h2⟩ h
  · exact p i (by omega) h1 h2⟩
theorem drs_take (h : wOf w r b q n) (h1 : w 3 n = t) : drs w wd (n + 1) r b q t d ↔ (drs w wd n r b q t d ∧ bt (wd n) d = true) := ⟨fun p => ⟨fun i hi => p i (by omega), p n (by omega) h h1⟩, fun p i hi g1 g2 => by
  by_cases e : i = n
  · subst e
    exact p.2
  · exact p.1 i (by omega) g1 g2⟩
end PLC
theorem bt_or (a b : Int32) (d : Nat) : bt (a ||| b) d = (bt a d || bt b d) := by
  unfold bt
  rw [Int32.toBitVec_or, BitVec.getLsbD_or]
theorem bt_255 : ∀ d, d < 8 → bt 255 d = true := by decide
theorem bt_nat {a : Int32} (h : 0 ≤ a.toInt) (d : Nat) : bt a d = true ↔ a.toNatClampNeg / 2 ^ d % 2 = 1 := by
  have e : a.toBitVec.toNat = a.toNatClampNeg := by
    show a.toBitVec.toNat = a.toBitVec.toInt.toNat
    have h1 : 0 ≤ a.toBitVec.toInt := h
    rw [BitVec.toInt_eq_toNat_cond] at h1 ⊢
    have := a.toBitVec.isLt
    split at h1 <;> split <;> omega
  unfold bt
  rw [BitVec.getLsbD, e, Nat.testBit_eq_decide_div_mod_eq, decide_eq_true_eq]
theorem pcS_le (n : Nat) : ∀ k, pcS n k ≤ k := by
  intro k
  induction k with
  | zero => exact Nat.le_refl _
  | succ k ih =>
    have h1 : n / 2 ^ k % 2 < 2 := Nat.mod_lt _ (by decide)
    simp only [pcS]
    omega
theorem pcS_0 (n : Nat) : ∀ k, pcS n k = 0 ↔ ∀ d, d < k → ¬ n / 2 ^ d % 2 = 1 := by
  intro k
  induction k with
  | zero => exact ⟨fun _ d hd => absurd hd (Nat.not_lt_zero d), fun _ => rfl⟩
  | succ k ih =>
    have h1 : n / 2 ^ k % 2 < 2 := Nat.mod_lt _ (by decide)
    have e : pcS n (k + 1) = pcS n k + n / 2 ^ k % 2 := rfl
    constructor
    · intro h d hd
      rw [e] at h
      by_cases q : d = k
      · rw [q]
        omega
      · exact ih.mp (by omega) d (by omega)
    · intro h
      have h2 := ih.mpr (fun d hd => h d (by omega))
      have h3 := h k (by omega)
      rw [e]
      omega
/-! ===== the class's spans ===== -/
def wcE (E : Nat → va_E) : Nat → Nat → Int := fun j i => (xi (E (64 * (i + 1) + 13)) j).toInt
def wdE (E : Nat → va_E) : Nat → Int32 := fun i => xi (E (64 * (i + 1) + 13)) 7
def spn (E : Nat → va_E) (k : Nat) (x y : Int) : Prop := (xi (E 38) k).toInt ≤ x ∧ x ≤ (xi (E 39) k).toInt ∧ (xi (E 40) k).toInt ≤ y ∧ y ≤ (xi (E 41) k).toInt
def StC (w : Nat → Nat → Int) (wd : Nat → Int32) (n : Nat) (r b q t s : Int) (E : Nat → va_E) (k : Nat) : Prop := (∀ x y, spn E k x y ↔ plc w n r b q t s x y) ∧ ∀ d, d < 8 → (bt (xi (E 42) k) d = true ↔ drs w wd n r b q t d)
def Sts (w : Nat → Nat → Int) (wd : Nat → Int32) (n : Nat) (r b q t s : Int) : Prop := hrd w n r b q t ∧ (∃ x y, plc w n r b q t s x y) ∧ ∃ d, d < 8 ∧ drs w wd n r b q t d
/-- SWIFT of a RACE as known in q -/
def SWq (E : Nat → va_E) (i : Nat) (q : Int) (s : Int32) : Prop := (∃ d9 : Nat, (xi (E (64 * (i + 1) + 6)) 0).toInt ≤ (d9 : Int) ∧ (d9 : Int) ≤ q ∧ ¬ (xi (E (64 * (i + 1) + 11)) d9).toInt = 0 ∧ s = xi (E (64 * (i + 1) + 11)) d9 ∧ ∀ d8 : Nat, (d9 : Int) < (d8 : Int) → (d8 : Int) ≤ q → (xi (E (64 * (i + 1) + 11)) d8).toInt = 0) ∨ (s = 2 ∧ ∀ d8 : Nat, (xi (E (64 * (i + 1) + 6)) 0).toInt ≤ (d8 : Int) → (d8 : Int) ≤ q → (xi (E (64 * (i + 1) + 11)) d8).toInt = 0)
/-- what narrow does -/
def NarE (E u : Nat → va_E) (k : Nat) (x y z f : Int) : Prop := (xi (u 38) k).toInt = max (xi (E 38) k).toInt (x - f) ∧ (xi (u 39) k).toInt = min (xi (E 39) k).toInt (x + z + f) ∧ (xi (u 40) k).toInt = max (xi (E 40) k).toInt (y - f) ∧ (xi (u 41) k).toInt = min (xi (E 41) k).toInt (y + z + f) ∧ ∀ j, j ≠ k → xi (u 38) j = xi (E 38) j ∧ xi (u 39) j = xi (E 39) j ∧ xi (u 40) j = xi (E 40) j ∧ xi (u 41) j = xi (E 41) j
/-- the other one's span stands -/
def OthE (E u : Nat → va_E) (k : Nat) : Prop := ∀ j, j ≠ k → xi (u 38) j = xi (E 38) j ∧ xi (u 39) j = xi (E 39) j ∧ xi (u 40) j = xi (E 40) j ∧ xi (u 41) j = xi (E 41) j ∧ xi (u 42) j = xi (E 42) j
theorem OthE.rf {E : Nat → va_E} {k : Nat} : OthE E E k := fun _ _ => ⟨rfl, rfl, rfl, rfl, rfl⟩
theorem OthE.pw {E E1 E2 : Nat → va_E} {k o : Nat} {x : Int32} {v : Value} (h : OthE E E1 k) (p : Pw E1 E2 o x.toNatClampNeg v) (hx : x.toNatClampNeg = k) : OthE E E2 k := fun j hj => by
  have c : ∀ o', xi (E2 o') j = xi (E1 o') j := fun o' => congrArg vi (p.2 o' j (fun q => hj (q.2.trans hx)))
  obtain ⟨a1, a2, a3, a4, a5⟩ := h j hj
  exact ⟨(c 38).trans a1, (c 39).trans a2, (c 40).trans a3, (c 41).trans a4, (c 42).trans a5⟩
theorem OthE.nar {E E1 E2 : Nat → va_E} {k : Nat} {x y z f : Int} (h : OthE E E1 k) (n : NarE E1 E2 k x y z f) (w : ∀ j, xi (E2 42) j = xi (E1 42) j) : OthE E E2 k := fun j hj => by
  obtain ⟨a1, a2, a3, a4, a5⟩ := h j hj
  obtain ⟨-, -, -, -, b⟩ := n
  obtain ⟨b1, b2, b3, b4⟩ := b j hj
  exact ⟨b1.trans a1, b2.trans a2, b3.trans a3, b4.trans a4, (w j).trans a5⟩
section STC
variable {w : Nat → Nat → Int} {wd : Nat → Int32} {n n' k : Nat} {r b q t s : Int} {E E1 E2 : Nat → va_E}
theorem StC.start (h0 : (xi (E 38) k).toInt = 0) (h1 : (xi (E 39) k).toInt = 99) (h2 : (xi (E 40) k).toInt = 0) (h3 : (xi (E 41) k).toInt = 99) (h4 : xi (E 42) k = 255) : StC w wd 0 r b q t s E k := ⟨fun x y => by
  rw [plc_0]
  unfold spn
  rw [h0, h1, h2, h3], fun d hd => by
  rw [h4, bt_255 d hd]
  exact ⟨fun _ => drs_0, fun _ => rfl⟩⟩
theorem StC.skip (h : StC w wd n r b q t s E k) (hn : ¬ wOf w r b q n) (e : n' = n + 1) : StC w wd n' r b q t s E k := by
  subst e
  exact ⟨fun x y => (h.1 x y).trans (plc_skip hn).symm, fun d hd => (h.2 d hd).trans (drs_skip (fun g => hn g.1)).symm⟩
theorem StC.take {f : Int} (h : StC w wd n r b q t s E k) (hw : wOf w r b q n) (hN : NarE E E1 k (w 4 n) (w 5 n) (w 6 n) f) (hf : f = s * ab (w 3 n - t)) (hd : ¬ w 3 n = t) (h42 : xi (E1 42) k = xi (E 42) k) (e : n' = n + 1) : StC w wd n' r b q t s E1 k := by
  subst e
  obtain ⟨a1, a2, a3, a4, -⟩ := hN
  refine ⟨fun x y => ?_, fun d hd8 => by rw [h42]; exact (h.2 d hd8).trans (drs_skip (fun g => hd g.2)).symm⟩
  rw [plc_take hw, ← h.1 x y]
  unfold spn nearW
  rw [a1, a2, a3, a4, ← hf]
  omega
theorem StC.takeD {f : Int} {v : Int32} (h : StC w wd n r b q t s E k) (hw : wOf w r b q n) (hN : NarE E E1 k (w 4 n) (w 5 n) (w 6 n) f) (hf : f = s * ab (w 3 n - t)) (hd : w 3 n = t) (hk : ∀ o, 38 ≤ o → o < 42 → xi (E2 o) k = xi (E1 o) k) (h42 : xi (E2 42) k = v) (hv : v = xi (E 42) k &&& wd n) (e : n' = n + 1) : StC w wd n' r b q t s E2 k := by
  subst e
  obtain ⟨a1, a2, a3, a4, -⟩ := hN
  refine ⟨fun x y => ?_, fun d hd8 => ?_⟩
  · rw [plc_take hw, ← h.1 x y]
    unfold spn nearW
    rw [hk 38 (by decide) (by decide), hk 39 (by decide) (by decide), hk 40 (by decide) (by decide), hk 41 (by decide) (by decide), a1, a2, a3, a4, ← hf]
    omega
  · rw [h42, hv, b_and, drs_take hw hd, ← h.2 d hd8, Bool.and_eq_true]
theorem StC.z1 (hh : ¬ hrd w n r b q t) : (0 : Int32).toInt = 0 ↔ ¬ Sts w wd n r b q t s := ⟨fun _ g => hh g.1, fun _ => rfl⟩
theorem StC.z2 (h : StC w wd n r b q t s E k) (hs : (xi (E 39) k).toInt < (xi (E 38) k).toInt ∨ (xi (E 41) k).toInt < (xi (E 40) k).toInt) : (0 : Int32).toInt = 0 ↔ ¬ Sts w wd n r b q t s := ⟨fun _ g => by
  obtain ⟨-, ⟨x, y, g1⟩, -⟩ := g
  have g2 := (h.1 x y).mpr g1
  unfold spn at g2
  omega, fun _ => rfl⟩
theorem StC.z3 {p c v : Int32} {z : Int} (h : StC w wd n r b q t s E k) (hh : hrd w n r b q t) (h1 : (xi (E 38) k).toInt ≤ (xi (E 39) k).toInt) (h2 : (xi (E 40) k).toInt ≤ (xi (E 41) k).toInt) (hp : 1 ≤ p.toInt) (hv : xi (E 42) k = v) (hv0 : 0 ≤ v.toInt ∧ v.toInt ≤ 255) (hc : c.toInt = (pcS v.toNatClampNeg 16 : Int)) (hz : z = p.toInt * c.toInt) : z = 0 ↔ ¬ Sts w wd n r b q t s := by
  have hb : ∀ d, d < 8 → (v.toNatClampNeg / 2 ^ d % 2 = 1 ↔ drs w wd n r b q t d) := fun d hd => by
    rw [← bt_nat hv0.1 d, ← hv]
    exact h.2 d hd
  have hc0 : c.toInt = 0 ↔ z = 0 := by
    constructor
    · intro g
      rw [hz, g, Int.mul_zero]
    · intro g
      rw [hz] at g
      rcases Int.mul_eq_zero.mp g with g1 | g1
      · omega
      · exact g1
  rw [← hc0, hc]
  have hx : ((pcS v.toNatClampNeg 16 : Nat) : Int) = 0 ↔ pcS v.toNatClampNeg 16 = 0 := by omega
  rw [hx, pcS_0]
  constructor
  · intro g g1
    obtain ⟨-, -, d, hd, hd2⟩ := g1
    exact g d (by omega) ((hb d hd).mpr hd2)
  · intro g d hd g1
    by_cases h8 : d < 8
    · exact g ⟨hh, ⟨(xi (E 38) k).toInt, (xi (E 40) k).toInt, (h.1 _ _).mp ⟨Int.le_refl _, h1, Int.le_refl _, h2⟩⟩, d, h8, (hb d h8).mp g1⟩
    · have h3 : v.toNatClampNeg < 2 ^ d := Nat.lt_of_lt_of_le (show v.toNatClampNeg < 2 ^ 8 by rw [tn_]; omega) (Nat.pow_le_pow_right (by decide) (by omega))
      rw [Nat.div_eq_of_lt h3] at g1
      exact absurd g1 (by decide)
end STC
/-- what statesOf comes to -/
def pA (E : Nat → va_E) (i j : Nat) : Int := (xi (E (64 * (i + 1) + 14)) j).toInt
def SOFc (cf : Nat → Nat) (E u : Nat → va_E) (i : Nat) (who q r : Int32) : Prop := ∃ s9 : Int32, SWq E (xi (E (64 * (i + 1) + 14)) 0).toNatClampNeg q.toInt s9 ∧ StC (wcE E) (wdE E) (cf 4) (pA E i 0) (if who.toInt = 0 then pA E i 1 else pA E i 2) q.toInt (pA E i 3) s9.toInt u who.toNatClampNeg ∧ (r.toInt = 0 ↔ ¬ Sts (wcE E) (wdE E) (cf 4) (pA E i 0) (if who.toInt = 0 then pA E i 1 else pA E i 2) q.toInt (pA E i 3) s9.toInt) ∧ OthE E u who.toNatClampNeg
theorem SWq.un {E : Nat → va_E} {i : Nat} {q : Int} {s s' : Int32} (h : SWq E i q s) (h' : SWq E i q s') : s = s' := by
  rcases h with ⟨d, a1, a2, a3, a4, a5⟩ | ⟨a4, a5⟩ <;> rcases h' with ⟨d', b1, b2, b3, b4, b5⟩ | ⟨b4, b5⟩
  · rcases Nat.lt_trichotomy d d' with g | g | g
    · exact absurd (a5 d' (by omega) b2) b3
    · subst g
      exact a4.trans b4.symm
    · exact absurd (b5 d (by omega) a2) a3
  · exact absurd (b5 d a1 a2) a3
  · exact absurd (a5 d' b1 b2) b3
  · exact a4.trans b4.symm
def K64 (E E' : Nat → va_E) : Prop := ∀ o, 64 ≤ o → ∀ j, xi (E' o) j = xi (E o) j
theorem K64.of {w : Nat → Nat → Bool} {E E' : Nat → va_E} (hk : Kp w E E') (hw : ∀ o, 64 ≤ o → ∀ j, w o j = false) : K64 E E' := fun o ho j => congrArg vi (hk o j (hw o ho j))
theorem K64.wc {E E' : Nat → va_E} (h : K64 E E') : wcE E' = wcE E := funext (fun j => funext (fun i => by
  show (xi (E' (64 * (i + 1) + 13)) j).toInt = (xi (E (64 * (i + 1) + 13)) j).toInt
  rw [h (64 * (i + 1) + 13) (by omega)]))
theorem K64.wd {E E' : Nat → va_E} (h : K64 E E') : wdE E' = wdE E := funext (fun i => by
  show xi (E' (64 * (i + 1) + 13)) 7 = xi (E (64 * (i + 1) + 13)) 7
  rw [h (64 * (i + 1) + 13) (by omega)])
theorem K64.sw {E E' : Nat → va_E} (h : K64 E E') {i : Nat} {q : Int} {s : Int32} (g : SWq E' i q s) : SWq E i q s := by
  unfold SWq at g
  rw [h (64 * (i + 1) + 6) (by omega) 0] at g
  have e : ∀ d, xi (E' (64 * (i + 1) + 11)) d = xi (E (64 * (i + 1) + 11)) d := fun d => h (64 * (i + 1) + 11) (by omega) d
  rcases g with ⟨d, a1, a2, a3, a4, a5⟩ | ⟨a4, a5⟩
  · rw [e] at a3 a4
    exact Or.inl ⟨d, a1, a2, a3, a4, fun d8 h8 h9 => by rw [← e]; exact a5 d8 h8 h9⟩
  · exact Or.inr ⟨a4, fun d8 h8 h9 => by rw [← e]; exact a5 d8 h8 h9⟩
theorem K64.pa {E E' : Nat → va_E} (h : K64 E E') (i j : Nat) : pA E' i j = pA E i j := by
  show (xi (E' (64 * (i + 1) + 14)) j).toInt = (xi (E (64 * (i + 1) + 14)) j).toInt
  rw [h (64 * (i + 1) + 14) (by omega)]
theorem StC.row {w : Nat → Nat → Int} {wd : Nat → Int32} {n k : Nat} {r b q t s : Int} {E E' : Nat → va_E} (h : StC w wd n r b q t s E k) (e : xi (E' 38) k = xi (E 38) k ∧ xi (E' 39) k = xi (E 39) k ∧ xi (E' 40) k = xi (E 40) k ∧ xi (E' 41) k = xi (E 41) k ∧ xi (E' 42) k = xi (E 42) k) : StC w wd n r b q t s E' k := by
  obtain ⟨e1, e2, e3, e4, e5⟩ := e
  refine ⟨fun x y => ?_, fun d hd => ?_⟩
  · rw [← h.1 x y]
    unfold spn
    rw [e1, e2, e3, e4]
  · rw [e5]
    exact h.2 d hd
theorem find_st {cf : Nat → Nat} {E E1 E2 : Nat → va_E} {i : Nat} {q r1 r2 : Int32} (k : K64 E E1) (f1 : SOFc cf E E1 i 0 q r1) (f2 : SOFc cf E1 E2 i 1 q r2) : ∃ s : Int32, SWq E (xi (E (64 * (i + 1) + 14)) 0).toNatClampNeg q.toInt s ∧ StC (wcE E) (wdE E) (cf 4) (pA E i 0) (pA E i 1) q.toInt (pA E i 3) s.toInt E2 0 ∧ StC (wcE E) (wdE E) (cf 4) (pA E i 0) (pA E i 2) q.toInt (pA E i 3) s.toInt E2 1 ∧ (r1.toInt = 0 ↔ ¬ Sts (wcE E) (wdE E) (cf 4) (pA E i 0) (pA E i 1) q.toInt (pA E i 3) s.toInt) ∧ (r2.toInt = 0 ↔ ¬ Sts (wcE E) (wdE E) (cf 4) (pA E i 0) (pA E i 2) q.toInt (pA E i 3) s.toInt) := by
  obtain ⟨s, a1, a2, a3, -⟩ := f1
  obtain ⟨s', b1, b2, b3, b4⟩ := f2
  rw [k.wc, k.wd, k.pa, k.pa, k.pa, k.pa] at b2 b3
  rw [k (64 * (i + 1) + 14) (by omega) 0] at b1
  have e := (k.sw b1).un a1
  subst e
  rw [if_pos (show (0 : Int32).toInt = 0 from rfl)] at a2 a3
  rw [if_neg (show ¬ (1 : Int32).toInt = 0 by decide)] at b2 b3
  exact ⟨s', a1, a2.row (b4 0 (by decide)), b2, a3, b3⟩
theorem find_s1 {cf : Nat → Nat} {E E1 : Nat → va_E} {i : Nat} {q r1 : Int32} (f1 : SOFc cf E E1 i 0 q r1) : ∃ s : Int32, SWq E (xi (E (64 * (i + 1) + 14)) 0).toNatClampNeg q.toInt s ∧ (r1.toInt = 0 ↔ ¬ Sts (wcE E) (wdE E) (cf 4) (pA E i 0) (pA E i 1) q.toInt (pA E i 3) s.toInt) := by
  obtain ⟨s, a1, a2, a3, -⟩ := f1
  rw [if_pos (show (0 : Int32).toInt = 0 from rfl)] at a3
  exact ⟨s, a1, a3⟩

