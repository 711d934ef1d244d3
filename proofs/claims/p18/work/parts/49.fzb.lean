

/-! ===== the reference's finding ===== -/
theorem st_x : ∀ w : Nat, w < 8 → stX w = if w = 0 ∨ w = 4 then 0 else if w < 4 then 1 else -1 := by decide
theorem st_y : ∀ w : Nat, w < 8 → stY w = if w = 2 ∨ w = 6 then 0 else if 2 < w ∧ w < 6 then 1 else -1 := by decide
theorem st_xv {a : Int32} {v : Int} (h : 0 ≤ a.toInt ∧ a.toInt ≤ 7) (hv : (a.toInt = 0 ∨ a.toInt = 4) ∧ v = 0 ∨ (¬ a.toInt = 0 ∧ a.toInt < 4) ∧ v = 1 ∨ (4 < a.toInt) ∧ v = -1) : v = stX a.toNatClampNeg := by
  rw [st_x _ (by rw [tn_]; omega), tn_]
  by_cases c : a.toInt.toNat = 0 ∨ a.toInt.toNat = 4
  · rw [if_pos c]
    omega
  · rw [if_neg c]
    by_cases c2 : a.toInt.toNat < 4
    · rw [if_pos c2]
      omega
    · rw [if_neg c2]
      omega
theorem st_yv {a : Int32} {v : Int} (h : 0 ≤ a.toInt ∧ a.toInt ≤ 7) (hv : (a.toInt = 2 ∨ a.toInt = 6) ∧ v = 0 ∨ (2 < a.toInt ∧ a.toInt < 6) ∧ v = 1 ∨ (a.toInt < 2 ∨ 6 < a.toInt) ∧ v = -1) : v = stY a.toNatClampNeg := by
  rw [st_y _ (by rw [tn_]; omega), tn_]
  by_cases c : a.toInt.toNat = 2 ∨ a.toInt.toNat = 6
  · rw [if_pos c]
    omega
  · rw [if_neg c]
    by_cases c2 : 2 < a.toInt.toNat ∧ a.toInt.toNat < 6
    · rw [if_pos c2]
      omega
    · rw [if_neg c2]
      omega
def mPR (E : Nat → va_E) (p : Nat) : Nat := (xi (E 46) p).toNatClampNeg
/-- there is no FAULT at a pair of listed STATES -/
def XMp (E : Nat → va_E) (p : Nat) (who q : Int32) (i j : Nat) : Prop := ¬ wML (pL (xi (E 16) (mPR E p)).toNatClampNeg (xi (E 17) (mPR E p)).toInt (xi (E 18) (mPR E p)).toInt (rI E 56 i) (rI E 57 i) (rI E 58 i) (rI E 56 (128 + j)) (rI E 57 (128 + j)) (rI E 58 (128 + j))) E (if who.toInt = 0 then 97 else 98) (lawM E (xi (E 13) (mPR E p)) q) = 0
def FinM (E : Nat → va_E) (p : Nat) (who q r : Int32) : Prop := ∃ al wr : Int, Cnt al wr (∃ i j, prc (xi (E 59) 1).toNatClampNeg (xi (E 59) 0).toNatClampNeg 0 i j) (∀ i j, prc (xi (E 59) 1).toNatClampNeg (xi (E 59) 0).toNatClampNeg 0 i j → XMp E p who q i j) ∧ (r.toInt = 1 ↔ (¬ al = 0 ∧ wr = al))
theorem lM_e {E : Nat → va_E} {p i j : Nat} {c8 c9 c10 c11 c12 c3 c13 : Int32} (h8 : c8.toInt = far4 (rI E 56 i) (rI E 57 i) (rI E 56 (128 + j)) (rI E 57 (128 + j))) (h9 : c9.toInt = sb (rI E 58 i) (((xi (E 16) (mPR E p)).toNatClampNeg : Nat) : Int)) (h10 : c10.toInt = sb (rI E 58 (128 + j)) (((xi (E 16) (mPR E p)).toNatClampNeg : Nat) : Int)) (h11 : c11.toInt = upw (stX (xi (E 16) (mPR E p)).toNatClampNeg) (stY (xi (E 16) (mPR E p)).toNatClampNeg) (rI E 56 i) (rI E 57 i) (rI E 56 (128 + j)) (rI E 57 (128 + j))) (h12 : c12.toInt = far4 (rI E 56 i) (rI E 57 i) (xi (E 17) (mPR E p)).toInt (xi (E 18) (mPR E p)).toInt) (h3 : c3.toInt = far4 (rI E 56 (128 + j)) (rI E 57 (128 + j)) (xi (E 17) (mPR E p)).toInt (xi (E 18) (mPR E p)).toInt) (h13 : c13.toInt = eqI (rI E 58 i) (rI E 58 (128 + j))) : lset (lset (lset (lset (lset (lset (lset lz 8 c8) 9 c9) 10 c10) 11 c11) 12 c12) 3 c3) 13 c13 = pL (xi (E 16) (mPR E p)).toNatClampNeg (xi (E 17) (mPR E p)).toInt (xi (E 18) (mPR E p)).toInt (rI E 56 i) (rI E 57 i) (rI E 58 i) (rI E 56 (128 + j)) (rI E 57 (128 + j)) (rI E 58 (128 + j)) := by
  rw [ls_ord, fI_of h8, fI_of h9, fI_of h10, fI_of h11, fI_of h12, fI_of h3, fI_of h13]
  rfl

