

theorem sumI_push {g g' : Nat → Int32} {b b2 x : Int32} (hb : 0 ≤ b.toInt) (hb2 : b.toInt ≤ 100) (t : b2.toInt = b.toInt + 1) (e : g' = upd g b.toNatClampNeg x) : sumI g' b2.toNatClampNeg = sumI g b.toNatClampNeg + x.toInt ∧ (posI g' b2.toNatClampNeg : Int) = posI g b.toNatClampNeg + (if 0 < x.toInt then 1 else 0) := by
  have e2 : b2.toNatClampNeg = b.toNatClampNeg + 1 := by rw [tn_, tn_]; omega
  subst e
  have h1 := sumI_out (g := g) (k := b.toNatClampNeg) (x := x) b.toNatClampNeg (Nat.le_refl _)
  rw [e2]
  simp only [sumI, posI, h1.1, h1.2, pk_us]
  constructor
  · trivial
  · split <;> omega
theorem dr_place {x y z w : Int64} {t r : Int32} (ey : y = (x.toUInt64 >>> ((33 : Int32).toInt64.toUInt64 &&& Int64.toUInt64 63)).toInt64) (ez : z = t.toInt64) (ew : w = y - y / z * z) (er : r = w.toInt32) (ht : 1 ≤ t.toInt) (ht2 : t.toInt ≤ 100000) : 0 ≤ r.toInt ∧ r.toInt < t.toInt := by
  have e33 : ((33 : Int32).toInt64.toUInt64 &&& Int64.toUInt64 63) = 33 := by decide
  rw [e33] at ey
  have hk : (x.toUInt64 >>> 33).toNat < 2 ^ 31 := by
    rw [UInt64.toNat_shiftRight, show (33 : UInt64).toNat % 64 = 33 from by decide, Nat.shiftRight_eq_div_pow]
    have := x.toUInt64.toNat_lt
    omega
  have ey2 : y = lN (x.toUInt64 >>> 33).toNat := by
    have hu : ∀ u : UInt64, u.toInt64 = lN u.toNat := fun u => by
      apply Int64.toBitVec_inj.mp
      show u.toBitVec = BitVec.ofNat 64 u.toBitVec.toNat
      simp
    rw [ey, hu]
  have hb : t.toNatClampNeg < 2 ^ 31 := by rw [tn_]; omega
  have et : t = nI t.toNatClampNeg := (nI_tn (by omega)).symm
  have ez2 : z = lN t.toNatClampNeg := (ez.trans (congrArg Int32.toInt64 et)).trans (nI_l hb)
  have h0 : 0 < t.toNatClampNeg := by rw [tn_]; omega
  rw [er, ew, ey2, ez2, pk_lRem (by omega) h0 (by omega), lN_i]
  have hm := Nat.mod_lt (x.toUInt64 >>> 33).toNat h0
  rw [nI_toInt (by omega)]
  have := tn_ t
  omega

