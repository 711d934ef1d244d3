
/-! ===== a PROTEST that is not decided was decided once at most ===== -/
def DIr (gI gD : Nat → Int32) : Prop := ∀ p : Nat, gI p = 0 → (gD p).toInt ≤ 1
theorem DIr_upd {gI gD : Nat → Int32} {k : Nat} {x : Int32} (h : DIr gI gD) : DIr (upd gI k 1) (upd gD k x) := by
  intro p hp
  by_cases e : p = k
  · subst e
    rw [pk_us] at hp
    exact absurd hp (by decide)
  · rw [pk_un e] at hp ⊢
    exact h p hp
theorem DIr_re {gI gD : Nat → Int32} {k : Nat} (h : DIr gI gD) (h1 : (gD k).toInt ≤ 1) : DIr (upd gI k 0) gD := by
  intro p hp
  by_cases e : p = k
  · subst e
    exact h1
  · rw [pk_un e] at hp
    exact h p hp
/-! ===== bits of a number ===== -/
def pcS (n : Nat) : Nat → Nat
  | 0 => 0
  | k + 1 => pcS n k + n / 2 ^ k % 2
theorem pcS_mono (n : Nat) {j k : Nat} (h : j ≤ k) : pcS n j ≤ pcS n k := by
  induction k with
  | zero =>
    rw [show j = 0 by omega]
    exact Nat.le_refl _
  | succ k ih =>
    by_cases e : j = k + 1
    · rw [e]
      exact Nat.le_refl _
    · have := ih (by omega)
      simp only [pcS]
      omega
theorem nI_and (a b : Nat) : nI a &&& nI b = nI (a &&& b) := by
  apply Int32.toBitVec_inj.mp
  rw [Int32.toBitVec_and]
  show BitVec.ofNat 32 a &&& BitVec.ofNat 32 b = BitVec.ofNat 32 (a &&& b)
  exact (BitVec.ofNat_and).symm
theorem bit_at {a v y1 y2 : Int32} (h0 : 0 ≤ a.toInt) (hv : 0 ≤ v.toInt ∧ v.toInt ≤ 31) (e1 : y1 = a >>> (v &&& 31)) (e2 : y2 = y1 &&& 1) : y2 = nI (a.toNatClampNeg / 2 ^ v.toNatClampNeg % 2) := by
  have ha : a = nI a.toNatClampNeg := (nI_tn h0).symm
  have hvv : v = nI v.toNatClampNeg := (nI_tn hv.1).symm
  have hlt : a.toNatClampNeg < 2 ^ 31 := by rw [tn_]; have := (iv_all a).2; omega
  have hk : v.toNatClampNeg < 32 := by rw [tn_]; omega
  have e3 : y1 = nI (a.toNatClampNeg / 2 ^ v.toNatClampNeg) := by
    rw [e1]
    conv => lhs; rw [ha, hvv]
    exact pk_shrN hlt _ _ (s_l _ hk)
  rw [e2, e3]
  have h5 : a.toNatClampNeg / 2 ^ v.toNatClampNeg < 2 ^ 32 := Nat.lt_of_le_of_lt (Nat.div_le_self _ _) (by omega)
  exact (pk_andN h5 1 (by decide)).trans (by rw [Nat.pow_one])
def bcN (n : Nat) : Nat :=
  let i1 := n - ((n / 2) &&& 1431655765)
  let i2 := (i1 &&& 858993459) + ((i1 / 4) &&& 858993459)
  let i3 := (i2 + i2 / 16) &&& 252645135
  let i4 := i3 + i3 / 256
  let i5 := i4 + i4 / 65536
  i5 &&& 63
theorem bcN_all : (List.range 256).all (fun a => (List.range 256).all (fun b => Nat.beq (bcN (256 * a + b)) (pcS (256 * a + b) 16))) = true := by decide +kernel
theorem bcN_ok {n : Nat} (h : n < 65536) : bcN n = pcS n 16 := by
  have h1 := List.all_eq_true.mp bcN_all (n / 256) (List.mem_range.mpr (by omega))
  have h2 := List.all_eq_true.mp h1 (n % 256) (List.mem_range.mpr (by omega))
  have e : 256 * (n / 256) + n % 256 = n := by omega
  rw [e] at h2
  exact Nat.eq_of_beq_eq_true h2

