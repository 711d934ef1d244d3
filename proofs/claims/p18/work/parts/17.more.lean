
/-! ===== a PROTEST that is not decided was decided once at most ===== -/
def DIr (gI gD : Nat → Int32) : Prop := ∀ p : Nat, gI p = 0 → (gD p).toInt ≤ 1
theorem DIr_upd {gI gD : Nat → Int32} {k : Nat} {x : Int32} (h : DIr gI gD) : DIr (upd gI k 1) (upd gD k x) := by
  intro p hp
  by_cases e : p = k
  · subst e
    rw [pk_us] at hp
    exact absurd hp (by decide)
  · rw [pk_un e] at hp ⊢
    exact h p hp
theorem DIr_re {gI gD : Nat → Int32} {k : Nat} (h : DIr gI gD) (h1 : (gD k).toInt ≤ 1) : DIr (upd gI k 0) gD := by
  intro p hp
  by_cases e : p = k
  · subst e
    exact h1
  · rw [pk_un e] at hp
    exact h p hp
/-! ===== bits of a number ===== -/
def pcS (n : Nat) : Nat → Nat
  | 0 => 0
  | k + 1 => pcS n k + n / 2 ^ k % 2
def pcU (n : Nat) : Nat := 0 + n / 1 % 2 + n / 2 % 2 + n / 4 % 2 + n / 8 % 2 + n / 16 % 2 + n / 32 % 2 + n / 64 % 2 + n / 128 % 2 + n / 256 % 2 + n / 512 % 2 + n / 1024 % 2 + n / 2048 % 2 + n / 4096 % 2 + n / 8192 % 2 + n / 16384 % 2 + n / 32768 % 2
theorem pcU_eq (n : Nat) : pcU n = pcS n 16 := rfl
theorem pcS_mono (n : Nat) {j k : Nat} (h : j ≤ k) : pcS n j ≤ pcS n k := by
  induction k with
  | zero =>
    rw [show j = 0 by omega]
    exact Nat.le_refl _
  | succ k ih =>
    by_cases e : j = k + 1
    · rw [e]
      exact Nat.le_refl _
    · have := ih (by omega)
      simp only [pcS]
      omega
theorem nI_and (a b : Nat) : nI a &&& nI b = nI (a &&& b) := by
  apply Int32.toBitVec_inj.mp
  rw [Int32.toBitVec_and]
  show BitVec.ofNat 32 a &&& BitVec.ofNat 32 b = BitVec.ofNat 32 (a &&& b)
  exact (BitVec.ofNat_and).symm
theorem bit_at {a v y1 y2 : Int32} (h0 : 0 ≤ a.toInt) (hv : 0 ≤ v.toInt ∧ v.toInt ≤ 31) (e1 : y1 = a >>> (v &&& 31)) (e2 : y2 = y1 &&& 1) : y2 = nI (a.toNatClampNeg / 2 ^ v.toNatClampNeg % 2) := by
  have ha : a = nI a.toNatClampNeg := (nI_tn h0).symm
  have hvv : v = nI v.toNatClampNeg := (nI_tn hv.1).symm
  have hlt : a.toNatClampNeg < 2 ^ 31 := by rw [tn_]; have := (iv_all a).2; omega
  have hk : v.toNatClampNeg < 32 := by rw [tn_]; omega
  have e3 : y1 = nI (a.toNatClampNeg / 2 ^ v.toNatClampNeg) := by
    rw [e1]
    conv => lhs; rw [ha, hvv]
    exact pk_shrN hlt _ _ (s_l _ hk)
  rw [e2, e3]
  have h5 : a.toNatClampNeg / 2 ^ v.toNatClampNeg < 2 ^ 32 := Nat.lt_of_le_of_lt (Nat.div_le_self _ _) (by omega)
  exact (pk_andN h5 1 (by decide)).trans (by rw [Nat.pow_one])
def bcN (n : Nat) : Nat :=
  let i1 := n - ((n / 2) &&& 1431655765)
  let i2 := (i1 &&& 858993459) + ((i1 / 4) &&& 858993459)
  let i3 := (i2 + i2 / 16) &&& 252645135
  let i4 := i3 + i3 / 256
  let i5 := i4 + i4 / 65536
  i5 &&& 63
def bcN_in (k : Nat) : Bool := (List.range 8).all (fun a => (List.range 256).all (fun b => Nat.beq (bcN (256 * (8 * k + a) + b)) (pcU (256 * (8 * k + a) + b))))
theorem bcN_0 : bcN_in 0 = true := by decide +kernel
theorem bcN_1 : bcN_in 1 = true := by decide +kernel
theorem bcN_2 : bcN_in 2 = true := by decide +kernel
theorem bcN_3 : bcN_in 3 = true := by decide +kernel
theorem bcN_4 : bcN_in 4 = true := by decide +kernel
theorem bcN_5 : bcN_in 5 = true := by decide +kernel
theorem bcN_6 : bcN_in 6 = true := by decide +kernel
theorem bcN_7 : bcN_in 7 = true := by decide +kernel
theorem bcN_8 : bcN_in 8 = true := by decide +kernel
theorem bcN_9 : bcN_in 9 = true := by decide +kernel
theorem bcN_10 : bcN_in 10 = true := by decide +kernel
theorem bcN_11 : bcN_in 11 = true := by decide +kernel
theorem bcN_12 : bcN_in 12 = true := by decide +kernel
theorem bcN_13 : bcN_in 13 = true := by decide +kernel
theorem bcN_14 : bcN_in 14 = true := by decide +kernel
theorem bcN_15 : bcN_in 15 = true := by decide +kernel
theorem bcN_16 : bcN_in 16 = true := by decide +kernel
theorem bcN_17 : bcN_in 17 = true := by decide +kernel
theorem bcN_18 : bcN_in 18 = true := by decide +kernel
theorem bcN_19 : bcN_in 19 = true := by decide +kernel
theorem bcN_20 : bcN_in 20 = true := by decide +kernel
theorem bcN_21 : bcN_in 21 = true := by decide +kernel
theorem bcN_22 : bcN_in 22 = true := by decide +kernel
theorem bcN_23 : bcN_in 23 = true := by decide +kernel
theorem bcN_24 : bcN_in 24 = true := by decide +kernel
theorem bcN_25 : bcN_in 25 = true := by decide +kernel
theorem bcN_26 : bcN_in 26 = true := by decide +kernel
theorem bcN_27 : bcN_in 27 = true := by decide +kernel
theorem bcN_28 : bcN_in 28 = true := by decide +kernel
theorem bcN_29 : bcN_in 29 = true := by decide +kernel
theorem bcN_30 : bcN_in 30 = true := by decide +kernel
theorem bcN_31 : bcN_in 31 = true := by decide +kernel
theorem bcN_all : ∀ k, k < 32 → bcN_in k = true := by
  intro k hk
  match k, hk with
  | 0, _ => exact bcN_0
  | 1, _ => exact bcN_1
  | 2, _ => exact bcN_2
  | 3, _ => exact bcN_3
  | 4, _ => exact bcN_4
  | 5, _ => exact bcN_5
  | 6, _ => exact bcN_6
  | 7, _ => exact bcN_7
  | 8, _ => exact bcN_8
  | 9, _ => exact bcN_9
  | 10, _ => exact bcN_10
  | 11, _ => exact bcN_11
  | 12, _ => exact bcN_12
  | 13, _ => exact bcN_13
  | 14, _ => exact bcN_14
  | 15, _ => exact bcN_15
  | 16, _ => exact bcN_16
  | 17, _ => exact bcN_17
  | 18, _ => exact bcN_18
  | 19, _ => exact bcN_19
  | 20, _ => exact bcN_20
  | 21, _ => exact bcN_21
  | 22, _ => exact bcN_22
  | 23, _ => exact bcN_23
  | 24, _ => exact bcN_24
  | 25, _ => exact bcN_25
  | 26, _ => exact bcN_26
  | 27, _ => exact bcN_27
  | 28, _ => exact bcN_28
  | 29, _ => exact bcN_29
  | 30, _ => exact bcN_30
  | 31, _ => exact bcN_31
  | k + 32, h => exact absurd h (by omega)
theorem bcN_ok {n : Nat} (h : n < 65536) : bcN n = pcS n 16 := by
  have h0 := bcN_all (n / 2048) (by omega)
  have h1 := List.all_eq_true.mp h0 (n / 256 % 8) (List.mem_range.mpr (by omega))
  have h2 := List.all_eq_true.mp h1 (n % 256) (List.mem_range.mpr (by omega))
  have e : 256 * (8 * (n / 2048) + n / 256 % 8) + n % 256 = n := by omega
  rw [e] at h2
  exact (Nat.eq_of_beq_eq_true h2).trans (pcU_eq n)
theorem nI01 {x : Nat} (h : x < 2) : nI x = 0 ↔ x = 0 := by
  rcases (show x = 0 ∨ x = 1 by omega) with rfl | rfl <;> decide

