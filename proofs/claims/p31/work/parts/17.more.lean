set_option maxRecDepth 100000 in
theorem zh_dJ6_bitCount_0f7a4_0_0 : zc cJ6_bitCount_0f7a4 0 [26, 26, 4, 124, 19, 1, 9, 126, 100, 59, 26, 19, 1, 10, 126, 26] = true := by decide +kernel
set_option maxRecDepth 100000 in
theorem zh_dJ6_bitCount_0f7a4_16_16 : zc cJ6_bitCount_0f7a4 16 [5, 124, 19, 1, 10, 126, 96, 59, 26, 26, 7, 124, 96, 19, 1, 11] = true := by decide +kernel
set_option maxRecDepth 100000 in
theorem zh_dJ6_bitCount_0f7a4_32_32 : zc cJ6_bitCount_0f7a4 32 [126, 59, 26, 26, 16, 8, 124, 96, 59, 26, 26, 16, 16, 124, 96, 59] = true := by decide +kernel
set_option maxRecDepth 100000 in
theorem zh_dJ6_bitCount_0f7a4_48_48 : zc cJ6_bitCount_0f7a4 48 [26, 16, 63, 126, 172] = true := by decide +kernel
theorem dJ6_bitCount_0f7a4_0 : decode cJ6_bitCount_0f7a4 0 = .ok (.iload_n 0, 1) := zo_26 (zi_at zh_dJ6_bitCount_0f7a4_0_0 0 rfl)
theorem dJ6_bitCount_0f7a4_1 : decode cJ6_bitCount_0f7a4 1 = .ok (.iload_n 0, 1) := zo_26 (zi_at zh_dJ6_bitCount_0f7a4_0_0 1 rfl)
theorem dJ6_bitCount_0f7a4_2 : decode cJ6_bitCount_0f7a4 2 = .ok (.iconst 1, 1) := zo_4 (zi_at zh_dJ6_bitCount_0f7a4_0_0 2 rfl)
theorem dJ6_bitCount_0f7a4_3 : decode cJ6_bitCount_0f7a4 3 = .ok (.iushr, 1) := zo_124 (zi_at zh_dJ6_bitCount_0f7a4_0_0 3 rfl)
theorem dJ6_bitCount_0f7a4_4 : decode cJ6_bitCount_0f7a4 4 = .ok (.ldc_w 265, 3) := zo_19 (zi_at zh_dJ6_bitCount_0f7a4_0_0 4 rfl) (zi_at zh_dJ6_bitCount_0f7a4_0_0 5 rfl) (zi_at zh_dJ6_bitCount_0f7a4_0_0 6 rfl) rfl
theorem dJ6_bitCount_0f7a4_7 : decode cJ6_bitCount_0f7a4 7 = .ok (.iand, 1) := zo_126 (zi_at zh_dJ6_bitCount_0f7a4_0_0 7 rfl)
theorem dJ6_bitCount_0f7a4_8 : decode cJ6_bitCount_0f7a4 8 = .ok (.isub, 1) := zo_100 (zi_at zh_dJ6_bitCount_0f7a4_0_0 8 rfl)
theorem dJ6_bitCount_0f7a4_9 : decode cJ6_bitCount_0f7a4 9 = .ok (.istore_n 0, 1) := zo_59 (zi_at zh_dJ6_bitCount_0f7a4_0_0 9 rfl)
theorem dJ6_bitCount_0f7a4_10 : decode cJ6_bitCount_0f7a4 10 = .ok (.iload_n 0, 1) := zo_26 (zi_at zh_dJ6_bitCount_0f7a4_0_0 10 rfl)
theorem dJ6_bitCount_0f7a4_11 : decode cJ6_bitCount_0f7a4 11 = .ok (.ldc_w 266, 3) := zo_19 (zi_at zh_dJ6_bitCount_0f7a4_0_0 11 rfl) (zi_at zh_dJ6_bitCount_0f7a4_0_0 12 rfl) (zi_at zh_dJ6_bitCount_0f7a4_0_0 13 rfl) rfl
theorem dJ6_bitCount_0f7a4_14 : decode cJ6_bitCount_0f7a4 14 = .ok (.iand, 1) := zo_126 (zi_at zh_dJ6_bitCount_0f7a4_0_0 14 rfl)
theorem dJ6_bitCount_0f7a4_15 : decode cJ6_bitCount_0f7a4 15 = .ok (.iload_n 0, 1) := zo_26 (zi_at zh_dJ6_bitCount_0f7a4_0_0 15 rfl)
theorem dJ6_bitCount_0f7a4_16 : decode cJ6_bitCount_0f7a4 16 = .ok (.iconst 2, 1) := zo_5 (zi_at zh_dJ6_bitCount_0f7a4_16_16 0 rfl)
theorem dJ6_bitCount_0f7a4_17 : decode cJ6_bitCount_0f7a4 17 = .ok (.iushr, 1) := zo_124 (zi_at zh_dJ6_bitCount_0f7a4_16_16 1 rfl)
theorem dJ6_bitCount_0f7a4_18 : decode cJ6_bitCount_0f7a4 18 = .ok (.ldc_w 266, 3) := zo_19 (zi_at zh_dJ6_bitCount_0f7a4_16_16 2 rfl) (zi_at zh_dJ6_bitCount_0f7a4_16_16 3 rfl) (zi_at zh_dJ6_bitCount_0f7a4_16_16 4 rfl) rfl
theorem dJ6_bitCount_0f7a4_21 : decode cJ6_bitCount_0f7a4 21 = .ok (.iand, 1) := zo_126 (zi_at zh_dJ6_bitCount_0f7a4_16_16 5 rfl)
theorem dJ6_bitCount_0f7a4_22 : decode cJ6_bitCount_0f7a4 22 = .ok (.iadd, 1) := zo_96 (zi_at zh_dJ6_bitCount_0f7a4_16_16 6 rfl)
theorem dJ6_bitCount_0f7a4_23 : decode cJ6_bitCount_0f7a4 23 = .ok (.istore_n 0, 1) := zo_59 (zi_at zh_dJ6_bitCount_0f7a4_16_16 7 rfl)
theorem dJ6_bitCount_0f7a4_24 : decode cJ6_bitCount_0f7a4 24 = .ok (.iload_n 0, 1) := zo_26 (zi_at zh_dJ6_bitCount_0f7a4_16_16 8 rfl)
theorem dJ6_bitCount_0f7a4_25 : decode cJ6_bitCount_0f7a4 25 = .ok (.iload_n 0, 1) := zo_26 (zi_at zh_dJ6_bitCount_0f7a4_16_16 9 rfl)
theorem dJ6_bitCount_0f7a4_26 : decode cJ6_bitCount_0f7a4 26 = .ok (.iconst 4, 1) := zo_7 (zi_at zh_dJ6_bitCount_0f7a4_16_16 10 rfl)
theorem dJ6_bitCount_0f7a4_27 : decode cJ6_bitCount_0f7a4 27 = .ok (.iushr, 1) := zo_124 (zi_at zh_dJ6_bitCount_0f7a4_16_16 11 rfl)
theorem dJ6_bitCount_0f7a4_28 : decode cJ6_bitCount_0f7a4 28 = .ok (.iadd, 1) := zo_96 (zi_at zh_dJ6_bitCount_0f7a4_16_16 12 rfl)
theorem dJ6_bitCount_0f7a4_29 : decode cJ6_bitCount_0f7a4 29 = .ok (.ldc_w 267, 3) := zo_19 (zi_at zh_dJ6_bitCount_0f7a4_16_16 13 rfl) (zi_at zh_dJ6_bitCount_0f7a4_16_16 14 rfl) (zi_at zh_dJ6_bitCount_0f7a4_16_16 15 rfl) rfl
theorem dJ6_bitCount_0f7a4_32 : decode cJ6_bitCount_0f7a4 32 = .ok (.iand, 1) := zo_126 (zi_at zh_dJ6_bitCount_0f7a4_32_32 0 rfl)
theorem dJ6_bitCount_0f7a4_33 : decode cJ6_bitCount_0f7a4 33 = .ok (.istore_n 0, 1) := zo_59 (zi_at zh_dJ6_bitCount_0f7a4_32_32 1 rfl)
theorem dJ6_bitCount_0f7a4_34 : decode cJ6_bitCount_0f7a4 34 = .ok (.iload_n 0, 1) := zo_26 (zi_at zh_dJ6_bitCount_0f7a4_32_32 2 rfl)
theorem dJ6_bitCount_0f7a4_35 : decode cJ6_bitCount_0f7a4 35 = .ok (.iload_n 0, 1) := zo_26 (zi_at zh_dJ6_bitCount_0f7a4_32_32 3 rfl)
theorem dJ6_bitCount_0f7a4_36 : decode cJ6_bitCount_0f7a4 36 = .ok (.bipush 8, 2) := zo_16 (zi_at zh_dJ6_bitCount_0f7a4_32_32 4 rfl) (zi_at zh_dJ6_bitCount_0f7a4_32_32 5 rfl) rfl
theorem dJ6_bitCount_0f7a4_38 : decode cJ6_bitCount_0f7a4 38 = .ok (.iushr, 1) := zo_124 (zi_at zh_dJ6_bitCount_0f7a4_32_32 6 rfl)
theorem dJ6_bitCount_0f7a4_39 : decode cJ6_bitCount_0f7a4 39 = .ok (.iadd, 1) := zo_96 (zi_at zh_dJ6_bitCount_0f7a4_32_32 7 rfl)
theorem dJ6_bitCount_0f7a4_40 : decode cJ6_bitCount_0f7a4 40 = .ok (.istore_n 0, 1) := zo_59 (zi_at zh_dJ6_bitCount_0f7a4_32_32 8 rfl)
theorem dJ6_bitCount_0f7a4_41 : decode cJ6_bitCount_0f7a4 41 = .ok (.iload_n 0, 1) := zo_26 (zi_at zh_dJ6_bitCount_0f7a4_32_32 9 rfl)
theorem dJ6_bitCount_0f7a4_42 : decode cJ6_bitCount_0f7a4 42 = .ok (.iload_n 0, 1) := zo_26 (zi_at zh_dJ6_bitCount_0f7a4_32_32 10 rfl)
theorem dJ6_bitCount_0f7a4_43 : decode cJ6_bitCount_0f7a4 43 = .ok (.bipush 16, 2) := zo_16 (zi_at zh_dJ6_bitCount_0f7a4_32_32 11 rfl) (zi_at zh_dJ6_bitCount_0f7a4_32_32 12 rfl) rfl
theorem dJ6_bitCount_0f7a4_45 : decode cJ6_bitCount_0f7a4 45 = .ok (.iushr, 1) := zo_124 (zi_at zh_dJ6_bitCount_0f7a4_32_32 13 rfl)
theorem dJ6_bitCount_0f7a4_46 : decode cJ6_bitCount_0f7a4 46 = .ok (.iadd, 1) := zo_96 (zi_at zh_dJ6_bitCount_0f7a4_32_32 14 rfl)
theorem dJ6_bitCount_0f7a4_47 : decode cJ6_bitCount_0f7a4 47 = .ok (.istore_n 0, 1) := zo_59 (zi_at zh_dJ6_bitCount_0f7a4_32_32 15 rfl)
theorem dJ6_bitCount_0f7a4_48 : decode cJ6_bitCount_0f7a4 48 = .ok (.iload_n 0, 1) := zo_26 (zi_at zh_dJ6_bitCount_0f7a4_48_48 0 rfl)
theorem dJ6_bitCount_0f7a4_49 : decode cJ6_bitCount_0f7a4 49 = .ok (.bipush 63, 2) := zo_16 (zi_at zh_dJ6_bitCount_0f7a4_48_48 1 rfl) (zi_at zh_dJ6_bitCount_0f7a4_48_48 2 rfl) rfl
theorem dJ6_bitCount_0f7a4_51 : decode cJ6_bitCount_0f7a4 51 = .ok (.iand, 1) := zo_126 (zi_at zh_dJ6_bitCount_0f7a4_48_48 3 rfl)
theorem dJ6_bitCount_0f7a4_52 : decode cJ6_bitCount_0f7a4 52 = .ok (.ireturn, 1) := zo_172 (zi_at zh_dJ6_bitCount_0f7a4_48_48 4 rfl)
/-! ===== a PROTEST that is not decided was decided once at most ===== -/
def DIr (gI gD : Nat → Int32) : Prop := ∀ p : Nat, gI p = 0 → (gD p).toInt ≤ 1
theorem DIr_upd {gI gD : Nat → Int32} {k : Nat} {x : Int32} (h : DIr gI gD) : DIr (upd gI k 1) (upd gD k x) := by
  intro p hp
  by_cases e : p = k
  · subst e
    rw [pk_us] at hp
    exact absurd hp (by decide)
  · rw [pk_un e] at hp ⊢
    exact h p hp
theorem DIr_re {gI gD : Nat → Int32} {k : Nat} (h : DIr gI gD) (h1 : (gD k).toInt ≤ 1) : DIr (upd gI k 0) gD := by
  intro p hp
  by_cases e : p = k
  · subst e
    exact h1
  · rw [pk_un e] at hp
    exact h p hp
/-! ===== bits of a number ===== -/
def pcS (n : Nat) : Nat → Nat
  | 0 => 0
  | k + 1 => pcS n k + n / 2 ^ k % 2
def pcU (n : Nat) : Nat := 0 + n / 1 % 2 + n / 2 % 2 + n / 4 % 2 + n / 8 % 2 + n / 16 % 2 + n / 32 % 2 + n / 64 % 2 + n / 128 % 2 + n / 256 % 2 + n / 512 % 2 + n / 1024 % 2 + n / 2048 % 2 + n / 4096 % 2 + n / 8192 % 2 + n / 16384 % 2 + n / 32768 % 2
theorem pcU_eq (n : Nat) : pcU n = pcS n 16 := rfl
theorem pcS_mono (n : Nat) {j k : Nat} (h : j ≤ k) : pcS n j ≤ pcS n k := by
  induction k with
  | zero =>
    rw [show j = 0 by omega]
    exact Nat.le_refl _
  | succ k ih =>
    by_cases e : j = k + 1
    · rw [e]
      exact Nat.le_refl _
    · have := ih (by omega)
      simp only [pcS]
      omega
theorem nI_and (a b : Nat) : nI a &&& nI b = nI (a &&& b) := by
  apply Int32.toBitVec_inj.mp
  rw [Int32.toBitVec_and]
  show BitVec.ofNat 32 a &&& BitVec.ofNat 32 b = BitVec.ofNat 32 (a &&& b)
  exact (BitVec.ofNat_and).symm
theorem bit_at {a v y1 y2 : Int32} (h0 : 0 ≤ a.toInt) (hv : 0 ≤ v.toInt ∧ v.toInt ≤ 31) (e1 : y1 = a >>> (v &&& 31)) (e2 : y2 = y1 &&& 1) : y2 = nI (a.toNatClampNeg / 2 ^ v.toNatClampNeg % 2) := by
  have ha : a = nI a.toNatClampNeg := (nI_tn h0).symm
  have hvv : v = nI v.toNatClampNeg := (nI_tn hv.1).symm
  have hlt : a.toNatClampNeg < 2 ^ 31 := by rw [tn_]; have := (iv_all a).2; omega
  have hk : v.toNatClampNeg < 32 := by rw [tn_]; omega
  have e3 : y1 = nI (a.toNatClampNeg / 2 ^ v.toNatClampNeg) := by
    rw [e1]
    conv => lhs; rw [ha, hvv]
    exact pk_shrN hlt _ _ (s_l _ hk)
  rw [e2, e3]
  have h5 : a.toNatClampNeg / 2 ^ v.toNatClampNeg < 2 ^ 32 := Nat.lt_of_le_of_lt (Nat.div_le_self _ _) (by omega)
  exact (pk_andN h5 1 (by decide)).trans (by rw [Nat.pow_one])
def bcN (n : Nat) : Nat :=
  let i1 := n - ((n / 2) &&& 1431655765)
  let i2 := (i1 &&& 858993459) + ((i1 / 4) &&& 858993459)
  let i3 := (i2 + i2 / 16) &&& 252645135
  let i4 := i3 + i3 / 256
  let i5 := i4 + i4 / 65536
  i5 &&& 63
theorem pz_and (n m : Nat) : n &&& m = 256 * (n / 256 &&& m / 256) + (n % 256 &&& m % 256) := by
  have h := Nat.div_add_mod (n &&& m) (2 ^ 8)
  rw [Nat.and_div_two_pow, Nat.and_mod_two_pow] at h
  exact h.symm
theorem pz_lo {x : Nat} (m : Nat) (h : x < 256) : x &&& m = x &&& (m % 256) := by
  have h0 := pz_and x m
  rw [Nat.div_eq_of_lt h, Nat.zero_and, Nat.mod_eq_of_lt h] at h0
  omega
theorem pz_two (u v m : Nat) (hu : u < 256) (hv : v < 256) : (256 * u + v) &&& m = 256 * (u &&& (m / 256 % 256)) + (v &&& (m % 256)) := by
  have h0 := pz_and (256 * u + v) m
  rw [show (256 * u + v) / 256 = u by omega, show (256 * u + v) % 256 = v by omega, pz_lo (m / 256) hu] at h0
  exact h0
def pzA (b : Nat) : Nat := b - ((b / 2) &&& 85)
def pzB (y : Nat) : Nat := (y &&& 51) + ((y / 4) &&& 51)
def pz_c1 (b : Nat) : Bool := Nat.beq ((128 * 0 + b / 2) &&& 85) ((b / 2) &&& 85) && Nat.beq ((128 * 1 + b / 2) &&& 85) ((b / 2) &&& 85)
def pz_c2 (b : Nat) : Bool := (Nat.beq ((64 * 0 + b / 4) &&& 51) ((b / 4) &&& 51) && Nat.beq ((64 * 1 + b / 4) &&& 51) ((b / 4) &&& 51)) && (Nat.beq ((64 * 2 + b / 4) &&& 51) ((b / 4) &&& 51) && Nat.beq ((64 * 3 + b / 4) &&& 51) ((b / 4) &&& 51))
def pz_c3 (b : Nat) : Bool := Nat.ble (b / 2 &&& 85) b && (Nat.ble (pzA b + 1) 256 && (Nat.ble (pzB (pzA b) / 16) 4 && (Nat.ble (pzB (pzA b) % 16) 4 && Nat.beq (pzB (pzA b) / 16 + pzB (pzA b) % 16) (b / 1 % 2 + b / 2 % 2 + b / 4 % 2 + b / 8 % 2 + b / 16 % 2 + b / 32 % 2 + b / 64 % 2 + b / 128 % 2))))
theorem pz_all : (List.range 256).all (fun b => pz_c1 b && (pz_c2 b && pz_c3 b)) = true := by decide +kernel
theorem pz_c (b : Nat) (hb : b < 256) : pz_c1 b = true ∧ pz_c2 b = true ∧ pz_c3 b = true := by
  have h := List.all_eq_true.mp pz_all b (List.mem_range.mpr hb)
  simpa only [Bool.and_eq_true] using h
theorem pz_f1 (c : Nat) (hc : c < 2) (b : Nat) (hb : b < 256) : (128 * c + b / 2) &&& 85 = (b / 2) &&& 85 := by
  have h := (pz_c b hb).1
  unfold pz_c1 at h
  simp only [Bool.and_eq_true] at h
  rcases (show c = 0 ∨ c = 1 by omega) with rfl | rfl
  · exact Nat.eq_of_beq_eq_true h.1
  · exact Nat.eq_of_beq_eq_true h.2
theorem pz_f2 (c : Nat) (hc : c < 4) (b : Nat) (hb : b < 256) : (64 * c + b / 4) &&& 51 = (b / 4) &&& 51 := by
  have h := (pz_c b hb).2.1
  unfold pz_c2 at h
  simp only [Bool.and_eq_true] at h
  rcases (show c = 0 ∨ c = 1 ∨ c = 2 ∨ c = 3 by omega) with rfl | rfl | rfl | rfl
  · exact Nat.eq_of_beq_eq_true h.1.1
  · exact Nat.eq_of_beq_eq_true h.1.2
  · exact Nat.eq_of_beq_eq_true h.2.1
  · exact Nat.eq_of_beq_eq_true h.2.2
theorem pz_f3 (b : Nat) (hb : b < 256) : (b / 2 &&& 85) ≤ b ∧ pzA b < 256 ∧ pzB (pzA b) / 16 ≤ 4 ∧ pzB (pzA b) % 16 ≤ 4 ∧ pzB (pzA b) / 16 + pzB (pzA b) % 16 = b / 1 % 2 + b / 2 % 2 + b / 4 % 2 + b / 8 % 2 + b / 16 % 2 + b / 32 % 2 + b / 64 % 2 + b / 128 % 2 := by
  have h := (pz_c b hb).2.2
  unfold pz_c3 at h
  simp only [Bool.and_eq_true] at h
  exact ⟨Nat.le_of_ble_eq_true h.1, Nat.le_of_ble_eq_true h.2.1, Nat.le_of_ble_eq_true h.2.2.1, Nat.le_of_ble_eq_true h.2.2.2.1, Nat.eq_of_beq_eq_true h.2.2.2.2⟩
theorem pz_1 {a b : Nat} (ha : a < 256) (hb : b < 256) : (256 * a + b) - (((256 * a + b) / 2) &&& 1431655765) = 256 * pzA a + pzA b := by
  have h1 := pz_f1 (a % 2) (by omega) b hb
  have h2 : ((256 * a + b) / 2) = 256 * (a / 2) + (128 * (a % 2) + b / 2) := by omega
  have h3 : (256 * (a / 2) + (128 * (a % 2) + b / 2)) &&& 1431655765 = 256 * ((a / 2) &&& 85) + ((128 * (a % 2) + b / 2) &&& 85) := pz_two _ _ 1431655765 (by omega) (by omega)
  have h4 := (pz_f3 a ha).1
  have h5 := (pz_f3 b hb).1
  rw [h2, h3, h1]
  show _ = 256 * (a - ((a / 2) &&& 85)) + (b - ((b / 2) &&& 85))
  generalize (a / 2) &&& 85 = x at h4 ⊢
  generalize (b / 2) &&& 85 = y at h5 ⊢
  omega
theorem pz_2 {u v : Nat} (hu : u < 256) (hv : v < 256) : ((256 * u + v) &&& 858993459) + (((256 * u + v) / 4) &&& 858993459) = 256 * pzB u + pzB v := by
  have h1 := pz_f2 (u % 4) (by omega) v hv
  have h2 : ((256 * u + v) / 4) = 256 * (u / 4) + (64 * (u % 4) + v / 4) := by omega
  have h3 : (256 * (u / 4) + (64 * (u % 4) + v / 4)) &&& 858993459 = 256 * ((u / 4) &&& 51) + ((64 * (u % 4) + v / 4) &&& 51) := pz_two _ _ 858993459 (by omega) (by omega)
  have h4 : (256 * u + v) &&& 858993459 = 256 * (u &&& 51) + (v &&& 51) := pz_two _ _ 858993459 hu hv
  rw [h2, h3, h1, h4]
  show _ = 256 * ((u &&& 51) + ((u / 4) &&& 51)) + ((v &&& 51) + ((v / 4) &&& 51))
  generalize u &&& 51 = x1
  generalize (u / 4) &&& 51 = x2
  generalize v &&& 51 = x3
  generalize (v / 4) &&& 51 = x4
  omega
theorem pz_15 {u v : Nat} (hu : u < 256) (hv : v < 256) : (256 * u + v) &&& 252645135 = 256 * (u % 16) + v % 16 := by
  have h4 : (256 * u + v) &&& 252645135 = 256 * (u &&& 15) + (v &&& 15) := pz_two _ _ 252645135 hu hv
  have e : ∀ x : Nat, x &&& 15 = x % 16 := fun x => Nat.and_two_pow_sub_one_eq_mod x 4
  rw [h4, e, e]
theorem pz_63 (x : Nat) : x &&& 63 = x % 64 := Nat.and_two_pow_sub_one_eq_mod x 6
theorem bcN_of (n i1 i2 i3 : Nat) (h1 : n - ((n / 2) &&& 1431655765) = i1) (h2 : (i1 &&& 858993459) + ((i1 / 4) &&& 858993459) = i2) (h3 : (i2 + i2 / 16) &&& 252645135 = i3) : bcN n = (i3 + i3 / 256 + (i3 + i3 / 256) / 65536) % 64 := by
  subst h1
  subst h2
  subst h3
  exact pz_63 _
theorem pz_lo2 (a b c d : Nat) (hd : 0 < d) (e : 256 = d * (2 * c)) : (256 * a + b) / d % 2 = b / d % 2 := by
  rw [e, Nat.mul_assoc, Nat.mul_add_div hd, Nat.mul_assoc]
  omega
theorem pz_hi2 (a b d : Nat) (hb : b < 256) : (256 * a + b) / (256 * d) % 2 = a / d % 2 := by
  rw [← Nat.div_div_eq_div_mul, show (256 * a + b) / 256 = a by omega]
theorem pz_sum {a b : Nat} (hb : b < 256) : pcS (256 * a + b) 16 = (b / 1 % 2 + b / 2 % 2 + b / 4 % 2 + b / 8 % 2 + b / 16 % 2 + b / 32 % 2 + b / 64 % 2 + b / 128 % 2) + (a / 1 % 2 + a / 2 % 2 + a / 4 % 2 + a / 8 % 2 + a / 16 % 2 + a / 32 % 2 + a / 64 % 2 + a / 128 % 2) := by
  rw [← pcU_eq]
  unfold pcU
  rw [pz_lo2 a b 128 1 (by decide) (by decide)]
  rw [pz_lo2 a b 64 2 (by decide) (by decide)]
  rw [pz_lo2 a b 32 4 (by decide) (by decide)]
  rw [pz_lo2 a b 16 8 (by decide) (by decide)]
  rw [pz_lo2 a b 8 16 (by decide) (by decide)]
  rw [pz_lo2 a b 4 32 (by decide) (by decide)]
  rw [pz_lo2 a b 2 64 (by decide) (by decide)]
  rw [pz_lo2 a b 1 128 (by decide) (by decide)]
  rw [show (256 * a + b) / 256 % 2 = a / 1 % 2 from pz_hi2 a b 1 hb]
  rw [show (256 * a + b) / 512 % 2 = a / 2 % 2 from pz_hi2 a b 2 hb]
  rw [show (256 * a + b) / 1024 % 2 = a / 4 % 2 from pz_hi2 a b 4 hb]
  rw [show (256 * a + b) / 2048 % 2 = a / 8 % 2 from pz_hi2 a b 8 hb]
  rw [show (256 * a + b) / 4096 % 2 = a / 16 % 2 from pz_hi2 a b 16 hb]
  rw [show (256 * a + b) / 8192 % 2 = a / 32 % 2 from pz_hi2 a b 32 hb]
  rw [show (256 * a + b) / 16384 % 2 = a / 64 % 2 from pz_hi2 a b 64 hb]
  rw [show (256 * a + b) / 32768 % 2 = a / 128 % 2 from pz_hi2 a b 128 hb]
  simp only [Nat.zero_add, Nat.add_assoc]
theorem pz_end {u1 u0 v1 v0 : Nat} (h1 : u1 ≤ 4) (h2 : u0 ≤ 4) (h3 : v1 ≤ 4) (h4 : v0 ≤ 4) : ((256 * (16 * u1 + u0) + (16 * v1 + v0)) + (256 * (16 * u1 + u0) + (16 * v1 + v0)) / 16) &&& 252645135 = 256 * (u0 + u1) + (v0 + v1) := by
  have k0 : (256 * (16 * u1 + u0) + (16 * v1 + v0)) / 16 = 16 * (16 * u1 + u0) + v1 := by omega
  have k : (256 * (16 * u1 + u0) + (16 * v1 + v0)) + (256 * (16 * u1 + u0) + (16 * v1 + v0)) / 16 = 256 * (16 * u1 + (u0 + u1)) + (16 * (u0 + v1) + (v0 + v1)) := by rw [k0]; omega
  have k1 : (16 * u1 + (u0 + u1)) % 16 = u0 + u1 := by omega
  have k2 : (16 * (u0 + v1) + (v0 + v1)) % 16 = v0 + v1 := by omega
  rw [k]
  exact (pz_15 (by omega) (by omega)).trans (by rw [k1, k2])
theorem pz_i5 {p q : Nat} (hp : p ≤ 8) (hq : q ≤ 8) : (256 * p + q + (256 * p + q) / 256 + (256 * p + q + (256 * p + q) / 256) / 65536) % 64 = p + q := by
  have m1 : (256 * p + q) / 256 = p := by omega
  have m2 : (256 * p + q + p) / 65536 = 0 := by omega
  rw [m1, m2]
  omega
theorem pz_ac (p q r s : Nat) : (p + q) + (r + s) = (s + r) + (q + p) := by omega
theorem pz_le {x y : Nat} (h : x ≤ 4) (k : y ≤ 4) : x + y ≤ 8 := by omega
theorem bcN_ok2 {a b : Nat} (ha : a < 256) (hb : b < 256) : bcN (256 * a + b) = pcS (256 * a + b) 16 := by
  obtain ⟨-, fa1, fa2, fa3, fa4⟩ := pz_f3 a ha
  obtain ⟨-, fb1, fb2, fb3, fb4⟩ := pz_f3 b hb
  have g1 := pz_1 ha hb
  have hU := Nat.div_add_mod (pzB (pzA a)) 16
  have hV := Nat.div_add_mod (pzB (pzA b)) 16
  have g2 := (pz_2 fa1 fb1).trans (show 256 * pzB (pzA a) + pzB (pzA b) = 256 * (16 * (pzB (pzA a) / 16) + pzB (pzA a) % 16) + (16 * (pzB (pzA b) / 16) + pzB (pzA b) % 16) by rw [hU, hV])
  have g3 := pz_end fa2 fa3 fb2 fb3
  have e := (bcN_of _ _ _ _ g1 g2 g3).trans (pz_i5 (pz_le fa3 fa2) (pz_le fb3 fb2))
  have e1 := pz_sum (a := a) hb
  rw [← fa4, ← fb4] at e1
  exact e.trans ((pz_ac _ _ _ _).trans e1.symm)
theorem bcN_ok3 (n a b : Nat) (e : 256 * a + b = n) (ha : a < 256) (hb : b < 256) : bcN n = pcS n 16 := by
  subst e
  exact bcN_ok2 ha hb
theorem bcN_ok {n : Nat} (h : n < 65536) : bcN n = pcS n 16 := bcN_ok3 n (n / 256) (n % 256) (Nat.div_add_mod n 256) (by omega) (by omega)
theorem nI01 {x : Nat} (h : x < 2) : nI x = 0 ↔ x = 0 := by
  rcases (show x = 0 ∨ x = 1 by omega) with rfl | rfl <;> decide
section
def v_bitCount : List Cond := .code yJ6_bitCount_0f7a4 cJ6_bitCount_0f7a4 1 (some .int) :: vA
abbrev rm_bitCount : Room := { frames := 0, cells := 0, slots := 0, locals := 0 }
set_option maxHeartbeats 4000000 in
set_option maxRecDepth 100000 in
theorem q_bitCount (l : Launch) (a0 : Int32) (hh0 : 0 ≤ a0.toInt ∧ a0.toInt ≤ 65535) : Met l yJ6_bitCount_0f7a4 v_bitCount rm_bitCount (va_Pc [.int a0] (fun _ => True)) (va_Qi (S := Unit) (fun r _ => (r.toInt = (pcS a0.toNatClampNeg 16 : Int))) (fun _ _ => True) (fun _ => False)) 0 0 (fun _ => False) := by
  refine Met.ofW (cc := cJ6_bitCount_0f7a4) (maxL := 1) (ret := (some .int)) (by decide) rfl ?_
  intro p e s m args below meth c s₁ B hml hv
  obtain ⟨hargs, -⟩ := hv
  have hx := B.exec
  have hb := B.bytes
  have hr := B.returns
  have hts := atoms_spec (ws := v_bitCount) B.pre
  have hown : s.vm.findClass RJ6 = some m.cls := findClass_of_methodNamed B.named
  have hlocks := B.notSynchronized
  have hS : va_S (fun _ : Nat => False) s.heap s.heap [] := va_S.rf
  have hl := lv_entry ([.int a0]) (n := 1) (Nat.le_of_ble_eq_true rfl)
  obtain ⟨Q, hQ⟩ : ∃ Q, Q = MQ below (va_Qi (S := Unit) (fun r _ => (r.toInt = (pcS a0.toNatClampNeg 16 : Int))) (fun _ _ => True) (fun _ => False)) args s 0 0 (fun _ => False) := ⟨_, rfl⟩
  rw [← hQ, show entryFrame m args 1 = _ from (congrArg (fun z => entryFrame m z 1) hargs).trans (lg_entry_eq _ _ _)]
  generalize (lg_sl ([.int a0]) ++ List.replicate (1 - (lg_sl ([.int a0])).length) Slot.unset).toArray = ls at hl ⊢
  have hl : lv_has ls 1 [(0, .int a0)] := hl
  refine lv_iload_n hx hb dJ6_bitCount_0f7a4_0 rfl (lv_at hl 0 rfl) ?_
  refine lv_iload_n hx hb dJ6_bitCount_0f7a4_1 rfl (lv_at hl 0 rfl) ?_
  refine lv_iconst (v := 1) hx hb dJ6_bitCount_0f7a4_2 (by decide) ?_
  refine lv_iushr hx hb dJ6_bitCount_0f7a4_3 rfl ?_
  refine lv_topi (fun y1 ey1 => ?_)
  refine lv_ldcw hx hb hown (hts _ (vA_in _ _ (in_2 _ (zs4 (zs4 (zs1 (zs1 (zs1 (zs0))))))))) dJ6_bitCount_0f7a4_4 ?_
  refine lv_iand hx hb dJ6_bitCount_0f7a4_7 ?_
  refine lv_topi (fun y2 ey2 => ?_)
  have iy2 : 0 ≤ y2.toInt ∧ y2.toInt ≤ 1431655765 := ti_and (by decide) ey2
  refine lv_isub hx hb dJ6_bitCount_0f7a4_8 ?_
  refine lv_topi (fun y3 ey3 => ?_)
  obtain ⟨ty3, iy3⟩ := ti_sub (e := (-1431655765)) (f := 65535) hh0 iy2 ey3 (by decide)
  have ty3 : y3.toInt = a0.toInt - y2.toInt := ty3
  have iy3 : -1431655765 ≤ y3.toInt ∧ y3.toInt ≤ 65535 := iy3
  refine lv_istore_n (lv' := [(0, .int y3)]) hx hb dJ6_bitCount_0f7a4_9 rfl hl (by decide) rfl (fun ls hl => ?_)
  refine lv_iload_n hx hb dJ6_bitCount_0f7a4_10 rfl (lv_at hl 0 rfl) ?_
  refine lv_ldcw hx hb hown (hts _ (vA_in _ _ (in_2 _ (zs4 (zs4 (zs4 (zs0))))))) dJ6_bitCount_0f7a4_11 ?_
  refine lv_iand hx hb dJ6_bitCount_0f7a4_14 ?_
  refine lv_topi (fun y4 ey4 => ?_)
  have iy4 : 0 ≤ y4.toInt ∧ y4.toInt ≤ 858993459 := ti_and (by decide) ey4
  refine lv_iload_n hx hb dJ6_bitCount_0f7a4_15 rfl (lv_at hl 0 rfl) ?_
  refine lv_iconst (v := 2) hx hb dJ6_bitCount_0f7a4_16 (by decide) ?_
  refine lv_iushr hx hb dJ6_bitCount_0f7a4_17 rfl ?_
  refine lv_topi (fun y5 ey5 => ?_)
  refine lv_ldcw hx hb hown (hts _ (vA_in _ _ (in_2 _ (zs4 (zs4 (zs4 (zs0))))))) dJ6_bitCount_0f7a4_18 ?_
  refine lv_iand hx hb dJ6_bitCount_0f7a4_21 ?_
  refine lv_topi (fun y6 ey6 => ?_)
  have iy6 : 0 ≤ y6.toInt ∧ y6.toInt ≤ 858993459 := ti_and (by decide) ey6
  refine lv_iadd hx hb dJ6_bitCount_0f7a4_22 ?_
  refine lv_topi (fun y7 ey7 => ?_)
  obtain ⟨ty7, iy7⟩ := ti_add (e := 0) (f := 1717986918) iy4 iy6 ey7 (by decide)
  have ty7 : y7.toInt = y4.toInt + y6.toInt := ty7
  have iy7 : 0 ≤ y7.toInt ∧ y7.toInt ≤ 1717986918 := iy7
  refine lv_istore_n (lv' := [(0, .int y7)]) hx hb dJ6_bitCount_0f7a4_23 rfl hl (by decide) rfl (fun ls hl => ?_)
  refine lv_iload_n hx hb dJ6_bitCount_0f7a4_24 rfl (lv_at hl 0 rfl) ?_
  refine lv_iload_n hx hb dJ6_bitCount_0f7a4_25 rfl (lv_at hl 0 rfl) ?_
  refine lv_iconst (v := 4) hx hb dJ6_bitCount_0f7a4_26 (by decide) ?_
  refine lv_iushr hx hb dJ6_bitCount_0f7a4_27 rfl ?_
  refine lv_topi (fun y8 ey8 => ?_)
  refine lv_iadd hx hb dJ6_bitCount_0f7a4_28 ?_
  refine lv_topi (fun y9 ey9 => ?_)
  refine lv_ldcw hx hb hown (hts _ (vA_in _ _ (in_2 _ (zs4 (zs4 (zs4 (zs1 (zs0)))))))) dJ6_bitCount_0f7a4_29 ?_
  refine lv_iand hx hb dJ6_bitCount_0f7a4_32 ?_
  refine lv_topi (fun y10 ey10 => ?_)
  have iy10 : 0 ≤ y10.toInt ∧ y10.toInt ≤ 252645135 := ti_and (by decide) ey10
  refine lv_istore_n (lv' := [(0, .int y10)]) hx hb dJ6_bitCount_0f7a4_33 rfl hl (by decide) rfl (fun ls hl => ?_)
  refine lv_iload_n hx hb dJ6_bitCount_0f7a4_34 rfl (lv_at hl 0 rfl) ?_
  refine lv_iload_n hx hb dJ6_bitCount_0f7a4_35 rfl (lv_at hl 0 rfl) ?_
  refine lv_bipush (v := 8) hx hb dJ6_bitCount_0f7a4_36 (by decide) ?_
  refine lv_iushr hx hb dJ6_bitCount_0f7a4_38 rfl ?_
  refine lv_topi (fun y11 ey11 => ?_)
  refine lv_iadd hx hb dJ6_bitCount_0f7a4_39 ?_
  refine lv_topi (fun y12 ey12 => ?_)
  refine lv_istore_n (lv' := [(0, .int y12)]) hx hb dJ6_bitCount_0f7a4_40 rfl hl (by decide) rfl (fun ls hl => ?_)
  refine lv_iload_n hx hb dJ6_bitCount_0f7a4_41 rfl (lv_at hl 0 rfl) ?_
  refine lv_iload_n hx hb dJ6_bitCount_0f7a4_42 rfl (lv_at hl 0 rfl) ?_
  refine lv_bipush (v := 16) hx hb dJ6_bitCount_0f7a4_43 (by decide) ?_
  refine lv_iushr hx hb dJ6_bitCount_0f7a4_45 rfl ?_
  refine lv_topi (fun y13 ey13 => ?_)
  refine lv_iadd hx hb dJ6_bitCount_0f7a4_46 ?_
  refine lv_topi (fun y14 ey14 => ?_)
  refine lv_istore_n (lv' := [(0, .int y14)]) hx hb dJ6_bitCount_0f7a4_47 rfl hl (by decide) rfl (fun ls hl => ?_)
  refine lv_iload_n hx hb dJ6_bitCount_0f7a4_48 rfl (lv_at hl 0 rfl) ?_
  refine lv_bipush (v := 63) hx hb dJ6_bitCount_0f7a4_49 (by decide) ?_
  refine lv_iand hx hb dJ6_bitCount_0f7a4_51 ?_
  refine lv_topi (fun y15 ey15 => ?_)
  have iy15 : 0 ≤ y15.toInt ∧ y15.toInt ≤ 63 := ti_and (by decide) ey15
  rw [hQ]
  exact W.iret (v := y15) hx hb hr (fun t ht hW => ⟨⟨y15, (), rfl, (by obtain ⟨N, hN, ha, he⟩ : ∃ N : Nat, N < 65536 ∧ a0 = nI N ∧ a0.toNatClampNeg = N := ⟨a0.toNatClampNeg, by rw [tn_]; omega, (nI_tn (by omega)).symm, rfl⟩; rw [he]; have b1 : (N / 2) &&& 1431655765 ≤ N / 2 := Nat.and_le_left; have b2 : ((N - ((N / 2) &&& 1431655765)) &&& 858993459) ≤ (N - ((N / 2) &&& 1431655765)) := Nat.and_le_left; have b3 : ((N - ((N / 2) &&& 1431655765)) / 4) &&& 858993459 ≤ (N - ((N / 2) &&& 1431655765)) / 4 := Nat.and_le_left; have b4 : (((((N - ((N / 2) &&& 1431655765)) &&& 858993459) + (((N - ((N / 2) &&& 1431655765)) / 4) &&& 858993459)) + (((N - ((N / 2) &&& 1431655765)) &&& 858993459) + (((N - ((N / 2) &&& 1431655765)) / 4) &&& 858993459)) / 16) &&& 252645135) ≤ (((N - ((N / 2) &&& 1431655765)) &&& 858993459) + (((N - ((N / 2) &&& 1431655765)) / 4) &&& 858993459)) + (((N - ((N / 2) &&& 1431655765)) &&& 858993459) + (((N - ((N / 2) &&& 1431655765)) / 4) &&& 858993459)) / 16 := Nat.and_le_left; have b5 : (((((((N - ((N / 2) &&& 1431655765)) &&& 858993459) + (((N - ((N / 2) &&& 1431655765)) / 4) &&& 858993459)) + (((N - ((N / 2) &&& 1431655765)) &&& 858993459) + (((N - ((N / 2) &&& 1431655765)) / 4) &&& 858993459)) / 16) &&& 252645135) + (((((N - ((N / 2) &&& 1431655765)) &&& 858993459) + (((N - ((N / 2) &&& 1431655765)) / 4) &&& 858993459)) + (((N - ((N / 2) &&& 1431655765)) &&& 858993459) + (((N - ((N / 2) &&& 1431655765)) / 4) &&& 858993459)) / 16) &&& 252645135) / 256) + ((((((N - ((N / 2) &&& 1431655765)) &&& 858993459) + (((N - ((N / 2) &&& 1431655765)) / 4) &&& 858993459)) + (((N - ((N / 2) &&& 1431655765)) &&& 858993459) + (((N - ((N / 2) &&& 1431655765)) / 4) &&& 858993459)) / 16) &&& 252645135) + (((((N - ((N / 2) &&& 1431655765)) &&& 858993459) + (((N - ((N / 2) &&& 1431655765)) / 4) &&& 858993459)) + (((N - ((N / 2) &&& 1431655765)) &&& 858993459) + (((N - ((N / 2) &&& 1431655765)) / 4) &&& 858993459)) / 16) &&& 252645135) / 256) / 65536) &&& 63 ≤ 63 := Nat.and_le_right; have n1 : y1 = nI (N / 2) := (by rw [ey1, ha]; exact pk_ushrN (by omega) 1 1 (by decide)); have n2 : y2 = nI ((N / 2) &&& 1431655765) := (by rw [ey2, n1]; exact nI_and _ _); have n3 : y3 = nI (N - ((N / 2) &&& 1431655765)) := (by rw [ey3, n2, ha]; exact pk_sub (by omega)); have n4 : y4 = nI ((N - ((N / 2) &&& 1431655765)) &&& 858993459) := (by rw [ey4, n3]; exact nI_and _ _); have n5 : y5 = nI ((N - ((N / 2) &&& 1431655765)) / 4) := (by rw [ey5, n3]; exact pk_ushrN (by omega) 2 2 (by decide)); have n6 : y6 = nI (((N - ((N / 2) &&& 1431655765)) / 4) &&& 858993459) := (by rw [ey6, n5]; exact nI_and _ _); have n7 : y7 = nI (((N - ((N / 2) &&& 1431655765)) &&& 858993459) + (((N - ((N / 2) &&& 1431655765)) / 4) &&& 858993459)) := (by rw [ey7, n4, n6]; exact nI_add _ _); have n8 : y8 = nI ((((N - ((N / 2) &&& 1431655765)) &&& 858993459) + (((N - ((N / 2) &&& 1431655765)) / 4) &&& 858993459)) / 16) := (by rw [ey8, n7]; exact pk_ushrN (by omega) 4 4 (by decide)); have n9 : y9 = nI ((((N - ((N / 2) &&& 1431655765)) &&& 858993459) + (((N - ((N / 2) &&& 1431655765)) / 4) &&& 858993459)) + (((N - ((N / 2) &&& 1431655765)) &&& 858993459) + (((N - ((N / 2) &&& 1431655765)) / 4) &&& 858993459)) / 16) := (by rw [ey9, n7, n8]; exact nI_add _ _); have n10 : y10 = nI (((((N - ((N / 2) &&& 1431655765)) &&& 858993459) + (((N - ((N / 2) &&& 1431655765)) / 4) &&& 858993459)) + (((N - ((N / 2) &&& 1431655765)) &&& 858993459) + (((N - ((N / 2) &&& 1431655765)) / 4) &&& 858993459)) / 16) &&& 252645135) := (by rw [ey10, n9]; exact nI_and _ _); have n11 : y11 = nI ((((((N - ((N / 2) &&& 1431655765)) &&& 858993459) + (((N - ((N / 2) &&& 1431655765)) / 4) &&& 858993459)) + (((N - ((N / 2) &&& 1431655765)) &&& 858993459) + (((N - ((N / 2) &&& 1431655765)) / 4) &&& 858993459)) / 16) &&& 252645135) / 256) := (by rw [ey11, n10]; exact pk_ushrN (by omega) 8 8 (by decide)); have n12 : y12 = nI ((((((N - ((N / 2) &&& 1431655765)) &&& 858993459) + (((N - ((N / 2) &&& 1431655765)) / 4) &&& 858993459)) + (((N - ((N / 2) &&& 1431655765)) &&& 858993459) + (((N - ((N / 2) &&& 1431655765)) / 4) &&& 858993459)) / 16) &&& 252645135) + (((((N - ((N / 2) &&& 1431655765)) &&& 858993459) + (((N - ((N / 2) &&& 1431655765)) / 4) &&& 858993459)) + (((N - ((N / 2) &&& 1431655765)) &&& 858993459) + (((N - ((N / 2) &&& 1431655765)) / 4) &&& 858993459)) / 16) &&& 252645135) / 256) := (by rw [ey12, n10, n11]; exact nI_add _ _); have n13 : y13 = nI (((((((N - ((N / 2) &&& 1431655765)) &&& 858993459) + (((N - ((N / 2) &&& 1431655765)) / 4) &&& 858993459)) + (((N - ((N / 2) &&& 1431655765)) &&& 858993459) + (((N - ((N / 2) &&& 1431655765)) / 4) &&& 858993459)) / 16) &&& 252645135) + (((((N - ((N / 2) &&& 1431655765)) &&& 858993459) + (((N - ((N / 2) &&& 1431655765)) / 4) &&& 858993459)) + (((N - ((N / 2) &&& 1431655765)) &&& 858993459) + (((N - ((N / 2) &&& 1431655765)) / 4) &&& 858993459)) / 16) &&& 252645135) / 256) / 65536) := (by rw [ey13, n12]; exact pk_ushrN (by omega) 16 16 (by decide)); have n14 : y14 = nI (((((((N - ((N / 2) &&& 1431655765)) &&& 858993459) + (((N - ((N / 2) &&& 1431655765)) / 4) &&& 858993459)) + (((N - ((N / 2) &&& 1431655765)) &&& 858993459) + (((N - ((N / 2) &&& 1431655765)) / 4) &&& 858993459)) / 16) &&& 252645135) + (((((N - ((N / 2) &&& 1431655765)) &&& 858993459) + (((N - ((N / 2) &&& 1431655765)) / 4) &&& 858993459)) + (((N - ((N / 2) &&& 1431655765)) &&& 858993459) + (((N - ((N / 2) &&& 1431655765)) / 4) &&& 858993459)) / 16) &&& 252645135) / 256) + ((((((N - ((N / 2) &&& 1431655765)) &&& 858993459) + (((N - ((N / 2) &&& 1431655765)) / 4) &&& 858993459)) + (((N - ((N / 2) &&& 1431655765)) &&& 858993459) + (((N - ((N / 2) &&& 1431655765)) / 4) &&& 858993459)) / 16) &&& 252645135) + (((((N - ((N / 2) &&& 1431655765)) &&& 858993459) + (((N - ((N / 2) &&& 1431655765)) / 4) &&& 858993459)) + (((N - ((N / 2) &&& 1431655765)) &&& 858993459) + (((N - ((N / 2) &&& 1431655765)) / 4) &&& 858993459)) / 16) &&& 252645135) / 256) / 65536) := (by rw [ey14, n12, n13]; exact nI_add _ _); have n15 : y15 = nI (bcN N) := (by rw [ey15, n14]; exact nI_and _ _); have h9 : bcN N < 2 ^ 31 := Nat.lt_of_le_of_lt b5 (by decide); rw [n15, nI_toInt h9, bcN_ok hN]), trivial⟩, hS.F ht⟩) hS.2.2 dJ6_bitCount_0f7a4_52
end
section
theorem sumI_push {g g' : Nat → Int32} {b b2 x : Int32} (hb : 0 ≤ b.toInt) (hb2 : b.toInt ≤ 100) (t : b2.toInt = b.toInt + 1) (e : g' = upd g b.toNatClampNeg x) : sumI g' b2.toNatClampNeg = sumI g b.toNatClampNeg + x.toInt ∧ (posI g' b2.toNatClampNeg : Int) = posI g b.toNatClampNeg + (if 0 < x.toInt then 1 else 0) := by
  have e2 : b2.toNatClampNeg = b.toNatClampNeg + 1 := by rw [tn_, tn_]; omega
  subst e
  have h1 := sumI_out (g := g) (k := b.toNatClampNeg) (x := x) b.toNatClampNeg (Nat.le_refl _)
  rw [e2]
  simp only [sumI, posI, h1.1, h1.2, pk_us]
  constructor
  · trivial
  · split <;> omega
theorem dr_place {x y z w : Int64} {t r : Int32} (ey : y = (x.toUInt64 >>> ((33 : Int32).toInt64.toUInt64 &&& Int64.toUInt64 63)).toInt64) (ez : z = t.toInt64) (ew : w = y - y / z * z) (er : r = w.toInt32) (ht : 1 ≤ t.toInt) (ht2 : t.toInt ≤ 100000) : 0 ≤ r.toInt ∧ r.toInt < t.toInt := by
  have e33 : ((33 : Int32).toInt64.toUInt64 &&& Int64.toUInt64 63) = 33 := by decide
  rw [e33] at ey
  have hk : (x.toUInt64 >>> 33).toNat < 2 ^ 31 := by
    rw [UInt64.toNat_shiftRight, show (33 : UInt64).toNat % 64 = 33 from by decide, Nat.shiftRight_eq_div_pow]
    have := x.toUInt64.toNat_lt
    omega
  have ey2 : y = lN (x.toUInt64 >>> 33).toNat := by
    have hu : ∀ u : UInt64, u.toInt64 = lN u.toNat := fun u => by
      apply Int64.toBitVec_inj.mp
      show u.toBitVec = BitVec.ofNat 64 u.toBitVec.toNat
      simp
    rw [ey, hu]
  have hb : t.toNatClampNeg < 2 ^ 31 := by rw [tn_]; omega
  have et : t = nI t.toNatClampNeg := (nI_tn (by omega)).symm
  have ez2 : z = lN t.toNatClampNeg := (ez.trans (congrArg Int32.toInt64 et)).trans (nI_l hb)
  have h0 : 0 < t.toNatClampNeg := by rw [tn_]; omega
  rw [er, ew, ey2, ez2, pk_lRem (by omega) h0 (by omega), lN_i]
  have hm := Nat.mod_lt (x.toUInt64 >>> 33).toNat h0
  rw [nI_toInt (by omega)]
  have := tn_ t
  omega
end
section
/-! ===== worlds of listed cells ===== -/
def posL (k : Nat) : List Nat → Nat
  | [] => 0
  | a :: l => if a = k then 0 else posL k l + 1
def WL (L : List Nat) (ad : Nat → Nat) (E : Nat → va_E) : va_W := L.map (fun k => (ad k, E k))
theorem WL_at {L : List Nat} {ad : Nat → Nat} {E : Nat → va_E} {k : Nat} (h : k ∈ L) : (WL L ad E)[posL k L]? = some (ad k, E k) := by
  induction L with
  | nil => cases h
  | cons a l ih =>
    by_cases e : a = k
    · subst e
      simp [posL, WL]
    · have h2 : k ∈ l := (List.mem_cons.mp h).resolve_left (fun q => e q.symm)
      have := ih h2
      rw [posL, if_neg e]
      exact this
theorem WL_mem {L : List Nat} {ad : Nat → Nat} {E : Nat → va_E} {i : Nat} {q : Nat × va_E} (h : (WL L ad E)[i]? = some q) : ∃ k, L[i]? = some k ∧ q = (ad k, E k) := by
  rw [WL, List.getElem?_map] at h
  cases hk : L[i]? with
  | none => rw [hk] at h; cases h
  | some k => rw [hk] at h; cases h; exact ⟨k, rfl, rfl⟩
theorem WL_ix {L : List Nat} {ad : Nat → Nat} {E : Nat → va_E} {i k : Nat} (h : L[i]? = some k) : (WL L ad E)[i]? = some (ad k, E k) := by
  rw [WL, List.getElem?_map, h]; rfl
theorem WL_set {L : List Nat} {ad : Nat → Nat} {E : Nat → va_E} {k : Nat} {e : va_E} (hn : L.Nodup) (h : k ∈ L) : (WL L ad E).set (posL k L) (ad k, e) = WL L ad (va_up E k e) := by
  induction L with
  | nil => cases h
  | cons a l ih =>
    have hn2 := List.nodup_cons.mp hn
    by_cases q : a = k
    · subst q
      rw [posL, if_pos rfl]
      show (ad a, e) :: WL l ad E = (ad a, va_up E a e a) :: WL l ad (va_up E a e)
      rw [va_up_self]
      refine congrArg _ ?_
      apply List.map_congr_left
      intro j hj
      rw [va_up_ne _ _ (fun h9 : j = a => hn2.1 (by rw [← h9]; exact hj))]
    · have h2 : k ∈ l := (List.mem_cons.mp h).resolve_left (fun h9 => q h9.symm)
      rw [posL, if_neg q]
      show (ad a, E a) :: (WL l ad E).set (posL k l) (ad k, e) = (ad a, va_up E k e a) :: WL l ad (va_up E k e)
      rw [va_up_ne _ _ q, ih hn2.2 h2]
theorem WL_D {L : List Nat} {ad : Nat → Nat} {E E' : Nat → va_E} {A : Nat → Prop} (h : va_D A (WL L ad E)) : va_D A (WL L ad E') := by
  refine ⟨fun i j p q hp hq e => ?_, fun k q hq => ?_⟩
  · obtain ⟨a, h1, rfl⟩ := WL_mem hp
    obtain ⟨b, h2, rfl⟩ := WL_mem hq
    exact h.1 i j _ _ (WL_ix h1) (WL_ix h2) e
  · obtain ⟨a, h1, rfl⟩ := WL_mem hq
    exact h.2 k (ad a, E a) (WL_ix h1)
theorem WL_A {L : List Nat} {ad : Nat → Nat} {E : Nat → va_E} {sz q : Nat} : va_A (WL L ad E) sz q ↔ (∃ k, k ∈ L ∧ q = ad k) ∨ sz ≤ q := by
  constructor
  · rintro (⟨k, e, hk⟩ | h)
    · obtain ⟨a, h1, h2⟩ := WL_mem hk
      exact Or.inl ⟨a, List.mem_of_getElem? h1, congrArg Prod.fst h2⟩
    · exact Or.inr h
  · rintro (⟨k, hk, rfl⟩ | h)
    · exact Or.inl ⟨posL k L, E k, WL_at hk⟩
    · exact Or.inr h
theorem WL_free {L : List Nat} {ad : Nat → Nat} {E E' : Nat → va_E} {A : Nat → Prop} {H0 H : Heap} {locs : List Loc} (hD : va_D A (WL L ad E)) (hS : va_S A H0 H locs) (hA : ∀ q, H0.size ≤ q → A q) : ∀ q, va_A (WL L ad E') H.size q → A q := by
  intro q hq
  rcases WL_A.mp hq with ⟨k, hk, rfl⟩ | h
  · exact hD.2 _ _ (WL_at hk)
  · exact hA q (Nat.le_trans hS.1 h)
def IXL (cT : Nat → ClassId) (sh : Nat → Nat × Nat × Nat) (sp : Nat → Nat → Nat × Int × Int) (L : List Nat) (ad : Nat → Nat) (E : Nat → va_E) : Prop := L.Nodup ∧ ∀ o : Nat, o ∈ L → okS cT (sh o) (E o) ∧ ∀ j : Nat, j < (sh o).2.2 → okV ad (sp o j) (xv (E o) j)
section IXLS
variable {cT : Nat → ClassId} {sh : Nat → Nat × Nat × Nat} {sp : Nat → Nat → Nat × Int × Int} {L : List Nat} {ad : Nat → Nat} {E : Nat → va_E}
theorem IXL.ob (h : IXL cT sh sp L ad E) (o : Nat) (ho : o ∈ L) {c nf : Nat} (hs : sh o = (0, c, nf)) : (WL L ad E)[posL o L]? = some (ad o, .inr (c, (List.range nf).map (xv (E o)))) := by
  have h1 := (h.2 o ho).1
  rw [hs] at h1
  rw [WL_at ho]
  exact congrArg (fun z => some (ad o, z)) h1
theorem IXL.ar (h : IXL cT sh sp L ad E) (o : Nat) (ho : o ∈ L) {k nl : Nat} (hs : sh o = (1, k, nl)) : (WL L ad E)[posL o L]? = some (ad o, .inl (cT k, nl, .inl (xi (E o)))) := by
  have h1 := (h.2 o ho).1
  rw [hs] at h1
  rw [WL_at ho]
  exact congrArg (fun z => some (ad o, z)) h1
theorem IXL.fi (h : IXL cT sh sp L ad E) (o : Nat) (ho : o ∈ L) {c nf j : Nat} (hs : sh o = (0, c, nf)) (hj : j < nf) {lo hi : Int} (hp : sp o j = (0, lo, hi)) : xv (E o) j = .int (xi (E o) j) := by
  have h1 := (h.2 o ho).2 j (by rw [hs]; exact hj)
  rw [hp] at h1
  exact h1.1
theorem IXL.fr (h : IXL cT sh sp L ad E) (o : Nat) (ho : o ∈ L) {c nf j : Nat} (hs : sh o = (0, c, nf)) (hj : j < nf) (k : Nat) {u : Int} (hp : sp o j = (1, (k : Int), u)) : xv (E o) j = .ref (ad k) := by
  have h1 := (h.2 o ho).2 j (by rw [hs]; exact hj)
  rw [hp] at h1
  exact h1
theorem IXL.iv (h : IXL cT sh sp L ad E) (o : Nat) (ho : o ∈ L) {t c nf j : Nat} (hs : sh o = (t, c, nf)) (hj : j < nf) {lo hi : Int} (hp : sp o j = (0, lo, hi)) : lo ≤ (xi (E o) j).toInt ∧ (xi (E o) j).toInt ≤ hi := by
  have h1 := (h.2 o ho).2 j (by rw [hs]; exact hj)
  rw [hp] at h1
  exact h1.2
theorem IXL.f4 (h : IXL cT sh sp L ad E) (o : Nat) (ho : o ∈ L) {c nf j : Nat} (hs : sh o = (0, c, nf)) (hj : j < nf) (k : Nat) {u : Int} (hp : sp o j = (4, (k : Int), u)) : xv (E o) j = .ref k := by
  have h1 := (h.2 o ho).2 j (by rw [hs]; exact hj)
  rw [hp] at h1
  exact h1
/-- a row of references -/
theorem IXL.qr (h : IXL cT sh sp L ad E) (o : Nat) (ho : o ∈ L) {k nl : Nat} (hs : sh o = (2, k, nl)) : ∃ (cap : Nat) (f : Nat → Option Nat), nl ≤ cap ∧ cap ≤ 2 * nl + 10 ∧ (WL L ad E)[posL o L]? = some (ad o, .inl (cT k, cap, .inr (.inr (.inr (.inr f))))) ∧ ∀ j, j < nl → okV ad (sp o j) (va_rf (f j)) := by
  have h1 := (h.2 o ho).1
  have h2 := (h.2 o ho).2
  rw [hs] at h1 h2
  obtain ⟨cap, f, q1, q2, q3⟩ := h1
  refine ⟨cap, f, q1, q2, ?_, fun j hj => ?_⟩
  · rw [WL_at ho, q3]
  · have := h2 j hj
    rw [q3] at this
    exact this
theorem IXL.put (h : IXL cT sh sp L ad E) (o : Nat) (ho : o ∈ L) {c nf : Nat} (hs : sh o = (0, c, nf)) (j : Nat) (hj : j < nf) (v : Value) (hv : okV ad (sp o j) v) : Pw E (va_up E o (.inr (c, (List.range nf).map (va_up (xv (E o)) j v)))) o j v ∧ IXL cT sh sp L ad (va_up E o (.inr (c, (List.range nf).map (va_up (xv (E o)) j v)))) := by
  have e0 : E o = .inr (c, (List.range nf).map (xv (E o))) := by
    have h1 := (h.2 o ho).1
    rw [hs] at h1
    exact h1
  have key : ∀ j', ¬ j' = j → xv (.inr (c, (List.range nf).map (va_up (xv (E o)) j v))) j' = xv (E o) j' := by
    intro j' hne
    by_cases hlt : j' < nf
    · rw [xv_ob hlt, va_up_ne _ _ hne]
    · rw [xv_ob' hlt, e0, xv_ob' hlt]
  refine ⟨⟨by rw [va_up_self, xv_ob hj, va_up_self], fun o' j' hne => ?_⟩, h.1, fun o' ho' => ?_⟩
  · by_cases ho2 : o' = o
    · subst ho2
      rw [va_up_self, key j' (fun e => hne ⟨rfl, e⟩)]
    · rw [va_up_ne _ _ ho2]
  · by_cases ho2 : o' = o
    · subst ho2
      rw [va_up_self]
      refine ⟨?_, fun j' hj' => ?_⟩
      · rw [hs]
        refine congrArg (fun l => (Sum.inr (c, l) : va_E)) ?_
        apply List.map_congr_left
        intro a ha
        exact (xv_ob (List.mem_range.mp ha)).symm
      · by_cases hje : j' = j
        · subst hje
          rw [xv_ob hj, va_up_self]
          exact hv
        · rw [key j' hje]
          exact (h.2 o' ho').2 j' hj'
    · rw [va_up_ne _ _ ho2]
      exact h.2 o' ho'
theorem IXL.ast (h : IXL cT sh sp L ad E) (o : Nat) (ho : o ∈ L) {k nl : Nat} (hs : sh o = (1, k, nl)) (j : Nat) (x : Int32) (hv : j < nl → okV ad (sp o j) (.int x)) : Pw E (va_up E o (.inl (cT k, nl, .inl (upd (xi (E o)) j x)))) o j (.int x) ∧ IXL cT sh sp L ad (va_up E o (.inl (cT k, nl, .inl (upd (xi (E o)) j x)))) := by
  have e0 : E o = .inl (cT k, nl, .inl (xi (E o))) := by
    have h1 := (h.2 o ho).1
    rw [hs] at h1
    exact h1
  have e1 : ∀ j', xv (E o) j' = .int (xi (E o) j') := by
    intro j'
    rw [e0]
    rfl
  have key : ∀ j', ¬ j' = j → xv (.inl (cT k, nl, .inl (upd (xi (E o)) j x))) j' = xv (E o) j' := by
    intro j' hne
    rw [e1]
    show Value.int (upd (xi (E o)) j x j') = _
    rw [pk_un hne]
  have key0 : xv (.inl (cT k, nl, .inl (upd (xi (E o)) j x))) j = .int x := by
    show Value.int (upd (xi (E o)) j x j) = _
    rw [pk_us]
  refine ⟨⟨by rw [va_up_self]; exact key0, fun o' j' hne => ?_⟩, h.1, fun o' ho' => ?_⟩
  · by_cases ho2 : o' = o
    · subst ho2
      rw [va_up_self, key j' (fun e => hne ⟨rfl, e⟩)]
    · rw [va_up_ne _ _ ho2]
  · by_cases ho2 : o' = o
    · subst ho2
      rw [va_up_self]
      refine ⟨?_, fun j' hj' => ?_⟩
      · rw [hs]
        exact rfl
      · by_cases hje : j' = j
        · subst hje
          rw [key0]
          exact hv (by rw [hs] at hj'; exact hj')
        · rw [key j' hje]
          exact (h.2 o' ho').2 j' hj'
    · rw [va_up_ne _ _ ho2]
      exact h.2 o' ho'
end IXLS
theorem IXL.el {cT : Nat → ClassId} {sh : Nat → Nat × Nat × Nat} {sp : Nat → Nat → Nat × Int × Int} {L : List Nat} {ad : Nat → Nat} {E : Nat → va_E} (h : IXL cT sh sp L ad E) (o : Nat) (ho : o ∈ L) {k nl : Nat} (hs : sh o = (1, k, nl)) {i x : Int32} (hin : vp_in i nl) {lo hi : Int} (hp : ∀ j, sp o j = (0, lo, hi)) (ex : x = xi (E o) i.toNatClampNeg) : lo ≤ x.toInt ∧ x.toInt ≤ hi := by
  rw [ex]
  exact h.iv o ho hs (vp_in_lt hin) (hp _)
theorem th_v0L {cT : Nat → ClassId} {sh : Nat → Nat × Nat × Nat} {sp : Nat → Nat → Nat × Int × Int} {L : List Nat} {ad : Nat → Nat} {w : Nat → Nat → Bool} {E E' : Nat → va_E} (hKp : Kp w E E') (h : IXL cT sh sp L ad E) (o : Nat) (ho : o ∈ L) {c nf j : Nat} (hs : sh o = (0, c, nf)) (hj : j < nf) {lo hi : Int} (hp : sp o j = (0, lo, hi)) (hw : w o j = false) : xv (E' o) j = .int (xi (E o) j) := (hKp o j hw).trans (h.fi o ho hs hj hp)
section THL
variable {p : Program} {l : Launch} {e : Env} {R : Room} {s : State} {m : MethodId} {args : Array Value} {below : List Frame} {meth : Method} {c : Code} {H : Heap} {locs : List Loc} {cells slots : Nat} {Q : State → Prop}
variable {pc : Nat} {ls : Array Slot} {rest : List Value} {cc : ByteArray} {dC : Nat → ClassId} {dI : Nat → Nat → Nat} {cT : Nat → ClassId} {sh : Nat → Nat × Nat × Nat} {sp : Nat → Nat → Nat × Int × Int} {L : List Nat} {ad : Nat → Nat} {E : Nat → va_E} {tys : List (ClassId × FieldType)} {A : Nat → Prop} {H0 : Heap}
theorem th_getL (hx : p.tables.exec = Jvm.exec) (hb : c.code = cc) {own ref C : String} {T : u_T} {N ci index : Nat} {Ts : List Cond} (hts : ∀ w ∈ Ts, w.before args s = true) (hin : ∀ w ∈ u_ws C T N, w ∈ Ts) (hown : s.vm.findClass own = some m.cls) (hK : va_K (dC, dI) vwCl tys s) (hP : va_P (dC, dI) vwCl (WL L ad E) H) (hI : IXL cT sh sp L ad E) (o : Nat) (ho : o ∈ L) (hs : sh o = (0, ci, N)) (hc : vwCl[ci]? = some (C, T, N)) (k : Nat) (hk : k < N) (hlink : (Cond.fieldLink own index ref (T k).2.1 (T k).2.2.1).before args s = true) (hsame : ∀ x, s.fieldFound? (T k).1 (T k).2.1 (T k).2.2.1 = some x → s.fieldFound? ref (T k).2.1 (T k).2.2.1 = some x) {v : Value} (hv : xv (E o) k = v) (hdg : decode cc pc = .ok (.getfield index, 3))
    (kk : W p l e R s m args below meth c H locs cells slots Q (F0 m (pc + 3) ls (v :: rest))) : W p l e R s m args below meth c H locs cells slots Q (F0 m pc ls (.ref (ad o) :: rest)) :=
  va_get hx hb hts hin hown hK hP (posL o L) (hI.ob o ho hs) hc k hk hlink hsame (by simp [hk, hv]) hdg kk
theorem th_putL (hx : p.tables.exec = Jvm.exec) (hb : c.code = cc) {own ref C : String} {T : u_T} {N ci index : Nat} {Ts : List Cond} (hts : ∀ w ∈ Ts, w.before args s = true) (hin : ∀ w ∈ u_ws C T N, w ∈ Ts) (ty0 : Nat → FieldType) (hty : ∀ k, k < N → parseFieldDescriptor (T k).2.2.1 = some (ty0 k)) (hnm : ∀ a, a < N → ∀ b, b < N → a ≠ b → (T a).2.1 ≠ (T b).2.1) (hown : s.vm.findClass own = some m.cls) (hK : va_K (dC, dI) vwCl tys s) (hP : va_P (dC, dI) vwCl (WL L ad E) H) (hD : va_D A (WL L ad E)) (hS : va_S A H0 H locs) (hI : IXL cT sh sp L ad E) (o : Nat) (ho : o ∈ L) (hs : sh o = (0, ci, N)) (hc : vwCl[ci]? = some (C, T, N)) (k : Nat) (hk : k < N) (hlink : (Cond.fieldLink own index ref (T k).2.1 (T k).2.2.1).before args s = true) (hsame : ∀ x, s.fieldFound? (T k).1 (T k).2.1 (T k).2.2.1 = some x → s.fieldFound? ref (T k).2.1 (T k).2.2.1 = some x) (hfin : (T k).2.2.2 = false) {ty : FieldType} {v : Value} (hd : parseFieldDescriptor (T k).2.2.1 = some ty) (hn : narrow ty v = v) (hfit : fits ty v = true) (hv : okV ad (sp o k) v)
    (hdg : decode cc pc = .ok (.putfield index, 3)) (kk : ∀ (H1 : Heap) (locs1 : List Loc) (E1 : Nat → va_E), Pw E E1 o k v → IXL cT sh sp L ad E1 → va_P (dC, dI) vwCl (WL L ad E1) H1 → va_S A H0 H1 locs1 → W p l e R s m args below meth c H1 locs1 cells slots Q (F0 m (pc + 3) ls rest)) : W p l e R s m args below meth c H locs cells slots Q (F0 m pc ls (v :: .ref (ad o) :: rest)) := by
  obtain ⟨h1, h2⟩ := hI.put o ho hs k hk v hv
  refine va_put hx hb hts hin ty0 hty hnm hown hK hP hD hS (posL o L) (hI.ob o ho hs) hc k hk hlink hsame hfin hd hn hfit (by simp [hk]) hdg (fun H1 locs1 q1 _ q3 => ?_)
  rw [show ((List.range N).map (xv (E o))).set k v = (List.range N).map (va_up (xv (E o)) k v) by
    apply List.ext_getElem?
    intro i
    rw [List.getElem?_set]
    by_cases hi : k = i
    · subst hi
      simp [hk, va_up_self]
    · by_cases hN : i < N
      · simp [hN, va_up_ne _ _ (Ne.symm hi), if_neg hi]
      · rw [if_neg hi, List.getElem?_eq_none (by simp; omega), List.getElem?_eq_none (by simp; omega)], WL_set hI.1 ho] at q1
  exact kk H1 locs1 _ h1 h2 q1 q3
theorem th_ialdL (hx : p.tables.exec = Jvm.exec) (hb : c.code = cc) (hK : va_K (dC, dI) vwCl tys s) (hP : va_P (dC, dI) vwCl (WL L ad E) H) (hI : IXL cT sh sp L ad E) (o : Nat) (ho : o ∈ L) {k nl : Nat} (hs : sh o = (1, k, nl)) (ht : tys[k]? = some (cT k, .int)) {i : Int32} (hin : vp_in i nl) (hdg : decode cc pc = .ok (.iaload, 1))
    (kk : ∀ y : Int32, y = xi (E o) i.toNatClampNeg → W p l e R s m args below meth c H locs cells slots Q (F0 m (pc + 1) ls (.int y :: rest))) : W p l e R s m args below meth c H locs cells slots Q (F0 m pc ls (.int i :: .ref (ad o) :: rest)) :=
  va_iald hx hb hK hP (posL o L) k (hI.ar o ho hs) ht hin hdg (kk _ rfl)
theorem th_zaldL (hx : p.tables.exec = Jvm.exec) (hb : c.code = cc) (hK : va_K (dC, dI) vwCl tys s) (hP : va_P (dC, dI) vwCl (WL L ad E) H) (hI : IXL cT sh sp L ad E) (o : Nat) (ho : o ∈ L) {k nl : Nat} (hs : sh o = (1, k, nl)) (ht : tys[k]? = some (cT k, .boolean)) {i : Int32} (hin : vp_in i nl) (hdg : decode cc pc = .ok (.baload, 1))
    (kk : ∀ y : Int32, y = xi (E o) i.toNatClampNeg → W p l e R s m args below meth c H locs cells slots Q (F0 m (pc + 1) ls (.int y :: rest))) : W p l e R s m args below meth c H locs cells slots Q (F0 m pc ls (.int i :: .ref (ad o) :: rest)) :=
  va_zald hx hb hK hP (posL o L) k (hI.ar o ho hs) ht hin hdg (kk _ rfl)
theorem th_iastL (hx : p.tables.exec = Jvm.exec) (hb : c.code = cc) (hK : va_K (dC, dI) vwCl tys s) (hP : va_P (dC, dI) vwCl (WL L ad E) H) (hD : va_D A (WL L ad E)) (hS : va_S A H0 H locs) (hI : IXL cT sh sp L ad E) (o : Nat) (ho : o ∈ L) {k nl : Nat} (hs : sh o = (1, k, nl)) (ht : tys[k]? = some (cT k, .int)) {i x : Int32} (hin : vp_in i nl) (hv : okV ad (sp o i.toNatClampNeg) (.int x)) (hdg : decode cc pc = .ok (.iastore, 1))
    (kk : ∀ (H1 : Heap) (locs1 : List Loc) (E1 : Nat → va_E), Pw E E1 o i.toNatClampNeg (.int x) → IXL cT sh sp L ad E1 → va_P (dC, dI) vwCl (WL L ad E1) H1 → va_S A H0 H1 locs1 → W p l e R s m args below meth c H1 locs1 cells slots Q (F0 m (pc + 1) ls rest)) : W p l e R s m args below meth c H locs cells slots Q (F0 m pc ls (.int x :: .int i :: .ref (ad o) :: rest)) := by
  obtain ⟨h1, h2⟩ := hI.ast o ho hs i.toNatClampNeg x (fun _ => hv)
  refine va_iast hx hb hK hP hD hS (posL o L) k (hI.ar o ho hs) ht hin hdg (fun H1 locs1 q1 _ q3 => ?_)
  rw [WL_set hI.1 ho] at q1
  exact kk H1 locs1 _ h1 h2 q1 q3
theorem th_zastL (hx : p.tables.exec = Jvm.exec) (hb : c.code = cc) (hK : va_K (dC, dI) vwCl tys s) (hP : va_P (dC, dI) vwCl (WL L ad E) H) (hD : va_D A (WL L ad E)) (hS : va_S A H0 H locs) (hI : IXL cT sh sp L ad E) (o : Nat) (ho : o ∈ L) {k nl : Nat} (hs : sh o = (1, k, nl)) (ht : tys[k]? = some (cT k, .boolean)) {i x : Int32} (hin : vp_in i nl) (hx01 : 0 ≤ x.toInt ∧ x.toInt ≤ 1) (hv : okV ad (sp o i.toNatClampNeg) (.int x)) (hdg : decode cc pc = .ok (.bastore, 1))
    (kk : ∀ (H1 : Heap) (locs1 : List Loc) (E1 : Nat → va_E), Pw E E1 o i.toNatClampNeg (.int x) → IXL cT sh sp L ad E1 → va_P (dC, dI) vwCl (WL L ad E1) H1 → va_S A H0 H1 locs1 → W p l e R s m args below meth c H1 locs1 cells slots Q (F0 m (pc + 1) ls rest)) : W p l e R s m args below meth c H locs cells slots Q (F0 m pc ls (.int x :: .int i :: .ref (ad o) :: rest)) := by
  obtain ⟨h1, h2⟩ := hI.ast o ho hs i.toNatClampNeg x (fun _ => hv)
  refine va_zast hx hb hK hP hD hS (posL o L) k (hI.ar o ho hs) ht hin hdg (fun H1 locs1 q1 _ q3 => ?_)
  rw [nar_bool hx01, WL_set hI.1 ho] at q1
  exact kk H1 locs1 _ h1 h2 q1 q3
theorem th_aldL (hx : p.tables.exec = Jvm.exec) (hb : c.code = cc) (hK : va_K (dC, dI) vwCl tys s) (hP : va_P (dC, dI) vwCl (WL L ad E) H) (hI : IXL cT sh sp L ad E) (o : Nat) (ho : o ∈ L) {k nl : Nat} (hs : sh o = (2, k, nl)) {C : String} (ht : tys[k]? = some (cT k, .object C)) {i : Int32} (hin : vp_in i nl) (t : Nat) {u : Int} (hp : sp o i.toNatClampNeg = (1, (t : Int), u)) (hdg : decode cc pc = .ok (.aaload, 1))
    (kk : W p l e R s m args below meth c H locs cells slots Q (F0 m (pc + 1) ls (.ref (ad t) :: rest))) : W p l e R s m args below meth c H locs cells slots Q (F0 m pc ls (.int i :: .ref (ad o) :: rest)) := by
  obtain ⟨cap, f, q1, q2, q3, q4⟩ := hI.qr o ho hs
  have h1 := q4 _ (vp_in_lt hin)
  rw [hp] at h1
  have hin2 : vp_in i cap := fun h => h.elim (fun h => hin (Or.inl h)) (fun h => hin (Or.inr (Nat.le_trans q1 h)))
  refine va_aldq hx hb hK hP (posL o L) k q3 ht hin2 hdg ?_
  have h2 : va_rf (f i.toNatClampNeg) = .ref (ad t) := h1
  rw [h2]
  exact kk
end THL
/-! ===== what the machine holds beside the class's world ===== -/
def nxM : List Cond := [.methodLinkNest RX12 18 yX10_init "UnlikeBoats", .methodLinkNest RX12 9 yX0_init "UnlikeBoats", .methodLinkNest RX0 131 yX12_held "UnlikeBoats", .methodLinkNest RX0 52 yX12_within "UnlikeBoats", .methodLinkNest RX2 81 yX12_apart "UnlikeBoats", .methodLinkNest RX3 109 yX12_sortIn "UnlikeBoats", .methodLinkNest RX3 126 yX12_apart "UnlikeBoats", .methodLinkNest RX3 89 yX12_cell "UnlikeBoats", .methodLinkNest RX8 114 yX12_held "UnlikeBoats", .methodLinkNest RX8 127 yX12_sortIn "UnlikeBoats", .methodLinkNest RX8 76 yX12_cell "UnlikeBoats", .methodLinkNest RX9 123 yX12_held "UnlikeBoats", .methodLinkNest RX10 66 yX12_isOneOf "UnlikeBoats"]
def NXc (U : State) : Prop := (∀ w ∈ nxM, va_Nw w U) ∧ (va_Nw (.fieldLinkNest RX2 151 "UnlikeBoats" "STEP_X" "[I" "UnlikeBoats") U ∧ va_Nw (.fieldLinkNest RX2 154 "UnlikeBoats" "STEP_Y" "[I" "UnlikeBoats") U) ∧ (∀ C ∈ [RX1, RX7, RX5, RX6, RX11, RX4], va_Nw (.castable C "java/lang/Object") U) ∧ va_AO "java/lang/Object" U ∧ (∃ mi : Nat, va_Mi "[Ljava/lang/Object;" mi U) ∧ va_Dc U
theorem NXc_c {U : State} {a : Array Value} {g : JFrame} {mk : MethodId} (h : NXc U) : NXc (U.calling g mk a) :=
  ⟨fun w hw => va_Nw.same (u := U) (U := U.calling g mk a) (by simp only [nxM, List.mem_cons, List.not_mem_nil, or_false] at hw; rcases hw with rfl | rfl | rfl | rfl | rfl | rfl | rfl | rfl | rfl | rfl | rfl | rfl | rfl <;> rfl) rfl (h.1 w hw), ⟨va_Nw.same rfl rfl h.2.1.1, va_Nw.same rfl rfl h.2.1.2⟩, fun C hC => va_Nw.same (u := U) (U := U.calling g mk a) rfl rfl (h.2.2.1 C hC), va_AO.moved (U := U.calling g mk a) (Vm.Alike.refl U.vm) h.2.2.2.1, h.2.2.2.2.1.elim (fun mi hm => ⟨mi, va_Mi.moved (U := U.calling g mk a) (Vm.Alike.refl U.vm) hm⟩), va_Dc.moved (U := U.calling g mk a) (Vm.Alike.refl U.vm) h.2.2.2.2.2⟩
theorem NXc_w {s U : State} (hW : s.WarmedH U.vm) (h : NXc s) : NXc U :=
  ⟨fun w hw => by
    have h1 := h.1 w hw
    simp only [nxM, List.mem_cons, List.not_mem_nil, or_false] at hw
    rcases hw with rfl | rfl | rfl | rfl | rfl | rfl | rfl | rfl | rfl | rfl | rfl | rfl | rfl <;> exact va_Nw.warmM hW h1, ⟨va_Nw.warmF hW h.2.1.1, va_Nw.warmF hW h.2.1.2⟩, fun C hC => va_Nw.warmC hW (h.2.2.1 C hC), va_AO.moved hW.alike h.2.2.2.1, h.2.2.2.2.1.elim (fun mi hm => ⟨mi, va_Mi.moved hW.alike hm⟩), va_Dc.moved hW.alike h.2.2.2.2.2⟩
def tSX : List Int32 := [0, 1, 1, 1, 0, -1, -1, -1]
def tSY : List Int32 := [-1, -1, 0, 1, 1, 1, 0, -1]
/-- a static row of eight -/
def STx (n : String) (vs : List Int32) (A : Nat → Prop) (U : State) (H : Heap) : Prop := ∃ q : Nat, va_Z RX12 n "[I" (.ref q) A U H ∧ va_T .int q 8 (fun j => .int (vs.getD j 0)) A U H
theorem STx_c {n : String} {vs : List Int32} {A : Nat → Prop} {U : State} {a : Array Value} {g : JFrame} {mk : MethodId} (h : STx n vs A U U.heap) : STx n vs A (U.calling g mk a) (U.calling g mk a).heap := by
  obtain ⟨q, h1, h2⟩ := h
  exact ⟨q, va_Z.moved (U := U.calling g mk a) (Vm.Alike.refl U.vm) h1, va_T.moved (U := U.calling g mk a) (Vm.Alike.refl U.vm) h2⟩
theorem STx_w {n : String} {vs : List Int32} {s U : State} {H : Heap} {locs : List Loc} {A A1 : Nat → Prop} (hU : U.heap = H) (hW : s.WarmedH U.vm) (hS : va_S A s.heap H locs) (hF : ∀ q, A1 q → A q) (h : STx n vs A s s.heap) : STx n vs A1 U U.heap := by
  obtain ⟨q, h1, h2⟩ := h
  rw [hU]
  exact ⟨q, va_Z.moved hW.alike ((h1.kept hS.2.1).narrow hF), va_T.moved hW.alike ((h2.kept hS.2.1).narrow hF)⟩
/-- the static row of no elements that a fresh list holds -/
def ZEc (ed : Nat) (A : Nat → Prop) (U : State) (H : Heap) : Prop := va_Z "java/util/ArrayList" "DEFAULTCAPACITY_EMPTY_ELEMENTDATA" "[Ljava/lang/Object;" (.ref ed) A U H ∧ va_T (.object "java/lang/Object") ed 0 (fun _ => .null) A U H
theorem ZEc_c {ed : Nat} {A : Nat → Prop} {U : State} {a : Array Value} {g : JFrame} {mk : MethodId} (h : ZEc ed A U U.heap) : ZEc ed A (U.calling g mk a) (U.calling g mk a).heap :=
  ⟨va_Z.moved (U := U.calling g mk a) (Vm.Alike.refl U.vm) h.1, va_T.moved (U := U.calling g mk a) (Vm.Alike.refl U.vm) h.2⟩
theorem ZEc_w {ed : Nat} {s U : State} {H : Heap} {locs : List Loc} {A A1 : Nat → Prop} (hU : U.heap = H) (hW : s.WarmedH U.vm) (hS : va_S A s.heap H locs) (hF : ∀ q, A1 q → A q) (h : ZEc ed A s s.heap) : ZEc ed A1 U U.heap := by
  rw [hU]
  exact ⟨va_Z.moved hW.alike ((h.1.kept hS.2.1).narrow hF), va_T.moved hW.alike ((h.2.kept hS.2.1).narrow hF)⟩
def SKc (A : Nat → Prop) (U : State) (H : Heap) : Prop := SK RX10 64 "nptab" tLAB A U H ∧ SK RX10 74 "!(" tCON A U H ∧ SK RX10 79 "=<>" tCMP A U H ∧ SK RX10 108 "+-" tADD A U H ∧ SK RX10 113 "*/" tMUL A U H ∧ SK RX10 121 "lswkrefcdghumo" tLET A U H
def EVC (eo : Nat) (A : Nat → Prop) (U : State) (H : Heap) : Prop := NXc U ∧ SKc A U H ∧ (STx "STEP_X" tSX A U H ∧ STx "STEP_Y" tSY A U H) ∧ ZEc eo A U H
theorem EVC_c {eo : Nat} {A : Nat → Prop} {U : State} {a : Array Value} {g : JFrame} {mk : MethodId} (h : EVC eo A U U.heap) : EVC eo A (U.calling g mk a) (U.calling g mk a).heap :=
  ⟨NXc_c h.1, ⟨SK_c h.2.1.1, SK_c h.2.1.2.1, SK_c h.2.1.2.2.1, SK_c h.2.1.2.2.2.1, SK_c h.2.1.2.2.2.2.1, SK_c h.2.1.2.2.2.2.2⟩, ⟨STx_c h.2.2.1.1, STx_c h.2.2.1.2⟩, ZEc_c h.2.2.2⟩
theorem EVC_w {eo : Nat} {s U : State} {H : Heap} {locs : List Loc} {A A1 : Nat → Prop} (hU : U.heap = H) (hW : s.WarmedH U.vm) (hS : va_S A s.heap H locs) (hF : ∀ q, A1 q → A q) (h : EVC eo A s s.heap) : EVC eo A1 U U.heap :=
  ⟨NXc_w hW h.1, ⟨SK_w hU hW hS hF h.2.1.1, SK_w hU hW hS hF h.2.1.2.1, SK_w hU hW hS hF h.2.1.2.2.1, SK_w hU hW hS hF h.2.1.2.2.2.1, SK_w hU hW hS hF h.2.1.2.2.2.2.1, SK_w hU hW hS hF h.2.1.2.2.2.2.2⟩, ⟨STx_w hU hW hS hF h.2.2.1.1, STx_w hU hW hS hF h.2.2.1.2⟩, ZEc_w hU hW hS hF h.2.2.2⟩

/-! ===== the class's world ===== -/
def kl : Nat → Nat := fun t => [0, 1, 1, 1, 1, 1, 2, 2, 2, 2, 2, 2, 3, 4, 5].getD t 0
/-- how many of each list there are at most; of RULES how long each one's rows are -/
def CF (cf : Nat → Nat) : Prop := (cf 0 ≤ 80 ∧ cf 1 ≤ 16 ∧ cf 2 ≤ 20 ∧ cf 3 ≤ 300 ∧ cf 4 ≤ 200 ∧ cf 5 ≤ 30) ∧ ∀ i : Nat, cf (8 + 2 * i) ≤ 51 ∧ cf (9 + 2 * i) ≤ 200
def shF : List (Nat × Nat × Nat) := [(0, 13, 6), (0, 1, 11), (0, 11, 10), (0, 10, 9), (0, 9, 10), (0, 3, 10), (0, 4, 18), (0, 0, 3), (0, 0, 3), (0, 0, 3), (0, 0, 3), (0, 0, 3), (0, 0, 3), (9, 0, 0), (9, 0, 0), (9, 0, 0), (9, 0, 0), (9, 0, 0), (9, 0, 0), (1, 0, 14), (1, 0, 200), (1, 0, 200), (1, 0, 200), (1, 0, 51), (1, 0, 52), (1, 0, 51), (1, 0, 16), (1, 0, 16), (1, 0, 16), (1, 0, 16), (1, 0, 16), (1, 0, 320), (1, 0, 320), (1, 2, 320), (1, 2, 16), (1, 0, 16), (1, 0, 20), (1, 0, 20), (1, 0, 2), (1, 0, 2), (1, 0, 2), (1, 0, 2), (1, 0, 2), (1, 2, 320), (1, 0, 320), (1, 0, 320), (1, 0, 320), (1, 0, 20), (1, 0, 20), (1, 0, 20), (1, 0, 20), (1, 0, 16), (1, 0, 560), (1, 0, 4), (1, 0, 4), (1, 0, 4), (1, 0, 16)]
def shP (cf : Nat → Nat) (t i : Nat) : Nat × Nat × Nat := [(0, 2, 6), (0, 8, 6), (1, 0, cf (9 + 2 * i)), (1, 0, cf (8 + 2 * i)), (1, 0, cf (8 + 2 * i) + 1), (1, 0, cf (8 + 2 * i)), (0, 6, 12), (1, 0, 16), (1, 0, 16), (1, 0, 16), (1, 0, 16), (1, 0, 401), (0, 7, 5), (0, 12, 8), (0, 5, 10)].getD t (9, 0, 0)
def shC (cf : Nat → Nat) : Nat → Nat × Nat × Nat := fun k => bif Nat.blt k 64 then (bif (Nat.ble 13 k && Nat.blt k 19) then (2, 3, cf (k - 13)) else shF.getD k (9, 0, 0)) else shP cf (k % 64) (k / 64 - 1)
def spO0 (cf : Nat → Nat) : List (Nat × Int × Int) := [(1, 1, 0), (1, 2, 0), (1, 3, 0), (1, 4, 0), (1, 5, 0), (1, 6, 0)]
def spO1 (cf : Nat → Nat) : List (Nat × Int × Int) := [(0, 0, 400), (0, 0, 16), (0, 0, 20), (1, 7, 0), (1, 8, 0), (1, 9, 0), (1, 10, 0), (1, 11, 0), (1, 12, 0), (1, 19, 0), (1, 20, 0)]
def spO2 (cf : Nat → Nat) : List (Nat × Int × Int) := [(1, 21, 0), (0, 0, 200), (0, 0, 200), (0, (-1), 200), (1, 22, 0), (0, 0, 200), (1, 23, 0), (1, 24, 0), (1, 25, 0), (0, 0, 51)]
def spO3 (cf : Nat → Nat) : List (Nat × Int × Int) := [(1, 1, 0), (1, 26, 0), (1, 27, 0), (1, 28, 0), (1, 29, 0), (1, 30, 0), (0, (-1), 15), (0, 0, 16), (0, 0, 16)]
def spO4 (cf : Nat → Nat) : List (Nat × Int × Int) := [(1, 1, 0), (1, 3, 0), (0, 0, ((cf 2 : Nat) : Int)), (1, 31, 0), (1, 32, 0), (1, 33, 0), (1, 34, 0), (1, 35, 0), (1, 36, 0), (1, 37, 0)]
def spO5 (cf : Nat → Nat) : List (Nat × Int × Int) := [(1, 1, 0), (1, 38, 0), (1, 39, 0), (1, 40, 0), (1, 41, 0), (1, 42, 0), (3, 0, 0), (0, (-1), 15), (0, 0, 255), (0, 0, 255)]
def spO6 (cf : Nat → Nat) : List (Nat × Int × Int) := [(1, 1, 0), (1, 3, 0), (1, 43, 0), (1, 44, 0), (1, 45, 0), (1, 46, 0), (1, 47, 0), (1, 48, 0), (1, 49, 0), (1, 50, 0), (1, 51, 0), (1, 52, 0), (1, 53, 0), (1, 54, 0), (1, 55, 0), (0, 0, 20), (0, (-2147483648), 2147483647), (1, 56, 0)]
def spO (cf : Nat → Nat) (o : Nat) : List (Nat × Int × Int) := [spO0 cf, spO1 cf, spO2 cf, spO3 cf, spO4 cf, spO5 cf, spO6 cf].getD o []
def spR (cf : Nat → Nat) : List (Nat × Int × Int) := [(9, 0, 0), (9, 0, 0), (9, 0, 0), (9, 0, 0), (9, 0, 0), (9, 0, 0), (9, 0, 0), (9, 0, 0), (9, 0, 0), (9, 0, 0), (9, 0, 0), (9, 0, 0), (9, 0, 0), (9, 0, 0), (9, 0, 0), (9, 0, 0), (9, 0, 0), (9, 0, 0), (9, 0, 0), (0, (-2147483648), 2147483647), (0, (-2147483648), 2147483647), (0, 0, 255), (0, (-2147483648), 2147483647), (0, 0, 255), (0, 0, 200), (0, 0, 200), (0, (-1), 5), (0, 0, 200000), (0, 0, 2000), (0, (-100000), 400000), (0, 0, 245), (0, 0, 10000), (0, (-2147483648), 2147483647), (0, 0, 1), (0, 0, 1), (0, (-2147483648), 2147483647), (0, (-2147483648), 2147483647), (0, (-2147483648), 2147483647), (0, 0, 99), (0, 0, 99), (0, 0, 99), (0, 0, 99), (0, 0, 255), (0, 0, 1), (0, 0, 200000), (0, 0, 2000), (0, (-100000), 400000), (0, 0, ((cf 2 - 1 : Nat) : Int)), (0, (-100000), 400000), (0, 0, 200000), (0, (-2147483648), 2147483647), (0, (-100000), 400000), (0, (-1), 400600), (0, 0, 15), (0, 0, 6), (0, 0, 6), (0, 0, 2001)]
def spA (cf : Nat → Nat) (j : Nat) : List (Nat × Int × Int) := [(0, (-2147483648), 2147483647), bif Nat.blt 0 (cf j) then (1, ((13 + j : Nat) : Int), 0) else (4, ((cf 6 : Nat) : Int), 0), (0, ((cf j : Nat) : Int), ((cf j : Nat) : Int))]
def lkd : Nat → Nat := fun j => [0, 1, 6, 12, 13, 14].getD j 0
def spP (cf : Nat → Nat) (t i j : Nat) : Nat × Int × Int := [[(0, 0, 15), (0, 0, 400), (0, 0, 400), (0, 0, 400), (0, 0, 4000), (0, 0, 900)].getD j (9, 0, 0), [(0, 0, 400), (0, 0, 400), (1, ((64 * (i + 1) + 2 : Nat) : Int), 0), (1, ((64 * (i + 1) + 3 : Nat) : Int), 0), (1, ((64 * (i + 1) + 4 : Nat) : Int), 0), (1, ((64 * (i + 1) + 5 : Nat) : Int), 0)].getD j (9, 0, 0), (0, (-2147483648), 2147483647), (0, 0, 255), (0, 0, ((cf (9 + 2 * i) : Nat) : Int)), (0, 0, ((cf (9 + 2 * i) : Nat) : Int)), [(0, 0, 400), (0, 0, 400), (0, 0, 1000), (0, 0, 1), (0, 0, 7), (0, 0, 99), (0, 0, 99), (1, ((64 * (i + 1) + 7 : Nat) : Int), 0), (1, ((64 * (i + 1) + 8 : Nat) : Int), 0), (1, ((64 * (i + 1) + 9 : Nat) : Int), 0), (1, ((64 * (i + 1) + 10 : Nat) : Int), 0), (1, ((64 * (i + 1) + 11 : Nat) : Int), 0)].getD j (9, 0, 0), (0, (-1), 400), (0, (-1), 400), (0, (-1), 9), (0, 0, 600), (0, 0, 9), [(0, 0, 19), (0, 0, 15), (0, 0, 4), (0, 0, 200000), (0, 0, 400)].getD j (9, 0, 0), [(0, 0, 19), (0, 0, 15), (0, 0, 400), (0, 0, 100000), (0, 0, 99), (0, 0, 99), (0, 0, 3), (0, 0, 255)].getD j (9, 0, 0), [(0, 0, ((cf 2 : Nat) : Int) - 1), (0, 0, 15), (0, 0, 15), (0, 0, 100000), (0, 0, 400), (0, (-1), 400), (0, 0, 3), (0, (-1), 400), (0, (-1), 400), (0, 0, 3)].getD j (9, 0, 0)].getD t (9, 0, 0)
def spC (cf : Nat → Nat) : Nat → Nat → Nat × Int × Int := fun o j => bif Nat.blt o 64 then (bif Nat.blt o 7 then (spO cf o).getD j (9, 0, 0) else bif Nat.blt o 13 then (spA cf (o - 7)).getD j (9, 0, 0) else bif Nat.blt o 19 then (1, ((64 * (j + 1) + lkd (o - 13) : Nat) : Int), 0) else (spR cf).getD o (9, 0, 0)) else spP cf (o % 64) (o / 64 - 1) j
def fixB (k : Nat) : Bool := Nat.blt k 13 || (Nat.ble 19 k && Nat.blt k 57)
def lvC (cf : Nat → Nat) (k : Nat) : Bool := bif Nat.blt k 64 then (fixB k || (Nat.ble 13 k && Nat.blt k 19 && Nat.blt 0 (cf (k - 13)))) else (Nat.blt (k % 64) 15 && Nat.blt (k / 64 - 1) (cf (kl (k % 64))))
def LC (cf : Nat → Nat) : List Nat := (List.range 20000).filter (lvC cf)
theorem LC_nd (cf : Nat → Nat) : (LC cf).Nodup := List.Pairwise.sublist List.filter_sublist List.nodup_range
theorem blt_t {a b : Nat} (h : a < b) : Nat.blt a b = true := Nat.ble_eq_true_of_le h
theorem blt_f {a b : Nat} (h : b ≤ a) : Nat.blt a b = false := by
  cases q : Nat.blt a b with
  | false => rfl
  | true => exact absurd (Nat.le_of_ble_eq_true q) (by omega)
theorem mF {cf : Nat → Nat} (k : Nat) (h : fixB k = true) : k ∈ LC cf := by
  have h1 : k < 57 := by
    unfold fixB at h
    rw [Bool.or_eq_true, Bool.and_eq_true] at h
    rcases h with h | h
    · have := Nat.le_of_ble_eq_true h; omega
    · have := Nat.le_of_ble_eq_true h.2; omega
  refine List.mem_filter.mpr ⟨List.mem_range.mpr (by omega), ?_⟩
  unfold lvC
  rw [blt_t (show k < 64 by omega), h]
  rfl
theorem mD {cf : Nat → Nat} (k : Nat) (h1 : 13 ≤ k) (h2 : k < 19) (h : 0 < cf (k - 13)) : k ∈ LC cf := by
  refine List.mem_filter.mpr ⟨List.mem_range.mpr (by omega), ?_⟩
  unfold lvC
  rw [blt_t (show k < 64 by omega), blt_t h2, blt_t h, Nat.ble_eq_true_of_le h1]
  simp
theorem mP {cf : Nat → Nat} (t i : Nat) (ht : t < 15) (hi : i < cf (kl t)) (hc : cf (kl t) ≤ 300) : 64 * (i + 1) + t ∈ LC cf := by
  refine List.mem_filter.mpr ⟨List.mem_range.mpr (by omega), ?_⟩
  unfold lvC
  rw [blt_f (show 64 ≤ 64 * (i + 1) + t by omega), show (64 * (i + 1) + t) % 64 = t by omega, show (64 * (i + 1) + t) / 64 - 1 = i by omega, blt_t ht, blt_t hi]
  rfl
theorem shC_p {cf : Nat → Nat} (t i : Nat) (ht : t < 64) : shC cf (64 * (i + 1) + t) = shP cf t i := by
  unfold shC
  rw [blt_f (show 64 ≤ 64 * (i + 1) + t by omega), show (64 * (i + 1) + t) % 64 = t by omega, show (64 * (i + 1) + t) / 64 - 1 = i by omega]
  rfl
theorem spC_p {cf : Nat → Nat} (t i : Nat) (ht : t < 64) (j : Nat) : spC cf (64 * (i + 1) + t) j = spP cf t i j := by
  unfold spC
  rw [blt_f (show 64 ≤ 64 * (i + 1) + t by omega), show (64 * (i + 1) + t) % 64 = t by omega, show (64 * (i + 1) + t) / 64 - 1 = i by omega]
  rfl
theorem wl_p {a : List Nat} {b : List (Nat × Nat)} {o j : Nat} (ha : a.all (fun k => Nat.blt k 64) = true) (hb : b.all (fun q => Nat.blt q.1 64) = true) (ho : 64 ≤ o) : wl a b o j = false := by
  cases h : wl a b o j with
  | false => rfl
  | true =>
    exfalso
    unfold wl at h
    rw [Bool.or_eq_true] at h
    rcases h with h | h
    · have h1 : o ∈ a := by simpa using h
      have := Nat.le_of_ble_eq_true (List.all_eq_true.mp ha o h1)
      omega
    · have h1 : (o, j) ∈ b := by simpa using h
      have := Nat.le_of_ble_eq_true (List.all_eq_true.mp hb _ h1)
      simp only at this
      omega
theorem kl_le {cf : Nat → Nat} (hC : CF cf) (j : Nat) (hj : j < 6) : cf j ≤ 300 := by
  obtain ⟨⟨h0, h1, h2, h3, h4, h5⟩, -⟩ := hC
  rcases (show j = 0 ∨ j = 1 ∨ j = 2 ∨ j = 3 ∨ j = 4 ∨ j = 5 by omega) with rfl | rfl | rfl | rfl | rfl | rfl <;> omega
def TYC (cT : Nat → ClassId) : List (ClassId × FieldType) := [(cT 0, .int), (cT 1, .byte), (cT 2, .boolean), (cT 3, .object "java/lang/Object")]
def HWL (dC : Nat → ClassId) (dI : Nat → Nat → Nat) (tys : List (ClassId × FieldType)) (cf : Nat → Nat) (ad : Nat → Nat) (E : Nat → va_E) (sz : Nat) : State → Prop := fun U => U.heap.size = sz ∧ va_P (dC, dI) vwCl (WL (LC cf) ad E) U.heap ∧ va_K (dC, dI) vwCl tys U ∧ va_D (fun _ => True) (WL (LC cf) ad E) ∧ EVC (cf 6) (va_A (WL (LC cf) ad E) sz) U U.heap
def HBL (dC : Nat → ClassId) (dI : Nat → Nat → Nat) (L : List Nat) (ad : Nat → Nat) : (Nat → va_E) → State → Prop := fun u t => va_P (dC, dI) vwCl (WL L ad u) t.heap
section THCL
variable {p : Program} {l : Launch} {e : Env} {R : Room} {s : State} {m : MethodId} {args : Array Value} {below : List Frame} {meth : Method} {c : Code} {H : Heap} {locs : List Loc} {cells slots : Nat} {Q : State → Prop}
variable {pc : Nat} {ls : Array Slot} {rest st0 : List Value} {cc : ByteArray} {dC : Nat → ClassId} {dI : Nat → Nat → Nat} {tys : List (ClassId × FieldType)} {L : List Nat} {ad : Nat → Nat} {E : Nat → va_E} {A : Nat → Prop}
variable {cf : Nat → Nat}
theorem HWL_bl {sz : Nat} {av : List Value} (a : Array Value) (U : State) (g : JFrame) (mk : MethodId) (q : va_Pc av (HWL dC dI tys cf ad E sz) a U) : va_Pc av (HWL dC dI tys cf ad E sz) a (U.calling g mk a) := by
  obtain ⟨e0, e1, qP, qK, qD, qE⟩ := q
  exact ⟨e0, e1, qP, va_K.moved (u := U) (U := U.calling g mk a) (Vm.Alike.refl U.vm) qK, qD, EVC_c qE⟩
theorem HWL_wi {av : List Value} (hP : va_P (dC, dI) vwCl (WL (LC cf) ad E) H) (hK : va_K (dC, dI) vwCl tys s) (hD : va_D A (WL (LC cf) ad E)) (hS : va_S A s.heap H locs) (hA : ∀ q, s.heap.size ≤ q → A q) (hE : EVC (cf 6) A s s.heap) (U : State) (hU : U.heap = H) (hW : s.WarmedH U.vm) : va_Pc av (HWL dC dI tys cf ad E H.size) av.toArray U :=
  ⟨rfl, by rw [hU], by rw [hU]; exact hP, va_K.moved hW.alike hK, hD.weaken (fun _ _ _ _ => trivial), EVC_w hU hW hS (WL_free hD hS hA) hE⟩
theorem th_iL {post : Int32 → (Nat → va_E) → Prop} {a : Array Value} (hr : va_Run p l e R s m args below meth c H locs cells slots 0 0 (F0 m pc ls st0) rest (va_Qi (S := Nat → va_E) post (HBL dC dI L ad) (va_A (WL L ad E) H.size) a) (va_A (WL L ad E) H.size)) (hD : va_D A (WL L ad E)) (hS : va_S A s.heap H locs) (hA : ∀ q, s.heap.size ≤ q → A q)
    (kk : ∀ (r : Int32) (u : Nat → va_E) (H1 : Heap) (locs1 : List Loc), post r u → va_P (dC, dI) vwCl (WL L ad u) H1 → va_S A s.heap H1 locs1 → W p l e R s m args below meth c H1 locs1 cells slots Q (F0 m (pc + 3) ls (.int r :: rest))) : W p l e R s m args below meth c H locs cells slots Q (F0 m pc ls st0) :=
  va_calli hr hS (fun q _ h => WL_free hD hS hA q h) (WL_free hD hS hA) (fun r u t H1 locs1 ht _ hw hB _ _ hS1 => kk r u H1 locs1 hw (by rw [← ht]; exact hB) hS1)
theorem th_vL {post : (Nat → va_E) → Prop} {a : Array Value} (hr : va_Run p l e R s m args below meth c H locs cells slots 0 0 (F0 m pc ls st0) rest (va_Qv (S := Nat → va_E) post (HBL dC dI L ad) (va_A (WL L ad E) H.size) a) (va_A (WL L ad E) H.size)) (hD : va_D A (WL L ad E)) (hS : va_S A s.heap H locs) (hA : ∀ q, s.heap.size ≤ q → A q)
    (kk : ∀ (u : Nat → va_E) (H1 : Heap) (locs1 : List Loc), post u → va_P (dC, dI) vwCl (WL L ad u) H1 → va_S A s.heap H1 locs1 → W p l e R s m args below meth c H1 locs1 cells slots Q (F0 m (pc + 3) ls rest)) : W p l e R s m args below meth c H locs cells slots Q (F0 m pc ls st0) :=
  va_callv hr hS (fun q _ h => WL_free hD hS hA q h) (WL_free hD hS hA) (fun u t H1 locs1 ht _ hw hB _ _ hS1 => kk u H1 locs1 hw (by rw [← ht]; exact hB) hS1)
end THCL
section THDL
variable {p : Program} {l : Launch} {e : Env} {R : Room} {s : State} {m : MethodId} {args : Array Value} {below : List Frame} {meth : Method} {c : Code} {H : Heap} {locs : List Loc} {cells slots : Nat} {Q : State → Prop}
variable {pc : Nat} {ls : Array Slot} {rest st0 : List Value} {cc : ByteArray} {dC : Nat → ClassId} {dI : Nat → Nat → Nat} {tys : List (ClassId × FieldType)} {L : List Nat} {ad : Nat → Nat} {E : Nat → va_E} {A A0 : Nat → Prop} {H0 : Heap}
variable {cf : Nat → Nat}
theorem HWL_wiR {av : List Value} (hP : va_P (dC, dI) vwCl (WL (LC cf) ad E) H) (hK : va_K (dC, dI) vwCl tys s) (hD : va_D A (WL (LC cf) ad E)) (hS : va_S (fun _ => False) s.heap H locs) (hE : EVC (cf 6) (va_A (WL (LC cf) ad E) s.heap.size) s s.heap) (U : State) (hU : U.heap = H) (hW : s.WarmedH U.vm) : va_Pc av (HWL dC dI tys cf ad E H.size) av.toArray U :=
  HWL_wi (A := va_A (WL (LC cf) ad E) s.heap.size) hP hK hD.self hS.up (fun _ h => Or.inr h) hE U hU hW
theorem th_riL {post : Int32 → Unit → Prop} {a : Array Value} (hr : va_Run p l e R s m args below meth c H locs cells slots 0 0 (F0 m pc ls st0) rest (va_Qi (S := Unit) post (fun _ _ => True) (fun _ => False) a) (fun _ => False)) (hS : va_S A0 H0 H locs) (hP : va_P (dC, dI) vwCl (WL L ad E) H)
    (kk : ∀ (r : Int32) (H1 : Heap) (locs1 : List Loc), post r () → va_P (dC, dI) vwCl (WL L ad E) H1 → va_S A0 H0 H1 locs1 → W p l e R s m args below meth c H1 locs1 cells slots Q (F0 m (pc + 3) ls (.int r :: rest))) : W p l e R s m args below meth c H locs cells slots Q (F0 m pc ls st0) :=
  va_calli hr hS (fun _ _ h => h.elim) (fun _ h => h.elim) (fun r _ _ H1 locs1 _ _ hw _ _ hk hS1 => kk r H1 locs1 hw (ub_keep hP hk) hS1)
theorem th_rrL {post : Nat → Unit → Prop} {a : Array Value} (hr : va_Run p l e R s m args below meth c H locs cells slots 0 0 (F0 m pc ls st0) rest (va_Qr (S := Unit) (fun _ => True) (fun u a' _ => post a' u) (fun _ => False) a) (fun _ => False)) (hS : va_S A0 H0 H locs) (hP : va_P (dC, dI) vwCl (WL L ad E) H)
    (kk : ∀ (r : Nat) (H1 : Heap) (locs1 : List Loc), post r () → va_P (dC, dI) vwCl (WL L ad E) H1 → va_S A0 H0 H1 locs1 → W p l e R s m args below meth c H1 locs1 cells slots Q (F0 m (pc + 3) ls (.ref r :: rest))) : W p l e R s m args below meth c H locs cells slots Q (F0 m pc ls st0) :=
  va_callr hr hS (fun _ _ h => h.elim) (fun _ h => h.elim) (fun _ r _ H1 locs1 _ _ _ hw _ hk hS1 => kk r H1 locs1 hw (ub_keep hP hk) hS1)
end THDL
end

