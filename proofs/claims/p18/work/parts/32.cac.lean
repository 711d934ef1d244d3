

theorem shC_f {cf : Nat → Nat} {o : Nat} (h : fixB o = true) (h2 : o < 57) : shC cf o = shF.getD o (9, 0, 0) := by
  have h3 : ¬ (13 ≤ o ∧ o < 19) := by
    unfold fixB at h
    rw [Bool.or_eq_true, Bool.and_eq_true] at h
    rcases h with h | h
    · have := Nat.le_of_ble_eq_true h; omega
    · have := Nat.le_of_ble_eq_true h.1; omega
  unfold shC
  rw [blt_t (show o < 64 by omega)]
  show (bif (Nat.ble 13 o && Nat.blt o 19) then _ else _) = _
  have h4 : (Nat.ble 13 o && Nat.blt o 19) = false := by
    cases q : (Nat.ble 13 o && Nat.blt o 19) with
    | false => rfl
    | true =>
      rw [Bool.and_eq_true] at q
      exact absurd ⟨Nat.le_of_ble_eq_true q.1, Nat.le_of_ble_eq_true q.2⟩ h3
  rw [h4]
  rfl
theorem shC_d {cf : Nat → Nat} (j : Nat) (h : j < 6) : shC cf (13 + j) = (2, 3, cf j) := by
  unfold shC
  rw [blt_t (show 13 + j < 64 by omega), Nat.ble_eq_true_of_le (show 13 ≤ 13 + j by omega), blt_t (show 13 + j < 19 by omega), show 13 + j - 13 = j by omega]
  rfl
theorem spC_o {cf : Nat → Nat} {o : Nat} (h : o < 7) (j : Nat) : spC cf o j = (spO cf o).getD j (9, 0, 0) := by
  unfold spC
  rw [blt_t (show o < 64 by omega), blt_t h]
  rfl
theorem spC_a {cf : Nat → Nat} (k : Nat) (h : k < 6) (j : Nat) : spC cf (7 + k) j = (spA cf k).getD j (9, 0, 0) := by
  unfold spC
  rw [blt_t (show 7 + k < 64 by omega), blt_f (show 7 ≤ 7 + k by omega), blt_t (show 7 + k < 13 by omega), show 7 + k - 7 = k by omega]
  rfl
theorem spC_d {cf : Nat → Nat} (k : Nat) (h : k < 6) (j : Nat) : spC cf (13 + k) j = (1, ((64 * (j + 1) + lkd k : Nat) : Int), 0) := by
  unfold spC
  rw [blt_t (show 13 + k < 64 by omega), blt_f (show 7 ≤ 13 + k by omega), blt_f (show 13 ≤ 13 + k by omega), blt_t (show 13 + k < 19 by omega), show 13 + k - 13 = k by omega]
  rfl
theorem spC_r {cf : Nat → Nat} {o : Nat} (h1 : 19 ≤ o) (h2 : o < 57) (j : Nat) : spC cf o j = (spR cf).getD o (9, 0, 0) := by
  unfold spC
  rw [blt_t (show o < 64 by omega), blt_f (show 7 ≤ o by omega), blt_f (show 13 ≤ o by omega), blt_f h1]
  rfl

