

theorem IX_ref {cf : Nat → Nat} (hC : CF cf) {o j : Nat} (ho : o ∈ LC cf) (hj : j < (shC cf o).2.2) : refP (fun k => k ∈ LC cf) (spC cf o j) := by
  have hb : ∀ j, j < 6 → cf j ≤ 300 := fun j hj => kl_le hC j hj
  rcases LC_cases ho with ⟨h1, h2⟩ | ⟨h1, h2, h3⟩ | ⟨t, i, h1, h2, rfl⟩
  · rcases (show o < 7 ∨ (7 ≤ o ∧ o < 13) ∨ (13 ≤ o ∧ o < 19) ∨ 19 ≤ o by omega) with q | q | q | q
    · rw [spC_o q]
      exact spO_ref (fun k hk => mF k hk) o q j
    · obtain ⟨k, rfl⟩ : ∃ k, o = 7 + k := ⟨o - 7, by omega⟩
      have hk : k < 6 := by omega
      rw [spC_a k hk]
      by_cases z : 0 < cf k
      · exact allR_getD (l := spA cf k) (by
          unfold spA
          rw [blt_t z]
          exact ⟨trivial, mD (13 + k) (by omega) (by omega) (by rw [show 13 + k - 13 = k by omega]; exact z), trivial, trivial⟩) j
      · exact allR_getD (l := spA cf k) (by
          unfold spA
          rw [blt_f (show cf k ≤ 0 by omega)]
          exact ⟨trivial, trivial, trivial, trivial⟩) j
    · exfalso
      unfold fixB at h1
      rw [Bool.or_eq_true, Bool.and_eq_true] at h1
      rcases h1 with h1 | h1
      · have := Nat.le_of_ble_eq_true h1; omega
      · have := Nat.le_of_ble_eq_true h1.1; omega
    · rw [spC_r q h2]
      exact spR_ref o
  · obtain ⟨k, rfl⟩ : ∃ k, o = 13 + k := ⟨o - 13, by omega⟩
    have hk : k < 6 := by omega
    have hkl := kl_lkd k hk
    rw [shC_d k hk] at hj
    have hj : j < cf k := hj
    rw [spC_d k hk]
    exact mP (lkd k) j hkl.2 (by rw [hkl.1]; exact hj) (by rw [hkl.1]; exact hb k hk)
  · rw [spC_p t i (by omega)]
    exact spP_ref h1 (fun t' ht' e' => mP t' i ht' (by rw [e']; exact h2) (by rw [e']; exact hb _ (kl_lt t h1))) j
theorem IX_ad {cT : Nat → ClassId} {cf : Nat → Nat} {ad ad' : Nat → Nat} {E E' : Nat → va_E} (hI : IXL cT (shC cf) (spC cf) (LC cf) ad E) (hC : CF cf) (had : ∀ o, o ∈ LC cf → ad' o = ad o) (hE : ∀ o, o ∈ LC cf → E' o = E o) : IXL cT (shC cf) (spC cf) (LC cf) ad' E' := by
  refine ⟨hI.1, fun o ho => ?_⟩
  rw [hE o ho]
  exact ⟨(hI.2 o ho).1, fun j hj => okV_ad (refP_m (IX_ref hC ho hj) had) ((hI.2 o ho).2 j hj)⟩
/-- all but what is written, the list and the new cells is kept -/
def KpG (J : Nat) (cf : Nat → Nat) (w : Nat → Nat → Bool) (E E' : Nat → va_E) : Prop := ∀ o j : Nat, o ≠ 7 + J → o ≠ 13 + J → (∀ t, t < 15 → kl t = J → o ≠ 64 * (cf J + 1) + t) → w o j = false → xv (E' o) j = xv (E o) j
/-- what a maker has done: nothing was made, or one more came to list J -/
def Made (J : Nat) (cT : Nat → ClassId) (cf : Nat → Nat) (ad : Nat → Nat) (w : Nat → Nat → Bool) (E : Nat → va_E) (u : (Nat → Nat) × (Nat → Nat) × (Nat → va_E)) (No : Prop) (Yes : va_E → Prop) : Prop := CF u.1 ∧ IXL cT (shC u.1) (spC u.1) (LC u.1) u.2.1 u.2.2 ∧ ((u.1 = cf ∧ u.2.1 = ad ∧ Kp w E u.2.2 ∧ No) ∨ (Grown J cf u.1 ∧ (∀ o, o ≠ 13 + J → (∀ t, t < 15 → kl t = J → o ≠ 64 * (cf J + 1) + t) → u.2.1 o = ad o) ∧ KpG J cf w E u.2.2 ∧ Yes (u.2.2 (64 * (cf J + 1) + lkd J))))
theorem CF_up {cf : Nat → Nat} {J : Nat} (hC : CF cf) (hJ : J < 6) {m : Nat} (hm : [80, 16, 20, 300, 200, 30].getD J 0 = m) (h : cf J < m) (h1 : J ≠ 1) : Grown J cf (va_up cf J (cf J + 1)) ∧ CF (va_up cf J (cf J + 1)) := by
  have g : Grown J cf (va_up cf J (cf J + 1)) := ⟨va_up_self _ _ _, fun j _ hj => va_up_ne _ _ hj, va_up_ne _ _ (by omega), fun i _ => ⟨va_up_ne _ _ (by omega), va_up_ne _ _ (by omega)⟩⟩
  refine ⟨g, ?_, fun i => ?_⟩
  · obtain ⟨⟨h0, h1, h2, h3, h4, h5⟩, -⟩ := hC
    have e : ∀ j, j < 6 → j ≠ J → va_up cf J (cf J + 1) j = cf j := fun j _ hj => va_up_ne _ _ hj
    have es : va_up cf J (cf J + 1) J = cf J + 1 := va_up_self _ _ _
    subst hm
    rcases (show J = 0 ∨ J = 1 ∨ J = 2 ∨ J = 3 ∨ J = 4 ∨ J = 5 by omega) with rfl | rfl | rfl | rfl | rfl | rfl
    all_goals
      simp only [List.getD_cons_zero, List.getD_cons_succ] at h
      refine ⟨?_, ?_, ?_, ?_, ?_, ?_⟩ <;> first | (rw [es]; omega) | (rw [e _ (by omega) (by omega)]; assumption)
  · rw [(g.2.2.2 i (fun e => absurd e h1)).1, (g.2.2.2 i (fun e => absurd e h1)).2]
    exact hC.2 i

