

theorem kl_lkd : ∀ j : Nat, j < 6 → kl (lkd j) = j ∧ lkd j < 15 := by decide
theorem kl_lt : ∀ t : Nat, t < 15 → kl t < 6 := by decide
/-- how the numbers grow when one more comes to list J -/
def Grown (J : Nat) (cf cf' : Nat → Nat) : Prop := cf' J = cf J + 1 ∧ (∀ j, j < 6 → j ≠ J → cf' j = cf j) ∧ cf' 6 = cf 6 ∧ ∀ i : Nat, (J = 1 → i ≠ cf 1) → cf' (8 + 2 * i) = cf (8 + 2 * i) ∧ cf' (9 + 2 * i) = cf (9 + 2 * i)
section GROW2
variable {cT : Nat → ClassId} {cf cf' : Nat → Nat} {J : Nat} {ad ad' : Nat → Nat} {E E' : Nat → va_E}
theorem Grown.le (hG : Grown J cf cf') (j : Nat) (hj : j < 6) : cf j ≤ cf' j := by
  by_cases e : j = J
  · subst e
    have := hG.1
    omega
  · rw [hG.2.1 j hj e]
    exact Nat.le_refl _
theorem shP_eq (hG : Grown J cf cf') (hJ : J < 6) {t i : Nat} (ht : t < 15) (hi : i < cf (kl t)) : shP cf' t i = shP cf t i := by
  rcases (show t = 0 ∨ t = 1 ∨ t = 2 ∨ t = 3 ∨ t = 4 ∨ t = 5 ∨ t = 6 ∨ t = 7 ∨ t = 8 ∨ t = 9 ∨ t = 10 ∨ t = 11 ∨ t = 12 ∨ t = 13 ∨ t = 14 by omega) with rfl | rfl | rfl | rfl | rfl | rfl | rfl | rfl | rfl | rfl | rfl | rfl | rfl | rfl | rfl
  all_goals first
    | rfl
    | (have h1 : i < cf 1 := hi
       have h2 := hG.2.2.2 i (fun e h => by omega)
       simp [shP, h2.1, h2.2])
theorem spP_le (hG : Grown J cf cf') (hJ : J < 6) {t i : Nat} (ht : t < 15) (hi : i < cf (kl t)) (j : Nat) : spLe (spP cf t i j) (spP cf' t i j) := by
  have h2 := hG.le 2 (by omega)
  rcases (show t = 0 ∨ t = 1 ∨ t = 2 ∨ t = 3 ∨ t = 4 ∨ t = 5 ∨ t = 6 ∨ t = 7 ∨ t = 8 ∨ t = 9 ∨ t = 10 ∨ t = 11 ∨ t = 12 ∨ t = 13 ∨ t = 14 by omega) with rfl | rfl | rfl | rfl | rfl | rfl | rfl | rfl | rfl | rfl | rfl | rfl | rfl | rfl | rfl
  all_goals first
    | exact Or.inl rfl
    | (have h1 : i < cf 1 := hi
       have h3 := hG.2.2.2 i (fun e h => by omega)
       left
       simp [spP, h3.1, h3.2])
    | exact all2_getD (by simp [all2, spLe]; omega) j
theorem spP_ref {Q : Nat → Prop} {t i : Nat} (ht : t < 15) (hQ : ∀ t', t' < 15 → kl t' = kl t → Q (64 * (i + 1) + t')) (j : Nat) : refP Q (spP cf t i j) := by
  rcases (show t = 0 ∨ t = 1 ∨ t = 2 ∨ t = 3 ∨ t = 4 ∨ t = 5 ∨ t = 6 ∨ t = 7 ∨ t = 8 ∨ t = 9 ∨ t = 10 ∨ t = 11 ∨ t = 12 ∨ t = 13 ∨ t = 14 by omega) with rfl | rfl | rfl | rfl | rfl | rfl | rfl | rfl | rfl | rfl | rfl | rfl | rfl | rfl | rfl
  · exact allR_getD (by simp [allR, refP]) j
  · exact allR_getD (by exact ⟨trivial, trivial, hQ 2 (by omega) rfl, hQ 3 (by omega) rfl, hQ 4 (by omega) rfl, hQ 5 (by omega) rfl, trivial⟩) j
  · trivial
  · trivial
  · trivial
  · trivial
  · exact allR_getD (by exact ⟨trivial, trivial, trivial, trivial, trivial, trivial, trivial, hQ 7 (by omega) rfl, hQ 8 (by omega) rfl, hQ 9 (by omega) rfl, hQ 10 (by omega) rfl, hQ 11 (by omega) rfl, trivial⟩) j
  · trivial
  · trivial
  · trivial
  · trivial
  · trivial
  · exact allR_getD (by simp [allR, refP]) j
  · exact allR_getD (by simp [allR, refP]) j
  · exact allR_getD (by simp [allR, refP]) j
/-- one more comes to list J -/
theorem IX_grow (hI : IXL cT (shC cf) (spC cf) (LC cf) ad E) (hC : CF cf) (hJ : J < 6) (hG : Grown J cf cf') (had : ∀ o, o ∈ LC cf → o ≠ 13 + J → ad' o = ad o) (hE : ∀ o, o ∈ LC cf → o ≠ 7 + J → o ≠ 13 + J → E' o = E o)
    (hl : ∃ m : Int32, E' (7 + J) = .inr (0, [.int m, .ref (ad' (13 + J)), .int (nI (cf J + 1))])) (hd : ∃ (cap : Nat) (f : Nat → Option Nat), cf J + 1 ≤ cap ∧ cap ≤ 2 * (cf J + 1) + 10 ∧ E' (13 + J) = .inl (cT 3, cap, .inr (.inr (.inr (.inr f)))) ∧ ∀ j, j < cf J + 1 → va_rf (f j) = .ref (ad' (64 * (j + 1) + lkd J)))
    (hn : ∀ t, t < 15 → kl t = J → okS cT (shP cf' t (cf J)) (E' (64 * (cf J + 1) + t)) ∧ ∀ j, j < (shP cf' t (cf J)).2.2 → okV ad' (spP cf' t (cf J) j) (xv (E' (64 * (cf J + 1) + t)) j)) : IXL cT (shC cf') (spC cf') (LC cf') ad' E' := by
  have hb : ∀ j, j < 6 → cf j ≤ 300 := fun j hj => kl_le hC j hj
  have hJb := hb J hJ
  refine ⟨LC_nd cf', fun o ho => ?_⟩
  rcases LC_cases ho with ⟨h1, h2⟩ | ⟨h1, h2, h3⟩ | ⟨t, i, h1, h2, rfl⟩
  · have hm : o ∈ LC cf := mF o h1
    have h13 : o ≠ 13 + J := by
      unfold fixB at h1
      rw [Bool.or_eq_true, Bool.and_eq_true] at h1
      rcases h1 with h1 | h1
      · have := Nat.le_of_ble_eq_true h1; omega
      · have := Nat.le_of_ble_eq_true h1.1; omega
    by_cases e7 : o = 7 + J
    · subst e7
      obtain ⟨m, hl⟩ := hl
      have hs : shC cf' (7 + J) = (0, 0, 3) := by
        rw [shC_f h1 h2]
        rcases (show J = 0 ∨ J = 1 ∨ J = 2 ∨ J = 3 ∨ J = 4 ∨ J = 5 by omega) with rfl | rfl | rfl | rfl | rfl | rfl <;> rfl
      rw [hs, hl]
      refine ⟨rfl, fun j hj => ?_⟩
      have hj : j < 3 := hj
      rw [spC_a J hJ]
      rcases (show j = 0 ∨ j = 1 ∨ j = 2 by omega) with rfl | rfl | rfl
      · exact ⟨rfl, iv_all m⟩
      · show okV ad' (bif Nat.blt 0 (cf' J) then (1, ((13 + J : Nat) : Int), 0) else _) _
        rw [blt_t (show 0 < cf' J by rw [hG.1]; omega)]
        rfl
      · show okV ad' (0, ((cf' J : Nat) : Int), ((cf' J : Nat) : Int)) (.int (nI (cf J + 1)))
        refine ⟨rfl, ?_⟩
        show ((cf' J : Nat) : Int) ≤ (nI (cf J + 1)).toInt ∧ _
        have : (vi (.int (nI (cf J + 1)))).toInt = ((cf J + 1 : Nat) : Int) := nI_toInt (by omega)
        rw [hG.1]
        show _ ∧ (nI (cf J + 1)).toInt ≤ _
        rw [show (nI (cf J + 1)).toInt = ((cf J + 1 : Nat) : Int) from nI_toInt (by omega)]
        exact ⟨Int.le_refl _, Int.le_refl _⟩
    · have h0 := hI.2 o hm
      rw [hE o hm e7 h13]
      rw [shC_f h1 h2] at h0 ⊢
      refine ⟨h0.1, fun j hj => ?_⟩
      have h5 := h0.2 j hj
      rcases (show o < 7 ∨ (7 ≤ o ∧ o < 13) ∨ (13 ≤ o ∧ o < 19) ∨ 19 ≤ o by omega) with q | q | q | q
      · rw [spC_o q] at h5 ⊢
        exact okV_le (spO_le (hG.le 1 (by omega)) (hG.le 2 (by omega)) o q j) (okV_ad (spO_ref (fun k hk => had k (mF k hk) (by
          unfold fixB at hk
          rw [Bool.or_eq_true, Bool.and_eq_true] at hk
          rcases hk with hk | hk
          · have := Nat.le_of_ble_eq_true hk; omega
          · have := Nat.le_of_ble_eq_true hk.1; omega)) o q j) h5)
      · obtain ⟨k, rfl⟩ : ∃ k, o = 7 + k := ⟨o - 7, by omega⟩
        have hk : k < 6 := by omega
        have ek := hG.2.1 k hk (by omega)
        rw [spC_a k hk] at h5 ⊢
        have es : spA cf' k = spA cf k := by simp [spA, ek, hG.2.2.1]
        rw [es]
        refine okV_ad ?_ h5
        by_cases z : 0 < cf k
        · exact allR_getD (l := spA cf k) (by
            unfold spA
            rw [blt_t z]
            exact ⟨trivial, had (13 + k) (mD (13 + k) (by omega) (by omega) (by rw [show 13 + k - 13 = k by omega]; exact z)) (by omega), trivial, trivial⟩) j
        · exact allR_getD (l := spA cf k) (by
            unfold spA
            rw [blt_f (show cf k ≤ 0 by omega)]
            exact ⟨trivial, trivial, trivial, trivial⟩) j
      · exfalso
        unfold fixB at h1
        rw [Bool.or_eq_true, Bool.and_eq_true] at h1
        rcases h1 with h1 | h1
        · have := Nat.le_of_ble_eq_true h1; omega
        · have := Nat.le_of_ble_eq_true h1.1; omega
      · rw [spC_r q h2] at h5 ⊢
        exact okV_le (spR_le (hG.le 2 (by omega)) o) (okV_ad (spR_ref o) h5)
  · obtain ⟨k, rfl⟩ : ∃ k, o = 13 + k := ⟨o - 13, by omega⟩
    have hk : k < 6 := by omega
    by_cases e : k = J
    · subst e
      obtain ⟨cap, f, q1, q2, q3, q4⟩ := hd
      rw [shC_d k hk, q3]
      refine ⟨⟨cap, f, by rw [hG.1]; exact q1, by rw [hG.1]; exact q2, rfl⟩, fun j hj => ?_⟩
      have hj : j < cf' k := hj
      rw [spC_d k hk]
      exact q4 j (by rw [hG.1] at hj; exact hj)
    · have ek := hG.2.1 k hk e
      have h3 : 0 < cf' k := by rw [show 13 + k - 13 = k by omega] at h3; exact h3
      have hm : 13 + k ∈ LC cf := mD (13 + k) (by omega) (by omega) (by rw [show 13 + k - 13 = k by omega, ← ek]; exact h3)
      have h0 := hI.2 _ hm
      rw [hE _ hm (by omega) (by omega), shC_d k hk, ek]
      rw [shC_d k hk] at h0
      refine ⟨h0.1, fun j hj => ?_⟩
      have h5 := h0.2 j hj
      have hj : j < cf k := hj
      rw [spC_d k hk] at h5 ⊢
      have hkl := kl_lkd k hk
      exact okV_ad (had (64 * (j + 1) + lkd k) (mP (lkd k) j hkl.2 (by rw [hkl.1]; exact hj) (by rw [hkl.1]; exact hb k hk)) (by omega)) h5
  · by_cases e : kl t = J ∧ i = cf J
    · obtain ⟨e1, rfl⟩ := e
      have h0 := hn t h1 e1
      rw [shC_p t _ (by omega)]
      exact ⟨h0.1, fun j hj => by rw [spC_p t _ (by omega)]; exact h0.2 j hj⟩
    · have hkt := kl_lt t h1
      have hi : i < cf (kl t) := by
        by_cases e2 : kl t = J
        · rw [e2, hG.1] at h2
          rw [e2]
          have : ¬ i = cf J := fun h => e ⟨e2, h⟩
          omega
        · rw [hG.2.1 _ hkt e2] at h2
          exact h2
      have hm : 64 * (i + 1) + t ∈ LC cf := mP t i h1 hi (hb _ hkt)
      have h0 := hI.2 _ hm
      rw [hE _ hm (by omega) (by omega), shC_p t i (by omega), shP_eq hG hJ h1 hi]
      rw [shC_p t i (by omega)] at h0
      refine ⟨h0.1, fun j hj => ?_⟩
      have h5 := h0.2 j hj
      rw [spC_p t i (by omega)] at h5 ⊢
      exact okV_le (spP_le hG hJ h1 hi j) (okV_ad (spP_ref h1 (fun t' ht' e' => had _ (mP t' i ht' (by rw [e']; exact hi) (by rw [e']; exact hb _ hkt)) (by omega)) j) h5)
/-- the members when one more comes -/
theorem LC_grow (hC : CF cf) (hJ : J < 6) (hG : Grown J cf cf') {L : List Nat} (hL : L.Nodup) (hm : ∀ x, x ∈ L ↔ x ∈ LC cf ∨ x = 13 + J ∨ ∃ t, t < 15 ∧ kl t = J ∧ x = 64 * (cf J + 1) + t) (hJ2 : cf J < 300) : L.Perm (LC cf') := by
  have hb : ∀ j, j < 6 → cf j ≤ 300 := fun j hj => kl_le hC j hj
  have hb' : ∀ j, j < 6 → cf' j ≤ 300 := by
    intro j hj
    by_cases e : j = J
    · subst e
      have := hG.1
      omega
    · rw [hG.2.1 j hj e]
      exact hb j hj
  refine perm_mem hL (LC_nd cf') fun x => ?_
  rw [hm, LC_mem hb, LC_mem hb']
  constructor
  · rintro ((h | ⟨h1, h2, h3⟩ | ⟨t, i, h1, h2, h3⟩) | h | ⟨t, h1, h2, h3⟩)
    · exact Or.inl h
    · exact Or.inr (Or.inl ⟨h1, h2, Nat.lt_of_lt_of_le h3 (hG.le _ (by omega))⟩)
    · exact Or.inr (Or.inr ⟨t, i, h1, Nat.lt_of_lt_of_le h2 (hG.le _ (kl_lt t h1)), h3⟩)
    · exact Or.inr (Or.inl ⟨by omega, by omega, by rw [show x - 13 = J by omega, hG.1]; omega⟩)
    · exact Or.inr (Or.inr ⟨t, cf J, h1, by rw [h2, hG.1]; omega, h3⟩)
  · rintro (h | ⟨h1, h2, h3⟩ | ⟨t, i, h1, h2, h3⟩)
    · exact Or.inl (Or.inl h)
    · by_cases e : x = 13 + J
      · exact Or.inr (Or.inl e)
      · refine Or.inl (Or.inr (Or.inl ⟨h1, h2, ?_⟩))
        rw [hG.2.1 (x - 13) (by omega) (by omega)] at h3
        exact h3
    · by_cases e : kl t = J ∧ i = cf J
      · exact Or.inr (Or.inr ⟨t, h1, e.1, by rw [h3, e.2]⟩)
      · refine Or.inl (Or.inr (Or.inr ⟨t, i, h1, ?_, h3⟩))
        by_cases e2 : kl t = J
        · rw [e2, hG.1] at h2
          rw [e2]
          have : ¬ i = cf J := fun h => e ⟨e2, h⟩
          omega
        · rw [hG.2.1 _ (kl_lt t h1) e2] at h2
          exact h2
end GROW2

