

theorem kmRules {n : Nat} : ∀ x : Nat, x ∈ [64 * (n + 1) + 1, 64 * (n + 1) + 5, 64 * (n + 1) + 4, 64 * (n + 1) + 3, 64 * (n + 1) + 2] ↔ ∃ t, t < 15 ∧ kl t = 1 ∧ x = 64 * (n + 1) + t := by
  intro x
  have hd : ∀ t, t < 15 → kl t = 1 → 1 ≤ t ∧ t ≤ 5 := by decide
  constructor
  · intro h
    simp only [List.mem_cons, List.not_mem_nil, or_false] at h
    rcases h with rfl | rfl | rfl | rfl | rfl
    · exact ⟨1, by decide, rfl, rfl⟩
    · exact ⟨5, by decide, rfl, rfl⟩
    · exact ⟨4, by decide, rfl, rfl⟩
    · exact ⟨3, by decide, rfl, rfl⟩
    · exact ⟨2, by decide, rfl, rfl⟩
  · rintro ⟨t, h1, h2, rfl⟩
    have h3 := hd t h1 h2
    rcases (show t = 1 ∨ t = 2 ∨ t = 3 ∨ t = 4 ∨ t = 5 by omega) with rfl | rfl | rfl | rfl | rfl <;> simp
theorem ndRules {n : Nat} : [64 * (n + 1) + 1, 64 * (n + 1) + 5, 64 * (n + 1) + 4, 64 * (n + 1) + 3, 64 * (n + 1) + 2].Nodup := by simp
/-- the counts when RULES with nc CLAUSES and ns steps come -/
def cfR (cf : Nat → Nat) (nc ns : Nat) : Nat → Nat := va_up (va_up (va_up cf 1 (cf 1 + 1)) (8 + 2 * cf 1) nc) (9 + 2 * cf 1) ns
theorem cfR_lo {cf : Nat → Nat} {nc ns j : Nat} (h : j < 8) (h1 : j ≠ 1) : cfR cf nc ns j = cf j := by
  unfold cfR
  rw [va_up_ne _ _ (show j ≠ 9 + 2 * cf 1 by omega), va_up_ne _ _ (show j ≠ 8 + 2 * cf 1 by omega), va_up_ne _ _ h1]
theorem cfR_1 {cf : Nat → Nat} {nc ns : Nat} : cfR cf nc ns 1 = cf 1 + 1 := by
  unfold cfR
  rw [va_up_ne _ _ (show 1 ≠ 9 + 2 * cf 1 by omega), va_up_ne _ _ (show 1 ≠ 8 + 2 * cf 1 by omega), va_up_self]
theorem cfR_c {cf : Nat → Nat} {nc ns : Nat} : cfR cf nc ns (8 + 2 * cf 1) = nc := by
  unfold cfR
  rw [va_up_ne _ _ (show 8 + 2 * cf 1 ≠ 9 + 2 * cf 1 by omega), va_up_self]
theorem cfR_s {cf : Nat → Nat} {nc ns : Nat} : cfR cf nc ns (9 + 2 * cf 1) = ns := by
  unfold cfR
  rw [va_up_self]
theorem cfR_i {cf : Nat → Nat} {nc ns i : Nat} (h : i ≠ cf 1) : cfR cf nc ns (8 + 2 * i) = cf (8 + 2 * i) ∧ cfR cf nc ns (9 + 2 * i) = cf (9 + 2 * i) := by
  unfold cfR
  constructor
  · rw [va_up_ne _ _ (show 8 + 2 * i ≠ 9 + 2 * cf 1 by omega), va_up_ne _ _ (show 8 + 2 * i ≠ 8 + 2 * cf 1 by omega), va_up_ne _ _ (show 8 + 2 * i ≠ 1 by omega)]
  · rw [va_up_ne _ _ (show 9 + 2 * i ≠ 9 + 2 * cf 1 by omega), va_up_ne _ _ (show 9 + 2 * i ≠ 8 + 2 * cf 1 by omega), va_up_ne _ _ (show 9 + 2 * i ≠ 1 by omega)]
theorem cfR_up {cf : Nat → Nat} {nc ns : Nat} (hC : CF cf) (h : cf 1 < 16) (hc : nc ≤ 51) (hs : ns ≤ 200) : Grown 1 cf (cfR cf nc ns) ∧ CF (cfR cf nc ns) := by
  refine ⟨⟨cfR_1, fun j hj h1 => cfR_lo (by omega) h1, cfR_lo (by omega) (by omega), fun i hi => cfR_i (hi rfl)⟩, ?_, fun i => ?_⟩
  · obtain ⟨⟨h0, h1, h2, h3, h4, h5⟩, -⟩ := hC
    rw [cfR_1, cfR_lo (by omega) (by omega), cfR_lo (by omega) (by omega), cfR_lo (by omega) (by omega), cfR_lo (by omega) (by omega), cfR_lo (by omega) (by omega)]
    exact ⟨h0, by omega, h2, h3, h4, h5⟩
  · by_cases e : i = cf 1
    · subst e
      rw [cfR_c, cfR_s]
      exact ⟨hc, hs⟩
    · rw [(cfR_i e).1, (cfR_i e).2]
      exact hC.2 i
theorem KpG.pw {J : Nat} {cf : Nat → Nat} {w : Nat → Nat → Bool} {E E1 E2 : Nat → va_E} {o j : Nat} {v : Value} (h : KpG J cf w E E1) (p : Pw E1 E2 o j v) (hw : w o j = true) : KpG J cf w E E2 := by
  intro o' j' h1 h2 h3 h4
  rw [p.2 o' j' (fun e => by rw [e.1, e.2, hw] at h4; cases h4)]
  exact h o' j' h1 h2 h3 h4
