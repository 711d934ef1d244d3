

/-! ===== told on both sides (p38) ===== -/
theorem tq_z : (0 : Int32).toNatClampNeg = 0 := by decide
theorem tq_cmp {x y : Int64} (h : x = y) : lg_cmp x y = 0 := by
  rw [h]
  simp [lg_cmp]
theorem tq_sw {cf : Nat → Nat} {E EM : Nat → va_E} {a0 r' : Int32} (h : SW cf E EM) (hi : a0.toNatClampNeg < cf 2) (hn : (xi (E 1) 0).toInt ≤ 400) (g : (∃ d9 : Nat, (xi (E (64 * (a0.toNatClampNeg + 1) + 6)) 0).toInt ≤ (d9 : Int) ∧ (d9 : Int) ≤ (xi (E 1) 0).toInt ∧ ¬ (xi (E (64 * (a0.toNatClampNeg + 1) + 11)) d9).toInt = 0 ∧ r' = xi (E (64 * (a0.toNatClampNeg + 1) + 11)) d9 ∧ ∀ d8 : Nat, (d9 : Int) < (d8 : Int) → (d8 : Int) ≤ (xi (E 1) 0).toInt → (xi (E (64 * (a0.toNatClampNeg + 1) + 11)) d8).toInt = 0) ∨ (r' = 2 ∧ ∀ d8 : Nat, (xi (E (64 * (a0.toNatClampNeg + 1) + 6)) 0).toInt ≤ (d8 : Int) → (d8 : Int) ≤ (xi (E 1) 0).toInt → (xi (E (64 * (a0.toNatClampNeg + 1) + 11)) d8).toInt = 0)) : r'.toInt = (xi (EM 19) a0.toNatClampNeg).toInt := by
  rcases h a0.toNatClampNeg hi with ⟨d, a1, a2, a3, a4, a5⟩ | ⟨a4, a5⟩ <;> rcases g with ⟨d', b1, b2, b3, b4, b5⟩ | ⟨b4, b5⟩
  · rcases Nat.lt_trichotomy d d' with q | q | q
    · exact absurd (a5 d' q (by omega)) b3
    · subst q
      rw [b4]
      exact a4
    · exact absurd (b5 d (by omega) a2) a3
  · exact absurd (b5 d a1 a2) a3
  · exact absurd (a5 d' (by omega)) b3
  · rw [b4, a4]
    rfl
theorem tq_ent {cT : Nat → ClassId} {cf am : Nat → Nat} {E EM : Nat → va_E} {a0 : Int32} (hR : REL cf E EM) (hM : IX cT shM spM 72 am EM) (bn : (0 : Int) ≤ (xi (E 1) 0).toInt ∧ (xi (E 1) 0).toInt ≤ 400) (bb : (0 : Int) ≤ (xi (E 1) 1).toInt ∧ (xi (E 1) 1).toInt ≤ 16) (k2 : cf 2 ≤ 20) (ha : 0 ≤ a0.toInt ∧ a0.toInt < ((cf 2 : Nat) : Int)) : entC (xi (E (64 * (a0.toNatClampNeg + 1) + 7))) (xi (E 1) 0).toInt 16 = entM (xi (EM 21)) (xi (EM 0) 1).toInt (16 * a0.toInt).toNat (xi (EM 0) 8).toNatClampNeg := by
  have hi : a0.toNatClampNeg < cf 2 := by rw [tn_ a0]; omega
  have hB : (16 * a0.toInt).toNat = 16 * a0.toNatClampNeg := by rw [tn_ a0]; omega
  rw [hB, ← hR.now, ← hR.boats]
  refine ent_cm (by omega) (by rw [tn_ (xi (E 1) 1)]; omega) (fun b hb => ?_) (fun b h1 h2 => ?_)
  · rcases hR.en _ b hi hb with ⟨h1, h2⟩ | h1
    · refine Or.inl ⟨by rw [h1]; rfl, by rw [h2]; rfl⟩
    · have hf : (0 : Int) ≤ (xi (EM 21) (16 * a0.toNatClampNeg + b)).toInt ∧ (xi (EM 21) (16 * a0.toNatClampNeg + b)).toInt ≤ 1000 := hM.iv 21 (Nat.le_of_ble_eq_true rfl) (t := 1) (c := 0) (nf := 320) rfl (show 16 * a0.toNatClampNeg + b < 320 by omega) rfl
      exact Or.inr ⟨by rw [h1]; exact hf.1, h1⟩
  · rcases hR.eb _ b hi h2 with h | ⟨-, -, h⟩
    · exact h
    · exfalso
      rw [tn_ (xi (E 1) 1)] at h1
      omega
theorem tq_v {cT : Nat → ClassId} {cf am : Nat → Nat} {E EM : Nat → va_E} {a0 a1 r' r : Int32} (hR : REL cf E EM) (hM : IX cT shM spM 72 am EM) (bn : (0 : Int) ≤ (xi (E 1) 0).toInt ∧ (xi (E 1) 0).toInt ≤ 400) (bb : (0 : Int) ≤ (xi (E 1) 1).toInt ∧ (xi (E 1) 1).toInt ≤ 16) (k2 : cf 2 ≤ 20) (hg : (0 ≤ a0.toInt ∧ a0.toInt < ((cf 2 : Nat) : Int)) ∧ (0 ≤ a1.toInt ∧ a1.toInt ≤ 8)) (hc : (a1.toInt = 0 → r'.toInt = (xi (E (64 * (a0.toNatClampNeg + 1) + 6)) 1).toInt) ∧ (a1.toInt = 1 → r'.toInt = (xi (E (64 * (a0.toNatClampNeg + 1) + 6)) 2).toInt) ∧ (a1.toInt = 2 → r'.toInt = (xi (E (64 * (a0.toNatClampNeg + 1) + 6)) 3).toInt) ∧ (a1.toInt = 3 → r'.toInt = (xi (E (64 * (a0.toNatClampNeg + 1) + 6)) 4).toInt) ∧ (a1.toInt = 4 → r'.toInt = (xi (E (64 * (a0.toNatClampNeg + 1) + 6)) 5).toInt) ∧ (a1.toInt = 5 → r'.toInt = (xi (E (64 * (a0.toNatClampNeg + 1) + 6)) 6).toInt) ∧ (a1.toInt = 6 → r'.toInt = (entC (xi (E (64 * (a0.toNatClampNeg + 1) + 7))) (xi (E 1) 0).toInt 16 : Int)) ∧ (a1.toInt = 7 → (∃ d9 : Nat, (xi (E (64 * (a0.toNatClampNeg + 1) + 6)) 0).toInt ≤ (d9 : Int) ∧ (d9 : Int) ≤ (xi (E 1) 0).toInt ∧ ¬ (xi (E (64 * (a0.toNatClampNeg + 1) + 11)) d9).toInt = 0 ∧ r' = xi (E (64 * (a0.toNatClampNeg + 1) + 11)) d9 ∧ ∀ d8 : Nat, (d9 : Int) < (d8 : Int) → (d8 : Int) ≤ (xi (E 1) 0).toInt → (xi (E (64 * (a0.toNatClampNeg + 1) + 11)) d8).toInt = 0) ∨ (r' = 2 ∧ ∀ d8 : Nat, (xi (E (64 * (a0.toNatClampNeg + 1) + 6)) 0).toInt ≤ (d8 : Int) → (d8 : Int) ≤ (xi (E 1) 0).toInt → (xi (E (64 * (a0.toNatClampNeg + 1) + 11)) d8).toInt = 0)) ∧ (a1.toInt = 8 → r'.toInt = (xi (E (64 * (a0.toNatClampNeg + 1) + 6)) 0).toInt)) (hm : (a1.toInt = 0 → r.toInt = (xi (EM 13) a0.toNatClampNeg).toInt) ∧ (a1.toInt = 1 → r.toInt = (xi (EM 14) a0.toNatClampNeg).toInt) ∧ (a1.toInt = 2 → r.toInt = (xi (EM 15) a0.toNatClampNeg).toInt) ∧ (a1.toInt = 3 → r.toInt = (xi (EM 16) a0.toNatClampNeg).toInt) ∧ (a1.toInt = 4 → r.toInt = (xi (EM 17) a0.toNatClampNeg).toInt) ∧ (a1.toInt = 5 → r.toInt = (xi (EM 18) a0.toNatClampNeg).toInt) ∧ (a1.toInt = 6 → r.toInt = (entM (xi (EM 21)) (xi (EM 0) 1).toInt (16 * a0.toInt).toNat (xi (EM 0) 8).toNatClampNeg : Int)) ∧ (a1.toInt = 7 → r.toInt = (xi (EM 19) a0.toNatClampNeg).toInt) ∧ (a1.toInt = 8 → r.toInt = (xi (EM 20) a0.toNatClampNeg).toInt)) : r'.toInt = r.toInt := by
  have hi : a0.toNatClampNeg < cf 2 := by rw [tn_ a0]; omega
  obtain ⟨c0, c1, c2, c3, c4, c5, c6, c7, c8⟩ := hc
  obtain ⟨m0, m1, m2, m3, m4, m5, m6, m7, m8⟩ := hm
  rcases (show a1.toInt = 0 ∨ a1.toInt = 1 ∨ a1.toInt = 2 ∨ a1.toInt = 3 ∨ a1.toInt = 4 ∨ a1.toInt = 5 ∨ a1.toInt = 6 ∨ a1.toInt = 7 ∨ a1.toInt = 8 by omega) with e | e | e | e | e | e | e | e | e
  · exact (c0 e).trans ((congrArg Int32.toInt (hR.tb2 (6, 1, 13) (by decide) _ hi)).trans (m0 e).symm)
  · exact (c1 e).trans ((congrArg Int32.toInt (hR.tb2 (6, 2, 14) (by decide) _ hi)).trans (m1 e).symm)
  · exact (c2 e).trans ((congrArg Int32.toInt (hR.tb2 (6, 3, 15) (by decide) _ hi)).trans (m2 e).symm)
  · exact (c3 e).trans ((congrArg Int32.toInt (hR.tb2 (6, 4, 16) (by decide) _ hi)).trans (m3 e).symm)
  · exact (c4 e).trans ((congrArg Int32.toInt (hR.tb2 (6, 5, 17) (by decide) _ hi)).trans (m4 e).symm)
  · exact (c5 e).trans ((congrArg Int32.toInt (hR.tb2 (6, 6, 18) (by decide) _ hi)).trans (m5 e).symm)
  · rw [c6 e, m6 e, tq_ent hR hM bn bb k2 hg.1]
  · rw [m7 e]
    exact tq_sw hR.sw hi bn.2 (c7 e)
  · exact (c8 e).trans ((congrArg Int32.toInt (hR.tb2 (6, 0, 20) (by decide) _ hi)).trans (m8 e).symm)
theorem tq_eq {cT : Nat → ClassId} {cf am : Nat → Nat} {E EM EM1 : Nat → va_E} {a0 a1 r r2 : Int32} {f' : Nat → Int64} (hR : REL cf E EM) (hM : IX cT shM spM 72 am EM) (bn : (0 : Int) ≤ (xi (E 1) 0).toInt ∧ (xi (E 1) 0).toInt ≤ 400) (bb : (0 : Int) ≤ (xi (E 1) 1).toInt ∧ (xi (E 1) 1).toInt ≤ 16) (k2 : cf 2 ≤ 20) (hc : (r = 1 ∧ ¬ ((0 ≤ a0.toInt ∧ a0.toInt < ((cf 2 : Nat) : Int)) ∧ (0 ≤ a1.toInt ∧ a1.toInt ≤ 8))) ∨ (r = 0 ∧ ((0 ≤ a0.toInt ∧ a0.toInt < ((cf 2 : Nat) : Int)) ∧ (0 ≤ a1.toInt ∧ a1.toInt ≤ 8)) ∧ ∃ r' : Int32, f' 0 = r'.toInt64 ∧ ((a1.toInt = 0 → r'.toInt = (xi (E (64 * (a0.toNatClampNeg + 1) + 6)) 1).toInt) ∧ (a1.toInt = 1 → r'.toInt = (xi (E (64 * (a0.toNatClampNeg + 1) + 6)) 2).toInt) ∧ (a1.toInt = 2 → r'.toInt = (xi (E (64 * (a0.toNatClampNeg + 1) + 6)) 3).toInt) ∧ (a1.toInt = 3 → r'.toInt = (xi (E (64 * (a0.toNatClampNeg + 1) + 6)) 4).toInt) ∧ (a1.toInt = 4 → r'.toInt = (xi (E (64 * (a0.toNatClampNeg + 1) + 6)) 5).toInt) ∧ (a1.toInt = 5 → r'.toInt = (xi (E (64 * (a0.toNatClampNeg + 1) + 6)) 6).toInt) ∧ (a1.toInt = 6 → r'.toInt = (entC (xi (E (64 * (a0.toNatClampNeg + 1) + 7))) (xi (E 1) 0).toInt 16 : Int)) ∧ (a1.toInt = 7 → (∃ d9 : Nat, (xi (E (64 * (a0.toNatClampNeg + 1) + 6)) 0).toInt ≤ (d9 : Int) ∧ (d9 : Int) ≤ (xi (E 1) 0).toInt ∧ ¬ (xi (E (64 * (a0.toNatClampNeg + 1) + 11)) d9).toInt = 0 ∧ r' = xi (E (64 * (a0.toNatClampNeg + 1) + 11)) d9 ∧ ∀ d8 : Nat, (d9 : Int) < (d8 : Int) → (d8 : Int) ≤ (xi (E 1) 0).toInt → (xi (E (64 * (a0.toNatClampNeg + 1) + 11)) d8).toInt = 0) ∨ (r' = 2 ∧ ∀ d8 : Nat, (xi (E (64 * (a0.toNatClampNeg + 1) + 6)) 0).toInt ≤ (d8 : Int) → (d8 : Int) ≤ (xi (E 1) 0).toInt → (xi (E (64 * (a0.toNatClampNeg + 1) + 11)) d8).toInt = 0)) ∧ (a1.toInt = 8 → r'.toInt = (xi (E (64 * (a0.toNatClampNeg + 1) + 6)) 0).toInt)))) (hm : ((((0 ≤ a0.toInt ∧ a0.toInt < (xi (EM 0) 46).toInt) ∧ (0 ≤ a1.toInt ∧ a1.toInt ≤ 8)) → ((xi (EM1 0) 0).toInt = 0 ∧ (a1.toInt = 0 → r2.toInt = (xi (EM 13) a0.toNatClampNeg).toInt) ∧ (a1.toInt = 1 → r2.toInt = (xi (EM 14) a0.toNatClampNeg).toInt) ∧ (a1.toInt = 2 → r2.toInt = (xi (EM 15) a0.toNatClampNeg).toInt) ∧ (a1.toInt = 3 → r2.toInt = (xi (EM 16) a0.toNatClampNeg).toInt) ∧ (a1.toInt = 4 → r2.toInt = (xi (EM 17) a0.toNatClampNeg).toInt) ∧ (a1.toInt = 5 → r2.toInt = (xi (EM 18) a0.toNatClampNeg).toInt) ∧ (a1.toInt = 6 → r2.toInt = (entM (xi (EM 21)) (xi (EM 0) 1).toInt (16 * a0.toInt).toNat (xi (EM 0) 8).toNatClampNeg : Int)) ∧ (a1.toInt = 7 → r2.toInt = (xi (EM 19) a0.toNatClampNeg).toInt) ∧ (a1.toInt = 8 → r2.toInt = (xi (EM 20) a0.toNatClampNeg).toInt))) ∧ (¬ ((0 ≤ a0.toInt ∧ a0.toInt < (xi (EM 0) 46).toInt) ∧ (0 ≤ a1.toInt ∧ a1.toInt ≤ 8)) → ((xi (EM1 0) 0).toInt = 1 ∧ r2.toInt = 0)))) : (xi (EM1 0) 0).toInt = r.toInt ∧ (r = 0 → f' 0 = r2.toInt64) := by
  obtain ⟨-, q2, -⟩ := hR.cnt
  obtain ⟨y1, y2⟩ := hm
  rcases hc with ⟨h1, h2⟩ | ⟨h1, h2, r9, h3, h4⟩
  · obtain ⟨x1, -⟩ := y2 (by omega)
    rw [h1, x1]
    exact ⟨rfl, fun h => absurd h (by decide)⟩
  · obtain ⟨x1, x2⟩ := y1 (by omega)
    rw [h1, x1]
    exact ⟨rfl, fun _ => h3.trans (congrArg Int32.toInt64 (Int32.toInt_inj.mp (tq_v hR hM bn bb k2 h2 h4 x2)))⟩
