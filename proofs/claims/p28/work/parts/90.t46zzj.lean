

/-! ===== the DRAW of the reference (pure) ===== -/
/-- whether one of the first ones is it -/
def HsR (P : Nat → Prop) (k : Nat) (v : Int) : Prop := (v = 0 ∨ v = 1) ∧ (v = 1 ↔ ∃ i, i < k ∧ P i)
theorem HsR.start {P : Nat → Prop} {v : Int} (h : v = 0) : HsR P 0 v := ⟨Or.inl h, ⟨fun z => by omega, fun ⟨_, hi, _⟩ => absurd hi (Nat.not_lt_zero _)⟩⟩
theorem HsR.keep {P : Nat → Prop} {k k' : Nat} {v v' : Int} (h : HsR P k v) (hv : ¬ v = 0) (e : v' = 1) (ek : k' = k + 1) : HsR P k' v' := by
  subst ek
  refine ⟨Or.inr e, ⟨fun _ => ?_, fun _ => e⟩⟩
  obtain ⟨i, h1, h2⟩ := h.2.mp (by
    rcases h.1 with q | q
    · exact absurd q hv
    · exact q)
  exact ⟨i, by omega, h2⟩
theorem HsR.hit {P : Nat → Prop} {k k' : Nat} {v' : Int} (hp : P k) (e : v' = 1) (ek : k' = k + 1) : HsR P k' v' := by
  subst ek
  exact ⟨Or.inr e, ⟨fun _ => ⟨k, by omega, hp⟩, fun _ => e⟩⟩
theorem HsR.no {P : Nat → Prop} {k k' : Nat} {v v' : Int} (h : HsR P k v) (hv : v = 0) (hn : ¬ P k) (e : v' = 0) (ek : k' = k + 1) : HsR P k' v' := by
  subst ek
  refine ⟨Or.inl e, ⟨fun z => by omega, fun ⟨i, h1, h2⟩ => ?_⟩⟩
  exfalso
  by_cases q : i = k
  · rw [q] at h2
    exact hn h2
  · have := h.2.mpr ⟨i, by omega, h2⟩
    omega
def cxM (E : Nat → va_E) (b : Nat) : Prop := ∃ i, i < (xi (E 0) 9).toNatClampNeg ∧ (xi (E 1) i).toInt = (b : Int)
def ftMP (E : Nat → va_E) (b q : Int32) : Nat → Prop := fun r9 => ∃ x9 : Int32, MdM E b q r9 x9 ∧ ¬ x9.toInt = -1000000000
def ftMF (E : Nat → va_E) (b q : Int32) : Int → Nat → Int → Prop := fun v9 r9 x9 => ∃ s9 m9 : Int32, (MdM E b q r9 m9 ∧ ¬ m9.toInt = -1000000000 ∧ s9 = xi (E 27) (lRM E (nI r9) b q).toNatClampNeg) ∧ x9 = tFt s9 m9 v9
def WdM (E : Nat → va_E) (q : Int32) (b : Nat) (w : Int) : Prop := WgP (cxM E b) (FtR (ftMP E (nI b) q) (ftMF E (nI b) q) (xi (E 0) 46).toNatClampNeg) (numM E (nI b) q q) w
theorem cnM_y {E : Nat → va_E} {k k' c c' : Int32} (h : CnR (cxM E) k.toNatClampNeg c.toInt) (hp : cxM E k.toNatClampNeg) (ec : c'.toInt = c.toInt + 1) (ek : k'.toInt = k.toInt + 1) (h0 : 0 ≤ k.toInt) : CnR (cxM E) k'.toNatClampNeg c'.toInt := h.one hp ec (by rw [tn_, tn_]; omega)
theorem cnM_n {E : Nat → va_E} {k k' c c' : Int32} (h : CnR (cxM E) k.toNatClampNeg c.toInt) (hp : ¬ cxM E k.toNatClampNeg) (ec : c'.toInt = c.toInt) (ek : k'.toInt = k.toInt + 1) (h0 : 0 ≤ k.toInt) : CnR (cxM E) k'.toNatClampNeg c'.toInt := h.no hp ec (by rw [tn_, tn_]; omega)

