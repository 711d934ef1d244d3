

/-- where CLAUSES begin and their SUMS lie within the steps -/
def TPok (gb gs : Nat → Int32) (c s : Int32) : Prop := ∀ k : Nat, (k : Int) < c.toInt → (gb k).toInt ≤ s.toInt ∧ (gs k).toInt ≤ s.toInt
theorem TPok_m {gb gs : Nat → Int32} {c s s2 : Int32} (h : TPok gb gs c s) (h2 : s.toInt ≤ s2.toInt) : TPok gb gs c s2 := fun k hk => ⟨Int.le_trans (h k hk).1 h2, Int.le_trans (h k hk).2 h2⟩
theorem TPok_0 {gb gs : Nat → Int32} {s : Int32} : TPok gb gs 0 s := fun k hk => absurd hk (by have : (0 : Int32).toInt = 0 := rfl; omega)
theorem TPok_push {gb gs gb2 gs2 : Nat → Int32} {c c2 s s2 : Int32} (h : TPok gb gs c s) (h2 : s.toInt ≤ s2.toInt) (hc : 0 ≤ c.toInt) (tc : c2.toInt = c.toInt + 1) (hb : ∀ k, k ≠ c.toNatClampNeg → gb2 k = gb k) (hs : ∀ k, k ≠ c.toNatClampNeg → gs2 k = gs k) (hb2 : (gb2 c.toNatClampNeg).toInt ≤ s2.toInt) (hs2 : (gs2 c.toNatClampNeg).toInt ≤ s2.toInt) : TPok gb2 gs2 c2 s2 := by
  intro k hk
  by_cases e : k = c.toNatClampNeg
  · subst e
    exact ⟨hb2, hs2⟩
  · rw [hb k e, hs k e]
    have := h k (by rw [tn_] at e; omega)
    omega
