

/-! ===== the DRAW alike ===== -/
def CB (cf : Nat → Nat) (E : Nat → va_E) : Prop := ∀ i, i < cf 0 → (xi (E (64 * (i + 1) + 0)) 0).toInt < (xi (E 1) 1).toInt
def REL13 (cf : Nat → Nat) (E EM : Nat → va_E) : Prop := REL6 cf E EM ∧ CB cf E
theorem CB.keep {cf cf' : Nat → Nat} {E E' : Nat → va_E} (h : CB cf E) (hc : cf' 0 = cf 0) (hb : (xi (E 1) 1).toInt ≤ (xi (E' 1) 1).toInt) (hk : ∀ i, i < cf 0 → xi (E' (64 * (i + 1) + 0)) 0 = xi (E (64 * (i + 1) + 0)) 0) : CB cf' E' := fun i hi => by
  rw [hc] at hi
  rw [hk i hi]
  have := h i hi
  omega
theorem CB.push {cf cf' : Nat → Nat} {E E' : Nat → va_E} (h : CB cf E) (hc : cf' 0 = cf 0 + 1) (hb : (xi (E 1) 1).toInt ≤ (xi (E' 1) 1).toInt) (hk : ∀ i, i < cf 0 → xi (E' (64 * (i + 1) + 0)) 0 = xi (E (64 * (i + 1) + 0)) 0) (hn : (xi (E' (64 * (cf 0 + 1) + 0)) 0).toInt < (xi (E' 1) 1).toInt) : CB cf' E' := fun i hi => by
  rw [hc] at hi
  by_cases q : i = cf 0
  · rw [q]
    exact hn
  · rw [hk i (by omega)]
    have := h i (by omega)
    omega
theorem cx_eq {cf : Nat → Nat} {E EM : Nat → va_E} (hR : REL cf E EM) (b : Nat) : cxC cf E b ↔ cxM EM b := by
  have hN : (xi (EM 0) 9).toNatClampNeg = cf 0 := by
    have h1 := hR.cnt.1
    rw [tn_]
    omega
  unfold cxC cxK cxM
  rw [hN]
  constructor
  · rintro ⟨i, h1, h2⟩
    exact ⟨i, h1, (congrArg Int32.toInt (hR.tb0 (0, 0, 1) (by decide) i h1)).symm.trans h2⟩
  · rintro ⟨i, h1, h2⟩
    exact ⟨i, h1, (congrArg Int32.toInt (hR.tb0 (0, 0, 1) (by decide) i h1)).trans h2⟩
theorem dw_eq {cT : Nat → ClassId} {cf am : Nat → Nat} {E EM : Nat → va_E} {q r r' : Int32} {n : Int} {x0 : Int64} (hR : REL cf E EM) (hG : GR cf E EM) (hU : RuRel cf E EM) (hB : CB cf E) (hM : IX cT shM spM 72 am EM) (h16 : cf 1 ≤ 16) (h80 : cf 0 ≤ 80) (h20 : cf 2 ≤ 20) (h3 : cf 3 ≤ 300) (h1 : 0 ≤ (xi (E 1) 1).toInt ∧ (xi (E 1) 1).toInt ≤ 16) (hq : 0 ≤ q.toInt ∧ q.toInt ≤ 400) (h : DwR (cxC cf E) (WdC cf E q) 16 n x0 r) (h' : DwR (cxM EM) (WdM EM q) (xi (EM 0) 8).toNatClampNeg n x0 r') : r = r' := by
  have e8 : (xi (E 1) 1).toInt = (xi (EM 0) 8).toInt := congrArg Int32.toInt hR.boats
  have hk : (xi (EM 0) 8).toNatClampNeg ≤ 16 := by
    rw [tn_]
    omega
  refine DwR.un hk h h' (fun b _ => cx_eq hR b) (fun b h8 h9 => ?_) (fun b hb w w' hw hw' => ?_) (fun b w hw => hw.nn)
  · rintro ⟨i, hi, e⟩
    have h7 := hB i hi
    rw [tn_] at h8
    omega
  · have hi : (nI b).toInt = (b : Int) := nI_toInt (by omega)
    have hn : (nI b).toNatClampNeg = b := by
      rw [tn_, hi]
      omega
    exact hw.un hw' (cx_eq hR b) (num_eq hU hR.ce h16 h80 (nI b) q q) (fun f f' hf hf' => fit_eq (b := nI b) (q := q) hR hG hU hM h16 h80 h20 h3 h1 ⟨by omega, by omega⟩ hq (by rw [hn]; exact hf) hf')

