

/-! ===== MIDDLE alike ===== -/
theorem md_eq {cT : Nat → ClassId} {cf am : Nat → Nat} {E EM : Nat → va_E} {a b q r r' : Int32} (hR : REL cf E EM) (hG : GR cf E EM) (hU : RuRel cf E EM) (hM : IX cT shM spM 72 am EM) (h16 : cf 1 ≤ 16) (h80 : cf 0 ≤ 80) (h20 : cf 2 ≤ 20) (h3 : cf 3 ≤ 300) (h1 : 0 ≤ (xi (E 1) 1).toInt ∧ (xi (E 1) 1).toInt ≤ 16) (ha : 0 ≤ a.toInt ∧ a.toInt < ((cf 2 : Nat) : Int)) (hb : 0 ≤ b.toInt ∧ b.toInt < 16) (hq : 0 ≤ q.toInt ∧ q.toInt ≤ 400) (h : MdC cf E a q b.toNatClampNeg r) (h' : MdV (fun o9 => CdM EM a (nI o9) q 0) (tmM EM a q) (xi (EM 0) 8).toNatClampNeg b.toNatClampNeg ((xi (EM 15) a.toNatClampNeg).toInt = 0 ∧ CdM EM a b q 0) r') : r.toInt = r'.toInt := by
  have hbn : b.toNatClampNeg < 16 := by
    rw [tn_]
    omega
  have han : a.toNatClampNeg < cf 2 := by
    rw [tn_]
    omega
  have hF : ∀ o, o < 16 → (CdR cf E a q o 0 ↔ CdM EM a (nI o) q 0) := fun o ho => fn_eq hR hG hM h20 h3 ha hq ho
  have hw : rcS E a.toNatClampNeg 3 = xi (EM 15) a.toNatClampNeg := hR.tb2 (6, 3, 15) (by decide) _ han
  have hbF := hF b.toNatClampNeg hbn
  rw [nI_tn hb.1] at hbF
  rw [← hR.boats] at h'
  exact MdV.un h h' (by rw [tn_]; omega) (by rw [hw, hbF]) hF (fun i hi z => tm_eq hR hU h16 h80 h3 ha hi z) (fun i h2 h4 z => by
    have h9 := fin_boat hR h3 ha h4 z
    rw [tn_] at h2
    omega)

