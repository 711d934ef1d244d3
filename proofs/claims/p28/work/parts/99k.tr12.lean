

/-! ===== SUSPECTED alike ===== -/
theorem sp_eq {cT : Nat → ClassId} {cf am : Nat → Nat} {E EM : Nat → va_E} {b q : Int32} {w f f' : Int} (hR : REL cf E EM) (hG : GR cf E EM) (hU : RuRel cf E EM) (hM : IX cT shM spM 72 am EM) (h16 : cf 1 ≤ 16) (h80 : cf 0 ≤ 80) (h20 : cf 2 ≤ 20) (h3 : cf 3 ≤ 300) (h1 : 0 ≤ (xi (E 1) 1).toInt ∧ (xi (E 1) 1).toInt ≤ 16) (hb : 0 ≤ b.toInt ∧ b.toInt < 16) (hq : 0 ≤ q.toInt ∧ q.toInt ≤ 400) (hn : (xi (E 1) 0).toInt = q.toInt) (h : SpR (ctC cf E b.toNatClampNeg q) (dyC E) (rtC cf E b.toNatClampNeg q) (cf 2) w f) (h' : SpR (fun r9 => ctM EM b q r9 ∧ dyM EM r9 ≤ q.toInt) (dyM EM) (rtM EM b q) (xi (EM 0) 46).toNatClampNeg w f') : f = f' := by
  have hN : (xi (EM 0) 46).toNatClampNeg = cf 2 := by
    have h1 := hR.cnt.2.1
    rw [tn_]
    omega
  rw [hN] at h'
  have key : ∀ r, r < cf 2 → ∀ x y, MdC cf E (nI r) q b.toNatClampNeg x → MdM EM b q r y → x.toInt = y.toInt := fun r hr x y hx hy => md_eqr hR hG hU hM h16 h80 h20 h3 h1 hr hb hq hx hy
  have hd : ∀ r, r < cf 2 → dyC E r = dyM EM r := fun r hr => congrArg Int32.toInt (hR.tb2 (6, 1, 13) (by decide) r hr)
  have hdn : ∀ r, r < cf 2 → dyM EM r ≤ q.toInt := fun r hr => by
    have h9 : dyC E r ≤ (xi (E 1) 0).toInt := hR.tn2 (6, 1) (by decide) r hr
    rw [← hd r hr, ← hn]
    exact h9
  have hbn : b.toNatClampNeg < 16 := by
    rw [tn_]
    omega
  refine SpR.un h h' (fun r hr => ⟨?_, ?_⟩) hd (fun r hr hp x x' hx hx' => ?_)
  · rintro ⟨x, k1, k2⟩
    obtain ⟨y, hy⟩ : ∃ y, MdM EM b q r y := MdV.ex
    exact ⟨⟨y, hy, by rw [← key r hr x y k1 hy]; exact k2⟩, hdn r hr⟩
  · rintro ⟨⟨y, k1, k2⟩, -⟩
    obtain ⟨x, hx⟩ : ∃ x, MdC cf E (nI r) q b.toNatClampNeg x := MdV.ex
    exact ⟨x, hx, by rw [key r hr x y hx k1]; exact k2⟩
  · obtain ⟨m, m1, m2, m3⟩ := hx
    obtain ⟨m9, n1, n2, n3⟩ := hx'
    have em : m = m9 := Int32.toInt_inj.mp (key r hr m m9 m1 n1)
    have hi : (nI r).toInt = (r : Int) := nI_toInt (by omega)
    have et : tmC cf E (nI r) q b.toNatClampNeg = tmM EM (nI r) q b.toNatClampNeg := tm_eq hR hU h16 h80 h3 ⟨by omega, by omega⟩ hbn (MdC_ok m1 m2)
    have ew : tmM EM (nI r) q b.toNatClampNeg = tmB EM (nI r) b q := by
      unfold tmM
      rw [nI_tn hb.1]
    rw [m3, n3, em, et, ew]

