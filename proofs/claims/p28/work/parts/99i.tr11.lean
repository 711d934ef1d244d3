

/-! ===== FIT alike ===== -/
theorem MR.ex {F : Nat → Prop} {T : Nat → Int32} {sk : Nat} : ∀ k : Nat, ∃ (n : Nat) (g : Nat → Int32), MR F T sk k n g := by
  intro k
  induction k with
  | zero => exact ⟨0, fun _ => 0, rfl⟩
  | succ k ih =>
    obtain ⟨n, g, h⟩ := ih
    by_cases c : ¬ k = sk ∧ F k
    · exact ⟨n + 1, fun i => shf g (T k) n i, h.one c (fun _ _ => rfl) rfl rfl⟩
    · exact ⟨n, g, h.no c rfl⟩
theorem MdV.ex {F : Nat → Prop} {T : Nat → Int32} {K sk : Nat} {ok : Prop} : ∃ r : Int32, MdV F T K sk ok r := by
  have e : (-1000000000 : Int32).toInt = -1000000000 := by decide
  by_cases o : ok
  · obtain ⟨n, g, h⟩ := MR.ex (F := F) (T := T) (sk := sk) K
    by_cases z : n = 0
    · exact ⟨-1000000000, fun w => absurd o w, fun _ => ⟨n, g, h, fun _ => e, fun w => absurd z w⟩⟩
    · exact ⟨g ((n - 1) / 2), fun w => absurd o w, fun _ => ⟨n, g, h, fun w => absurd w z, fun _ => rfl⟩⟩
  · exact ⟨-1000000000, fun _ => e, fun w => absurd w o⟩
theorem md_eqr {cT : Nat → ClassId} {cf am : Nat → Nat} {E EM : Nat → va_E} {b q x y : Int32} {r : Nat} (hR : REL cf E EM) (hG : GR cf E EM) (hU : RuRel cf E EM) (hM : IX cT shM spM 72 am EM) (h16 : cf 1 ≤ 16) (h80 : cf 0 ≤ 80) (h20 : cf 2 ≤ 20) (h3 : cf 3 ≤ 300) (h1 : 0 ≤ (xi (E 1) 1).toInt ∧ (xi (E 1) 1).toInt ≤ 16) (hr : r < cf 2) (hb : 0 ≤ b.toInt ∧ b.toInt < 16) (hq : 0 ≤ q.toInt ∧ q.toInt ≤ 400) (h : MdC cf E (nI r) q b.toNatClampNeg x) (h' : MdM EM b q r y) : x.toInt = y.toInt := by
  have hi : (nI r).toInt = (r : Int) := nI_toInt (by omega)
  exact md_eq (a := nI r) (b := b) (q := q) hR hG hU hM h16 h80 h20 h3 h1 ⟨by omega, by omega⟩ hb hq h h'
theorem fit_eq {cT : Nat → ClassId} {cf am : Nat → Nat} {E EM : Nat → va_E} {b q : Int32} {f f' : Int} (hR : REL cf E EM) (hG : GR cf E EM) (hU : RuRel cf E EM) (hM : IX cT shM spM 72 am EM) (h16 : cf 1 ≤ 16) (h80 : cf 0 ≤ 80) (h20 : cf 2 ≤ 20) (h3 : cf 3 ≤ 300) (h1 : 0 ≤ (xi (E 1) 1).toInt ∧ (xi (E 1) 1).toInt ≤ 16) (hb : 0 ≤ b.toInt ∧ b.toInt < 16) (hq : 0 ≤ q.toInt ∧ q.toInt ≤ 400) (h : FtR (ctC cf E b.toNatClampNeg q) (ftC cf E b.toNatClampNeg q) (cf 2) f) (h' : FtR (fun r9 => ∃ x9 : Int32, MdM EM b q r9 x9 ∧ ¬ x9.toInt = -1000000000) (fun v9 r9 x9 => ∃ s9 m9 : Int32, (MdM EM b q r9 m9 ∧ ¬ m9.toInt = -1000000000 ∧ s9 = xi (EM 27) (lRM EM (nI r9) b q).toNatClampNeg) ∧ x9 = tFt s9 m9 v9) (xi (EM 0) 46).toNatClampNeg f') : f = f' := by
  have hN : (xi (EM 0) 46).toNatClampNeg = cf 2 := by
    have h1 := hR.cnt.2.1
    rw [tn_]
    omega
  rw [hN] at h'
  have key : ∀ r, r < cf 2 → ∀ x y, MdC cf E (nI r) q b.toNatClampNeg x → MdM EM b q r y → x.toInt = y.toInt := fun r hr x y hx hy => md_eqr hR hG hU hM h16 h80 h20 h3 h1 hr hb hq hx hy
  refine FtR.un h h' (fun r hr => ⟨?_, ?_⟩) (fun v _ _ r hr hp x x' hx hx' => ?_)
  · rintro ⟨x, k1, k2⟩
    obtain ⟨y, hy⟩ : ∃ y, MdM EM b q r y := MdV.ex
    exact ⟨y, hy, by rw [← key r hr x y k1 hy]; exact k2⟩
  · rintro ⟨y, k1, k2⟩
    obtain ⟨x, hx⟩ : ∃ x, MdC cf E (nI r) q b.toNatClampNeg x := MdV.ex
    exact ⟨x, hx, by rw [key r hr x y hx k1]; exact k2⟩
  · obtain ⟨m, m1, m2, m3⟩ := hx
    obtain ⟨s9, m9, ⟨n1, n2, n3⟩, n4⟩ := hx'
    have em : m = m9 := Int32.toInt_inj.mp (key r hr m m9 m1 n1)
    have hi : (nI r).toInt = (r : Int) := nI_toInt (by omega)
    have hl := CdR_0 (MdC_ok m1 m2)
    rw [nI_tn hb.1] at hl
    have es : scC cf E b.toNatClampNeg q r = s9 := by
      unfold scC
      rw [nI_tn hb.1, n3, ← lR_eq hR]
      rcases lR_is (a := nI r) (b := b) (q := q) hR h3 (by omega) hb.1 with q1 | ⟨q1, -, -⟩
      · exact absurd q1 hl
      · exact hR.tb3 (12, 3, 27) (by decide) _ q1
    rw [m3, n4, em, es]

