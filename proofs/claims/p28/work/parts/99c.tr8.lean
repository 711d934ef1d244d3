

/-! ===== CORRECTED and PLACES alike ===== -/
theorem fn_eq {cT : Nat → ClassId} {cf am : Nat → Nat} {E EM : Nat → va_E} {a q : Int32} (hR : REL cf E EM) (hG : GR cf E EM) (hM : IX cT shM spM 72 am EM) (h20 : cf 2 ≤ 20) (h3 : cf 3 ≤ 300) (ha : 0 ≤ a.toInt ∧ a.toInt < ((cf 2 : Nat) : Int)) (hq : 0 ≤ q.toInt ∧ q.toInt ≤ 400) {o : Nat} (ho : o < 16) : CdR cf E a q o 0 ↔ CdM EM a (nI o) q 0 := by
  have hi : (nI o).toInt = (o : Int) := nI_toInt (by omega)
  have hn : (nI o).toNatClampNeg = o := by
    rw [tn_, hi]
    omega
  have hen := pen (n := q.toInt) hR.en hM hq h20 a (nI o) ha (by omega)
  have key : ∀ c c' : Int, CdR cf E a q o c → CdM EM a (nI o) q c' → (entMd EM a.toInt (nI o).toInt q.toInt → c = c') ∧ (¬ entMd EM a.toInt (nI o).toInt q.toInt → c = -1 ∧ c' = 2) := fun c c' h h' => cd_eq (a := a) (b := nI o) (q := q) hR hG h3 ha.1 (by omega) (by omega) hen (by rw [hn]; exact h) h'
  constructor
  · intro h
    obtain ⟨c', h'⟩ := CdM.tot (E := EM) (race := a) (boat := nI o) (q := q)
    by_cases en : entMd EM a.toInt (nI o).toInt q.toInt
    · rw [(key 0 c' h h').1 en]
      exact h'
    · exact absurd ((key 0 c' h h').2 en).1 (by decide)
  · intro h'
    obtain ⟨c, h⟩ := CdR.tot (cf := cf) (E := E) (race := a) (q := q) (b := o)
    by_cases en : entMd EM a.toInt (nI o).toInt q.toInt
    · rw [← (key c 0 h h').1 en]
      exact h
    · exact absurd ((key c 0 h h').2 en).2 (by decide)
theorem tm_eq {cf : Nat → Nat} {E EM : Nat → va_E} {a q : Int32} (hR : REL cf E EM) (hU : RuRel cf E EM) (h16 : cf 1 ≤ 16) (h80 : cf 0 ≤ 80) (h3 : cf 3 ≤ 300) (ha : 0 ≤ a.toInt ∧ a.toInt < ((cf 2 : Nat) : Int)) {o : Nat} (ho : o < 16) (h : CdR cf E a q o 0) : tmC cf E a q o = tmM EM a q o := by
  have hi : (nI o).toInt = (o : Int) := nI_toInt (by omega)
  have haN : a.toNatClampNeg < cf 2 := by
    rw [tn_]
    omega
  have t2 : ∀ j row, (6, j, row) ∈ tb2 → rcS E a.toNatClampNeg j = xi (EM row) a.toNatClampNeg := fun j row hm => hR.tb2 (6, j, row) hm _ haN
  have hl := CdR_0 h
  have hs : xi (E (64 * ((lRC E a (nI o) q (cf 3)).toNatClampNeg + 1) + 12)) 3 = xi (EM 27) (lRM EM a (nI o) q).toNatClampNeg := by
    rw [← lR_eq hR]
    rcases lR_is (a := a) (b := nI o) (q := q) hR h3 ha.1 (by omega) with q1 | ⟨q1, -, -⟩
    · exact absurd q1 hl
    · exact hR.tb3 (12, 3, 27) (by decide) _ q1
  unfold tmC tmM tmB
  rw [hs, t2 1 13 (by decide), t2 2 14 (by decide), t2 3 15 (by decide), num_eq hU hR.ce h16 h80]
theorem fin_boat {cf : Nat → Nat} {E EM : Nat → va_E} {a q : Int32} (hR : REL cf E EM) (h3 : cf 3 ≤ 300) (ha : 0 ≤ a.toInt ∧ a.toInt < ((cf 2 : Nat) : Int)) {o : Nat} (ho : o < 16) (h : CdR cf E a q o 0) : (o : Int) < (xi (E 1) 1).toInt := by
  have hi : (nI o).toInt = (o : Int) := nI_toInt (by omega)
  rcases lR_is (a := a) (b := nI o) (q := q) hR h3 ha.1 (by omega) with q1 | ⟨-, -, q1⟩
  · exact absurd q1 (CdR_0 h)
  · have hn : (nI o).toNatClampNeg = o := by
      rw [tn_, hi]
      omega
    rw [hn] at q1
    have h9 := hR.eb a.toNatClampNeg o (by rw [tn_]; omega) ho
    have h8 : ¬ (xi (E (64 * (a.toNatClampNeg + 1) + 7)) o).toInt = -1 := q1.1
    omega
theorem pl_eq {cT : Nat → ClassId} {cf am : Nat → Nat} {E EM : Nat → va_E} {a q : Int32} (hR : REL cf E EM) (hG : GR cf E EM) (hU : RuRel cf E EM) (hM : IX cT shM spM 72 am EM) (h16 : cf 1 ≤ 16) (h80 : cf 0 ≤ 80) (h20 : cf 2 ≤ 20) (h3 : cf 3 ≤ 300) (h1 : 0 ≤ (xi (E 1) 1).toInt ∧ (xi (E 1) 1).toInt ≤ 16) (ha : 0 ≤ a.toInt ∧ a.toInt < ((cf 2 : Nat) : Int)) (hq : 0 ≤ q.toInt ∧ q.toInt ≤ 400) {b : Nat} (hb : b < 16) (hf : CdR cf E a q b 0) {p p' : Int} (h : PlS (fun o => CdR cf E a q o 0) (tmC cf E a q) 16 b p) (h' : PlS (fun o => CdM EM a (nI o) q 0) (tmM EM a q) (xi (EM 0) 8).toNatClampNeg b p') : p = p' := by
  have hN : (xi (E 1) 1).toNatClampNeg ≤ 16 := by
    rw [tn_]
    omega
  have hT : ∀ o, o < 16 → CdR cf E a q o 0 → tmC cf E a q o = tmM EM a q o := fun o ho hc => tm_eq hR hU h16 h80 h3 ha ho hc
  have hF : ∀ o, o < 16 → (CdR cf E a q o 0 ↔ CdM EM a (nI o) q 0) := fun o ho => fn_eq hR hG hM h20 h3 ha hq ho
  have hB : ∀ o, (xi (E 1) 1).toNatClampNeg ≤ o → o < 16 → ¬ CdR cf E a q o 0 := fun o h2 h3' hc => by
    have h9 := fin_boat hR h3 ha h3' hc
    rw [tn_] at h2
    omega
  rw [← hR.boats] at h'
  obtain ⟨x, y, g1, g2, g3⟩ := h
  obtain ⟨x', y', k1, k2, k3⟩ := h'
  have e1 : x = x' := CnR.un _ x x' (g1.cut hN (fun k h2 h4 z => hB k h2 h4 z.1)) k1 (fun k hk => by
    have hk16 : k < 16 := by omega
    constructor
    · rintro ⟨z1, z2⟩
      exact ⟨(hF k hk16).mp z1, by rw [← hT k hk16 z1, ← hT b hb hf]; exact z2⟩
    · rintro ⟨z1, z2⟩
      have z3 := (hF k hk16).mpr z1
      exact ⟨z3, by rw [hT k hk16 z3, hT b hb hf]; exact z2⟩)
  have e2 : y = y' := CnR.un _ y y' (g2.cut hN (fun k h2 h4 z => hB k h2 h4 z.1)) k2 (fun k hk => by
    have hk16 : k < 16 := by omega
    constructor
    · rintro ⟨z1, z2⟩
      exact ⟨(hF k hk16).mp z1, by rw [← hT k hk16 z1, ← hT b hb hf]; exact z2⟩
    · rintro ⟨z1, z2⟩
      have z3 := (hF k hk16).mpr z1
      exact ⟨z3, by rw [hT k hk16 z3, hT b hb hf]; exact z2⟩)
  omega
theorem CdM_ent {E : Nat → va_E} {race boat q : Int32} (h : CdM E race boat q 0) : entMd E race.toInt boat.toInt q.toInt := Classical.byContradiction (fun z => absurd (h.1 z) (by decide))

