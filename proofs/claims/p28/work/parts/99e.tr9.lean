

/-! ===== POINTS alike ===== -/
theorem red_eq {cf : Nat → Nat} {E EM : Nat → va_E} {i b : Nat} {q : Int} (hR : REL cf E EM) (hi : i < cf 2) (hb : b < 16) (ht : ∀ k : Nat, (k : Int) < (xi (EM 0) 48).toInt → 0 ≤ (xi (EM 31) k).toInt) : redC E b q i ↔ redM EM (i : Int) (b : Int) q := by
  obtain ⟨h1, h2⟩ := hR.rd i b hi hb
  constructor
  · rintro ⟨z1, z2⟩
    obtain ⟨⟨k, k1, k2, k3⟩, -⟩ := h2 z1
    have h4 := h1 k k1 k2 k3
    exact ⟨k, k1, k2, k3, by omega⟩
  · rintro ⟨k, k1, k2, k3, k4⟩
    have h4 := h1 k k1 k2 k3
    have h5 := ht k k1
    exact ⟨by omega, by omega⟩
theorem entC_cn {g : Nat → Int32} {q : Int} : ∀ n : Nat, CnR (fun o => ¬ (g o).toInt = -1 ∧ (g o).toInt ≤ q) n ((entC g q n : Nat) : Int) := by
  intro n
  induction n with
  | zero => rfl
  | succ n ih =>
    by_cases c : ¬ (g n).toInt = -1 ∧ (g n).toInt ≤ q
    · exact ih.one c (by rw [entC_1 c]; omega) rfl
    · exact ih.no c (by rw [entC_0 c]) rfl
theorem CdM_nn {cT : Nat → ClassId} {cf am : Nat → Nat} {E EM : Nat → va_E} {a b q : Int32} {c : Int} (hR : REL cf E EM) (hM : IX cT shM spM 72 am EM) (h3 : cf 3 ≤ 300) (ha : 0 ≤ a.toInt) (hb : 0 ≤ b.toInt) (h : CdM EM a b q c) : 0 ≤ c := by
  by_cases e : entMd EM a.toInt b.toInt q.toInt
  · by_cases o : OutMx EM a.toInt b.toInt q.toInt
    · rw [(h.2 e).1 o]
      decide
    · by_cases z : (lRM EM a b q).toInt = -1
      · rw [((h.2 e).2 o).1 z]
        decide
      · rw [((h.2 e).2 o).2 z]
        have hz := z
        rw [← lR_eq hR] at hz
        rcases lR_is (q := q) hR h3 ha hb with q1 | ⟨q1, -, -⟩
        · exact absurd q1 hz
        · rw [lR_eq hR] at q1
          have h9 : (0 : Int) ≤ (xi (EM 26) (lRM EM a b q).toNatClampNeg).toInt ∧ (xi (EM 26) (lRM EM a b q).toNatClampNeg).toInt ≤ 4 := hM.iv 26 (Nat.le_of_ble_eq_true rfl) rfl (show (lRM EM a b q).toNatClampNeg < 300 by omega) rfl
          exact h9.1
  · rw [h.1 e]
    decide
theorem pp_eq {cT : Nat → ClassId} {cf am : Nat → Nat} {E EM : Nat → va_E} {a b q : Int32} (hR : REL cf E EM) (hG : GR cf E EM) (hU : RuRel cf E EM) (hM : IX cT shM spM 72 am EM) (h16 : cf 1 ≤ 16) (h80 : cf 0 ≤ 80) (h20 : cf 2 ≤ 20) (h3 : cf 3 ≤ 300) (h1 : 0 ≤ (xi (E 1) 1).toInt ∧ (xi (E 1) 1).toInt ≤ 16) (ha : 0 ≤ a.toInt ∧ a.toInt < ((cf 2 : Nat) : Int)) (hb : 0 ≤ b.toInt ∧ b.toInt < 16) (hq : 0 ≤ q.toInt ∧ q.toInt ≤ 400) {p p' : Int} (h : PpC cf E a q b.toNatClampNeg p) (h' : PpM EM a b q p') : p = p' := by
  have hbn : b.toNatClampNeg < 16 := by
    rw [tn_]
    omega
  have han : a.toNatClampNeg < cf 2 := by
    rw [tn_]
    omega
  have hN : (xi (E 1) 1).toNatClampNeg ≤ 16 := by
    rw [tn_]
    omega
  obtain ⟨c, pl, f, c1, c2, c3, c4, c5⟩ := h
  obtain ⟨c', pl', e', f', m1, m2, m3, m4, m5, m6⟩ := h'
  have hen := pen (n := q.toInt) hR.en hM hq h20 a b ha hb
  have key := cd_eq (a := a) (b := b) (q := q) hR hG h3 ha.1 hb.1 (by omega) hen c1 m1
  have hnn := CdM_nn hR hM h3 ha.1 hb.1 m1
  have hc : (if c = -1 then 2 else c) = c' := by
    by_cases en : entMd EM a.toInt b.toInt q.toInt
    · have h9 := key.1 en
      rw [if_neg (by omega)]
      exact h9
    · have h9 := key.2 en
      rw [if_pos h9.1]
      exact h9.2.symm
  have hc0 : c = 0 ↔ c' = 0 := by
    by_cases en : entMd EM a.toInt b.toInt q.toInt
    · have h9 := key.1 en
      omega
    · have h9 := key.2 en
      omega
  have hpl : pl = pl' := by
    by_cases z : c = 0
    · have z' := hc0.mp z
      subst z
      exact pl_eq hR hG hU hM h16 h80 h20 h3 h1 ha hq hbn c1 (c2 rfl) (m2 z')
    · rw [c3 z, m3 (fun w => z (hc0.mpr w))]
  have hF : ∀ o, o < 16 → (CdR cf E a q o 0 ↔ CdM EM a (nI o) q 0) := fun o ho => fn_eq hR hG hM h20 h3 ha hq ho
  have hf : f = f' := by
    rw [← hR.boats] at m5
    exact CnR.un _ f f' (c4.cut hN (fun k h2 h4 z => by
      have h9 := fin_boat hR h3 ha h4 z
      rw [tn_] at h2
      omega)) m5 (fun k hk => hF k (by omega))
  have he : ((entC (xi (E (64 * (a.toNatClampNeg + 1) + 7))) q.toInt 16 : Nat) : Int) = e' := by
    rw [← hR.boats] at m4
    refine CnR.un _ _ e' ((entC_cn (g := xi (E (64 * (a.toNatClampNeg + 1) + 7))) (q := q.toInt) 16).cut hN (fun k h2 h4 z => ?_)) m4 (fun k hk => ?_)
    · have h9 := hR.eb a.toNatClampNeg k han h4
      have h8 := z.1
      rw [tn_] at h2
      omega
    · have hi : (nI k).toInt = (k : Int) := nI_toInt (by omega)
      have hn : (nI k).toNatClampNeg = k := by
        rw [tn_, hi]
        omega
      have h9 := pen (n := q.toInt) hR.en hM hq h20 a (nI k) ha (by omega)
      rw [hn, hi] at h9
      exact h9
  have hd : rcS E a.toNatClampNeg 1 = xi (EM 13) a.toNatClampNeg := hR.tb2 (6, 1, 13) (by decide) _ han
  rw [c5, m6, hc, hpl, hf, he, hd, hU.wv h16 (by decide)]
theorem pt_eq {cT : Nat → ClassId} {cf am : Nat → Nat} {E EM : Nat → va_E} {a b q : Int32} (hR : REL cf E EM) (hG : GR cf E EM) (hU : RuRel cf E EM) (hM : IX cT shM spM 72 am EM) (h16 : cf 1 ≤ 16) (h80 : cf 0 ≤ 80) (h20 : cf 2 ≤ 20) (h3 : cf 3 ≤ 300) (h1 : 0 ≤ (xi (E 1) 1).toInt ∧ (xi (E 1) 1).toInt ≤ 16) (ha : 0 ≤ a.toInt ∧ a.toInt < ((cf 2 : Nat) : Int)) (hb : 0 ≤ b.toInt ∧ b.toInt < 16) (hq : 0 ≤ q.toInt ∧ q.toInt ≤ 400) (ht : ∀ k : Nat, (k : Int) < (xi (EM 0) 48).toInt → 0 ≤ (xi (EM 31) k).toInt) {p p' : Int} (h : PtC cf E a q b.toNatClampNeg p) (h' : PtM EM a b q p') : p = p' := by
  have hbn : b.toNatClampNeg < 16 := by
    rw [tn_]
    omega
  have han : a.toNatClampNeg < cf 2 := by
    rw [tn_]
    omega
  have ta : ((a.toNatClampNeg : Nat) : Int) = a.toInt := by
    rw [tn_]
    omega
  have tb : ((b.toNatClampNeg : Nat) : Int) = b.toInt := by
    rw [tn_]
    omega
  have hN : (xi (EM 0) 46).toNatClampNeg = cf 2 := by
    have h1 := hR.cnt.2.1
    rw [tn_]
    omega
  have hr := red_eq (q := q.toInt) hR han hbn ht
  rw [ta, tb] at hr
  by_cases r : redC E b.toNatClampNeg q.toInt a.toNatClampNeg
  · obtain ⟨n, s, m, k1, k2, k3, k4⟩ := h.2 r
    obtain ⟨s', m', g1, g2, g3⟩ := h'.2 (hr.mp r)
    rw [hN] at g1 g2
    have hbd := CnR.bd (cf 2) n k1
    have pre := CnR.pre (cf 2) n k1 (fun i k hik hk z => by
      have h9 := hR.rmo i k hik hk
      have z1 : (rcS E k 0).toInt ≤ q.toInt := z
      show (rcS E i 0).toInt ≤ q.toInt
      exact Int.le_trans h9 z1)
    have pq : ∀ k, k < cf 2 → ((¬ (k : Int) = a.toInt ∧ ¬ redC E b.toNatClampNeg q.toInt k) ∧ (rcS E k 0).toInt ≤ q.toInt ↔ PMr EM a b q k) := fun k hk => by
      have h9 := red_eq (q := q.toInt) hR hk hbn ht
      rw [tb] at h9
      have h8 : rcS E k 0 = xi (EM 20) k := hR.tb2 (6, 0, 20) (by decide) k hk
      unfold PMr
      rw [h9, h8]
      constructor
      · rintro ⟨⟨z1, z2⟩, z3⟩
        exact ⟨z1, z3, z2⟩
      · rintro ⟨z1, z3, z2⟩
        exact ⟨⟨z1, z2⟩, z3⟩
    have hin : ∀ k, k < n.toNat → (rcS E k 0).toInt ≤ q.toInt := fun k hk => (pre k (by omega)).mpr (by omega)
    have hout : ∀ k, n.toNat ≤ k → k < n.toNat + (cf 2 - n.toNat) → ¬ ((¬ (k : Int) = a.toInt ∧ ¬ redC E b.toNatClampNeg q.toInt k) ∧ (rcS E k 0).toInt ≤ q.toInt) := fun k h2 h4 z => by
      have h9 := (pre k (by omega)).mp z.2
      omega
    have hcf : n.toNat + (cf 2 - n.toNat) = cf 2 := by omega
    have s1 : SmR (fun k => (¬ (k : Int) = a.toInt ∧ ¬ redC E b.toNatClampNeg q.toInt k) ∧ (rcS E k 0).toInt ≤ q.toInt) (fun o v => PpC cf E (nI o) q b.toNatClampNeg v) (n.toNat + (cf 2 - n.toNat)) s := (k2.cg n.toNat s (fun k hk => ⟨fun z => ⟨z, hin k hk⟩, fun z => z.1⟩) (fun _ _ _ _ hv => hv)).ext _ hout
    have m1 : CnR (fun k => (¬ (k : Int) = a.toInt ∧ ¬ redC E b.toNatClampNeg q.toInt k) ∧ (rcS E k 0).toInt ≤ q.toInt) (n.toNat + (cf 2 - n.toNat)) m := (k3.cg n.toNat m (fun k hk => ⟨fun z => ⟨z, hin k hk⟩, fun z => z.1⟩)).ext _ hout
    rw [hcf] at s1 m1
    have es : s = s' := SmR.un (cf 2) s s' s1 g1 pq (fun k hk _ v v' hv hv' => by
      have hi : (nI k).toInt = (k : Int) := nI_toInt (by omega)
      exact pp_eq hR hG hU hM h16 h80 h20 h3 h1 (by omega) hb hq hv hv')
    have em : m = m' := CnR.un (cf 2) m m' m1 g2 pq
    rw [k4, g3, es, em]
  · exact pp_eq hR hG hU hM h16 h80 h20 h3 h1 ha hb hq (h.1 r) (h'.1 (fun z => r (hr.mpr z)))

