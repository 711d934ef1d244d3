

/-! ===== SCORES alike ===== -/
theorem CdM.ex {E : Nat → va_E} {a b q : Int32} : ∃ c : Int, CdM E a b q c := by
  unfold CdM
  by_cases e : entMd E a.toInt b.toInt q.toInt
  · by_cases o : OutMx E a.toInt b.toInt q.toInt
    · exact ⟨5, fun z => absurd e z, fun _ => ⟨fun _ => rfl, fun z => absurd o z⟩⟩
    · by_cases z : (lRM E a b q).toInt = -1
      · exact ⟨2, fun w => absurd e w, fun _ => ⟨fun w => absurd w o, fun _ => ⟨fun _ => rfl, fun w => absurd z w⟩⟩⟩
      · exact ⟨_, fun w => absurd e w, fun _ => ⟨fun w => absurd w o, fun _ => ⟨fun w => absurd w z, fun _ => rfl⟩⟩⟩
  · exact ⟨2, fun _ => rfl, fun w => absurd w e⟩
theorem sn_eq {cT : Nat → ClassId} {cf am : Nat → Nat} {E EM : Nat → va_E} {r b : Nat} {q : Int32} (hR : REL cf E EM) (hG : GR cf E EM) (hU : RuRel cf E EM) (hM : IX cT shM spM 72 am EM) (h16 : cf 1 ≤ 16) (h80 : cf 0 ≤ 80) (h20 : cf 2 ≤ 20) (h3 : cf 3 ≤ 300) (h1 : 0 ≤ (xi (E 1) 1).toInt ∧ (xi (E 1) 1).toInt ≤ 16) (hr : r < cf 2) (hb : b < 16) (hq : 0 ≤ q.toInt ∧ q.toInt ≤ 400) : ScN cf E (nI r) q b ↔ entMd EM ((r : Nat) : Int) ((b : Nat) : Int) q.toInt := by
  have ir : (nI r).toInt = (r : Int) := nI_toInt (by omega)
  have ib : (nI b).toInt = (b : Int) := nI_toInt (by omega)
  have nb : (nI b).toNatClampNeg = b := by
    rw [tn_, ib]
    omega
  have hen := pen (n := q.toInt) hR.en hM hq h20 (nI r) (nI b) (by omega) (by omega)
  obtain ⟨c', hc'⟩ : ∃ c : Int, CdM EM (nI r) (nI b) q c := CdM.ex
  obtain ⟨c, hc⟩ : ∃ c : Int, CdR cf E (nI r) q b c := CdR.tot
  have key := cd_eq (a := nI r) (b := nI b) (q := q) hR hG h3 (by omega) (by omega) (by omega) hen (by rw [nb]; exact hc) hc'
  have hnn := CdM_nn hR hM h3 (by omega) (by omega) hc'
  rw [ir, ib] at key
  constructor
  · rintro ⟨c9, h8, h9⟩
    by_cases en : entMd EM ((r : Nat) : Int) ((b : Nat) : Int) q.toInt
    · exact en
    · exact absurd ((CdR.fn h8 hc).trans (key.2 en).1) h9
  · intro en
    have h9 := key.1 en
    exact ⟨c, hc, by omega⟩
theorem CnR.lt16 {P : Nat → Prop} {k : Nat} : ∀ {n : Nat}, n ≤ 16 → k < n → CnR P n 16 → ¬ ¬ P k := by
  have al : ∀ n : Nat, CnR P n (n : Int) → ∀ k, k < n → P k := by
    intro n
    induction n with
    | zero => exact fun _ k hk => absurd hk (Nat.not_lt_zero k)
    | succ n ih =>
      intro h k hk
      rcases h with ⟨h1, h2⟩ | ⟨-, h2⟩
      · rw [show ((n + 1 : Nat) : Int) - 1 = (n : Int) by omega] at h2
        by_cases q : k = n
        · rw [q]
          exact h1
        · exact ih h2 k (by omega)
      · have := CnR.bd n _ h2
        omega
  intro n hn hk h z
  have hb := CnR.bd n _ h
  have e : n = 16 := by omega
  subst e
  exact z (al 16 h k hk)
theorem ta_eq {cT : Nat → ClassId} {cf am : Nat → Nat} {E EM : Nat → va_E} {q K K' o o' : Int32} {P T S O P' T' S' O' : Nat → Int32} (hR : REL cf E EM) (hG : GR cf E EM) (hU : RuRel cf E EM) (hM : IX cT shM spM 72 am EM) (h16 : cf 1 ≤ 16) (h80 : cf 0 ≤ 80) (h20 : cf 2 ≤ 20) (h3 : cf 3 ≤ 300) (h1 : 0 ≤ (xi (E 1) 1).toInt ∧ (xi (E 1) 1).toInt ≤ 16) (ht : ∀ k : Nat, (k : Int) < (xi (EM 0) 48).toInt → 0 ≤ (xi (EM 31) k).toInt) (hq : 0 ≤ q.toInt ∧ q.toInt ≤ 400) (h : TaX cf E q K o P T S O) (h' : TaM EM q K' o' P' T' S' O') : K = K' ∧ (∀ k, k < cf 2 → ((xi (EM 20) k).toInt ≤ q.toInt ↔ (k : Int) < K.toInt)) ∧ ScE (xi (E 1) 1).toNatClampNeg K.toNatClampNeg P T S O P' T' S' O' := by
  obtain ⟨c1, c2, c3, c4⟩ := h
  obtain ⟨⟨m1, m2, m3⟩, m4, m5⟩ := h'
  have tq : ∀ k, k < cf 2 → (rcS E k 0).toInt = (xi (EM 20) k).toInt := fun k hk => congrArg Int32.toInt (hR.tb2 (6, 0, 20) (by decide) k hk)
  have hc2 := hR.cnt.2.1
  have pre := CnR.pre (cf 2) _ c1 (fun i k hik hk z => by
    have h9 := hR.rmo i k hik hk
    have z1 : (rcS E k 0).toInt ≤ q.toInt := z
    show (rcS E i 0).toInt ≤ q.toInt
    exact Int.le_trans h9 z1)
  have pre' : ∀ k, k < cf 2 → ((xi (EM 20) k).toInt ≤ q.toInt ↔ (k : Int) < K.toInt) := fun k hk => by
    rw [← tq k hk]
    exact pre k hk
  have eK : K = K' := Int32.toInt_inj.mp (by
    rcases Int.lt_trichotomy K.toInt K'.toInt with z | z | z
    · exfalso
      have h9 := m2 K.toNatClampNeg (by rw [tn_]; omega)
      have h8 := (pre' K.toNatClampNeg (by rw [tn_]; omega)).mp h9
      rw [tn_] at h8
      omega
    · exact z
    · exfalso
      rcases m3 with y | y
      · omega
      · exact y ((pre' K'.toNatClampNeg (by rw [tn_]; omega)).mpr (by rw [tn_]; omega)))
  subst eK
  have eo : o = o' := Int32.toInt_inj.mp (by
    rw [c3, m4, hU.wv h16 (by decide)]
    omega)
  subst eo
  rw [← hR.boats] at m5
  refine ⟨rfl, pre', ScA.un c4 m5 (fun r b hr hb x y hx hy => ?_) (fun b hb => ?_)⟩
  · have hr2 : r < cf 2 := by
      rw [tn_] at hr
      omega
    have hb2 : b < 16 := by
      rw [tn_] at hb
      omega
    have ir : (nI r).toInt = (r : Int) := nI_toInt (by omega)
    have ib : (nI b).toInt = (b : Int) := nI_toInt (by omega)
    have nb : (nI b).toNatClampNeg = b := by
      rw [tn_, ib]
      omega
    have hx2 : PtC cf E (nI r) q b x := hx
    exact pt_eq (a := nI r) (b := nI b) (q := q) hR hG hU hM h16 h80 h20 h3 h1 (by omega) (by omega) hq ht (by rw [nb]; exact hx2) hy
  · have hb2 : b < 16 := by
      rw [tn_] at hb
      omega
    constructor
    · rintro ⟨r, k1, k2⟩
      exact ⟨r, k1, (sn_eq hR hG hU hM h16 h80 h20 h3 h1 (by rw [tn_] at k1; omega) hb2 hq).mp k2⟩
    · rintro ⟨r, k1, k2⟩
      exact ⟨r, k1, (sn_eq hR hG hU hM h16 h80 h20 h3 h1 (by rw [tn_] at k1; omega) hb2 hq).mpr k2⟩
theorem thr_eq {cT : Nat → ClassId} {cf am : Nat → Nat} {E EM : Nat → va_E} {a0 a1 a2 r1 r2 : Int32} (hR : REL cf E EM) (hG : GR cf E EM) (hU : RuRel cf E EM) (hM : IX cT shM spM 72 am EM) (h16 : cf 1 ≤ 16) (h80 : cf 0 ≤ 80) (h20 : cf 2 ≤ 20) (h3 : cf 3 ≤ 300) (h1 : 0 ≤ (xi (E 1) 1).toInt ∧ (xi (E 1) 1).toInt ≤ 16) (ht : ∀ k : Nat, (k : Int) < (xi (EM 0) 48).toInt → 0 ≤ (xi (EM 31) k).toInt) (hn : 0 ≤ (xi (E 1) 0).toInt ∧ (xi (E 1) 0).toInt ≤ 400) (p1 : (((0 ≤ a2.toInt ∧ a2.toInt ≤ (xi (E 1) 0).toInt) ∧ (0 ≤ a0.toInt ∧ a0.toInt < ((cf 2 : Nat) : Int)) ∧ (xi (E (64 * (a0.toNatClampNeg + 1) + 6)) 0).toInt ≤ a2.toInt) ∧ (0 ≤ a1.toInt ∧ a1.toInt < (xi (E 1) 1).toInt)) → ∃ (K9 o9 : Int32) (P9 T9 S9 O9 : Nat → Int32), TaX cf E a2 K9 o9 P9 T9 S9 O9 ∧ ((S9 a1.toNatClampNeg).toInt = 1 → r1 = T9 (16 * a0.toNatClampNeg + a1.toNatClampNeg)) ∧ (¬ (S9 a1.toNatClampNeg).toInt = 1 → r1 = -1)) (p2 : ¬ (((0 ≤ a2.toInt ∧ a2.toInt ≤ (xi (E 1) 0).toInt) ∧ (0 ≤ a0.toInt ∧ a0.toInt < ((cf 2 : Nat) : Int)) ∧ (xi (E (64 * (a0.toNatClampNeg + 1) + 6)) 0).toInt ≤ a2.toInt) ∧ (0 ≤ a1.toInt ∧ a1.toInt < (xi (E 1) 1).toInt)) → r1 = -1) (n1 : (0 ≤ a2.toInt ∧ a2.toInt ≤ (xi (EM 0) 1).toInt) → ∃ (K9 o9 : Int32) (P9 T9 S9 O9 : Nat → Int32), TaM EM a2 K9 o9 P9 T9 S9 O9 ∧ (((0 ≤ a0.toInt ∧ a0.toInt < K9.toInt) ∧ (0 ≤ a1.toInt ∧ a1.toInt < (xi (EM 0) 8).toInt) ∧ (S9 a1.toNatClampNeg).toInt = 1) → r2 = T9 (16 * a0.toNatClampNeg + a1.toNatClampNeg)) ∧ (¬ ((0 ≤ a0.toInt ∧ a0.toInt < K9.toInt) ∧ (0 ≤ a1.toInt ∧ a1.toInt < (xi (EM 0) 8).toInt) ∧ (S9 a1.toNatClampNeg).toInt = 1) → r2 = -1)) (n2 : ¬ (0 ≤ a2.toInt ∧ a2.toInt ≤ (xi (EM 0) 1).toInt) → r2 = -1) : r1 = r2 := by
  have e0 : (xi (E 1) 0).toInt = (xi (EM 0) 1).toInt := congrArg Int32.toInt hR.now
  have e1 : (xi (E 1) 1).toInt = (xi (EM 0) 8).toInt := congrArg Int32.toInt hR.boats
  have hc2 := hR.cnt.2.1
  have tq : 0 ≤ a0.toInt ∧ a0.toInt < ((cf 2 : Nat) : Int) → (xi (E (64 * (a0.toNatClampNeg + 1) + 6)) 0).toInt = (xi (EM 20) a0.toNatClampNeg).toInt := fun z => congrArg Int32.toInt (hR.tb2 (6, 0, 20) (by decide) a0.toNatClampNeg (by rw [tn_]; omega))
  by_cases kq : 0 ≤ a2.toInt ∧ a2.toInt ≤ (xi (E 1) 0).toInt
  · obtain ⟨K', o', P', T', S', O', t', y1, y2⟩ := n1 (by omega)
    by_cases g : ((0 ≤ a2.toInt ∧ a2.toInt ≤ (xi (E 1) 0).toInt) ∧ (0 ≤ a0.toInt ∧ a0.toInt < ((cf 2 : Nat) : Int)) ∧ (xi (E (64 * (a0.toNatClampNeg + 1) + 6)) 0).toInt ≤ a2.toInt) ∧ (0 ≤ a1.toInt ∧ a1.toInt < (xi (E 1) 1).toInt)
    · obtain ⟨K, o, P, T, S, O, t, x1, x2⟩ := p1 g
      obtain ⟨eK, pr, se⟩ := ta_eq hR hG hU hM h16 h80 h20 h3 h1 ht (by omega) t t'
      subst eK
      have hb : a1.toNatClampNeg < (xi (E 1) 1).toNatClampNeg := by
        rw [tn_, tn_]
        omega
      have hk : (a0.toNatClampNeg : Int) < K.toInt := (pr a0.toNatClampNeg (by rw [tn_]; omega)).mp (by
        have := tq (by omega)
        omega)
      have ha : a0.toInt < K.toInt := by
        rw [tn_] at hk
        omega
      obtain ⟨s1, s2, -⟩ := se a1.toNatClampNeg hb
      by_cases c : (S a1.toNatClampNeg).toInt = 1
      · rw [x1 c, y1 ⟨by omega, by omega, s2.mp c⟩]
        exact (s1 a0.toNatClampNeg (by rw [tn_, tn_]; omega)).2
      · rw [x2 c, y2 (fun z => c (s2.mpr z.2.2))]
    · obtain ⟨⟨u1, u2, -⟩, -⟩ := t'
      have y3 := y2 (fun z => by
        have h9 := u2 a0.toNatClampNeg (by rw [tn_]; omega)
        have h8 := tq (by omega)
        exact g (by omega))
      rw [p2 g, y3]
  · rw [p2 (fun z => kq (by omega)), n2 (fun z => kq (by omega))]
theorem tot_eq {cT : Nat → ClassId} {cf am : Nat → Nat} {E EM : Nat → va_E} {a0 a1 r1 r2 : Int32} (hR : REL cf E EM) (hG : GR cf E EM) (hU : RuRel cf E EM) (hM : IX cT shM spM 72 am EM) (h16 : cf 1 ≤ 16) (h80 : cf 0 ≤ 80) (h20 : cf 2 ≤ 20) (h3 : cf 3 ≤ 300) (h1 : 0 ≤ (xi (E 1) 1).toInt ∧ (xi (E 1) 1).toInt ≤ 16) (ht : ∀ k : Nat, (k : Int) < (xi (EM 0) 48).toInt → 0 ≤ (xi (EM 31) k).toInt) (hn : 0 ≤ (xi (E 1) 0).toInt ∧ (xi (E 1) 0).toInt ≤ 400) (p1 : ((0 ≤ a0.toInt ∧ a0.toInt < (xi (E 1) 1).toInt) ∧ (0 ≤ a1.toInt ∧ a1.toInt ≤ (xi (E 1) 0).toInt)) → ∃ (K9 o9 : Int32) (P9 T9 S9 O9 : Nat → Int32), TaX cf E a1 K9 o9 P9 T9 S9 O9 ∧ ((S9 a0.toNatClampNeg).toInt = 1 → r1 = O9 a0.toNatClampNeg) ∧ (¬ (S9 a0.toNatClampNeg).toInt = 1 → r1 = -1)) (p2 : ¬ ((0 ≤ a0.toInt ∧ a0.toInt < (xi (E 1) 1).toInt) ∧ (0 ≤ a1.toInt ∧ a1.toInt ≤ (xi (E 1) 0).toInt)) → r1 = -1) (n1 : (0 ≤ a1.toInt ∧ a1.toInt ≤ (xi (EM 0) 1).toInt) → ∃ (K9 o9 : Int32) (P9 T9 S9 O9 : Nat → Int32), TaM EM a1 K9 o9 P9 T9 S9 O9 ∧ (((0 ≤ a0.toInt ∧ a0.toInt < (xi (EM 0) 8).toInt) ∧ (S9 a0.toNatClampNeg).toInt = 1) → r2 = O9 a0.toNatClampNeg) ∧ (¬ ((0 ≤ a0.toInt ∧ a0.toInt < (xi (EM 0) 8).toInt) ∧ (S9 a0.toNatClampNeg).toInt = 1) → r2 = -1)) (n2 : ¬ (0 ≤ a1.toInt ∧ a1.toInt ≤ (xi (EM 0) 1).toInt) → r2 = -1) : r1 = r2 := by
  have e0 : (xi (E 1) 0).toInt = (xi (EM 0) 1).toInt := congrArg Int32.toInt hR.now
  have e1 : (xi (E 1) 1).toInt = (xi (EM 0) 8).toInt := congrArg Int32.toInt hR.boats
  have hc2 := hR.cnt.2.1
  by_cases kq : 0 ≤ a1.toInt ∧ a1.toInt ≤ (xi (E 1) 0).toInt
  · obtain ⟨K', o', P', T', S', O', t', y1, y2⟩ := n1 (by omega)
    by_cases g : 0 ≤ a0.toInt ∧ a0.toInt < (xi (E 1) 1).toInt
    · obtain ⟨K, o, P, T, S, O, t, x1, x2⟩ := p1 ⟨by omega, by omega⟩
      obtain ⟨eK, pr, se⟩ := ta_eq hR hG hU hM h16 h80 h20 h3 h1 ht (by omega) t t'
      subst eK
      obtain ⟨-, s2, s3⟩ := se a0.toNatClampNeg (by rw [tn_, tn_]; omega)
      by_cases c : (S a0.toNatClampNeg).toInt = 1
      · rw [x1 c, y1 ⟨by omega, s2.mp c⟩]
        exact Int32.toInt_inj.mp s3
      · rw [x2 c, y2 (fun z => c (s2.mpr z.2))]
    · rw [p2 (fun z => g (by omega)), y2 (fun z => g (by omega))]
  · rw [p2 (fun z => kq (by omega)), n2 (fun z => kq (by omega))]
theorem rnk_eq {cT : Nat → ClassId} {cf am : Nat → Nat} {E EM : Nat → va_E} {a0 a1 r1 r2 : Int32} (hR : REL cf E EM) (hG : GR cf E EM) (hU : RuRel cf E EM) (hM : IX cT shM spM 72 am EM) (h16 : cf 1 ≤ 16) (h80 : cf 0 ≤ 80) (h20 : cf 2 ≤ 20) (h3 : cf 3 ≤ 300) (h1 : 0 ≤ (xi (E 1) 1).toInt ∧ (xi (E 1) 1).toInt ≤ 16) (ht : ∀ k : Nat, (k : Int) < (xi (EM 0) 48).toInt → 0 ≤ (xi (EM 31) k).toInt) (hn : 0 ≤ (xi (E 1) 0).toInt ∧ (xi (E 1) 0).toInt ≤ 400) (p1 : ((0 ≤ a0.toInt ∧ a0.toInt ≤ 15) ∧ (0 ≤ a1.toInt ∧ a1.toInt ≤ (xi (E 1) 0).toInt)) → ∃ (K9 o9 : Int32) (P9 T9 S9 O9 : Nat → Int32), TaX cf E a1 K9 o9 P9 T9 S9 O9 ∧ RkR (fun b9 : Nat => (S9 b9).toInt = 1) (fun x9 y9 : Nat => BtP P9 T9 O9 K9.toNatClampNeg x9 y9) (xi (E 1) 1).toNatClampNeg a0.toInt r1.toInt) (p2 : ¬ ((0 ≤ a0.toInt ∧ a0.toInt ≤ 15) ∧ (0 ≤ a1.toInt ∧ a1.toInt ≤ (xi (E 1) 0).toInt)) → r1 = -1) (n1 : (0 ≤ a1.toInt ∧ a1.toInt ≤ (xi (EM 0) 1).toInt) → ∃ (K9 o9 : Int32) (P9 T9 S9 O9 : Nat → Int32), TaM EM a1 K9 o9 P9 T9 S9 O9 ∧ RkR (fun b9 : Nat => (S9 b9).toInt = 1) (fun x9 y9 : Nat => BtP P9 T9 O9 K9.toNatClampNeg x9 y9) (xi (EM 0) 8).toNatClampNeg a0.toInt r2.toInt) (n2 : ¬ (0 ≤ a1.toInt ∧ a1.toInt ≤ (xi (EM 0) 1).toInt) → r2 = -1) : r1.toInt = r2.toInt := by
  have e0 : (xi (E 1) 0).toInt = (xi (EM 0) 1).toInt := congrArg Int32.toInt hR.now
  have e1 : (xi (E 1) 1).toInt = (xi (EM 0) 8).toInt := congrArg Int32.toInt hR.boats
  have hc2 := hR.cnt.2.1
  have hm : (-1 : Int32).toInt = -1 := rfl
  by_cases kq : 0 ≤ a1.toInt ∧ a1.toInt ≤ (xi (E 1) 0).toInt
  · obtain ⟨K', o', P', T', S', O', t', y1⟩ := n1 (by omega)
    by_cases g : 0 ≤ a0.toInt ∧ a0.toInt ≤ 15
    · obtain ⟨K, o, P, T, S, O, t, x1⟩ := p1 ⟨by omega, by omega⟩
      obtain ⟨eK, pr, se⟩ := ta_eq hR hG hU hM h16 h80 h20 h3 h1 ht (by omega) t t'
      subst eK
      rw [← hR.boats] at y1
      exact x1.un y1 (fun b hb => (se b hb).2.1) (fun x y hx hy => BtP.cg se hx hy)
    · rw [p2 (fun z => g (by omega)), hm]
      rcases y1 with ⟨b, u1, u2, u3, -⟩ | ⟨-, u2⟩
      · exfalso
        have u4 := CnR.bd _ _ u3
        rw [← hR.boats, tn_] at u4
        have u5 : a0.toInt = 16 := by omega
        rw [u5] at u3
        have u6 := CnR.lt16 (k := b) (by rw [← hR.boats, tn_]; omega) u1 u3
        exact u6 (fun z => z.1 rfl)
      · exact u2.symm
  · rw [p2 (fun z => kq (by omega)), n2 (fun z => kq (by omega))]
