

/-! ===== what was decided ===== -/
def GRp (E EM : Nat → va_E) (p : Nat) : Prop := (¬ (xi (E (64 * (p + 1) + 14)) 5).toInt = -1 → (xi (E (64 * (p + 1) + 14)) 6).toInt = (xi (EM 51) (2 * p)).toInt) ∧ (¬ (xi (E (64 * (p + 1) + 14)) 8).toInt = -1 → (xi (E (64 * (p + 1) + 14)) 9).toInt = (xi (EM 51) (2 * p + 1)).toInt)
def GR (cf : Nat → Nat) (E EM : Nat → va_E) : Prop := ∀ p, p < cf 5 → GRp E EM p
def REL6 (cf : Nat → Nat) (E EM : Nat → va_E) : Prop := REL5 cf E EM ∧ GR cf E EM
theorem GRp.keep {E E' EM EM' : Nat → va_E} {p : Nat} (h : GRp E EM p) (k5 : (xi (E' (64 * (p + 1) + 14)) 5).toInt = (xi (E (64 * (p + 1) + 14)) 5).toInt) (k6 : (xi (E' (64 * (p + 1) + 14)) 6).toInt = (xi (E (64 * (p + 1) + 14)) 6).toInt) (k8 : (xi (E' (64 * (p + 1) + 14)) 8).toInt = (xi (E (64 * (p + 1) + 14)) 8).toInt) (k9 : (xi (E' (64 * (p + 1) + 14)) 9).toInt = (xi (E (64 * (p + 1) + 14)) 9).toInt) (m0 : xi (EM' 51) (2 * p) = xi (EM 51) (2 * p)) (m1 : xi (EM' 51) (2 * p + 1) = xi (EM 51) (2 * p + 1)) : GRp E' EM' p := by
  unfold GRp at h ⊢
  rw [k5, k6, k8, k9, m0, m1]
  exact h
theorem GR.keep {cf cf' : Nat → Nat} {E E' EM EM' : Nat → va_E} (h : GR cf E EM) (hc : cf' 5 = cf 5) (hk : ∀ i j, i < cf 5 → xi (E' (64 * (i + 1) + 14)) j = xi (E (64 * (i + 1) + 14)) j) (m : ∀ j, xi (EM' 51) j = xi (EM 51) j) : GR cf' E' EM' := fun p hp => by
  rw [hc] at hp
  exact (h p hp).keep (by rw [hk p 5 hp]) (by rw [hk p 6 hp]) (by rw [hk p 8 hp]) (by rw [hk p 9 hp]) (m _) (m _)
theorem GR.push {cf cf' : Nat → Nat} {E E' EM EM' : Nat → va_E} (h : GR cf E EM) (hc : cf' 5 = cf 5 + 1) (hk : ∀ i j, i < cf 5 → xi (E' (64 * (i + 1) + 14)) j = xi (E (64 * (i + 1) + 14)) j) (m : ∀ j, xi (EM' 51) j = xi (EM 51) j) (n5 : xi (E' (64 * (cf 5 + 1) + 14)) 5 = -1) (n8 : xi (E' (64 * (cf 5 + 1) + 14)) 8 = -1) : GR cf' E' EM' := fun p hp => by
  rw [hc] at hp
  by_cases e : p = cf 5
  · subst e
    refine ⟨fun q => absurd ?_ q, fun q => absurd ?_ q⟩
    · rw [n5]
      rfl
    · rw [n8]
      rfl
  · have hp' : p < cf 5 := by omega
    exact (h p hp').keep (by rw [hk p 5 hp']) (by rw [hk p 6 hp']) (by rw [hk p 8 hp']) (by rw [hk p 9 hp']) (m _) (m _)
theorem GR.one {cf : Nat → Nat} {E E' EM EM' : Nat → va_E} {a : Nat} (h : GR cf E EM) (hk : ∀ i j, i < cf 5 → i ≠ a → xi (E' (64 * (i + 1) + 14)) j = xi (E (64 * (i + 1) + 14)) j) (m : ∀ j, j ≠ 2 * a → j ≠ 2 * a + 1 → xi (EM' 51) j = xi (EM 51) j) (ha : a < cf 5 → GRp E' EM' a) : GR cf E' EM' := fun p hp => by
  by_cases e : p = a
  · subst e
    exact ha hp
  · exact (h p hp).keep (by rw [hk p 5 hp e]) (by rw [hk p 6 hp e]) (by rw [hk p 8 hp e]) (by rw [hk p 9 hp e]) (m _ (by omega) (by omega)) (m _ (by omega) (by omega))
/-- one is decided -/
theorem GR.decide {cf : Nat → Nat} {E E' EM EM' : Nat → va_E} {a r1 r2 : Int32} (h : GR cf E EM) (hd : DC cf E EM) (ha : 0 ≤ a.toInt ∧ a.toInt < ((cf 5 : Nat) : Int)) (hnd : (xi (EM 55) a.toNatClampNeg).toInt = 0) (hk : ∀ i j, i < cf 5 → i ≠ a.toNatClampNeg → xi (E' (64 * (i + 1) + 14)) j = xi (E (64 * (i + 1) + 14)) j) (hr : r1.toInt = r2.toInt) (y5 : (xi (E (64 * (a.toNatClampNeg + 1) + 14)) 7).toInt = -1 → (xi (E' (64 * (a.toNatClampNeg + 1) + 14)) 6).toInt = r1.toInt ∧ (xi (E' (64 * (a.toNatClampNeg + 1) + 14)) 8).toInt = (xi (E (64 * (a.toNatClampNeg + 1) + 14)) 8).toInt) (y8 : ¬ (xi (E (64 * (a.toNatClampNeg + 1) + 14)) 7).toInt = -1 → (xi (E' (64 * (a.toNatClampNeg + 1) + 14)) 9).toInt = r1.toInt ∧ (xi (E' (64 * (a.toNatClampNeg + 1) + 14)) 5).toInt = (xi (E (64 * (a.toNatClampNeg + 1) + 14)) 5).toInt ∧ (xi (E' (64 * (a.toNatClampNeg + 1) + 14)) 6).toInt = (xi (E (64 * (a.toNatClampNeg + 1) + 14)) 6).toInt) (m51 : xi (EM' 51) = upd (xi (EM 51)) (2 * a.toInt + (xi (EM 54) a.toNatClampNeg).toInt).toNat r2) : GR cf E' EM' := by
  have hA : a.toNatClampNeg < cf 5 := by
    rw [tn_]
    omega
  have dc := (hd a.toNatClampNeg hA).1
  have tA : (a.toNatClampNeg : Int) = a.toInt := by
    rw [tn_]
    omega
  have g := h a.toNatClampNeg hA
  unfold DCp at dc
  dsimp only at dc
  refine h.one hk (fun j h1 h2 => ?_) (fun _ => ?_)
  · rw [m51]
    refine upd_n (fun q => ?_)
    have hD : (xi (EM 54) a.toNatClampNeg).toInt = 0 ∨ (xi (EM 54) a.toNatClampNeg).toInt = 1 := by omega
    omega
  · unfold GRp at g ⊢
    by_cases c : (xi (E (64 * (a.toNatClampNeg + 1) + 14)) 7).toInt = -1
    · obtain ⟨e6, e8⟩ := y5 c
      have hD : (xi (EM 54) a.toNatClampNeg).toInt = 0 ∧ (xi (E (64 * (a.toNatClampNeg + 1) + 14)) 8).toInt = -1 := by
        omega
      have hK : (2 * a.toInt + (xi (EM 54) a.toNatClampNeg).toInt).toNat = 2 * a.toNatClampNeg := by omega
      refine ⟨fun _ => ?_, fun q => ?_⟩
      · rw [m51, hK, pk_us, e6]
        exact hr
      · exfalso
        omega
    · obtain ⟨e9, e5, e6⟩ := y8 c
      have hD : (xi (EM 54) a.toNatClampNeg).toInt = 1 := by
        omega
      have hK : (2 * a.toInt + (xi (EM 54) a.toNatClampNeg).toInt).toNat = 2 * a.toNatClampNeg + 1 := by omega
      refine ⟨fun q => ?_, fun _ => ?_⟩
      · rw [m51, hK, upd_n (show (2 * a.toNatClampNeg) ≠ 2 * a.toNatClampNeg + 1 by omega), e6]
        exact g.1 (by omega)
      · rw [m51, hK, pk_us, e9]
        exact hr
/-- SWIFT as it is known NOW -/
theorem SW.now {cf : Nat → Nat} {E EM : Nat → va_E} {i : Nat} {s : Int32} (h : SW cf E EM) (hi : i < cf 2) (hn : (xi (E 1) 0).toInt ≤ 400) (g : SWq E i (xi (E 1) 0).toInt s) : s.toInt = (xi (EM 19) i).toInt := by
  rcases h i hi with ⟨d, a1, a2, a3, a4, a5⟩ | ⟨a4, a5⟩ <;> rcases g with ⟨d', b1, b2, b3, b4, b5⟩ | ⟨b4, b5⟩
  · rcases Nat.lt_trichotomy d d' with q | q | q
    · exact absurd (a5 d' q (by omega)) b3
    · subst q
      rw [b4]
      exact a4
    · exact absurd (b5 d (by omega) a2) a3
  · exact absurd (b5 d a1 a2) a3
  · exact absurd (a5 d' (by omega)) b3
  · rw [b4, a4]
    rfl
/-- WORTH of a FAULT's label is the same on both sides -/
theorem RuRel.wv {cf : Nat → Nat} {E EM : Nat → va_E} (h : RuRel cf E EM) (h16 : cf 1 ≤ 16) {lab : Int} (hl : ¬ lab = 110) (day q : Int32) (L : Nat → Int32) : wML L EM lab (lawM EM day q) = wV cf E lab (lawC cf E day q) L := by
  rw [h.law h16]
  have hN : (xi (EM 0) 17).toNatClampNeg = cf 1 := by
    have h2 := h.2.1
    rw [tn_]
    omega
  have hr := cO_in (gB := fun _ => 0) (gF := xi (EM 10)) (gT := xi (EM 11)) (boat := 0) (day := day) (q := q) (xi (EM 0) 17).toNatClampNeg (by omega)
  have hr : (lawM EM day q).toInt = -1 ∨ (0 ≤ (lawM EM day q).toInt ∧ (lawM EM day q).toInt < (((xi (EM 0) 17).toNatClampNeg : Nat) : Int)) := hr
  rw [hN] at hr
  unfold wV
  by_cases c : (lawM EM day q).toInt = -1
  · rw [if_pos c]
    unfold wML dfl
    rw [if_pos c, if_neg hl]
  · rw [if_neg c]
    exact (h.worth (by omega) (by omega)).symm
/-- both sides find alike -/
theorem fnd_eq {cf : Nat → Nat} {E EM : Nat → va_E} {i : Nat} {who q : Int32} {s : Int} (hR : REL cf E EM) (hU : RuRel cf E EM) (h16 : cf 1 ≤ 16) (hi : i < cf 5) (hs : s = (xi (EM 19) (mPR EM i)).toInt) : MSure EM i who q ↔ FndC cf E i who q s := by
  have t5 : ∀ j row, (14, j, row) ∈ tb5 → xi (E (64 * (i + 1) + 14)) j = xi (EM row) i := fun j row hm => hR.tb5 (14, j, row) hm i hi
  have hr : ri14 E i = mPR EM i := congrArg Int32.toNatClampNeg (t5 0 46 (by decide))
  have hrl : mPR EM i < cf 2 := by
    rw [← hr]
    exact (hR.er5 (14, 0, 1, 4) (by decide) i hi).1
  have t2 : ∀ j row, (6, j, row) ∈ tb2 → xi (E (64 * (mPR EM i + 1) + 6)) j = xi (EM row) (mPR EM i) := fun j row hm => hR.tb2 (6, j, row) hm _ hrl
  have t4 : ∀ k, k < cf 4 → ∀ j row, (13, j, row) ∈ tb4 → xi (E (64 * (k + 1) + 13)) j = xi (EM row) k := fun k hk j row hm => hR.tb4 (13, j, row) hm k hk
  have hn : nWM EM = cf 4 := by
    have h1 := hR.cnt.2.2.2.1
    show (xi (EM 0) 74).toNatClampNeg = cf 4
    rw [tn_]
    omega
  unfold MSure FndC
  rw [hn, hr, hs]
  have p : ∀ j row, (14, j, row) ∈ tb5 → (xi (EM row) i).toInt = pA E i j := fun j row hm => congrArg Int32.toInt (t5 j row hm).symm
  rw [p 0 46 (by decide), p 1 47 (by decide), p 2 48 (by decide), p 3 49 (by decide), ← t2 4 16 (by decide), ← t2 5 17 (by decide), ← t2 6 18 (by decide), ← t2 1 13 (by decide)]
  refine Sure_cg (fun k hk j hj => ?_) (fun k hk => (t4 k hk 7 44 (by decide)).symm) (fun L => ?_)
  · rcases (show j = 0 ∨ j = 1 ∨ j = 2 ∨ j = 3 ∨ j = 4 ∨ j = 5 ∨ j = 6 by omega) with rfl | rfl | rfl | rfl | rfl | rfl | rfl
    · exact congrArg Int32.toInt (t4 k hk 0 38 (by decide)).symm
    · exact congrArg Int32.toInt (t4 k hk 1 39 (by decide)).symm
    · exact congrArg Int32.toInt (t4 k hk 2 45 (by decide)).symm
    · exact congrArg Int32.toInt (t4 k hk 3 40 (by decide)).symm
    · exact congrArg Int32.toInt (t4 k hk 4 41 (by decide)).symm
    · exact congrArg Int32.toInt (t4 k hk 5 42 (by decide)).symm
    · exact congrArg Int32.toInt (t4 k hk 6 43 (by decide)).symm
  · refine hU.wv h16 ?_ _ q L
    by_cases c : who.toInt = 0
    · rw [if_pos c]
      decide
    · rw [if_neg c]
      decide

