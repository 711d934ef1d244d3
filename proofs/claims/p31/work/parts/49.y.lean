

/-! ===== what was decided ===== -/
def GRp (E EM : Nat → va_E) (p : Nat) : Prop := (¬ (xi (E (64 * (p + 1) + 14)) 5).toInt = -1 → (xi (E (64 * (p + 1) + 14)) 6).toInt = (xi (EM 51) (2 * p)).toInt) ∧ (¬ (xi (E (64 * (p + 1) + 14)) 8).toInt = -1 → (xi (E (64 * (p + 1) + 14)) 9).toInt = (xi (EM 51) (2 * p + 1)).toInt)
def GR (cf : Nat → Nat) (E EM : Nat → va_E) : Prop := ∀ p, p < cf 5 → GRp E EM p
def REL6 (cf : Nat → Nat) (E EM : Nat → va_E) : Prop := REL5 cf E EM ∧ GR cf E EM
theorem GRp.keep {E E' EM EM' : Nat → va_E} {p : Nat} (h : GRp E EM p) (k5 : (xi (E' (64 * (p + 1) + 14)) 5).toInt = (xi (E (64 * (p + 1) + 14)) 5).toInt) (k6 : (xi (E' (64 * (p + 1) + 14)) 6).toInt = (xi (E (64 * (p + 1) + 14)) 6).toInt) (k8 : (xi (E' (64 * (p + 1) + 14)) 8).toInt = (xi (E (64 * (p + 1) + 14)) 8).toInt) (k9 : (xi (E' (64 * (p + 1) + 14)) 9).toInt = (xi (E (64 * (p + 1) + 14)) 9).toInt) (m0 : xi (EM' 51) (2 * p) = xi (EM 51) (2 * p)) (m1 : xi (EM' 51) (2 * p + 1) = xi (EM 51) (2 * p + 1)) : GRp E' EM' p := by
  unfold GRp at h ⊢
  rw [k5, k6, k8, k9, m0, m1]
  exact h
theorem GR.keep {cf cf' : Nat → Nat} {E E' EM EM' : Nat → va_E} (h : GR cf E EM) (hc : cf' 5 = cf 5) (hk : ∀ i j, i < cf 5 → xi (E' (64 * (i + 1) + 14)) j = xi (E (64 * (i + 1) + 14)) j) (m : ∀ j, xi (EM' 51) j = xi (EM 51) j) : GR cf' E' EM' := fun p hp => by
  rw [hc] at hp
  exact (h p hp).keep (by rw [hk p 5 hp]) (by rw [hk p 6 hp]) (by rw [hk p 8 hp]) (by rw [hk p 9 hp]) (m _) (m _)
theorem GR.push {cf cf' : Nat → Nat} {E E' EM EM' : Nat → va_E} (h : GR cf E EM) (hc : cf' 5 = cf 5 + 1) (hk : ∀ i j, i < cf 5 → xi (E' (64 * (i + 1) + 14)) j = xi (E (64 * (i + 1) + 14)) j) (m : ∀ j, xi (EM' 51) j = xi (EM 51) j) (n5 : xi (E' (64 * (cf 5 + 1) + 14)) 5 = -1) (n8 : xi (E' (64 * (cf 5 + 1) + 14)) 8 = -1) : GR cf' E' EM' := fun p hp => by
  rw [hc] at hp
  by_cases e : p = cf 5
  · subst e
    refine ⟨fun q => absurd ?_ q, fun q => absurd ?_ q⟩
    · rw [n5]
      rfl
    · rw [n8]
      rfl
  · have hp' : p < cf 5 := by omega
    exact (h p hp').keep (by rw [hk p 5 hp']) (by rw [hk p 6 hp']) (by rw [hk p 8 hp']) (by rw [hk p 9 hp']) (m _) (m _)
theorem GR.one {cf : Nat → Nat} {E E' EM EM' : Nat → va_E} {a : Nat} (h : GR cf E EM) (hk : ∀ i j, i < cf 5 → i ≠ a → xi (E' (64 * (i + 1) + 14)) j = xi (E (64 * (i + 1) + 14)) j) (m : ∀ j, j ≠ 2 * a → j ≠ 2 * a + 1 → xi (EM' 51) j = xi (EM 51) j) (ha : a < cf 5 → GRp E' EM' a) : GR cf E' EM' := fun p hp => by
  by_cases e : p = a
  · subst e
    exact ha hp
  · exact (h p hp).keep (by rw [hk p 5 hp e]) (by rw [hk p 6 hp e]) (by rw [hk p 8 hp e]) (by rw [hk p 9 hp e]) (m _ (by omega) (by omega)) (m _ (by omega) (by omega))
/-- one is decided -/
theorem GR.decide {cf : Nat → Nat} {E E' EM EM' : Nat → va_E} {a r1 r2 : Int32} (h : GR cf E EM) (hd : DC cf E EM) (ha : 0 ≤ a.toInt ∧ a.toInt < ((cf 5 : Nat) : Int)) (hnd : (xi (EM 55) a.toNatClampNeg).toInt = 0) (hk : ∀ i j, i < cf 5 → i ≠ a.toNatClampNeg → xi (E' (64 * (i + 1) + 14)) j = xi (E (64 * (i + 1) + 14)) j) (hr : r1.toInt = r2.toInt) (y5 : (xi (E (64 * (a.toNatClampNeg + 1) + 14)) 7).toInt = -1 → (xi (E' (64 * (a.toNatClampNeg + 1) + 14)) 6).toInt = r1.toInt ∧ (xi (E' (64 * (a.toNatClampNeg + 1) + 14)) 8).toInt = (xi (E (64 * (a.toNatClampNeg + 1) + 14)) 8).toInt) (y8 : ¬ (xi (E (64 * (a.toNatClampNeg + 1) + 14)) 7).toInt = -1 → (xi (E' (64 * (a.toNatClampNeg + 1) + 14)) 9).toInt = r1.toInt ∧ (xi (E' (64 * (a.toNatClampNeg + 1) + 14)) 5).toInt = (xi (E (64 * (a.toNatClampNeg + 1) + 14)) 5).toInt ∧ (xi (E' (64 * (a.toNatClampNeg + 1) + 14)) 6).toInt = (xi (E (64 * (a.toNatClampNeg + 1) + 14)) 6).toInt) (m51 : xi (EM' 51) = upd (xi (EM 51)) (2 * a.toInt + (xi (EM 54) a.toNatClampNeg).toInt).toNat r2) : GR cf E' EM' := by
  have hA : a.toNatClampNeg < cf 5 := by
    rw [tn_]
    omega
  have dc := (hd a.toNatClampNeg hA).1
  have tA : (a.toNatClampNeg : Int) = a.toInt := by
    rw [tn_]
    omega
  have g := h a.toNatClampNeg hA
  unfold DCp at dc
  dsimp only at dc
  refine h.one hk (fun j h1 h2 => ?_) (fun _ => ?_)
  · rw [m51]
    refine upd_n (fun q => ?_)
    have hD : (xi (EM 54) a.toNatClampNeg).toInt = 0 ∨ (xi (EM 54) a.toNatClampNeg).toInt = 1 := by omega
    omega
  · unfold GRp at g ⊢
    by_cases c : (xi (E (64 * (a.toNatClampNeg + 1) + 14)) 7).toInt = -1
    · obtain ⟨e6, e8⟩ := y5 c
      have hD : (xi (EM 54) a.toNatClampNeg).toInt = 0 ∧ (xi (E (64 * (a.toNatClampNeg + 1) + 14)) 8).toInt = -1 := by
        omega
      have hK : (2 * a.toInt + (xi (EM 54) a.toNatClampNeg).toInt).toNat = 2 * a.toNatClampNeg := by omega
      refine ⟨fun _ => ?_, fun q => ?_⟩
      · rw [m51, hK, pk_us, e6]
        exact hr
      · exfalso
        omega
    · obtain ⟨e9, e5, e6⟩ := y8 c
      have hD : (xi (EM 54) a.toNatClampNeg).toInt = 1 := by
        omega
      have hK : (2 * a.toInt + (xi (EM 54) a.toNatClampNeg).toInt).toNat = 2 * a.toNatClampNeg + 1 := by omega
      refine ⟨fun q => ?_, fun _ => ?_⟩
      · rw [m51, hK, upd_n (show (2 * a.toNatClampNeg) ≠ 2 * a.toNatClampNeg + 1 by omega), e6]
        exact g.1 (by omega)
      · rw [m51, hK, pk_us, e9]
        exact hr
/-- SWIFT as it is known NOW -/
theorem SW.now {cf : Nat → Nat} {E EM : Nat → va_E} {i : Nat} {s : Int32} (h : SW cf E EM) (hi : i < cf 2) (hn : (xi (E 1) 0).toInt ≤ 400) (g : SWq E i (xi (E 1) 0).toInt s) : s.toInt = (xi (EM 19) i).toInt := by
  rcases h i hi with ⟨d, a1, a2, a3, a4, a5⟩ | ⟨a4, a5⟩ <;> rcases g with ⟨d', b1, b2, b3, b4, b5⟩ | ⟨b4, b5⟩
  · rcases Nat.lt_trichotomy d d' with q | q | q
    · exact absurd (a5 d' q (by omega)) b3
    · subst q
      rw [b4]
      exact a4
    · exact absurd (b5 d (by omega) a2) a3
  · exact absurd (b5 d a1 a2) a3
  · exact absurd (a5 d' (by omega)) b3
  · rw [b4, a4]
    rfl
/-- WORTH of a FAULT's label is the same on both sides -/
theorem RuRel.wv {cf : Nat → Nat} {E EM : Nat → va_E} (h : RuRel cf E EM) (h16 : cf 1 ≤ 16) {lab : Int} (hl : ¬ lab = 110) (day q : Int32) (L : Nat → Int32) : wML L EM lab (lawM EM day q) = wV cf E lab (lawC cf E day q) L := by
  rw [h.law h16]
  have hN : (xi (EM 0) 17).toNatClampNeg = cf 1 := by
    have h2 := h.2.1
    rw [tn_]
    omega
  have hr := cO_in (gB := fun _ => 0) (gF := xi (EM 10)) (gT := xi (EM 11)) (boat := 0) (day := day) (q := q) (xi (EM 0) 17).toNatClampNeg (by omega)
  have hr : (lawM EM day q).toInt = -1 ∨ (0 ≤ (lawM EM day q).toInt ∧ (lawM EM day q).toInt < (((xi (EM 0) 17).toNatClampNeg : Nat) : Int)) := hr
  rw [hN] at hr
  unfold wV
  by_cases c : (lawM EM day q).toInt = -1
  · rw [if_pos c]
    unfold wML dfl
    rw [if_pos c, if_neg hl]
  · rw [if_neg c]
    exact (h.worth (by omega) (by omega)).symm
/-- both sides find alike -/
theorem fnd_eq {cf : Nat → Nat} {E EM : Nat → va_E} {i : Nat} {who q : Int32} {s : Int} (hR : REL cf E EM) (hU : RuRel cf E EM) (h16 : cf 1 ≤ 16) (hi : i < cf 5) (hs : s = (xi (EM 19) (mPR EM i)).toInt) : MSure EM i who q ↔ FndC cf E i who q s := by
  have t5 : ∀ j row, (14, j, row) ∈ tb5 → xi (E (64 * (i + 1) + 14)) j = xi (EM row) i := fun j row hm => hR.tb5 (14, j, row) hm i hi
  have hr : ri14 E i = mPR EM i := congrArg Int32.toNatClampNeg (t5 0 46 (by decide))
  have hrl : mPR EM i < cf 2 := by
    rw [← hr]
    exact (hR.er5 (14, 0, 1, 4) (by decide) i hi).1
  have t2 : ∀ j row, (6, j, row) ∈ tb2 → xi (E (64 * (mPR EM i + 1) + 6)) j = xi (EM row) (mPR EM i) := fun j row hm => hR.tb2 (6, j, row) hm _ hrl
  have t4 : ∀ k, k < cf 4 → ∀ j row, (13, j, row) ∈ tb4 → xi (E (64 * (k + 1) + 13)) j = xi (EM row) k := fun k hk j row hm => hR.tb4 (13, j, row) hm k hk
  have hn : nWM EM = cf 4 := by
    have h1 := hR.cnt.2.2.2.1
    show (xi (EM 0) 74).toNatClampNeg = cf 4
    rw [tn_]
    omega
  unfold MSure FndC
  rw [hn, hr, hs]
  have p : ∀ j row, (14, j, row) ∈ tb5 → (xi (EM row) i).toInt = pA E i j := fun j row hm => congrArg Int32.toInt (t5 j row hm).symm
  rw [p 0 46 (by decide), p 1 47 (by decide), p 2 48 (by decide), p 3 49 (by decide), ← t2 4 16 (by decide), ← t2 5 17 (by decide), ← t2 6 18 (by decide), ← t2 1 13 (by decide)]
  refine Sure_cg (fun k hk j hj => ?_) (fun k hk => (t4 k hk 7 44 (by decide)).symm) (fun L => ?_)
  · rcases (show j = 0 ∨ j = 1 ∨ j = 2 ∨ j = 3 ∨ j = 4 ∨ j = 5 ∨ j = 6 by omega) with rfl | rfl | rfl | rfl | rfl | rfl | rfl
    · exact congrArg Int32.toInt (t4 k hk 0 38 (by decide)).symm
    · exact congrArg Int32.toInt (t4 k hk 1 39 (by decide)).symm
    · exact congrArg Int32.toInt (t4 k hk 2 45 (by decide)).symm
    · exact congrArg Int32.toInt (t4 k hk 3 40 (by decide)).symm
    · exact congrArg Int32.toInt (t4 k hk 4 41 (by decide)).symm
    · exact congrArg Int32.toInt (t4 k hk 5 42 (by decide)).symm
    · exact congrArg Int32.toInt (t4 k hk 6 43 (by decide)).symm
  · refine hU.wv h16 ?_ _ q L
    by_cases c : who.toInt = 0
    · rw [if_pos c]
      decide
    · rw [if_neg c]
      decide
/-! ===== CODES alike ===== -/
theorem out_core {e : Nat → Int} {dec isd f0 t0 f1 t1 o0 o1 q bit : Int} (h : DCp e dec isd f0 t0 f1 t1) (hg5 : ¬ e 5 = -1 → e 6 = o0) (hg8 : ¬ e 8 = -1 → e 9 = o1) (hq : 0 ≤ q ∧ q < 1000) : ((1 ≤ dec ∧ hasB bit o0 ∧ f0 ≤ q ∧ q < t0) ∨ (2 ≤ dec ∧ hasB bit o1 ∧ f1 ≤ q ∧ q < t1)) ↔ hasB bit (gCe e q) := by
  unfold DCp at h
  unfold gCe
  rcases h with ⟨d1, d2, d3, d4, d5⟩ | ⟨d1, d2, d3, d4, d5, d6, d7, d8⟩ | ⟨d1, d2, d3, d4, d5, d6, d7, d8⟩ | ⟨d1, d2, d3, d4, d5, d6, d7, d8, d9, d10⟩
  · rw [if_neg (fun w => w.1 d5), if_neg (fun w => w.1 d4), if_neg (fun w => w.1 d3)]
    refine ⟨fun h => ?_, fun h => absurd h hasB_0⟩
    rcases h with ⟨a, -⟩ | ⟨a, -⟩
    · exfalso
      omega
    · exfalso
      omega
  · rw [if_neg (fun w => w.1 d6), if_neg (fun w => w.1 d5)]
    by_cases c : e 5 ≤ q
    · rw [if_pos ⟨show ¬ e 5 = -1 by omega, c⟩, hg5 (by omega)]
      refine ⟨fun h => ?_, fun h => Or.inl ⟨by omega, h, by omega, by omega⟩⟩
      rcases h with ⟨-, b, -⟩ | ⟨a, -⟩
      · exact b
      · exfalso
        omega
    · rw [if_neg (fun w => c w.2)]
      refine ⟨fun h => ?_, fun h => absurd h hasB_0⟩
      rcases h with ⟨-, -, a, -⟩ | ⟨a, -⟩
      · exfalso
        omega
      · exfalso
        omega
  · rw [if_neg (fun w => w.1 d6)]
    by_cases c7 : e 7 ≤ q
    · rw [if_pos ⟨show ¬ e 7 = -1 by omega, c7⟩]
      refine ⟨fun h => ?_, fun h => absurd h hasB_0⟩
      rcases h with ⟨-, -, -, a⟩ | ⟨a, -⟩
      · exfalso
        omega
      · exfalso
        omega
    · rw [if_neg (fun w => c7 w.2)]
      by_cases c : e 5 ≤ q
      · rw [if_pos ⟨show ¬ e 5 = -1 by omega, c⟩, hg5 (by omega)]
        refine ⟨fun h => ?_, fun h => Or.inl ⟨by omega, h, by omega, by omega⟩⟩
        rcases h with ⟨-, b, -⟩ | ⟨a, -⟩
        · exact b
        · exfalso
          omega
      · rw [if_neg (fun w => c w.2)]
        refine ⟨fun h => ?_, fun h => absurd h hasB_0⟩
        rcases h with ⟨-, -, a, -⟩ | ⟨a, -⟩
        · exfalso
          omega
        · exfalso
          omega
  · by_cases c8 : e 8 ≤ q
    · rw [if_pos ⟨show ¬ e 8 = -1 by omega, c8⟩, hg8 (by omega)]
      refine ⟨fun h => ?_, fun h => Or.inr ⟨by omega, h, by omega, by omega⟩⟩
      rcases h with ⟨-, -, -, a⟩ | ⟨-, b, -⟩
      · exfalso
        omega
      · exact b
    · rw [if_neg (fun w => c8 w.2)]
      by_cases c7 : e 7 ≤ q
      · rw [if_pos ⟨show ¬ e 7 = -1 by omega, c7⟩]
        refine ⟨fun h => ?_, fun h => absurd h hasB_0⟩
        rcases h with ⟨-, -, -, a⟩ | ⟨-, -, a, -⟩
        · exfalso
          omega
        · exfalso
          omega
      · rw [if_neg (fun w => c7 w.2)]
        by_cases c : e 5 ≤ q
        · rw [if_pos ⟨show ¬ e 5 = -1 by omega, c⟩, hg5 (by omega)]
          refine ⟨fun h => ?_, fun h => Or.inl ⟨by omega, h, by omega, by omega⟩⟩
          rcases h with ⟨-, b, -⟩ | ⟨-, -, a, -⟩
          · exact b
          · exfalso
            omega
        · rw [if_neg (fun w => c w.2)]
          refine ⟨fun h => ?_, fun h => absurd h hasB_0⟩
          rcases h with ⟨-, -, a, -⟩ | ⟨-, -, a, -⟩
          · exfalso
            omega
          · exfalso
            omega
theorem ex_k {E : Nat → va_E} {bit q d : Int} {p : Nat} (hd : d = 0 ∨ d = 1 ∨ d = 2) : (∃ k : Nat, 2 * p ≤ k ∧ (k : Int) < 2 * (p : Int) + d ∧ kM E bit q k) ↔ ((1 ≤ d ∧ kM E bit q (2 * p)) ∨ (2 ≤ d ∧ kM E bit q (2 * p + 1))) := by
  constructor
  · rintro ⟨k, h1, h2, h3⟩
    by_cases c : k = 2 * p
    · subst c
      exact Or.inl ⟨by omega, h3⟩
    · have e : k = 2 * p + 1 := by omega
      subst e
      exact Or.inr ⟨by omega, h3⟩
  · rintro (⟨h1, h2⟩ | ⟨h1, h2⟩)
    · exact ⟨2 * p, by omega, by omega, h2⟩
    · exact ⟨2 * p + 1, by omega, by omega, h2⟩
theorem dec_in {e : Nat → Int} {dec isd f0 t0 f1 t1 : Int} (h : DCp e dec isd f0 t0 f1 t1) : dec = 0 ∨ dec = 1 ∨ dec = 2 := by
  unfold DCp at h
  omega
theorem out_eq {cf : Nat → Nat} {E EM : Nat → va_E} {p : Nat} {race boat q : Int} (hR : REL cf E EM) (hG : GR cf E EM) (hp : p < cf 5) (hq : 0 ≤ q ∧ q < 1000) : outC E race q boat p ↔ outM EM race q boat p := by
  have t5 : ∀ j row, (14, j, row) ∈ tb5 → (xi (EM row) p).toInt = pA E p j := fun j row hm => congrArg Int32.toInt (hR.tb5 (14, j, row) hm p hp).symm
  have hd : DCp (pA E p) (xi (EM 54) p).toInt (xi (EM 55) p).toInt (xi (EM 52) (2 * p)).toInt (xi (EM 53) (2 * p)).toInt (xi (EM 52) (2 * p + 1)).toInt (xi (EM 53) (2 * p + 1)).toInt := (hR.dc p hp).1
  have hne : ¬ pA E p 1 = pA E p 2 := hR.pne p hp
  have hc : ∀ bit : Int, (∃ k : Nat, 2 * p ≤ k ∧ (k : Int) < 2 * (p : Int) + (xi (EM 54) p).toInt ∧ kM EM bit q k) ↔ hasB bit (gC E p q) := fun bit => (ex_k (dec_in hd)).trans (out_core hd (hG p hp).1 (hG p hp).2 hq)
  unfold outC outM
  rw [t5 0 46 (by decide), t5 1 47 (by decide), t5 2 48 (by decide)]
  by_cases c1 : pA E p 1 = boat
  · rw [if_pos c1, hc 1]
    unfold hasB
    rw [if_pos rfl]
    constructor
    · rintro ⟨a, ⟨b, -⟩ | ⟨-, b⟩⟩
      · exact ⟨a, Or.inl c1, b⟩
      · exact absurd (c1.trans b.symm) hne
    · rintro ⟨a, -, b⟩
      exact ⟨a, Or.inl ⟨b, c1⟩⟩
  · rw [if_neg c1, hc 2]
    unfold hasB
    rw [if_neg (by decide)]
    constructor
    · rintro ⟨a, ⟨-, b⟩ | ⟨b, c⟩⟩
      · exact absurd b c1
      · exact ⟨a, Or.inr c, b⟩
    · rintro ⟨a, b | b, c⟩
      · exact absurd b c1
      · exact ⟨a, Or.inr ⟨c, b⟩⟩
theorem Out_eq {cf : Nat → Nat} {E EM : Nat → va_E} {race boat q : Int} (hR : REL cf E EM) (hG : GR cf E EM) (hq : 0 ≤ q ∧ q < 1000) : exF (outC E race q boat) (cf 5) ↔ OutMx EM race boat q := by
  have h5 : (xi (EM 0) 75).toNatClampNeg = cf 5 := by
    have h1 := hR.cnt.2.2.2.2
    rw [tn_]
    omega
  unfold OutMx
  rw [h5]
  exact ⟨fun ⟨p, h1, h2⟩ => ⟨p, h1, (out_eq hR hG h1 hq).mp h2⟩, fun ⟨p, h1, h2⟩ => ⟨p, h1, (out_eq hR hG h1 hq).mpr h2⟩⟩
/-- who is DISQUALIFIED was entered -/
theorem gC_told {e : Nat → Int} {dec isd f0 t0 f1 t1 q : Int} (hd : DCp e dec isd f0 t0 f1 t1) (h : gCe e q % 2 = 1 ∨ gCe e q / 2 = 1) : e 4 ≤ q := by
  unfold DCp at hd
  unfold gCe at h
  by_cases c8 : ¬ e 8 = -1 ∧ e 8 ≤ q
  · omega
  · rw [if_neg c8] at h
    by_cases c7 : ¬ e 7 = -1 ∧ e 7 ≤ q
    · rw [if_pos c7] at h
      omega
    · rw [if_neg c7] at h
      by_cases c5 : ¬ e 5 = -1 ∧ e 5 ≤ q
      · omega
      · rw [if_neg c5] at h
        omega
theorem out_ent {cf : Nat → Nat} {E EM : Nat → va_E} {p r b : Nat} {q : Int} (hR : REL cf E EM) (hp : p < cf 5) (h : outC E (r : Int) q (b : Int) p) : entCd E r b q := by
  have hd : DCp (pA E p) (xi (EM 54) p).toInt (xi (EM 55) p).toInt (xi (EM 52) (2 * p)).toInt (xi (EM 53) (2 * p)).toInt (xi (EM 52) (2 * p + 1)).toInt (xi (EM 53) (2 * p + 1)).toInt := (hR.dc p hp).1
  obtain ⟨h0, h1⟩ := h
  have h4 : pA E p 4 ≤ q := gC_told hd (h1.imp (fun g => g.1) (fun g => g.1))
  have er : ∀ j, (14, 0, j, 4) ∈ [(14, 0, 1, 4), (14, 0, 2, 4)] → pA E p j = (b : Int) → entCd E r b q := fun j hm hb => by
    obtain ⟨-, -, -, -, e5, e6⟩ := hR.er5 (14, 0, j, 4) hm p hp
    have er : (xi (E (64 * (p + 1) + 14)) 0).toNatClampNeg = r := by
      have h9 : (xi (E (64 * (p + 1) + 14)) 0).toInt = (r : Int) := h0
      rw [tn_]
      omega
    have eb : (xi (E (64 * (p + 1) + 14)) j).toNatClampNeg = b := by
      have h9 : (xi (E (64 * (p + 1) + 14)) j).toInt = (b : Int) := hb
      rw [tn_]
      omega
    have e5' : ¬ (xi (E (64 * ((xi (E (64 * (p + 1) + 14)) 0).toNatClampNeg + 1) + 7)) (xi (E (64 * (p + 1) + 14)) j).toNatClampNeg).toInt = -1 := e5
    have e6' : (xi (E (64 * ((xi (E (64 * (p + 1) + 14)) 0).toNatClampNeg + 1) + 7)) (xi (E (64 * (p + 1) + 14)) j).toNatClampNeg).toInt ≤ (xi (E (64 * (p + 1) + 14)) 4).toInt := e6
    rw [er, eb] at e5' e6'
    exact ⟨e5', Int.le_trans e6' h4⟩
  rcases h1 with ⟨-, h2⟩ | ⟨-, h2⟩
  · exact er 1 (by decide) h2
  · exact er 2 (by decide) h2
theorem lO_cg {gA gB gT gA' gB' gT' : Nat → Int32} {a b q : Int32} : ∀ n : Nat, (∀ k, k < n → gA k = gA' k ∧ gB k = gB' k ∧ gT k = gT' k) → lO gA gB gT a b q n = lO gA' gB' gT' a b q n := by
  intro n
  induction n with
  | zero => exact fun _ => rfl
  | succ n ih =>
    intro h
    obtain ⟨e1, e2, e3⟩ := h n (by omega)
    show (if gA n = a ∧ gB n = b ∧ gT n ≤ q then nI n else lO gA gB gT a b q n) = (if gA' n = a ∧ gB' n = b ∧ gT' n ≤ q then nI n else lO gA' gB' gT' a b q n)
    rw [e1, e2, e3, ih (fun k hk => h k (by omega))]
theorem lO_is {gA gB gT : Nat → Int32} {a b q : Int32} : ∀ n : Nat, lO gA gB gT a b q n = -1 ∨ ∃ k, k < n ∧ lO gA gB gT a b q n = nI k ∧ gA k = a ∧ gB k = b ∧ gT k ≤ q := by
  intro n
  induction n with
  | zero => exact Or.inl rfl
  | succ n ih =>
    by_cases c : gA n = a ∧ gB n = b ∧ gT n ≤ q
    · exact Or.inr ⟨n, by omega, if_pos c, c⟩
    · have e : lO gA gB gT a b q (n + 1) = lO gA gB gT a b q n := if_neg c
      rw [e]
      exact ih.imp id (fun ⟨k, h1, h2⟩ => ⟨k, by omega, h2⟩)
theorem lR_eq {cf : Nat → Nat} {E EM : Nat → va_E} {a b q : Int32} (hR : REL cf E EM) : lRC E a b q (cf 3) = lRM EM a b q := by
  have h3 : (xi (EM 0) 47).toNatClampNeg = cf 3 := by
    have h1 := hR.cnt.2.2.1
    rw [tn_]
    omega
  unfold lRC lRM
  rw [h3]
  exact lO_cg (cf 3) (fun k hk => ⟨hR.tb3 (12, 0, 24) (by decide) k hk, hR.tb3 (12, 1, 25) (by decide) k hk, hR.tb3 (12, 4, 28) (by decide) k hk⟩)
theorem lR_is {cf : Nat → Nat} {E EM : Nat → va_E} {a b q : Int32} (hR : REL cf E EM) (h3 : cf 3 ≤ 300) (ha : 0 ≤ a.toInt) (hb : 0 ≤ b.toInt) : (lRC E a b q (cf 3)).toInt = -1 ∨ ((lRC E a b q (cf 3)).toNatClampNeg < cf 3 ∧ 0 ≤ (lRC E a b q (cf 3)).toInt ∧ entCd E a.toNatClampNeg b.toNatClampNeg q.toInt) := by
  rcases lO_is (gA := fun k => xi (E (64 * (k + 1) + 12)) 0) (gB := fun k => xi (E (64 * (k + 1) + 12)) 1) (gT := fun k => xi (E (64 * (k + 1) + 12)) 4) (a := a) (b := b) (q := q) (cf 3) with h | ⟨k, hk, h, e1, e2, e3⟩
  · refine Or.inl ?_
    unfold lRC
    rw [h]
    rfl
  · refine Or.inr ?_
    have hi : (nI k).toInt = (k : Int) := nI_toInt (by omega)
    have hl : lRC E a b q (cf 3) = nI k := h
    have e1' : xi (E (64 * (k + 1) + 12)) 0 = a := e1
    have e2' : xi (E (64 * (k + 1) + 12)) 1 = b := e2
    have e3' : (xi (E (64 * (k + 1) + 12)) 4).toInt ≤ q.toInt := Int32.le_iff_toInt_le.mp e3
    obtain ⟨-, -, -, -, e5, e6⟩ := hR.er3 (12, 0, 1, 4) (by decide) k hk
    have e5' : ¬ (xi (E (64 * ((xi (E (64 * (k + 1) + 12)) 0).toNatClampNeg + 1) + 7)) (xi (E (64 * (k + 1) + 12)) 1).toNatClampNeg).toInt = -1 := e5
    have e6' : (xi (E (64 * ((xi (E (64 * (k + 1) + 12)) 0).toNatClampNeg + 1) + 7)) (xi (E (64 * (k + 1) + 12)) 1).toNatClampNeg).toInt ≤ (xi (E (64 * (k + 1) + 12)) 4).toInt := e6
    rw [e1', e2'] at e5' e6'
    rw [hl, hi, tn_ (nI k), hi]
    exact ⟨by omega, by omega, e5', Int.le_trans e6' e3'⟩
theorem cd_eq {cf : Nat → Nat} {E EM : Nat → va_E} {a b q : Int32} {c c' : Int} (hR : REL cf E EM) (hG : GR cf E EM) (h3 : cf 3 ≤ 300) (ha : 0 ≤ a.toInt) (hb : 0 ≤ b.toInt) (hq : 0 ≤ q.toInt ∧ q.toInt < 1000) (hen : entCd E a.toNatClampNeg b.toNatClampNeg q.toInt ↔ entMd EM a.toInt b.toInt q.toInt) (h : CdR cf E a q b.toNatClampNeg c) (h' : CdM EM a b q c') : (entMd EM a.toInt b.toInt q.toInt → c = c') ∧ (¬ entMd EM a.toInt b.toInt q.toInt → c = -1 ∧ c' = 2) := by
  have ta : ((a.toNatClampNeg : Nat) : Int) = a.toInt := by
    rw [tn_]
    omega
  have tb : ((b.toNatClampNeg : Nat) : Int) = b.toInt := by
    rw [tn_]
    omega
  have hO := Out_eq (race := a.toInt) (boat := b.toInt) hR hG hq
  unfold CdR cdN at h
  rw [tb, hO, nI_tn hb] at h
  unfold CdM at h'
  rw [← lR_eq hR] at h'
  obtain ⟨h1, h2⟩ := h
  obtain ⟨g1, g2⟩ := h'
  refine ⟨fun en => ?_, fun ne => ?_⟩
  · obtain ⟨g3, g4⟩ := g2 en
    by_cases o : OutMx EM a.toInt b.toInt q.toInt
    · rw [h1 o, g3 o]
    · obtain ⟨h3, h4⟩ := h2 o
      obtain ⟨g5, g6⟩ := g4 o
      by_cases l : (lRC E a b q (cf 3)).toInt = -1
      · rw [(h3 l).1 (hen.mpr en), g5 l]
      · rw [h4 l, g6 l]
        rcases lR_is (q := q) hR (by omega) ha hb with q1 | ⟨q1, -, -⟩
        · exact absurd q1 l
        · exact congrArg Int32.toInt (hR.tb3 (12, 2, 26) (by decide) _ q1)
  · have no : ¬ entCd E a.toNatClampNeg b.toNatClampNeg q.toInt := fun z => ne (hen.mp z)
    have o : ¬ OutMx EM a.toInt b.toInt q.toInt := fun z => by
      obtain ⟨p, hp, z1⟩ := hO.mpr z
      rw [← ta, ← tb] at z1
      exact no (out_ent hR hp z1)
    obtain ⟨h3, -⟩ := h2 o
    rcases lR_is (q := q) hR (by omega) ha hb with q1 | ⟨-, -, q1⟩
    · exact ⟨(h3 q1).2 no, g1 ne⟩
    · exact absurd q1 no
/-- how many are DISQUALIFIED -/
theorem cnt_eq {cf : Nat → Nat} {E EM : Nat → va_E} {c c' : Int} (hR : REL cf E EM) (hG : GR cf E EM) (hn : 0 ≤ (xi (E 1) 0).toInt ∧ (xi (E 1) 0).toInt ≤ 400) (h1 : 0 ≤ (xi (E 1) 1).toInt ∧ (xi (E 1) 1).toInt ≤ 16) (h : Cn2 (fun r9 b9 => exF (outC E ((r9 : Nat) : Int) (xi (E 1) 0).toInt ((b9 : Nat) : Int)) (cf 5)) 16 (cf 2) c) (h' : Cn2 (fun r9 b9 => OutMx EM ((r9 : Nat) : Int) ((b9 : Nat) : Int) (xi (EM 0) 1).toInt) (xi (EM 0) 8).toNatClampNeg (xi (EM 0) 46).toNatClampNeg c') : c = c' := by
  have hN : (xi (EM 0) 46).toNatClampNeg = cf 2 := by
    have h1 := hR.cnt.2.1
    rw [tn_]
    omega
  rw [hN, ← hR.now, ← hR.boats] at h'
  refine Cn2.un (cf 2) c c' h h' (fun k hk d d' g g' => ?_)
  have hb : (xi (E 1) 1).toNatClampNeg ≤ 16 := by
    rw [tn_]
    omega
  have g2 := g.cut hb (fun b hb1 hb2 z => by
    obtain ⟨p, hp, z1⟩ := z
    have z2 := out_ent hR hp z1
    have z3 := hR.eb k b hk hb2
    have z4 : ¬ (xi (E (64 * (k + 1) + 7)) b).toInt = -1 := z2.1
    rw [tn_] at hb1
    omega)
  exact CnR.un _ d d' g2 g' (fun b _ => Out_eq hR hG ⟨hn.1, by omega⟩)
/-! ===== CORRECTED and PLACES alike ===== -/
theorem fn_eq {cT : Nat → ClassId} {cf am : Nat → Nat} {E EM : Nat → va_E} {a q : Int32} (hR : REL cf E EM) (hG : GR cf E EM) (hM : IX cT shM spM 72 am EM) (h20 : cf 2 ≤ 20) (h3 : cf 3 ≤ 300) (ha : 0 ≤ a.toInt ∧ a.toInt < ((cf 2 : Nat) : Int)) (hq : 0 ≤ q.toInt ∧ q.toInt ≤ 400) {o : Nat} (ho : o < 16) : CdR cf E a q o 0 ↔ CdM EM a (nI o) q 0 := by
  have hi : (nI o).toInt = (o : Int) := nI_toInt (by omega)
  have hn : (nI o).toNatClampNeg = o := by
    rw [tn_, hi]
    omega
  have hen := pen (n := q.toInt) hR.en hM hq h20 a (nI o) ha (by omega)
  have key : ∀ c c' : Int, CdR cf E a q o c → CdM EM a (nI o) q c' → (entMd EM a.toInt (nI o).toInt q.toInt → c = c') ∧ (¬ entMd EM a.toInt (nI o).toInt q.toInt → c = -1 ∧ c' = 2) := fun c c' h h' => cd_eq (a := a) (b := nI o) (q := q) hR hG h3 ha.1 (by omega) (by omega) hen (by rw [hn]; exact h) h'
  constructor
  · intro h
    obtain ⟨c', h'⟩ := CdM.tot (E := EM) (race := a) (boat := nI o) (q := q)
    by_cases en : entMd EM a.toInt (nI o).toInt q.toInt
    · rw [(key 0 c' h h').1 en]
      exact h'
    · exact absurd ((key 0 c' h h').2 en).1 (by decide)
  · intro h'
    obtain ⟨c, h⟩ := CdR.tot (cf := cf) (E := E) (race := a) (q := q) (b := o)
    by_cases en : entMd EM a.toInt (nI o).toInt q.toInt
    · rw [← (key c 0 h h').1 en]
      exact h
    · exact absurd ((key c 0 h h').2 en).2 (by decide)
theorem tm_eq {cf : Nat → Nat} {E EM : Nat → va_E} {a q : Int32} (hR : REL cf E EM) (hU : RuRel cf E EM) (h16 : cf 1 ≤ 16) (h80 : cf 0 ≤ 80) (h3 : cf 3 ≤ 300) (ha : 0 ≤ a.toInt ∧ a.toInt < ((cf 2 : Nat) : Int)) {o : Nat} (ho : o < 16) (h : CdR cf E a q o 0) : tmC cf E a q o = tmM EM a q o := by
  have hi : (nI o).toInt = (o : Int) := nI_toInt (by omega)
  have haN : a.toNatClampNeg < cf 2 := by
    rw [tn_]
    omega
  have t2 : ∀ j row, (6, j, row) ∈ tb2 → rcS E a.toNatClampNeg j = xi (EM row) a.toNatClampNeg := fun j row hm => hR.tb2 (6, j, row) hm _ haN
  have hl := CdR_0 h
  have hs : xi (E (64 * ((lRC E a (nI o) q (cf 3)).toNatClampNeg + 1) + 12)) 3 = xi (EM 27) (lRM EM a (nI o) q).toNatClampNeg := by
    rw [← lR_eq hR]
    rcases lR_is (a := a) (b := nI o) (q := q) hR h3 ha.1 (by omega) with q1 | ⟨q1, -, -⟩
    · exact absurd q1 hl
    · exact hR.tb3 (12, 3, 27) (by decide) _ q1
  unfold tmC tmM tmB
  rw [hs, t2 1 13 (by decide), t2 2 14 (by decide), t2 3 15 (by decide), num_eq hU hR.ce h16 h80]
theorem fin_boat {cf : Nat → Nat} {E EM : Nat → va_E} {a q : Int32} (hR : REL cf E EM) (h3 : cf 3 ≤ 300) (ha : 0 ≤ a.toInt ∧ a.toInt < ((cf 2 : Nat) : Int)) {o : Nat} (ho : o < 16) (h : CdR cf E a q o 0) : (o : Int) < (xi (E 1) 1).toInt := by
  have hi : (nI o).toInt = (o : Int) := nI_toInt (by omega)
  rcases lR_is (a := a) (b := nI o) (q := q) hR h3 ha.1 (by omega) with q1 | ⟨-, -, q1⟩
  · exact absurd q1 (CdR_0 h)
  · have hn : (nI o).toNatClampNeg = o := by
      rw [tn_, hi]
      omega
    rw [hn] at q1
    have h9 := hR.eb a.toNatClampNeg o (by rw [tn_]; omega) ho
    have h8 : ¬ (xi (E (64 * (a.toNatClampNeg + 1) + 7)) o).toInt = -1 := q1.1
    omega
theorem pl_eq {cT : Nat → ClassId} {cf am : Nat → Nat} {E EM : Nat → va_E} {a q : Int32} (hR : REL cf E EM) (hG : GR cf E EM) (hU : RuRel cf E EM) (hM : IX cT shM spM 72 am EM) (h16 : cf 1 ≤ 16) (h80 : cf 0 ≤ 80) (h20 : cf 2 ≤ 20) (h3 : cf 3 ≤ 300) (h1 : 0 ≤ (xi (E 1) 1).toInt ∧ (xi (E 1) 1).toInt ≤ 16) (ha : 0 ≤ a.toInt ∧ a.toInt < ((cf 2 : Nat) : Int)) (hq : 0 ≤ q.toInt ∧ q.toInt ≤ 400) {b : Nat} (hb : b < 16) (hf : CdR cf E a q b 0) {p p' : Int} (h : PlS (fun o => CdR cf E a q o 0) (tmC cf E a q) 16 b p) (h' : PlS (fun o => CdM EM a (nI o) q 0) (tmM EM a q) (xi (EM 0) 8).toNatClampNeg b p') : p = p' := by
  have hN : (xi (E 1) 1).toNatClampNeg ≤ 16 := by
    rw [tn_]
    omega
  have hT : ∀ o, o < 16 → CdR cf E a q o 0 → tmC cf E a q o = tmM EM a q o := fun o ho hc => tm_eq hR hU h16 h80 h3 ha ho hc
  have hF : ∀ o, o < 16 → (CdR cf E a q o 0 ↔ CdM EM a (nI o) q 0) := fun o ho => fn_eq hR hG hM h20 h3 ha hq ho
  have hB : ∀ o, (xi (E 1) 1).toNatClampNeg ≤ o → o < 16 → ¬ CdR cf E a q o 0 := fun o h2 h3' hc => by
    have h9 := fin_boat hR h3 ha h3' hc
    rw [tn_] at h2
    omega
  rw [← hR.boats] at h'
  obtain ⟨x, y, g1, g2, g3⟩ := h
  obtain ⟨x', y', k1, k2, k3⟩ := h'
  have e1 : x = x' := CnR.un _ x x' (g1.cut hN (fun k h2 h4 z => hB k h2 h4 z.1)) k1 (fun k hk => by
    have hk16 : k < 16 := by omega
    constructor
    · rintro ⟨z1, z2⟩
      exact ⟨(hF k hk16).mp z1, by rw [← hT k hk16 z1, ← hT b hb hf]; exact z2⟩
    · rintro ⟨z1, z2⟩
      have z3 := (hF k hk16).mpr z1
      exact ⟨z3, by rw [hT k hk16 z3, hT b hb hf]; exact z2⟩)
  have e2 : y = y' := CnR.un _ y y' (g2.cut hN (fun k h2 h4 z => hB k h2 h4 z.1)) k2 (fun k hk => by
    have hk16 : k < 16 := by omega
    constructor
    · rintro ⟨z1, z2⟩
      exact ⟨(hF k hk16).mp z1, by rw [← hT k hk16 z1, ← hT b hb hf]; exact z2⟩
    · rintro ⟨z1, z2⟩
      have z3 := (hF k hk16).mpr z1
      exact ⟨z3, by rw [hT k hk16 z3, hT b hb hf]; exact z2⟩)
  omega
theorem CdM_ent {E : Nat → va_E} {race boat q : Int32} (h : CdM E race boat q 0) : entMd E race.toInt boat.toInt q.toInt := Classical.byContradiction (fun z => absurd (h.1 z) (by decide))
/-! ===== POINTS alike ===== -/
theorem red_eq {cf : Nat → Nat} {E EM : Nat → va_E} {i b : Nat} {q : Int} (hR : REL cf E EM) (hi : i < cf 2) (hb : b < 16) (ht : ∀ k : Nat, (k : Int) < (xi (EM 0) 48).toInt → 0 ≤ (xi (EM 31) k).toInt) : redC E b q i ↔ redM EM (i : Int) (b : Int) q := by
  obtain ⟨h1, h2⟩ := hR.rd i b hi hb
  constructor
  · rintro ⟨z1, z2⟩
    obtain ⟨⟨k, k1, k2, k3⟩, -⟩ := h2 z1
    have h4 := h1 k k1 k2 k3
    exact ⟨k, k1, k2, k3, by omega⟩
  · rintro ⟨k, k1, k2, k3, k4⟩
    have h4 := h1 k k1 k2 k3
    have h5 := ht k k1
    exact ⟨by omega, by omega⟩
theorem entC_cn {g : Nat → Int32} {q : Int} : ∀ n : Nat, CnR (fun o => ¬ (g o).toInt = -1 ∧ (g o).toInt ≤ q) n ((entC g q n : Nat) : Int) := by
  intro n
  induction n with
  | zero => rfl
  | succ n ih =>
    by_cases c : ¬ (g n).toInt = -1 ∧ (g n).toInt ≤ q
    · exact ih.one c (by rw [entC_1 c]; omega) rfl
    · exact ih.no c (by rw [entC_0 c]) rfl
theorem CdM_nn {cT : Nat → ClassId} {cf am : Nat → Nat} {E EM : Nat → va_E} {a b q : Int32} {c : Int} (hR : REL cf E EM) (hM : IX cT shM spM 72 am EM) (h3 : cf 3 ≤ 300) (ha : 0 ≤ a.toInt) (hb : 0 ≤ b.toInt) (h : CdM EM a b q c) : 0 ≤ c := by
  by_cases e : entMd EM a.toInt b.toInt q.toInt
  · by_cases o : OutMx EM a.toInt b.toInt q.toInt
    · rw [(h.2 e).1 o]
      decide
    · by_cases z : (lRM EM a b q).toInt = -1
      · rw [((h.2 e).2 o).1 z]
        decide
      · rw [((h.2 e).2 o).2 z]
        have hz := z
        rw [← lR_eq hR] at hz
        rcases lR_is (q := q) hR h3 ha hb with q1 | ⟨q1, -, -⟩
        · exact absurd q1 hz
        · rw [lR_eq hR] at q1
          have h9 : (0 : Int) ≤ (xi (EM 26) (lRM EM a b q).toNatClampNeg).toInt ∧ (xi (EM 26) (lRM EM a b q).toNatClampNeg).toInt ≤ 4 := hM.iv 26 (Nat.le_of_ble_eq_true rfl) rfl (show (lRM EM a b q).toNatClampNeg < 300 by omega) rfl
          exact h9.1
  · rw [h.1 e]
    decide
theorem pp_eq {cT : Nat → ClassId} {cf am : Nat → Nat} {E EM : Nat → va_E} {a b q : Int32} (hR : REL cf E EM) (hG : GR cf E EM) (hU : RuRel cf E EM) (hM : IX cT shM spM 72 am EM) (h16 : cf 1 ≤ 16) (h80 : cf 0 ≤ 80) (h20 : cf 2 ≤ 20) (h3 : cf 3 ≤ 300) (h1 : 0 ≤ (xi (E 1) 1).toInt ∧ (xi (E 1) 1).toInt ≤ 16) (ha : 0 ≤ a.toInt ∧ a.toInt < ((cf 2 : Nat) : Int)) (hb : 0 ≤ b.toInt ∧ b.toInt < 16) (hq : 0 ≤ q.toInt ∧ q.toInt ≤ 400) {p p' : Int} (h : PpC cf E a q b.toNatClampNeg p) (h' : PpM EM a b q p') : p = p' := by
  have hbn : b.toNatClampNeg < 16 := by
    rw [tn_]
    omega
  have han : a.toNatClampNeg < cf 2 := by
    rw [tn_]
    omega
  have hN : (xi (E 1) 1).toNatClampNeg ≤ 16 := by
    rw [tn_]
    omega
  obtain ⟨c, pl, f, c1, c2, c3, c4, c5⟩ := h
  obtain ⟨c', pl', e', f', m1, m2, m3, m4, m5, m6⟩ := h'
  have hen := pen (n := q.toInt) hR.en hM hq h20 a b ha hb
  have key := cd_eq (a := a) (b := b) (q := q) hR hG h3 ha.1 hb.1 (by omega) hen c1 m1
  have hnn := CdM_nn hR hM h3 ha.1 hb.1 m1
  have hc : (if c = -1 then 2 else c) = c' := by
    by_cases en : entMd EM a.toInt b.toInt q.toInt
    · have h9 := key.1 en
      rw [if_neg (by omega)]
      exact h9
    · have h9 := key.2 en
      rw [if_pos h9.1]
      exact h9.2.symm
  have hc0 : c = 0 ↔ c' = 0 := by
    by_cases en : entMd EM a.toInt b.toInt q.toInt
    · have h9 := key.1 en
      omega
    · have h9 := key.2 en
      omega
  have hpl : pl = pl' := by
    by_cases z : c = 0
    · have z' := hc0.mp z
      subst z
      exact pl_eq hR hG hU hM h16 h80 h20 h3 h1 ha hq hbn c1 (c2 rfl) (m2 z')
    · rw [c3 z, m3 (fun w => z (hc0.mpr w))]
  have hF : ∀ o, o < 16 → (CdR cf E a q o 0 ↔ CdM EM a (nI o) q 0) := fun o ho => fn_eq hR hG hM h20 h3 ha hq ho
  have hf : f = f' := by
    rw [← hR.boats] at m5
    exact CnR.un _ f f' (c4.cut hN (fun k h2 h4 z => by
      have h9 := fin_boat hR h3 ha h4 z
      rw [tn_] at h2
      omega)) m5 (fun k hk => hF k (by omega))
  have he : ((entC (xi (E (64 * (a.toNatClampNeg + 1) + 7))) q.toInt 16 : Nat) : Int) = e' := by
    rw [← hR.boats] at m4
    refine CnR.un _ _ e' ((entC_cn (g := xi (E (64 * (a.toNatClampNeg + 1) + 7))) (q := q.toInt) 16).cut hN (fun k h2 h4 z => ?_)) m4 (fun k hk => ?_)
    · have h9 := hR.eb a.toNatClampNeg k han h4
      have h8 := z.1
      rw [tn_] at h2
      omega
    · have hi : (nI k).toInt = (k : Int) := nI_toInt (by omega)
      have hn : (nI k).toNatClampNeg = k := by
        rw [tn_, hi]
        omega
      have h9 := pen (n := q.toInt) hR.en hM hq h20 a (nI k) ha (by omega)
      rw [hn, hi] at h9
      exact h9
  have hd : rcS E a.toNatClampNeg 1 = xi (EM 13) a.toNatClampNeg := hR.tb2 (6, 1, 13) (by decide) _ han
  rw [c5, m6, hc, hpl, hf, he, hd, hU.wv h16 (by decide)]
theorem pt_eq {cT : Nat → ClassId} {cf am : Nat → Nat} {E EM : Nat → va_E} {a b q : Int32} (hR : REL cf E EM) (hG : GR cf E EM) (hU : RuRel cf E EM) (hM : IX cT shM spM 72 am EM) (h16 : cf 1 ≤ 16) (h80 : cf 0 ≤ 80) (h20 : cf 2 ≤ 20) (h3 : cf 3 ≤ 300) (h1 : 0 ≤ (xi (E 1) 1).toInt ∧ (xi (E 1) 1).toInt ≤ 16) (ha : 0 ≤ a.toInt ∧ a.toInt < ((cf 2 : Nat) : Int)) (hb : 0 ≤ b.toInt ∧ b.toInt < 16) (hq : 0 ≤ q.toInt ∧ q.toInt ≤ 400) (ht : ∀ k : Nat, (k : Int) < (xi (EM 0) 48).toInt → 0 ≤ (xi (EM 31) k).toInt) {p p' : Int} (h : PtC cf E a q b.toNatClampNeg p) (h' : PtM EM a b q p') : p = p' := by
  have hbn : b.toNatClampNeg < 16 := by
    rw [tn_]
    omega
  have han : a.toNatClampNeg < cf 2 := by
    rw [tn_]
    omega
  have ta : ((a.toNatClampNeg : Nat) : Int) = a.toInt := by
    rw [tn_]
    omega
  have tb : ((b.toNatClampNeg : Nat) : Int) = b.toInt := by
    rw [tn_]
    omega
  have hN : (xi (EM 0) 46).toNatClampNeg = cf 2 := by
    have h1 := hR.cnt.2.1
    rw [tn_]
    omega
  have hr := red_eq (q := q.toInt) hR han hbn ht
  rw [ta, tb] at hr
  by_cases r : redC E b.toNatClampNeg q.toInt a.toNatClampNeg
  · obtain ⟨n, s, m, k1, k2, k3, k4⟩ := h.2 r
    obtain ⟨s', m', g1, g2, g3⟩ := h'.2 (hr.mp r)
    rw [hN] at g1 g2
    have hbd := CnR.bd (cf 2) n k1
    have pre := CnR.pre (cf 2) n k1 (fun i k hik hk z => by
      have h9 := hR.rmo i k hik hk
      have z1 : (rcS E k 0).toInt ≤ q.toInt := z
      show (rcS E i 0).toInt ≤ q.toInt
      exact Int.le_trans h9 z1)
    have pq : ∀ k, k < cf 2 → ((¬ (k : Int) = a.toInt ∧ ¬ redC E b.toNatClampNeg q.toInt k) ∧ (rcS E k 0).toInt ≤ q.toInt ↔ PMr EM a b q k) := fun k hk => by
      have h9 := red_eq (q := q.toInt) hR hk hbn ht
      rw [tb] at h9
      have h8 : rcS E k 0 = xi (EM 20) k := hR.tb2 (6, 0, 20) (by decide) k hk
      unfold PMr
      rw [h9, h8]
      constructor
      · rintro ⟨⟨z1, z2⟩, z3⟩
        exact ⟨z1, z3, z2⟩
      · rintro ⟨z1, z3, z2⟩
        exact ⟨⟨z1, z2⟩, z3⟩
    have hin : ∀ k, k < n.toNat → (rcS E k 0).toInt ≤ q.toInt := fun k hk => (pre k (by omega)).mpr (by omega)
    have hout : ∀ k, n.toNat ≤ k → k < n.toNat + (cf 2 - n.toNat) → ¬ ((¬ (k : Int) = a.toInt ∧ ¬ redC E b.toNatClampNeg q.toInt k) ∧ (rcS E k 0).toInt ≤ q.toInt) := fun k h2 h4 z => by
      have h9 := (pre k (by omega)).mp z.2
      omega
    have hcf : n.toNat + (cf 2 - n.toNat) = cf 2 := by omega
    have s1 : SmR (fun k => (¬ (k : Int) = a.toInt ∧ ¬ redC E b.toNatClampNeg q.toInt k) ∧ (rcS E k 0).toInt ≤ q.toInt) (fun o v => PpC cf E (nI o) q b.toNatClampNeg v) (n.toNat + (cf 2 - n.toNat)) s := (k2.cg n.toNat s (fun k hk => ⟨fun z => ⟨z, hin k hk⟩, fun z => z.1⟩) (fun _ _ _ _ hv => hv)).ext _ hout
    have m1 : CnR (fun k => (¬ (k : Int) = a.toInt ∧ ¬ redC E b.toNatClampNeg q.toInt k) ∧ (rcS E k 0).toInt ≤ q.toInt) (n.toNat + (cf 2 - n.toNat)) m := (k3.cg n.toNat m (fun k hk => ⟨fun z => ⟨z, hin k hk⟩, fun z => z.1⟩)).ext _ hout
    rw [hcf] at s1 m1
    have es : s = s' := SmR.un (cf 2) s s' s1 g1 pq (fun k hk _ v v' hv hv' => by
      have hi : (nI k).toInt = (k : Int) := nI_toInt (by omega)
      exact pp_eq hR hG hU hM h16 h80 h20 h3 h1 (by omega) hb hq hv hv')
    have em : m = m' := CnR.un (cf 2) m m' m1 g2 pq
    rw [k4, g3, es, em]
  · exact pp_eq hR hG hU hM h16 h80 h20 h3 h1 ha hb hq (h.1 r) (h'.1 (fun z => r (hr.mpr z)))
/-! ===== MIDDLE alike ===== -/
theorem md_eq {cT : Nat → ClassId} {cf am : Nat → Nat} {E EM : Nat → va_E} {a b q r r' : Int32} (hR : REL cf E EM) (hG : GR cf E EM) (hU : RuRel cf E EM) (hM : IX cT shM spM 72 am EM) (h16 : cf 1 ≤ 16) (h80 : cf 0 ≤ 80) (h20 : cf 2 ≤ 20) (h3 : cf 3 ≤ 300) (h1 : 0 ≤ (xi (E 1) 1).toInt ∧ (xi (E 1) 1).toInt ≤ 16) (ha : 0 ≤ a.toInt ∧ a.toInt < ((cf 2 : Nat) : Int)) (hb : 0 ≤ b.toInt ∧ b.toInt < 16) (hq : 0 ≤ q.toInt ∧ q.toInt ≤ 400) (h : MdC cf E a q b.toNatClampNeg r) (h' : MdV (fun o9 => CdM EM a (nI o9) q 0) (tmM EM a q) (xi (EM 0) 8).toNatClampNeg b.toNatClampNeg ((xi (EM 15) a.toNatClampNeg).toInt = 0 ∧ CdM EM a b q 0) r') : r.toInt = r'.toInt := by
  have hbn : b.toNatClampNeg < 16 := by
    rw [tn_]
    omega
  have han : a.toNatClampNeg < cf 2 := by
    rw [tn_]
    omega
  have hF : ∀ o, o < 16 → (CdR cf E a q o 0 ↔ CdM EM a (nI o) q 0) := fun o ho => fn_eq hR hG hM h20 h3 ha hq ho
  have hw : rcS E a.toNatClampNeg 3 = xi (EM 15) a.toNatClampNeg := hR.tb2 (6, 3, 15) (by decide) _ han
  have hbF := hF b.toNatClampNeg hbn
  rw [nI_tn hb.1] at hbF
  rw [← hR.boats] at h'
  exact MdV.un h h' (by rw [tn_]; omega) (by rw [hw, hbF]) hF (fun i hi z => tm_eq hR hU h16 h80 h3 ha hi z) (fun i h2 h4 z => by
    have h9 := fin_boat hR h3 ha h4 z
    rw [tn_] at h2
    omega)
/-! ===== FIT alike ===== -/
theorem MR.ex {F : Nat → Prop} {T : Nat → Int32} {sk : Nat} : ∀ k : Nat, ∃ (n : Nat) (g : Nat → Int32), MR F T sk k n g := by
  intro k
  induction k with
  | zero => exact ⟨0, fun _ => 0, rfl⟩
  | succ k ih =>
    obtain ⟨n, g, h⟩ := ih
    by_cases c : ¬ k = sk ∧ F k
    · exact ⟨n + 1, fun i => shf g (T k) n i, h.one c (fun _ _ => rfl) rfl rfl⟩
    · exact ⟨n, g, h.no c rfl⟩
theorem MdV.ex {F : Nat → Prop} {T : Nat → Int32} {K sk : Nat} {ok : Prop} : ∃ r : Int32, MdV F T K sk ok r := by
  have e : (-1000000000 : Int32).toInt = -1000000000 := by decide
  by_cases o : ok
  · obtain ⟨n, g, h⟩ := MR.ex (F := F) (T := T) (sk := sk) K
    by_cases z : n = 0
    · exact ⟨-1000000000, fun w => absurd o w, fun _ => ⟨n, g, h, fun _ => e, fun w => absurd z w⟩⟩
    · exact ⟨g ((n - 1) / 2), fun w => absurd o w, fun _ => ⟨n, g, h, fun w => absurd w z, fun _ => rfl⟩⟩
  · exact ⟨-1000000000, fun _ => e, fun w => absurd w o⟩
theorem md_eqr {cT : Nat → ClassId} {cf am : Nat → Nat} {E EM : Nat → va_E} {b q x y : Int32} {r : Nat} (hR : REL cf E EM) (hG : GR cf E EM) (hU : RuRel cf E EM) (hM : IX cT shM spM 72 am EM) (h16 : cf 1 ≤ 16) (h80 : cf 0 ≤ 80) (h20 : cf 2 ≤ 20) (h3 : cf 3 ≤ 300) (h1 : 0 ≤ (xi (E 1) 1).toInt ∧ (xi (E 1) 1).toInt ≤ 16) (hr : r < cf 2) (hb : 0 ≤ b.toInt ∧ b.toInt < 16) (hq : 0 ≤ q.toInt ∧ q.toInt ≤ 400) (h : MdC cf E (nI r) q b.toNatClampNeg x) (h' : MdM EM b q r y) : x.toInt = y.toInt := by
  have hi : (nI r).toInt = (r : Int) := nI_toInt (by omega)
  exact md_eq (a := nI r) (b := b) (q := q) hR hG hU hM h16 h80 h20 h3 h1 ⟨by omega, by omega⟩ hb hq h h'
theorem fit_eq {cT : Nat → ClassId} {cf am : Nat → Nat} {E EM : Nat → va_E} {b q : Int32} {f f' : Int} (hR : REL cf E EM) (hG : GR cf E EM) (hU : RuRel cf E EM) (hM : IX cT shM spM 72 am EM) (h16 : cf 1 ≤ 16) (h80 : cf 0 ≤ 80) (h20 : cf 2 ≤ 20) (h3 : cf 3 ≤ 300) (h1 : 0 ≤ (xi (E 1) 1).toInt ∧ (xi (E 1) 1).toInt ≤ 16) (hb : 0 ≤ b.toInt ∧ b.toInt < 16) (hq : 0 ≤ q.toInt ∧ q.toInt ≤ 400) (h : FtR (ctC cf E b.toNatClampNeg q) (ftC cf E b.toNatClampNeg q) (cf 2) f) (h' : FtR (fun r9 => ∃ x9 : Int32, MdM EM b q r9 x9 ∧ ¬ x9.toInt = -1000000000) (fun v9 r9 x9 => ∃ s9 m9 : Int32, (MdM EM b q r9 m9 ∧ ¬ m9.toInt = -1000000000 ∧ s9 = xi (EM 27) (lRM EM (nI r9) b q).toNatClampNeg) ∧ x9 = tFt s9 m9 v9) (xi (EM 0) 46).toNatClampNeg f') : f = f' := by
  have hN : (xi (EM 0) 46).toNatClampNeg = cf 2 := by
    have h1 := hR.cnt.2.1
    rw [tn_]
    omega
  rw [hN] at h'
  have key : ∀ r, r < cf 2 → ∀ x y, MdC cf E (nI r) q b.toNatClampNeg x → MdM EM b q r y → x.toInt = y.toInt := fun r hr x y hx hy => md_eqr hR hG hU hM h16 h80 h20 h3 h1 hr hb hq hx hy
  refine FtR.un h h' (fun r hr => ⟨?_, ?_⟩) (fun v _ _ r hr hp x x' hx hx' => ?_)
  · rintro ⟨x, k1, k2⟩
    obtain ⟨y, hy⟩ : ∃ y, MdM EM b q r y := MdV.ex
    exact ⟨y, hy, by rw [← key r hr x y k1 hy]; exact k2⟩
  · rintro ⟨y, k1, k2⟩
    obtain ⟨x, hx⟩ : ∃ x, MdC cf E (nI r) q b.toNatClampNeg x := MdV.ex
    exact ⟨x, hx, by rw [key r hr x y hx k1]; exact k2⟩
  · obtain ⟨m, m1, m2, m3⟩ := hx
    obtain ⟨s9, m9, ⟨n1, n2, n3⟩, n4⟩ := hx'
    have em : m = m9 := Int32.toInt_inj.mp (key r hr m m9 m1 n1)
    have hi : (nI r).toInt = (r : Int) := nI_toInt (by omega)
    have hl := CdR_0 (MdC_ok m1 m2)
    rw [nI_tn hb.1] at hl
    have es : scC cf E b.toNatClampNeg q r = s9 := by
      unfold scC
      rw [nI_tn hb.1, n3, ← lR_eq hR]
      rcases lR_is (a := nI r) (b := b) (q := q) hR h3 (by omega) hb.1 with q1 | ⟨q1, -, -⟩
      · exact absurd q1 hl
      · exact hR.tb3 (12, 3, 27) (by decide) _ q1
    rw [m3, n4, em, es]
/-! ===== SUSPECTED alike ===== -/
theorem sp_eq {cT : Nat → ClassId} {cf am : Nat → Nat} {E EM : Nat → va_E} {b q : Int32} {w f f' : Int} (hR : REL cf E EM) (hG : GR cf E EM) (hU : RuRel cf E EM) (hM : IX cT shM spM 72 am EM) (h16 : cf 1 ≤ 16) (h80 : cf 0 ≤ 80) (h20 : cf 2 ≤ 20) (h3 : cf 3 ≤ 300) (h1 : 0 ≤ (xi (E 1) 1).toInt ∧ (xi (E 1) 1).toInt ≤ 16) (hb : 0 ≤ b.toInt ∧ b.toInt < 16) (hq : 0 ≤ q.toInt ∧ q.toInt ≤ 400) (hn : (xi (E 1) 0).toInt = q.toInt) (h : SpR (ctC cf E b.toNatClampNeg q) (dyC E) (rtC cf E b.toNatClampNeg q) (cf 2) w f) (h' : SpR (fun r9 => ctM EM b q r9 ∧ dyM EM r9 ≤ q.toInt) (dyM EM) (rtM EM b q) (xi (EM 0) 46).toNatClampNeg w f') : f = f' := by
  have hN : (xi (EM 0) 46).toNatClampNeg = cf 2 := by
    have h1 := hR.cnt.2.1
    rw [tn_]
    omega
  rw [hN] at h'
  have key : ∀ r, r < cf 2 → ∀ x y, MdC cf E (nI r) q b.toNatClampNeg x → MdM EM b q r y → x.toInt = y.toInt := fun r hr x y hx hy => md_eqr hR hG hU hM h16 h80 h20 h3 h1 hr hb hq hx hy
  have hd : ∀ r, r < cf 2 → dyC E r = dyM EM r := fun r hr => congrArg Int32.toInt (hR.tb2 (6, 1, 13) (by decide) r hr)
  have hdn : ∀ r, r < cf 2 → dyM EM r ≤ q.toInt := fun r hr => by
    have h9 : dyC E r ≤ (xi (E 1) 0).toInt := hR.tn2 (6, 1) (by decide) r hr
    rw [← hd r hr, ← hn]
    exact h9
  have hbn : b.toNatClampNeg < 16 := by
    rw [tn_]
    omega
  refine SpR.un h h' (fun r hr => ⟨?_, ?_⟩) hd (fun r hr hp x x' hx hx' => ?_)
  · rintro ⟨x, k1, k2⟩
    obtain ⟨y, hy⟩ : ∃ y, MdM EM b q r y := MdV.ex
    exact ⟨⟨y, hy, by rw [← key r hr x y k1 hy]; exact k2⟩, hdn r hr⟩
  · rintro ⟨⟨y, k1, k2⟩, -⟩
    obtain ⟨x, hx⟩ : ∃ x, MdC cf E (nI r) q b.toNatClampNeg x := MdV.ex
    exact ⟨x, hx, by rw [key r hr x y hx k1]; exact k2⟩
  · obtain ⟨m, m1, m2, m3⟩ := hx
    obtain ⟨m9, n1, n2, n3⟩ := hx'
    have em : m = m9 := Int32.toInt_inj.mp (key r hr m m9 m1 n1)
    have hi : (nI r).toInt = (r : Int) := nI_toInt (by omega)
    have et : tmC cf E (nI r) q b.toNatClampNeg = tmM EM (nI r) q b.toNatClampNeg := tm_eq hR hU h16 h80 h3 ⟨by omega, by omega⟩ hbn (MdC_ok m1 m2)
    have ew : tmM EM (nI r) q b.toNatClampNeg = tmB EM (nI r) b q := by
      unfold tmM
      rw [nI_tn hb.1]
    rw [m3, n3, em, et, ew]
/-! ===== the DRAW alike ===== -/
def CB (cf : Nat → Nat) (E : Nat → va_E) : Prop := ∀ i, i < cf 0 → (xi (E (64 * (i + 1) + 0)) 0).toInt < (xi (E 1) 1).toInt
def REL13 (cf : Nat → Nat) (E EM : Nat → va_E) : Prop := REL6 cf E EM ∧ CB cf E
theorem CB.keep {cf cf' : Nat → Nat} {E E' : Nat → va_E} (h : CB cf E) (hc : cf' 0 = cf 0) (hb : (xi (E 1) 1).toInt ≤ (xi (E' 1) 1).toInt) (hk : ∀ i, i < cf 0 → xi (E' (64 * (i + 1) + 0)) 0 = xi (E (64 * (i + 1) + 0)) 0) : CB cf' E' := fun i hi => by
  rw [hc] at hi
  rw [hk i hi]
  have := h i hi
  omega
theorem CB.push {cf cf' : Nat → Nat} {E E' : Nat → va_E} (h : CB cf E) (hc : cf' 0 = cf 0 + 1) (hb : (xi (E 1) 1).toInt ≤ (xi (E' 1) 1).toInt) (hk : ∀ i, i < cf 0 → xi (E' (64 * (i + 1) + 0)) 0 = xi (E (64 * (i + 1) + 0)) 0) (hn : (xi (E' (64 * (cf 0 + 1) + 0)) 0).toInt < (xi (E' 1) 1).toInt) : CB cf' E' := fun i hi => by
  rw [hc] at hi
  by_cases q : i = cf 0
  · rw [q]
    exact hn
  · rw [hk i (by omega)]
    have := h i (by omega)
    omega
theorem cx_eq {cf : Nat → Nat} {E EM : Nat → va_E} (hR : REL cf E EM) (b : Nat) : cxC cf E b ↔ cxM EM b := by
  have hN : (xi (EM 0) 9).toNatClampNeg = cf 0 := by
    have h1 := hR.cnt.1
    rw [tn_]
    omega
  unfold cxC cxK cxM
  rw [hN]
  constructor
  · rintro ⟨i, h1, h2⟩
    exact ⟨i, h1, (congrArg Int32.toInt (hR.tb0 (0, 0, 1) (by decide) i h1)).symm.trans h2⟩
  · rintro ⟨i, h1, h2⟩
    exact ⟨i, h1, (congrArg Int32.toInt (hR.tb0 (0, 0, 1) (by decide) i h1)).trans h2⟩
theorem dw_eq {cT : Nat → ClassId} {cf am : Nat → Nat} {E EM : Nat → va_E} {q r r' : Int32} {n : Int} {x0 : Int64} (hR : REL cf E EM) (hG : GR cf E EM) (hU : RuRel cf E EM) (hB : CB cf E) (hM : IX cT shM spM 72 am EM) (h16 : cf 1 ≤ 16) (h80 : cf 0 ≤ 80) (h20 : cf 2 ≤ 20) (h3 : cf 3 ≤ 300) (h1 : 0 ≤ (xi (E 1) 1).toInt ∧ (xi (E 1) 1).toInt ≤ 16) (hq : 0 ≤ q.toInt ∧ q.toInt ≤ 400) (h : DwR (cxC cf E) (WdC cf E q) 16 n x0 r) (h' : DwR (cxM EM) (WdM EM q) (xi (EM 0) 8).toNatClampNeg n x0 r') : r = r' := by
  have e8 : (xi (E 1) 1).toInt = (xi (EM 0) 8).toInt := congrArg Int32.toInt hR.boats
  have hk : (xi (EM 0) 8).toNatClampNeg ≤ 16 := by
    rw [tn_]
    omega
  refine DwR.un hk h h' (fun b _ => cx_eq hR b) (fun b h8 h9 => ?_) (fun b hb w w' hw hw' => ?_) (fun b w hw => hw.nn)
  · rintro ⟨i, hi, e⟩
    have h7 := hB i hi
    rw [tn_] at h8
    omega
  · have hi : (nI b).toInt = (b : Int) := nI_toInt (by omega)
    have hn : (nI b).toNatClampNeg = b := by
      rw [tn_, hi]
      omega
    exact hw.un hw' (cx_eq hR b) (num_eq hU hR.ce h16 h80 (nI b) q q) (fun f f' hf hf' => fit_eq (b := nI b) (q := q) hR hG hU hM h16 h80 h20 h3 h1 ⟨by omega, by omega⟩ hq (by rw [hn]; exact hf) hf')
/-! ===== SCORES alike ===== -/
theorem CdM.ex {E : Nat → va_E} {a b q : Int32} : ∃ c : Int, CdM E a b q c := by
  unfold CdM
  by_cases e : entMd E a.toInt b.toInt q.toInt
  · by_cases o : OutMx E a.toInt b.toInt q.toInt
    · exact ⟨5, fun z => absurd e z, fun _ => ⟨fun _ => rfl, fun z => absurd o z⟩⟩
    · by_cases z : (lRM E a b q).toInt = -1
      · exact ⟨2, fun w => absurd e w, fun _ => ⟨fun w => absurd w o, fun _ => ⟨fun _ => rfl, fun w => absurd z w⟩⟩⟩
      · exact ⟨_, fun w => absurd e w, fun _ => ⟨fun w => absurd w o, fun _ => ⟨fun w => absurd w z, fun _ => rfl⟩⟩⟩
  · exact ⟨2, fun _ => rfl, fun w => absurd w e⟩
theorem sn_eq {cT : Nat → ClassId} {cf am : Nat → Nat} {E EM : Nat → va_E} {r b : Nat} {q : Int32} (hR : REL cf E EM) (hG : GR cf E EM) (hU : RuRel cf E EM) (hM : IX cT shM spM 72 am EM) (h16 : cf 1 ≤ 16) (h80 : cf 0 ≤ 80) (h20 : cf 2 ≤ 20) (h3 : cf 3 ≤ 300) (h1 : 0 ≤ (xi (E 1) 1).toInt ∧ (xi (E 1) 1).toInt ≤ 16) (hr : r < cf 2) (hb : b < 16) (hq : 0 ≤ q.toInt ∧ q.toInt ≤ 400) : ScN cf E (nI r) q b ↔ entMd EM ((r : Nat) : Int) ((b : Nat) : Int) q.toInt := by
  have ir : (nI r).toInt = (r : Int) := nI_toInt (by omega)
  have ib : (nI b).toInt = (b : Int) := nI_toInt (by omega)
  have nb : (nI b).toNatClampNeg = b := by
    rw [tn_, ib]
    omega
  have hen := pen (n := q.toInt) hR.en hM hq h20 (nI r) (nI b) (by omega) (by omega)
  obtain ⟨c', hc'⟩ : ∃ c : Int, CdM EM (nI r) (nI b) q c := CdM.ex
  obtain ⟨c, hc⟩ : ∃ c : Int, CdR cf E (nI r) q b c := CdR.tot
  have key := cd_eq (a := nI r) (b := nI b) (q := q) hR hG h3 (by omega) (by omega) (by omega) hen (by rw [nb]; exact hc) hc'
  have hnn := CdM_nn hR hM h3 (by omega) (by omega) hc'
  rw [ir, ib] at key
  constructor
  · rintro ⟨c9, h8, h9⟩
    by_cases en : entMd EM ((r : Nat) : Int) ((b : Nat) : Int) q.toInt
    · exact en
    · exact absurd ((CdR.fn h8 hc).trans (key.2 en).1) h9
  · intro en
    have h9 := key.1 en
    exact ⟨c, hc, by omega⟩
theorem CnR.lt16 {P : Nat → Prop} {k : Nat} : ∀ {n : Nat}, n ≤ 16 → k < n → CnR P n 16 → ¬ ¬ P k := by
  have al : ∀ n : Nat, CnR P n (n : Int) → ∀ k, k < n → P k := by
    intro n
    induction n with
    | zero => exact fun _ k hk => absurd hk (Nat.not_lt_zero k)
    | succ n ih =>
      intro h k hk
      rcases h with ⟨h1, h2⟩ | ⟨-, h2⟩
      · rw [show ((n + 1 : Nat) : Int) - 1 = (n : Int) by omega] at h2
        by_cases q : k = n
        · rw [q]
          exact h1
        · exact ih h2 k (by omega)
      · have := CnR.bd n _ h2
        omega
  intro n hn hk h z
  have hb := CnR.bd n _ h
  have e : n = 16 := by omega
  subst e
  exact z (al 16 h k hk)
theorem ta_eq {cT : Nat → ClassId} {cf am : Nat → Nat} {E EM : Nat → va_E} {q K K' o o' : Int32} {P T S O P' T' S' O' : Nat → Int32} (hR : REL cf E EM) (hG : GR cf E EM) (hU : RuRel cf E EM) (hM : IX cT shM spM 72 am EM) (h16 : cf 1 ≤ 16) (h80 : cf 0 ≤ 80) (h20 : cf 2 ≤ 20) (h3 : cf 3 ≤ 300) (h1 : 0 ≤ (xi (E 1) 1).toInt ∧ (xi (E 1) 1).toInt ≤ 16) (ht : ∀ k : Nat, (k : Int) < (xi (EM 0) 48).toInt → 0 ≤ (xi (EM 31) k).toInt) (hq : 0 ≤ q.toInt ∧ q.toInt ≤ 400) (h : TaX cf E q K o P T S O) (h' : TaM EM q K' o' P' T' S' O') : K = K' ∧ (∀ k, k < cf 2 → ((xi (EM 20) k).toInt ≤ q.toInt ↔ (k : Int) < K.toInt)) ∧ ScE (xi (E 1) 1).toNatClampNeg K.toNatClampNeg P T S O P' T' S' O' := by
  obtain ⟨c1, c2, c3, c4⟩ := h
  obtain ⟨⟨m1, m2, m3⟩, m4, m5⟩ := h'
  have tq : ∀ k, k < cf 2 → (rcS E k 0).toInt = (xi (EM 20) k).toInt := fun k hk => congrArg Int32.toInt (hR.tb2 (6, 0, 20) (by decide) k hk)
  have hc2 := hR.cnt.2.1
  have pre := CnR.pre (cf 2) _ c1 (fun i k hik hk z => by
    have h9 := hR.rmo i k hik hk
    have z1 : (rcS E k 0).toInt ≤ q.toInt := z
    show (rcS E i 0).toInt ≤ q.toInt
    exact Int.le_trans h9 z1)
  have pre' : ∀ k, k < cf 2 → ((xi (EM 20) k).toInt ≤ q.toInt ↔ (k : Int) < K.toInt) := fun k hk => by
    rw [← tq k hk]
    exact pre k hk
  have eK : K = K' := Int32.toInt_inj.mp (by
    rcases Int.lt_trichotomy K.toInt K'.toInt with z | z | z
    · exfalso
      have h9 := m2 K.toNatClampNeg (by rw [tn_]; omega)
      have h8 := (pre' K.toNatClampNeg (by rw [tn_]; omega)).mp h9
      rw [tn_] at h8
      omega
    · exact z
    · exfalso
      rcases m3 with y | y
      · omega
      · exact y ((pre' K'.toNatClampNeg (by rw [tn_]; omega)).mpr (by rw [tn_]; omega)))
  subst eK
  have eo : o = o' := Int32.toInt_inj.mp (by
    rw [c3, m4, hU.wv h16 (by decide)]
    omega)
  subst eo
  rw [← hR.boats] at m5
  refine ⟨rfl, pre', ScA.un c4 m5 (fun r b hr hb x y hx hy => ?_) (fun b hb => ?_)⟩
  · have hr2 : r < cf 2 := by
      rw [tn_] at hr
      omega
    have hb2 : b < 16 := by
      rw [tn_] at hb
      omega
    have ir : (nI r).toInt = (r : Int) := nI_toInt (by omega)
    have ib : (nI b).toInt = (b : Int) := nI_toInt (by omega)
    have nb : (nI b).toNatClampNeg = b := by
      rw [tn_, ib]
      omega
    have hx2 : PtC cf E (nI r) q b x := hx
    exact pt_eq (a := nI r) (b := nI b) (q := q) hR hG hU hM h16 h80 h20 h3 h1 (by omega) (by omega) hq ht (by rw [nb]; exact hx2) hy
  · have hb2 : b < 16 := by
      rw [tn_] at hb
      omega
    constructor
    · rintro ⟨r, k1, k2⟩
      exact ⟨r, k1, (sn_eq hR hG hU hM h16 h80 h20 h3 h1 (by rw [tn_] at k1; omega) hb2 hq).mp k2⟩
    · rintro ⟨r, k1, k2⟩
      exact ⟨r, k1, (sn_eq hR hG hU hM h16 h80 h20 h3 h1 (by rw [tn_] at k1; omega) hb2 hq).mpr k2⟩
theorem thr_eq {cT : Nat → ClassId} {cf am : Nat → Nat} {E EM : Nat → va_E} {a0 a1 a2 r1 r2 : Int32} (hR : REL cf E EM) (hG : GR cf E EM) (hU : RuRel cf E EM) (hM : IX cT shM spM 72 am EM) (h16 : cf 1 ≤ 16) (h80 : cf 0 ≤ 80) (h20 : cf 2 ≤ 20) (h3 : cf 3 ≤ 300) (h1 : 0 ≤ (xi (E 1) 1).toInt ∧ (xi (E 1) 1).toInt ≤ 16) (ht : ∀ k : Nat, (k : Int) < (xi (EM 0) 48).toInt → 0 ≤ (xi (EM 31) k).toInt) (hn : 0 ≤ (xi (E 1) 0).toInt ∧ (xi (E 1) 0).toInt ≤ 400) (p1 : (((0 ≤ a2.toInt ∧ a2.toInt ≤ (xi (E 1) 0).toInt) ∧ (0 ≤ a0.toInt ∧ a0.toInt < ((cf 2 : Nat) : Int)) ∧ (xi (E (64 * (a0.toNatClampNeg + 1) + 6)) 0).toInt ≤ a2.toInt) ∧ (0 ≤ a1.toInt ∧ a1.toInt < (xi (E 1) 1).toInt)) → ∃ (K9 o9 : Int32) (P9 T9 S9 O9 : Nat → Int32), TaX cf E a2 K9 o9 P9 T9 S9 O9 ∧ ((S9 a1.toNatClampNeg).toInt = 1 → r1 = T9 (16 * a0.toNatClampNeg + a1.toNatClampNeg)) ∧ (¬ (S9 a1.toNatClampNeg).toInt = 1 → r1 = -1)) (p2 : ¬ (((0 ≤ a2.toInt ∧ a2.toInt ≤ (xi (E 1) 0).toInt) ∧ (0 ≤ a0.toInt ∧ a0.toInt < ((cf 2 : Nat) : Int)) ∧ (xi (E (64 * (a0.toNatClampNeg + 1) + 6)) 0).toInt ≤ a2.toInt) ∧ (0 ≤ a1.toInt ∧ a1.toInt < (xi (E 1) 1).toInt)) → r1 = -1) (n1 : (0 ≤ a2.toInt ∧ a2.toInt ≤ (xi (EM 0) 1).toInt) → ∃ (K9 o9 : Int32) (P9 T9 S9 O9 : Nat → Int32), TaM EM a2 K9 o9 P9 T9 S9 O9 ∧ (((0 ≤ a0.toInt ∧ a0.toInt < K9.toInt) ∧ (0 ≤ a1.toInt ∧ a1.toInt < (xi (EM 0) 8).toInt) ∧ (S9 a1.toNatClampNeg).toInt = 1) → r2 = T9 (16 * a0.toNatClampNeg + a1.toNatClampNeg)) ∧ (¬ ((0 ≤ a0.toInt ∧ a0.toInt < K9.toInt) ∧ (0 ≤ a1.toInt ∧ a1.toInt < (xi (EM 0) 8).toInt) ∧ (S9 a1.toNatClampNeg).toInt = 1) → r2 = -1)) (n2 : ¬ (0 ≤ a2.toInt ∧ a2.toInt ≤ (xi (EM 0) 1).toInt) → r2 = -1) : r1 = r2 := by
  have e0 : (xi (E 1) 0).toInt = (xi (EM 0) 1).toInt := congrArg Int32.toInt hR.now
  have e1 : (xi (E 1) 1).toInt = (xi (EM 0) 8).toInt := congrArg Int32.toInt hR.boats
  have hc2 := hR.cnt.2.1
  have tq : 0 ≤ a0.toInt ∧ a0.toInt < ((cf 2 : Nat) : Int) → (xi (E (64 * (a0.toNatClampNeg + 1) + 6)) 0).toInt = (xi (EM 20) a0.toNatClampNeg).toInt := fun z => congrArg Int32.toInt (hR.tb2 (6, 0, 20) (by decide) a0.toNatClampNeg (by rw [tn_]; omega))
  by_cases kq : 0 ≤ a2.toInt ∧ a2.toInt ≤ (xi (E 1) 0).toInt
  · obtain ⟨K', o', P', T', S', O', t', y1, y2⟩ := n1 (by omega)
    by_cases g : ((0 ≤ a2.toInt ∧ a2.toInt ≤ (xi (E 1) 0).toInt) ∧ (0 ≤ a0.toInt ∧ a0.toInt < ((cf 2 : Nat) : Int)) ∧ (xi (E (64 * (a0.toNatClampNeg + 1) + 6)) 0).toInt ≤ a2.toInt) ∧ (0 ≤ a1.toInt ∧ a1.toInt < (xi (E 1) 1).toInt)
    · obtain ⟨K, o, P, T, S, O, t, x1, x2⟩ := p1 g
      obtain ⟨eK, pr, se⟩ := ta_eq hR hG hU hM h16 h80 h20 h3 h1 ht (by omega) t t'
      subst eK
      have hb : a1.toNatClampNeg < (xi (E 1) 1).toNatClampNeg := by
        rw [tn_, tn_]
        omega
      have hk : (a0.toNatClampNeg : Int) < K.toInt := (pr a0.toNatClampNeg (by rw [tn_]; omega)).mp (by
        have := tq (by omega)
        omega)
      have ha : a0.toInt < K.toInt := by
        rw [tn_] at hk
        omega
      obtain ⟨s1, s2, -⟩ := se a1.toNatClampNeg hb
      by_cases c : (S a1.toNatClampNeg).toInt = 1
      · rw [x1 c, y1 ⟨by omega, by omega, s2.mp c⟩]
        exact (s1 a0.toNatClampNeg (by rw [tn_, tn_]; omega)).2
      · rw [x2 c, y2 (fun z => c (s2.mpr z.2.2))]
    · obtain ⟨⟨u1, u2, -⟩, -⟩ := t'
      have y3 := y2 (fun z => by
        have h9 := u2 a0.toNatClampNeg (by rw [tn_]; omega)
        have h8 := tq (by omega)
        exact g (by omega))
      rw [p2 g, y3]
  · rw [p2 (fun z => kq (by omega)), n2 (fun z => kq (by omega))]
theorem tot_eq {cT : Nat → ClassId} {cf am : Nat → Nat} {E EM : Nat → va_E} {a0 a1 r1 r2 : Int32} (hR : REL cf E EM) (hG : GR cf E EM) (hU : RuRel cf E EM) (hM : IX cT shM spM 72 am EM) (h16 : cf 1 ≤ 16) (h80 : cf 0 ≤ 80) (h20 : cf 2 ≤ 20) (h3 : cf 3 ≤ 300) (h1 : 0 ≤ (xi (E 1) 1).toInt ∧ (xi (E 1) 1).toInt ≤ 16) (ht : ∀ k : Nat, (k : Int) < (xi (EM 0) 48).toInt → 0 ≤ (xi (EM 31) k).toInt) (hn : 0 ≤ (xi (E 1) 0).toInt ∧ (xi (E 1) 0).toInt ≤ 400) (p1 : ((0 ≤ a0.toInt ∧ a0.toInt < (xi (E 1) 1).toInt) ∧ (0 ≤ a1.toInt ∧ a1.toInt ≤ (xi (E 1) 0).toInt)) → ∃ (K9 o9 : Int32) (P9 T9 S9 O9 : Nat → Int32), TaX cf E a1 K9 o9 P9 T9 S9 O9 ∧ ((S9 a0.toNatClampNeg).toInt = 1 → r1 = O9 a0.toNatClampNeg) ∧ (¬ (S9 a0.toNatClampNeg).toInt = 1 → r1 = -1)) (p2 : ¬ ((0 ≤ a0.toInt ∧ a0.toInt < (xi (E 1) 1).toInt) ∧ (0 ≤ a1.toInt ∧ a1.toInt ≤ (xi (E 1) 0).toInt)) → r1 = -1) (n1 : (0 ≤ a1.toInt ∧ a1.toInt ≤ (xi (EM 0) 1).toInt) → ∃ (K9 o9 : Int32) (P9 T9 S9 O9 : Nat → Int32), TaM EM a1 K9 o9 P9 T9 S9 O9 ∧ (((0 ≤ a0.toInt ∧ a0.toInt < (xi (EM 0) 8).toInt) ∧ (S9 a0.toNatClampNeg).toInt = 1) → r2 = O9 a0.toNatClampNeg) ∧ (¬ ((0 ≤ a0.toInt ∧ a0.toInt < (xi (EM 0) 8).toInt) ∧ (S9 a0.toNatClampNeg).toInt = 1) → r2 = -1)) (n2 : ¬ (0 ≤ a1.toInt ∧ a1.toInt ≤ (xi (EM 0) 1).toInt) → r2 = -1) : r1 = r2 := by
  have e0 : (xi (E 1) 0).toInt = (xi (EM 0) 1).toInt := congrArg Int32.toInt hR.now
  have e1 : (xi (E 1) 1).toInt = (xi (EM 0) 8).toInt := congrArg Int32.toInt hR.boats
  have hc2 := hR.cnt.2.1
  by_cases kq : 0 ≤ a1.toInt ∧ a1.toInt ≤ (xi (E 1) 0).toInt
  · obtain ⟨K', o', P', T', S', O', t', y1, y2⟩ := n1 (by omega)
    by_cases g : 0 ≤ a0.toInt ∧ a0.toInt < (xi (E 1) 1).toInt
    · obtain ⟨K, o, P, T, S, O, t, x1, x2⟩ := p1 ⟨by omega, by omega⟩
      obtain ⟨eK, pr, se⟩ := ta_eq hR hG hU hM h16 h80 h20 h3 h1 ht (by omega) t t'
      subst eK
      obtain ⟨-, s2, s3⟩ := se a0.toNatClampNeg (by rw [tn_, tn_]; omega)
      by_cases c : (S a0.toNatClampNeg).toInt = 1
      · rw [x1 c, y1 ⟨by omega, s2.mp c⟩]
        exact Int32.toInt_inj.mp s3
      · rw [x2 c, y2 (fun z => c (s2.mpr z.2))]
    · rw [p2 (fun z => g (by omega)), y2 (fun z => g (by omega))]
  · rw [p2 (fun z => kq (by omega)), n2 (fun z => kq (by omega))]
theorem rnk_eq {cT : Nat → ClassId} {cf am : Nat → Nat} {E EM : Nat → va_E} {a0 a1 r1 r2 : Int32} (hR : REL cf E EM) (hG : GR cf E EM) (hU : RuRel cf E EM) (hM : IX cT shM spM 72 am EM) (h16 : cf 1 ≤ 16) (h80 : cf 0 ≤ 80) (h20 : cf 2 ≤ 20) (h3 : cf 3 ≤ 300) (h1 : 0 ≤ (xi (E 1) 1).toInt ∧ (xi (E 1) 1).toInt ≤ 16) (ht : ∀ k : Nat, (k : Int) < (xi (EM 0) 48).toInt → 0 ≤ (xi (EM 31) k).toInt) (hn : 0 ≤ (xi (E 1) 0).toInt ∧ (xi (E 1) 0).toInt ≤ 400) (p1 : ((0 ≤ a0.toInt ∧ a0.toInt ≤ 15) ∧ (0 ≤ a1.toInt ∧ a1.toInt ≤ (xi (E 1) 0).toInt)) → ∃ (K9 o9 : Int32) (P9 T9 S9 O9 : Nat → Int32), TaX cf E a1 K9 o9 P9 T9 S9 O9 ∧ RkR (fun b9 : Nat => (S9 b9).toInt = 1) (fun x9 y9 : Nat => BtP P9 T9 O9 K9.toNatClampNeg x9 y9) (xi (E 1) 1).toNatClampNeg a0.toInt r1.toInt) (p2 : ¬ ((0 ≤ a0.toInt ∧ a0.toInt ≤ 15) ∧ (0 ≤ a1.toInt ∧ a1.toInt ≤ (xi (E 1) 0).toInt)) → r1 = -1) (n1 : (0 ≤ a1.toInt ∧ a1.toInt ≤ (xi (EM 0) 1).toInt) → ∃ (K9 o9 : Int32) (P9 T9 S9 O9 : Nat → Int32), TaM EM a1 K9 o9 P9 T9 S9 O9 ∧ RkR (fun b9 : Nat => (S9 b9).toInt = 1) (fun x9 y9 : Nat => BtP P9 T9 O9 K9.toNatClampNeg x9 y9) (xi (EM 0) 8).toNatClampNeg a0.toInt r2.toInt) (n2 : ¬ (0 ≤ a1.toInt ∧ a1.toInt ≤ (xi (EM 0) 1).toInt) → r2 = -1) : r1.toInt = r2.toInt := by
  have e0 : (xi (E 1) 0).toInt = (xi (EM 0) 1).toInt := congrArg Int32.toInt hR.now
  have e1 : (xi (E 1) 1).toInt = (xi (EM 0) 8).toInt := congrArg Int32.toInt hR.boats
  have hc2 := hR.cnt.2.1
  have hm : (-1 : Int32).toInt = -1 := rfl
  by_cases kq : 0 ≤ a1.toInt ∧ a1.toInt ≤ (xi (E 1) 0).toInt
  · obtain ⟨K', o', P', T', S', O', t', y1⟩ := n1 (by omega)
    by_cases g : 0 ≤ a0.toInt ∧ a0.toInt ≤ 15
    · obtain ⟨K, o, P, T, S, O, t, x1⟩ := p1 ⟨by omega, by omega⟩
      obtain ⟨eK, pr, se⟩ := ta_eq hR hG hU hM h16 h80 h20 h3 h1 ht (by omega) t t'
      subst eK
      rw [← hR.boats] at y1
      exact x1.un y1 (fun b hb => (se b hb).2.1) (fun x y hx hy => BtP.cg se hx hy)
    · rw [p2 (fun z => g (by omega)), hm]
      rcases y1 with ⟨b, u1, u2, u3, -⟩ | ⟨-, u2⟩
      · exfalso
        have u4 := CnR.bd _ _ u3
        rw [← hR.boats, tn_] at u4
        have u5 : a0.toInt = 16 := by omega
        rw [u5] at u3
        have u6 := CnR.lt16 (k := b) (by rw [← hR.boats, tn_]; omega) u1 u3
        exact u6 (fun z => z.1 rfl)
      · exact u2.symm
  · rw [p2 (fun z => kq (by omega)), n2 (fun z => kq (by omega))]/-! ===== even alike ===== -/
def RSC (cf : Nat → Nat) (E : Nat → va_E) : Prop := ∀ i, i < cf 3 → (xi (E (64 * (i + 1) + 12)) 2).toInt = 0 → 1 ≤ (xi (E (64 * (i + 1) + 12)) 3).toInt
def REL15 (cf : Nat → Nat) (E EM : Nat → va_E) : Prop := REL13 cf E EM ∧ RSC cf E
theorem RSC.keep {cf cf' : Nat → Nat} {E E' : Nat → va_E} (h : RSC cf E) (hc : cf' 3 = cf 3) (h2 : ∀ i, i < cf 3 → xi (E' (64 * (i + 1) + 12)) 2 = xi (E (64 * (i + 1) + 12)) 2) (h3 : ∀ i, i < cf 3 → xi (E' (64 * (i + 1) + 12)) 3 = xi (E (64 * (i + 1) + 12)) 3) : RSC cf' E' := fun i hi => by
  rw [hc] at hi
  rw [h2 i hi, h3 i hi]
  exact h i hi
theorem RSC.push {cf cf' : Nat → Nat} {E E' : Nat → va_E} (h : RSC cf E) (hc : cf' 3 = cf 3 + 1) (h2 : ∀ i, i < cf 3 → xi (E' (64 * (i + 1) + 12)) 2 = xi (E (64 * (i + 1) + 12)) 2) (h3 : ∀ i, i < cf 3 → xi (E' (64 * (i + 1) + 12)) 3 = xi (E (64 * (i + 1) + 12)) 3) (hn : (xi (E' (64 * (cf 3 + 1) + 12)) 2).toInt = 0 → 1 ≤ (xi (E' (64 * (cf 3 + 1) + 12)) 3).toInt) : RSC cf' E' := fun i hi => by
  rw [hc] at hi
  by_cases q : i = cf 3
  · rw [q]
    exact hn
  · rw [h2 i (by omega), h3 i (by omega)]
    exact h i (by omega)
theorem rs_eq {cf : Nat → Nat} {E EM : Nat → va_E} (hR : REL cf E EM) (h : RSC cf E) : RSM EM := fun i hi hc => by
  have hN : (xi (EM 0) 47).toNatClampNeg = cf 3 := by
    have h1 := hR.cnt.2.2.1
    rw [tn_]
    omega
  rw [hN] at hi
  have e2 : xi (E (64 * (i + 1) + 12)) 2 = xi (EM 26) i := hR.tb3 (12, 2, 26) (by decide) i hi
  have e3 : xi (E (64 * (i + 1) + 12)) 3 = xi (EM 27) i := hR.tb3 (12, 3, 27) (by decide) i hi
  rw [← e2] at hc
  rw [← e3]
  exact h i hi hc
theorem evs_un {cT : Nat → ClassId} {cf am : Nat → Nat} {E EM : Nat → va_E} {q : Int32} {N : Nat} {P P' : Nat → (Nat → Int32) → Int → (Nat → Int) → Prop} (hR : REL cf E EM) (hG : GR cf E EM) (hU : RuRel cf E EM) (hM : IX cT shM spM 72 am EM) (h16 : cf 1 ≤ 16) (h80 : cf 0 ≤ 80) (h20 : cf 2 ≤ 20) (h3 : cf 3 ≤ 300) (h1 : 0 ≤ (xi (E 1) 1).toInt ∧ (xi (E 1) 1).toInt ≤ 16) (hq : 0 ≤ q.toInt ∧ q.toInt ≤ 400) (hN : N < 2 ^ (xi (E 1) 1).toNatClampNeg) (h : EvR (wyO E) (fnC cf E q) (seC cf E q) (nmC cf E q) (cf 2) N 16 P) (h' : EvR (wyM EM) (fnM EM q) (seM EM q) (nmM EM q) (xi (EM 0) 46).toNatClampNeg N (xi (E 1) 1).toNatClampNeg P') : ∃ (m : Nat) (g g' : Nat → Int32) (bs : Int) (bc bc' : Nat → Int), EvL N (xi (E 1) 1).toNatClampNeg m g ∧ (∀ j, j < m → g j = g' j) ∧ (∀ s, s < m → bc s = bc' s) ∧ P m g bs bc ∧ P' m g' bs bc' := by
  have hN2 : (xi (EM 0) 46).toNatClampNeg = cf 2 := by
    have h1 := hR.cnt.2.1
    rw [tn_]
    omega
  rw [hN2] at h'
  have ir : ∀ r, r < cf 2 → (nI r).toInt = (r : Int) := fun r hr => nI_toInt (by omega)
  refine EvR.un h h' (by rw [tn_]; omega) hN (fun r hr => ?_) (fun r b hr hb => ?_) (fun r b hr hb hf => ⟨?_, ?_⟩)
  · unfold wyO wyM
    rw [show rcS E r 3 = xi (EM 15) r from hR.tb2 (6, 3, 15) (by decide) _ hr]
  · exact fn_eq (a := nI r) hR hG hM h20 h3 ⟨by rw [ir r hr]; omega, by rw [ir r hr]; omega⟩ hq hb
  · have hl := CdR_0 hf
    have ib : (nI b).toInt = (b : Int) := nI_toInt (by omega)
    unfold seC seM scC
    rw [← lR_eq hR]
    rcases lR_is (a := nI r) (b := nI b) (q := q) hR h3 (by rw [ir r hr]; omega) (by omega) with q1 | ⟨q1, -, -⟩
    · exact absurd q1 hl
    · exact congrArg Int32.toInt (hR.tb3 (12, 3, 27) (by decide) _ q1)
  · unfold nmC nmM
    rw [show rcS E r 1 = xi (EM 13) r from hR.tb2 (6, 1, 13) (by decide) _ hr]
    exact num_eq hU hR.ce h16 h80 (nI b) _ q
theorem evn_eq {cT : Nat → ClassId} {cf am : Nat → Nat} {E EM : Nat → va_E} {a0 r r' : Int32} (hR : REL cf E EM) (hG : GR cf E EM) (hU : RuRel cf E EM) (hM : IX cT shM spM 72 am EM) (h16 : cf 1 ≤ 16) (h80 : cf 0 ≤ 80) (h20 : cf 2 ≤ 20) (h3 : cf 3 ≤ 300) (h1 : 0 ≤ (xi (E 1) 1).toInt ∧ (xi (E 1) 1).toInt ≤ 16) (bn : 0 ≤ (xi (E 1) 0).toInt ∧ (xi (E 1) 0).toInt ≤ 400) (p1 : SmB a0 (xi (E 1) 1) → EvR (wyO E) (fnC cf E (xi (E 1) 0)) (seC cf E (xi (E 1) 0)) (nmC cf E (xi (E 1) 0)) (cf 2) a0.toNatClampNeg 16 (fun m9 g9 b9 c9 => r.toInt = b9)) (p2 : ¬ (SmB a0 (xi (E 1) 1)) → r.toInt = -1) (m1 : SmB a0 (xi (EM 0) 8) → EvR (wyM EM) (fnM EM (xi (EM 0) 1)) (seM EM (xi (EM 0) 1)) (nmM EM (xi (EM 0) 1)) (xi (EM 0) 46).toNatClampNeg a0.toNatClampNeg (xi (EM 0) 8).toNatClampNeg (fun m9 g9 b9 c9 => r'.toInt = b9)) (m2 : ¬ (SmB a0 (xi (EM 0) 8)) → r'.toInt = -1) : r.toInt = r'.toInt := by
  rw [← hR.boats, ← hR.now] at m1
  rw [← hR.boats] at m2
  by_cases s : SmB a0 (xi (E 1) 1)
  · obtain ⟨m, g, g', bs, bc, bc', -, -, -, e1, e2⟩ := evs_un hR hG hU hM h16 h80 h20 h3 h1 bn (by have h9 := s.1; rw [tn_]; omega) (p1 s) (m1 s)
    exact Eq.trans e1 (Eq.symm e2)
  · rw [p2 s, m2 s]
theorem chg_eq {cT : Nat → ClassId} {cf am : Nat → Nat} {E EM : Nat → va_E} {a0 a1 r r' : Int32} (hR : REL cf E EM) (hG : GR cf E EM) (hU : RuRel cf E EM) (hM : IX cT shM spM 72 am EM) (h16 : cf 1 ≤ 16) (h80 : cf 0 ≤ 80) (h20 : cf 2 ≤ 20) (h3 : cf 3 ≤ 300) (h1 : 0 ≤ (xi (E 1) 1).toInt ∧ (xi (E 1) 1).toInt ≤ 16) (bn : 0 ≤ (xi (E 1) 0).toInt ∧ (xi (E 1) 0).toInt ≤ 400) (p1 : (SmB a0 (xi (E 1) 1) ∧ (0 ≤ a1.toInt ∧ a1.toInt < (xi (E 1) 1).toInt) ∧ ¬ a0.toNatClampNeg / 2 ^ a1.toNatClampNeg % 2 = 0) → EvR (wyO E) (fnC cf E (xi (E 1) 0)) (seC cf E (xi (E 1) 0)) (nmC cf E (xi (E 1) 0)) (cf 2) a0.toNatClampNeg 16 (fun m9 g9 b9 c9 => ∃ s9 : Nat, s9 < m9 ∧ (g9 s9).toInt = a1.toInt ∧ r.toInt = c9 s9 - 3)) (p2 : ¬ (SmB a0 (xi (E 1) 1) ∧ (0 ≤ a1.toInt ∧ a1.toInt < (xi (E 1) 1).toInt) ∧ ¬ a0.toNatClampNeg / 2 ^ a1.toNatClampNeg % 2 = 0) → r.toInt = -1000000000) (m1 : SmB a0 (xi (EM 0) 8) → EvR (wyM EM) (fnM EM (xi (EM 0) 1)) (seM EM (xi (EM 0) 1)) (nmM EM (xi (EM 0) 1)) (xi (EM 0) 46).toNatClampNeg a0.toNatClampNeg (xi (EM 0) 8).toNatClampNeg (fun m9 g9 b9 c9 => (∃ s9 : Nat, s9 < m9 ∧ (g9 s9).toInt = a1.toInt ∧ r'.toInt = c9 s9 - 3) ∨ ((∀ s9 : Nat, s9 < m9 → ¬ (g9 s9).toInt = a1.toInt) ∧ r'.toInt = -1000000000))) (m2 : ¬ (SmB a0 (xi (EM 0) 8)) → r'.toInt = -1000000000) : r.toInt = r'.toInt := by
  rw [← hR.boats, ← hR.now] at m1
  rw [← hR.boats] at m2
  by_cases s : SmB a0 (xi (E 1) 1)
  · by_cases d : (0 ≤ a1.toInt ∧ a1.toInt < (xi (E 1) 1).toInt) ∧ ¬ a0.toNatClampNeg / 2 ^ a1.toNatClampNeg % 2 = 0
    · obtain ⟨m, g, g', bs, bc, bc', hL, eg, ec, e1, e2⟩ := evs_un hR hG hU hM h16 h80 h20 h3 h1 bn (by have h9 := s.1; rw [tn_]; omega) (p1 ⟨s, d⟩) (m1 s)
      obtain ⟨x, x1, x2, x3⟩ : ∃ s9 : Nat, s9 < m ∧ (g s9).toInt = a1.toInt ∧ r.toInt = bc s9 - 3 := e1
      rcases (show (∃ s9 : Nat, s9 < m ∧ (g' s9).toInt = a1.toInt ∧ r'.toInt = bc' s9 - 3) ∨ ((∀ s9 : Nat, s9 < m → ¬ (g' s9).toInt = a1.toInt) ∧ r'.toInt = -1000000000) from e2) with ⟨y, y1, y2, y3⟩ | ⟨y1, -⟩
      · have exy : x = y := by
          rw [← eg y y1] at y2
          rcases Nat.lt_trichotomy x y with z | z | z
          · have h9 := EvL.lt _ _ _ hL x y z y1
            omega
          · exact z
          · have h9 := EvL.lt _ _ _ hL y x z x1
            omega
        subst exy
        rw [x3, y3, ec x x1]
      · exact absurd (by rw [← eg x x1]; exact x2) (y1 x x1)
    · rw [p2 (fun z => d z.2)]
      obtain ⟨m, g, c, X, bs, sm, bc, hL, -, -, e2⟩ := m1 s
      rcases (show (∃ s9 : Nat, s9 < m ∧ (g s9).toInt = a1.toInt ∧ r'.toInt = bc s9 - 3) ∨ ((∀ s9 : Nat, s9 < m → ¬ (g s9).toInt = a1.toInt) ∧ r'.toInt = -1000000000) from e2) with ⟨y, y1, y2, -⟩ | ⟨-, y1⟩
      · exfalso
        have h9 := (EvL.num _ _ _ hL).2 y y1
        have h8 : 0 ≤ a1.toInt ∧ a1.toInt < (xi (E 1) 1).toInt := by
          have h7 : (xi (E 1) 1).toNatClampNeg = (xi (E 1) 1).toInt.toNat := tn_ _
          omega
        refine d ⟨h8, (EvL.mem _ _ _ hL a1.toNatClampNeg (by rw [tn_, tn_]; omega)).mpr ⟨y, y1, ?_⟩⟩
        rw [y2, tn_]
        omega
      · exact y1.symm
  · rw [p2 (fun z => s z.1), m2 s]
