

/-! ===== who is DISQUALIFIED (pure) ===== -/
def gCe (e : Nat → Int) (q : Int) : Int := if ¬ e 8 = -1 ∧ e 8 ≤ q then e 9 else if ¬ e 7 = -1 ∧ e 7 ≤ q then 0 else if ¬ e 5 = -1 ∧ e 5 ≤ q then e 6 else 0
def gC (E : Nat → va_E) (p : Nat) (q : Int) : Int := gCe (pA E p) q
theorem gCe_1 {e : Nat → Int} {q : Int} (h : ¬ e 8 = -1 ∧ e 8 ≤ q) : e 9 = gCe e q := (if_pos h).symm
theorem gCe_2 {e : Nat → Int} {q : Int} (h : ¬ (¬ e 8 = -1 ∧ e 8 ≤ q)) (h7 : ¬ e 7 = -1 ∧ e 7 ≤ q) : 0 = gCe e q := by
  unfold gCe
  rw [if_neg h, if_pos h7]
theorem gCe_3 {e : Nat → Int} {q : Int} (h : ¬ (¬ e 8 = -1 ∧ e 8 ≤ q)) (h7 : ¬ (¬ e 7 = -1 ∧ e 7 ≤ q)) (h5 : ¬ e 5 = -1 ∧ e 5 ≤ q) : e 6 = gCe e q := by
  unfold gCe
  rw [if_neg h, if_neg h7, if_pos h5]
theorem gCe_4 {e : Nat → Int} {q : Int} (h : ¬ (¬ e 8 = -1 ∧ e 8 ≤ q)) (h7 : ¬ (¬ e 7 = -1 ∧ e 7 ≤ q)) (h5 : ¬ (¬ e 5 = -1 ∧ e 5 ≤ q)) : 0 = gCe e q := by
  unfold gCe
  rw [if_neg h, if_neg h7, if_neg h5]
def outC (E : Nat → va_E) (race q : Int) (boat : Int) (p : Nat) : Prop := pA E p 0 = race ∧ ((gC E p q % 2 = 1 ∧ pA E p 1 = boat) ∨ (gC E p q / 2 = 1 ∧ pA E p 2 = boat))
/-- the bits of those DISQUALIFIED by the first n PROTESTS -/
def DqS (E : Nat → va_E) (n : Nat) (race q : Int) (w : Int32) : Prop := ∀ b : Nat, b < 16 → (bt w b = true ↔ exF (outC E race q (b : Int)) n)
theorem bt_sh16 : ∀ k0 : Nat, k0 < 16 → ∀ k : Nat, k < 16 → (bt ((1 : Int32) <<< (nI k0 &&& 31)) k = true ↔ k = k0) := by decide
theorem DqS.start {E : Nat → va_E} {race q : Int} {n : Nat} (h : n = 0) : DqS E n race q 0 := fun b hb => by
  subst h
  rw [bt_0]
  exact ⟨fun q => absurd q (by decide), fun q => absurd q exF_0⟩
theorem DqS.skip {E : Nat → va_E} {race q : Int} {n n' : Nat} {w : Int32} (h : DqS E n race q w) (hn : ¬ pA E n 0 = race) (e : n' = n + 1) : DqS E n' race q w := fun b hb => by
  rw [h b hb, exF_s e]
  exact ⟨Or.inl, fun q => q.elim id (fun g => absurd g.1 hn)⟩
/-- one of the two bits of a decision -/
def half (w w' : Int32) (C : Prop) (x : Int) : Prop := (¬ C ∧ w' = w) ∨ (C ∧ ∃ a z : Int32, (0 ≤ a.toInt ∧ a.toInt ≤ 15) ∧ a.toInt = x ∧ z = (1 : Int32) <<< (a &&& 31) ∧ w' = w ||| z)
theorem half.bt {w w' : Int32} {P : Nat → Prop} {C : Prop} {x : Int} (h : ∀ b, b < 16 → (bt w b = true ↔ P b)) (s : half w w' C x) : ∀ b : Nat, b < 16 → (bt w' b = true ↔ (P b ∨ (C ∧ x = (b : Int)))) := fun b hb => by
  rcases s with ⟨s1, s2⟩ | ⟨s1, a, z, s2, s3, s4, s5⟩
  · rw [s2, h b hb]
    exact ⟨Or.inl, fun q => q.elim id (fun g => absurd g.1 s1)⟩
  · have ha : a = nI a.toNatClampNeg := (nI_tn s2.1).symm
    have ha1 : a.toNatClampNeg < 16 := by
      rw [tn_]
      omega
    rw [s5, bt_or, Bool.or_eq_true, h b hb, s4, ha, bt_sh16 _ ha1 b hb, tn_]
    refine ⟨fun q => q.elim Or.inl (fun g => Or.inr ⟨s1, by omega⟩), fun q => q.elim Or.inl (fun g => Or.inr (by omega))⟩
theorem DqS.take {E : Nat → va_E} {race q g : Int} {n n' : Nat} {w w1 w2 : Int32} (h : DqS E n race q w) (hr : pA E n 0 = race) (hg : g = gC E n q) (s1 : half w w1 (g % 2 = 1) (pA E n 1)) (s2 : half w1 w2 (g / 2 = 1) (pA E n 2)) (e : n' = n + 1) : DqS E n' race q w2 := fun b hb => by
  rw [half.bt (half.bt h s1) s2 b hb, exF_s e]
  unfold outC
  rw [← hg]
  constructor
  · rintro ((a | a) | a)
    · exact Or.inl a
    · exact Or.inr ⟨hr, Or.inl a⟩
    · exact Or.inr ⟨hr, Or.inr a⟩
  · rintro (a | ⟨-, a | a⟩)
    · exact Or.inl (Or.inl a)
    · exact Or.inl (Or.inr a)
    · exact Or.inr a
theorem and1_ {x y : Int32} (h : 0 ≤ x.toInt ∧ x.toInt ≤ 3) (e : y = x &&& 1) : y.toInt = 0 ↔ ¬ x.toInt % 2 = 1 := by
  rw [e]
  rcases i03 h with rfl | rfl | rfl | rfl <;> decide
theorem and2_ {x y : Int32} (h : 0 ≤ x.toInt ∧ x.toInt ≤ 3) (e : y = x &&& 2) : y.toInt = 0 ↔ ¬ x.toInt / 2 = 1 := by
  rw [e]
  rcases i03 h with rfl | rfl | rfl | rfl <;> decide
/-! ===== counting (pure) ===== -/
def CnR (P : Nat → Prop) : Nat → Int → Prop
  | 0, c => c = 0
  | k + 1, c => (P k ∧ CnR P k (c - 1)) ∨ (¬ P k ∧ CnR P k c)
def Cn2 (P : Nat → Nat → Prop) (m : Nat) : Nat → Int → Prop
  | 0, c => c = 0
  | k + 1, c => ∃ d, Cn2 P m k (c - d) ∧ CnR (P k) m d
theorem CnR.one {P : Nat → Prop} {k k' : Nat} {c c' : Int} (h : CnR P k c) (hp : P k) (e : c' = c + 1) (ek : k' = k + 1) : CnR P k' c' := by
  subst ek
  refine Or.inl ⟨hp, ?_⟩
  rw [show c' - 1 = c by omega]
  exact h
theorem CnR.no {P : Nat → Prop} {k k' : Nat} {c c' : Int} (h : CnR P k c) (hp : ¬ P k) (e : c' = c) (ek : k' = k + 1) : CnR P k' c' := by
  subst ek
  rw [e]
  exact Or.inr ⟨hp, h⟩
theorem CnR.un {P Q : Nat → Prop} : ∀ (n : Nat) (c c' : Int), CnR P n c → CnR Q n c' → (∀ k, k < n → (P k ↔ Q k)) → c = c' := by
  intro n
  induction n with
  | zero => exact fun c c' h h' _ => Eq.trans h (Eq.symm h')
  | succ n ih =>
    intro c c' h h' e
    have en := e n (by omega)
    have e' : ∀ k, k < n → (P k ↔ Q k) := fun k hk => e k (by omega)
    rcases h with ⟨h1, h2⟩ | ⟨h1, h2⟩ <;> rcases h' with ⟨g1, g2⟩ | ⟨g1, g2⟩
    · have := ih _ _ h2 g2 e'
      omega
    · exact absurd (en.mp h1) g1
    · exact absurd (en.mpr g1) h1
    · exact ih _ _ h2 g2 e'
theorem CnR.top {P : Nat → Prop} {n : Nat} : ∀ (d : Nat) (c : Int), CnR P (n + d) c → (∀ k, n ≤ k → k < n + d → ¬ P k) → CnR P n c := by
  intro d
  induction d with
  | zero => exact fun c h _ => h
  | succ d ih =>
    intro c h e
    rcases (show (P (n + d) ∧ CnR P (n + d) (c - 1)) ∨ (¬ P (n + d) ∧ CnR P (n + d) c) from h) with ⟨h1, -⟩ | ⟨-, h2⟩
    · exact absurd h1 (e _ (by omega) (by omega))
    · exact ih c h2 (fun k hk hk2 => e k hk (by omega))
theorem CnR.cut {P : Nat → Prop} {n m : Nat} {c : Int} (h : CnR P m c) (hn : n ≤ m) (e : ∀ k, n ≤ k → k < m → ¬ P k) : CnR P n c := by
  obtain ⟨d, rfl⟩ : ∃ d, m = n + d := ⟨m - n, by omega⟩
  exact CnR.top d c h e
theorem CnR.bd {P : Nat → Prop} : ∀ (n : Nat) (c : Int), CnR P n c → 0 ≤ c ∧ c ≤ (n : Int) := by
  intro n
  induction n with
  | zero =>
    intro c h
    have h1 : c = 0 := h
    omega
  | succ n ih =>
    intro c h
    rcases h with ⟨-, h2⟩ | ⟨-, h2⟩
    · have := ih _ h2
      omega
    · have := ih _ h2
      omega
theorem Cn2.un {P Q : Nat → Nat → Prop} {m m' : Nat} : ∀ (n : Nat) (c c' : Int), Cn2 P m n c → Cn2 Q m' n c' → (∀ k, k < n → ∀ d d', CnR (P k) m d → CnR (Q k) m' d' → d = d') → c = c' := by
  intro n
  induction n with
  | zero => exact fun c c' h h' _ => Eq.trans h (Eq.symm h')
  | succ n ih =>
    intro c c' h h' e
    obtain ⟨d, h1, h2⟩ := h
    obtain ⟨d', g1, g2⟩ := h'
    have e1 := e n (by omega) d d' h2 g2
    have := ih _ _ h1 g1 (fun k hk => e k (by omega))
    omega
theorem Cn2.next {P : Nat → Nat → Prop} {m n n' : Nat} {c d c' : Int} (h : Cn2 P m n c) (g : CnR (P n) m d) (e : c' = c + d) (en : n' = n + 1) : Cn2 P m n' c' := by
  subst en
  refine ⟨d, ?_, g⟩
  rw [show c' - d = c by omega]
  exact h
/-- the bits of a number, counted -/
theorem pcS_cn {w : Int32} {P : Nat → Prop} (h0 : 0 ≤ w.toInt) : ∀ n : Nat, n ≤ 16 → (∀ b, b < 16 → (bt w b = true ↔ P b)) → CnR P n ((pcS w.toNatClampNeg n : Nat) : Int) := by
  intro n
  induction n with
  | zero => exact fun _ _ => rfl
  | succ n ih =>
    intro hn h
    have i1 := ih (by omega) h
    have h1 : w.toNatClampNeg / 2 ^ n % 2 < 2 := Nat.mod_lt _ (by decide)
    have e : pcS w.toNatClampNeg (n + 1) = pcS w.toNatClampNeg n + w.toNatClampNeg / 2 ^ n % 2 := rfl
    have hb := (bt_nat h0 n).symm.trans (h n (by omega))
    by_cases c : w.toNatClampNeg / 2 ^ n % 2 = 1
    · exact i1.one (hb.mp c) (by rw [e]; omega) rfl
    · exact i1.no (fun q => c (hb.mpr q)) (by rw [e]; omega) rfl
/-! ===== the same in the reference ===== -/
def hasB (bit v : Int) : Prop := if bit = 1 then v % 2 = 1 else v / 2 = 1
theorem hasB_0 {bit : Int} : ¬ hasB bit 0 := by
  unfold hasB
  by_cases c : bit = 1
  · rw [if_pos c]
    decide
  · rw [if_neg c]
    decide
def kM (E : Nat → va_E) (bit q : Int) (k : Nat) : Prop := hasB bit (xi (E 51) k).toInt ∧ (xi (E 52) k).toInt ≤ q ∧ q < (xi (E 53) k).toInt
def outM (E : Nat → va_E) (race q : Int) (boat : Int) (p : Nat) : Prop := (xi (E 46) p).toInt = race ∧ ((xi (E 47) p).toInt = boat ∨ (xi (E 48) p).toInt = boat) ∧ ∃ k : Nat, 2 * p ≤ k ∧ (k : Int) < 2 * (p : Int) + (xi (E 54) p).toInt ∧ kM E (if (xi (E 47) p).toInt = boat then 1 else 2) q k
theorem outM_e {E : Nat → va_E} {race q boat bit : Int} {p k : Nat} (h0 : (xi (E 46) p).toInt = race) (hb : (bit = 1 ∧ (xi (E 47) p).toInt = boat) ∨ (bit = 2 ∧ ¬ (xi (E 47) p).toInt = boat ∧ (xi (E 48) p).toInt = boat)) (hk : 2 * p ≤ k) (hk2 : (k : Int) < 2 * (p : Int) + (xi (E 54) p).toInt) (hm : kM E bit q k) : outM E race q boat p := by
  refine ⟨h0, hb.elim (fun g => Or.inl g.2) (fun g => Or.inr g.2.2), k, hk, hk2, ?_⟩
  rcases hb with ⟨g1, g2⟩ | ⟨g1, g2, -⟩
  · rw [if_pos g2, ← g1]
    exact hm
  · rw [if_neg g2, ← g1]
    exact hm
theorem outM_n {E : Nat → va_E} {race q boat bit : Int} {p : Nat} (hb : (bit = 1 ∧ (xi (E 47) p).toInt = boat) ∨ (bit = 2 ∧ ¬ (xi (E 47) p).toInt = boat ∧ (xi (E 48) p).toInt = boat)) (hm : ∀ k : Nat, 2 * p ≤ k → (k : Int) < 2 * (p : Int) + (xi (E 54) p).toInt → ¬ kM E bit q k) : ¬ outM E race q boat p := by
  rintro ⟨-, -, k, h1, h2, h3⟩
  refine hm k h1 h2 ?_
  rcases hb with ⟨g1, g2⟩ | ⟨g1, g2, -⟩
  · rw [if_pos g2] at h3
    rw [g1]
    exact h3
  · rw [if_neg g2] at h3
    rw [g1]
    exact h3
theorem hb1 {x y : Int32} (h : 0 ≤ x.toInt ∧ x.toInt ≤ 3) (e : y = x &&& 1) : y.toInt = 0 ↔ ¬ hasB 1 x.toInt := by
  unfold hasB
  rw [if_pos rfl]
  exact and1_ h e
theorem hb2 {x y : Int32} (h : 0 ≤ x.toInt ∧ x.toInt ≤ 3) (e : y = x &&& 2) : y.toInt = 0 ↔ ¬ hasB 2 x.toInt := by
  unfold hasB
  rw [if_neg (by decide)]
  exact and2_ h e
/-! ===== CODES (pure) ===== -/
/-- the last RESULT of a BOAT in a RACE -/
def lRC (E : Nat → va_E) (race boat q : Int32) (n : Nat) : Int32 := lO (fun k => xi (E (64 * (k + 1) + 12)) 0) (fun k => xi (E (64 * (k + 1) + 12)) 1) (fun k => xi (E (64 * (k + 1) + 12)) 4) race boat q n
def entCd (E : Nat → va_E) (race boat : Nat) (q : Int) : Prop := ¬ (xi (E (64 * (race + 1) + 7)) boat).toInt = -1 ∧ (xi (E (64 * (race + 1) + 7)) boat).toInt ≤ q
def cd0 (E : Nat → va_E) (race boat : Nat) (q : Int) (c : Int) : Prop := (entCd E race boat q → c = 2) ∧ (¬ entCd E race boat q → c = -1)
/-- behind the first n RESULTS -/
def cdN (E : Nat → va_E) (race q : Int32) (n boat : Nat) (c : Int) : Prop := ((lRC E race (nI boat) q n).toInt = -1 → cd0 E race.toNatClampNeg boat q.toInt c) ∧ (¬ (lRC E race (nI boat) q n).toInt = -1 → c = (xi (E (64 * ((lRC E race (nI boat) q n).toNatClampNeg + 1) + 12)) 2).toInt)
def scN (E : Nat → va_E) (race q : Int32) (n boat : Nat) (s : Int) : Prop := ¬ (lRC E race (nI boat) q n).toInt = -1 → s = (xi (E (64 * ((lRC E race (nI boat) q n).toNatClampNeg + 1) + 12)) 3).toInt
def CdR (cf : Nat → Nat) (E : Nat → va_E) (race q : Int32) (boat : Nat) (c : Int) : Prop := (exF (outC E race.toInt q.toInt (boat : Int)) (cf 5) → c = 5) ∧ (¬ exF (outC E race.toInt q.toInt (boat : Int)) (cf 5) → cdN E race q (cf 3) boat c)
theorem lRC_0 {E : Nat → va_E} {race boat q : Int32} : (lRC E race boat q 0).toInt = -1 := (congrArg Int32.toInt (show lRC E race boat q 0 = -1 from rfl)).trans (by decide)
theorem lRC_no {E : Nat → va_E} {race boat q : Int32} {n : Nat} (h : ¬ ((xi (E (64 * (n + 1) + 12)) 0).toInt = race.toInt ∧ (xi (E (64 * (n + 1) + 12)) 1).toInt = boat.toInt ∧ (xi (E (64 * (n + 1) + 12)) 4).toInt ≤ q.toInt)) : lRC E race boat q (n + 1) = lRC E race boat q n := if_neg (fun g => h ⟨congrArg Int32.toInt g.1, congrArg Int32.toInt g.2.1, Int32.le_iff_toInt_le.mp g.2.2⟩)
theorem lRC_yes {E : Nat → va_E} {race boat q : Int32} {n : Nat} (h : (xi (E (64 * (n + 1) + 12)) 0).toInt = race.toInt ∧ (xi (E (64 * (n + 1) + 12)) 1).toInt = boat.toInt ∧ (xi (E (64 * (n + 1) + 12)) 4).toInt ≤ q.toInt) : lRC E race boat q (n + 1) = nI n := if_pos ⟨Int32.toInt_inj.mp h.1, Int32.toInt_inj.mp h.2.1, Int32.le_iff_toInt_le.mpr h.2.2⟩
theorem cdN.no {E : Nat → va_E} {race q : Int32} {n n' boat : Nat} {c : Int} (h : cdN E race q n boat c) (e : n' = n + 1) (hn : ¬ ((xi (E (64 * (n + 1) + 12)) 0).toInt = race.toInt ∧ (xi (E (64 * (n + 1) + 12)) 1).toInt = (nI boat).toInt ∧ (xi (E (64 * (n + 1) + 12)) 4).toInt ≤ q.toInt)) : cdN E race q n' boat c := by
  subst e
  unfold cdN
  rw [lRC_no hn]
  exact h
theorem scN.no {E : Nat → va_E} {race q : Int32} {n n' boat : Nat} {c : Int} (h : scN E race q n boat c) (e : n' = n + 1) (hn : ¬ ((xi (E (64 * (n + 1) + 12)) 0).toInt = race.toInt ∧ (xi (E (64 * (n + 1) + 12)) 1).toInt = (nI boat).toInt ∧ (xi (E (64 * (n + 1) + 12)) 4).toInt ≤ q.toInt)) : scN E race q n' boat c := by
  subst e
  unfold scN
  rw [lRC_no hn]
  exact h
theorem cdN.yes {E : Nat → va_E} {race q : Int32} {n n' boat : Nat} {c : Int} (e : n' = n + 1) (h16 : n ≤ 400) (hn : (xi (E (64 * (n + 1) + 12)) 0).toInt = race.toInt ∧ (xi (E (64 * (n + 1) + 12)) 1).toInt = (nI boat).toInt ∧ (xi (E (64 * (n + 1) + 12)) 4).toInt ≤ q.toInt) (hc : c = (xi (E (64 * (n + 1) + 12)) 2).toInt) : cdN E race q n' boat c := by
  subst e
  have hi : (nI n).toInt = (n : Int) := nI_toInt (by omega)
  unfold cdN
  rw [lRC_yes hn, hi, tn_ (nI n), hi]
  exact ⟨fun q => by omega, fun _ => hc⟩
theorem scN.yes {E : Nat → va_E} {race q : Int32} {n n' boat : Nat} {c : Int} (e : n' = n + 1) (h16 : n ≤ 400) (hn : (xi (E (64 * (n + 1) + 12)) 0).toInt = race.toInt ∧ (xi (E (64 * (n + 1) + 12)) 1).toInt = (nI boat).toInt ∧ (xi (E (64 * (n + 1) + 12)) 4).toInt ≤ q.toInt) (hc : c = (xi (E (64 * (n + 1) + 12)) 3).toInt) : scN E race q n' boat c := by
  subst e
  have hi : (nI n).toInt = (n : Int) := nI_toInt (by omega)
  unfold scN
  rw [lRC_yes hn, hi, tn_ (nI n), hi]
  exact fun _ => hc
/-- the reference's CODE -/
def lRM (E : Nat → va_E) (race boat q : Int32) : Int32 := lO (xi (E 24)) (xi (E 25)) (xi (E 28)) race boat q (xi (E 0) 47).toNatClampNeg
def OutMx (E : Nat → va_E) (race boat q : Int) : Prop := exF (outM E race q boat) (xi (E 0) 75).toNatClampNeg
def entMd (E : Nat → va_E) (race boat q : Int) : Prop := (xi (E 21) (16 * race + boat).toNat).toInt ≤ q
def CdM (E : Nat → va_E) (race boat q : Int32) (c : Int) : Prop := (¬ entMd E race.toInt boat.toInt q.toInt → c = 2) ∧ (entMd E race.toInt boat.toInt q.toInt → (OutMx E race.toInt boat.toInt q.toInt → c = 5) ∧ (¬ OutMx E race.toInt boat.toInt q.toInt → ((lRM E race boat q).toInt = -1 → c = 2) ∧ (¬ (lRM E race boat q).toInt = -1 → c = (xi (E 26) (lRM E race boat q).toNatClampNeg).toInt)))
/-! ===== rows that are written one by one ===== -/
theorem row_s {E E' : Nat → va_E} {o : Nat} {k k' v : Int32} {P : Nat → Int → Prop} (h : ∀ b, b < k.toNatClampNeg → P b (xi (E o) b).toInt) (p : Pw E E' o k.toNatClampNeg (.int v)) (hv : P k.toNatClampNeg v.toInt) (e : k'.toInt = k.toInt + 1) (h0 : 0 ≤ k.toInt) : ∀ b, b < k'.toNatClampNeg → P b (xi (E' o) b).toInt := fun b hb => by
  by_cases c : b = k.toNatClampNeg
  · subst c
    rw [show xi (E' o) k.toNatClampNeg = v from vi_e p.1]
    exact hv
  · rw [show xi (E' o) b = xi (E o) b from congrArg vi (p.2 o b (fun q => c q.2))]
    exact h b (by rw [tn_] at hb c ⊢; omega)
theorem row_k {E : Nat → va_E} {o : Nat} {k k' : Int32} {P : Nat → Int → Prop} (h : ∀ b, b < k.toNatClampNeg → P b (xi (E o) b).toInt) (hv : P k.toNatClampNeg (xi (E o) k.toNatClampNeg).toInt) (e : k'.toInt = k.toInt + 1) (h0 : 0 ≤ k.toInt) : ∀ b, b < k'.toNatClampNeg → P b (xi (E o) b).toInt := fun b hb => by
  by_cases c : b = k.toNatClampNeg
  · subst c
    exact hv
  · exact h b (by rw [tn_] at hb c ⊢; omega)
theorem row_x {E E' : Nat → va_E} {o : Nat} {k v : Int32} {P Q : Nat → Int → Prop} (h : ∀ b, b < 16 → P b (xi (E o) b).toInt) (p : Pw E E' o k.toNatClampNeg (.int v)) (hv : Q k.toNatClampNeg v.toInt) (hn : ∀ b c, b < 16 → b ≠ k.toNatClampNeg → P b c → Q b c) : ∀ b, b < 16 → Q b (xi (E' o) b).toInt := fun b hb => by
  by_cases c : b = k.toNatClampNeg
  · subst c
    rw [show xi (E' o) k.toNatClampNeg = v from vi_e p.1]
    exact hv
  · rw [show xi (E' o) b = xi (E o) b from congrArg vi (p.2 o b (fun q => c q.2))]
    exact hn b _ hb c (h b hb)
theorem row_o {E E' : Nat → va_E} {o o' j : Nat} {v : Value} {P : Nat → Int → Prop} {A : Nat → Prop} (h : ∀ b, A b → P b (xi (E o) b).toInt) (p : Pw E E' o' j v) (ho : ¬ o = o') : ∀ b, A b → P b (xi (E' o) b).toInt := fun b hb => by
  rw [show xi (E' o) b = xi (E o) b from congrArg vi (p.2 o b (fun q => ho q.1))]
  exact h b hb
/-- behind k the row stands -/
theorem row_b {E E' : Nat → va_E} {o : Nat} {k k' : Int32} {v : Value} {P : Nat → Int → Prop} (h : ∀ b, k.toNatClampNeg ≤ b → b < 16 → P b (xi (E o) b).toInt) (p : Pw E E' o k.toNatClampNeg v) (e : k'.toInt = k.toInt + 1) (h0 : 0 ≤ k.toInt) : ∀ b, k'.toNatClampNeg ≤ b → b < 16 → P b (xi (E' o) b).toInt := fun b hb h16 => by
  have c : b ≠ k.toNatClampNeg := by
    rw [tn_] at hb ⊢
    omega
  rw [show xi (E' o) b = xi (E o) b from congrArg vi (p.2 o b (fun q => c q.2))]
  exact h b (by rw [tn_] at hb ⊢; omega) h16
theorem row_b0 {E : Nat → va_E} {o : Nat} {k k' : Int32} {P : Nat → Int → Prop} (h : ∀ b, k.toNatClampNeg ≤ b → b < 16 → P b (xi (E o) b).toInt) (e : k'.toInt = k.toInt + 1) (h0 : 0 ≤ k.toInt) : ∀ b, k'.toNatClampNeg ≤ b → b < 16 → P b (xi (E o) b).toInt := fun b hb h16 => h b (by rw [tn_] at hb ⊢; omega) h16
theorem cdN.start {E : Nat → va_E} {race q : Int32} {n boat : Nat} {c : Int} (hn : n = 0) (h : cd0 E race.toNatClampNeg boat q.toInt c) : cdN E race q n boat c := by
  subst hn
  exact ⟨fun _ => h, fun g => absurd lRC_0 g⟩
theorem scN.start {E : Nat → va_E} {race q : Int32} {n boat : Nat} {s : Int} (hn : n = 0) : scN E race q n boat s := by
  subst hn
  exact fun g => absurd lRC_0 g
theorem cd0_y {E : Nat → va_E} {race boat : Nat} {q : Int} (h : entCd E race boat q) : cd0 E race boat q (2 : Int32).toInt := ⟨fun _ => rfl, fun g => absurd h g⟩
theorem cd0_n {E : Nat → va_E} {race boat : Nat} {q : Int} (h : ¬ entCd E race boat q) : cd0 E race boat q (-1 : Int32).toInt := ⟨fun g => absurd g h, fun _ => rfl⟩
theorem DqS.cg {E E' : Nat → va_E} {n : Nat} {race q : Int} {w : Int32} (k : K64 E E') (h : DqS E' n race q w) : DqS E n race q w := fun b hb => by
  have e : outC E' race q (b : Int) = outC E race q (b : Int) := funext (fun p => by
    have ep : pA E' p = pA E p := funext (fun j => k.pa p j)
    unfold outC gC
    rw [ep])
  rw [h b hb, e]
theorem dq_next {E : Nat → va_E} {n : Nat} {q : Int} {k k' w : Int32} {c c' p : Int} (h : Cn2 (fun r9 b9 => exF (outC E (r9 : Int) q (b9 : Int)) n) 16 k.toNatClampNeg c) (hk : 0 ≤ k.toInt) (hd : DqS E n k.toInt q w) (h0 : 0 ≤ w.toInt) (hp : p = ((pcS w.toNatClampNeg 16 : Nat) : Int)) (e : c' = c + p) (ek : k'.toInt = k.toInt + 1) : Cn2 (fun r9 b9 => exF (outC E (r9 : Int) q (b9 : Int)) n) 16 k'.toNatClampNeg c' := by
  have tk : ((k.toNatClampNeg : Nat) : Int) = k.toInt := by
    rw [tn_]
    omega
  refine h.next (d := p) ?_ e (by rw [tn_, tn_]; omega)
  rw [hp]
  refine pcS_cn h0 16 (Nat.le_refl _) (fun b hb => ?_)
  rw [tk]
  exact hd b hb
theorem CdR.out {cf : Nat → Nat} {E : Nat → va_E} {race q : Int32} {boat : Nat} (h : exF (outC E race.toInt q.toInt (boat : Int)) (cf 5)) : CdR cf E race q boat (5 : Int32).toInt := ⟨fun _ => rfl, fun g => absurd h g⟩
theorem CdR.in {cf : Nat → Nat} {E : Nat → va_E} {race q : Int32} {boat : Nat} {c : Int} (h : ¬ exF (outC E race.toInt q.toInt (boat : Int)) (cf 5)) (g : cdN E race q (cf 3) boat c) : CdR cf E race q boat c := ⟨fun g => absurd g h, fun _ => g⟩

