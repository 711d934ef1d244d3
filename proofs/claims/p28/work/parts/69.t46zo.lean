

/-! ===== POINTS (pure) ===== -/
def SmR (P : Nat → Prop) (F : Nat → Int → Prop) : Nat → Int → Prop
  | 0, s => s = 0
  | k + 1, s => (P k ∧ ∃ v, F k v ∧ SmR P F k (s - v)) ∨ (¬ P k ∧ SmR P F k s)
theorem SmR.one {P : Nat → Prop} {F : Nat → Int → Prop} {k k' : Nat} {s s' v : Int} (h : SmR P F k s) (hp : P k) (hf : F k v) (e : s' = s + v) (ek : k' = k + 1) : SmR P F k' s' := by
  subst ek
  refine Or.inl ⟨hp, v, hf, ?_⟩
  rw [show s' - v = s by omega]
  exact h
theorem SmR.no {P : Nat → Prop} {F : Nat → Int → Prop} {k k' : Nat} {s s' : Int} (h : SmR P F k s) (hp : ¬ P k) (e : s' = s) (ek : k' = k + 1) : SmR P F k' s' := by
  subst ek
  rw [e]
  exact Or.inr ⟨hp, h⟩
theorem SmR.un {P P' : Nat → Prop} {F F' : Nat → Int → Prop} : ∀ (n : Nat) (s s' : Int), SmR P F n s → SmR P' F' n s' → (∀ k, k < n → (P k ↔ P' k)) → (∀ k, k < n → P k → ∀ v v', F k v → F' k v' → v = v') → s = s' := by
  intro n
  induction n with
  | zero => exact fun s s' h h' _ _ => Eq.trans h (Eq.symm h')
  | succ n ih =>
    intro s s' h h' e f
    have en := e n (by omega)
    have e' : ∀ k, k < n → (P k ↔ P' k) := fun k hk => e k (by omega)
    have f' : ∀ k, k < n → P k → ∀ v v', F k v → F' k v' → v = v' := fun k hk => f k (by omega)
    rcases h with ⟨h1, v, h2, h3⟩ | ⟨h1, h2⟩ <;> rcases h' with ⟨g1, v', g2, g3⟩ | ⟨g1, g2⟩
    · have e1 := f n (by omega) h1 v v' h2 g2
      have e2 := ih _ _ h3 g3 e' f'
      omega
    · exact absurd (en.mp h1) g1
    · exact absurd (en.mpr g1) h1
    · exact ih _ _ h2 g2 e' f'
theorem SmR.cg {P P' : Nat → Prop} {F F' : Nat → Int → Prop} : ∀ (n : Nat) (s : Int), SmR P F n s → (∀ k, k < n → (P k ↔ P' k)) → (∀ k, k < n → P k → ∀ v, F k v → F' k v) → SmR P' F' n s := by
  intro n
  induction n with
  | zero => exact fun s h _ _ => h
  | succ n ih =>
    intro s h e f
    have en := e n (by omega)
    rcases h with ⟨h1, v, h2, h3⟩ | ⟨h1, h2⟩
    · exact Or.inl ⟨en.mp h1, v, f n (by omega) h1 v h2, ih _ h3 (fun k hk => e k (by omega)) (fun k hk => f k (by omega))⟩
    · exact Or.inr ⟨fun z => h1 (en.mpr z), ih _ h2 (fun k hk => e k (by omega)) (fun k hk => f k (by omega))⟩
/-- those behind n don't count -/
theorem SmR.ext {P : Nat → Prop} {F : Nat → Int → Prop} {n : Nat} {s : Int} (h : SmR P F n s) : ∀ d, (∀ k, n ≤ k → k < n + d → ¬ P k) → SmR P F (n + d) s := by
  intro d
  induction d with
  | zero => exact fun _ => h
  | succ d ih => exact fun e => Or.inr ⟨e (n + d) (by omega) (by omega), ih (fun k h1 h2 => e k h1 (by omega))⟩
theorem CnR.ext {P : Nat → Prop} {n : Nat} {c : Int} (h : CnR P n c) : ∀ d, (∀ k, n ≤ k → k < n + d → ¬ P k) → CnR P (n + d) c := by
  intro d
  induction d with
  | zero => exact fun _ => h
  | succ d ih => exact fun e => Or.inr ⟨e (n + d) (by omega) (by omega), ih (fun k h1 h2 => e k h1 (by omega))⟩
/-- what counts is the first ones -/
theorem CnR.pre {P : Nat → Prop} : ∀ (m : Nat) (c : Int), CnR P m c → (∀ i k, i ≤ k → k < m → P k → P i) → ∀ k, k < m → (P k ↔ (k : Int) < c) := by
  intro m
  induction m with
  | zero => exact fun c _ _ k hk => absurd hk (Nat.not_lt_zero k)
  | succ m ih =>
    intro c h mo k hk
    have mo' : ∀ i k, i ≤ k → k < m → P k → P i := fun i k h1 h2 => mo i k h1 (by omega)
    rcases h with ⟨h1, h2⟩ | ⟨h1, h2⟩
    · have hall : ∀ i, i < m + 1 → P i := fun i hi => mo i m (by omega) (by omega) h1
      have hc : c - 1 = (m : Int) := by
        have hb := CnR.bd m _ h2
        by_cases z : c - 1 = (m : Int)
        · exact z
        · exfalso
          have h3 := ih _ h2 mo' (c - 1).toNat (by omega)
          have h4 := h3.mp (hall _ (by omega))
          omega
      exact ⟨fun _ => by omega, fun _ => hall k hk⟩
    · have hb := CnR.bd m _ h2
      by_cases z : k = m
      · subst z
        exact ⟨fun w => absurd w h1, fun w => by omega⟩
      · exact ih _ h2 mo' k (by omega)
def ptL (c pl e f : Int) : Nat → Int32 := lset (lset (lset (lset lz 3 (fI c)) 4 (fI pl)) 5 (fI e)) 6 (fI f)
def clamp (w : Int) : Int := max 0 (min 10000 w)
/-- POINTS without REDRESS -/
def PpC (cf : Nat → Nat) (E : Nat → va_E) (race q : Int32) (b : Nat) (p : Int) : Prop := ∃ c pl f : Int, CdR cf E race q b c ∧ (c = 0 → PlS (fun o => CdR cf E race q o 0) (tmC cf E race q) 16 b pl) ∧ (¬ c = 0 → pl = 0) ∧ CnR (fun o => CdR cf E race q o 0) 16 f ∧ p = clamp (wV cf E 112 (lawC cf E (rcS E race.toNatClampNeg 1) q) (ptL (if c = -1 then 2 else c) pl ((entC (xi (E (64 * (race.toNatClampNeg + 1) + 7))) q.toInt 16 : Nat) : Int) f)).toInt
/-- the letters as the Sheet lays them -/
def plL (E : Nat → va_E) (b : Nat) : Nat → Int32 := ptL (if (xi (E 26) b).toInt = -1 then 2 else (xi (E 26) b).toInt) (xi (E 30) b).toInt (xi (E 3) 7).toInt (xi (E 3) 8).toInt
theorem plL_of {E : Nat → va_E} {b : Nat} {c3 c4 c5 c6 : Int32} (h3 : c3.toInt = if (xi (E 26) b).toInt = -1 then 2 else (xi (E 26) b).toInt) (h4 : c4.toInt = (xi (E 30) b).toInt) (h5 : c5.toInt = (xi (E 3) 7).toInt) (h6 : c6.toInt = (xi (E 3) 8).toInt) : lset (lset (lset (lset lz 3 c3) 4 c4) 5 c5) 6 c6 = plL E b := by
  unfold plL ptL
  rw [fI_of h3, fI_of h4, fI_of h5, fI_of h6]
theorem PpC.of {cf : Nat → Nat} {E u : Nat → va_E} {race q : Int32} {b : Nat} {p : Int} (h : ShR cf E u race q) (hb : b < 16) (hp : p = clamp (wV cf E 112 (xi (u 3) 6) (plL u b)).toInt) : PpC cf E race q b p := by
  refine ⟨(xi (u 26) b).toInt, (xi (u 30) b).toInt, (xi (u 3) 8).toInt, (h.1 b hb).1, fun z => h.pl hb z, (h.1 b hb).2.2.2.2, h.2.2.2.cg 16 _ (fun o ho => (h.1 o ho).fin), ?_⟩
  rw [hp, h.2.1]
  unfold plL
  rw [h.2.2.1]
/-! ===== what the class tells stands where only its fixed cells are written ===== -/
theorem outC_k {E E' : Nat → va_E} (k : K64 E E') : outC E' = outC E := funext (fun race => funext (fun q => funext (fun b => funext (fun p => by
  have ep : pA E' p = pA E p := funext (fun j => k.pa p j)
  unfold outC gC
  rw [ep]))))
theorem lRC_k {E E' : Nat → va_E} (k : K64 E E') : lRC E' = lRC E := funext (fun race => funext (fun b => funext (fun q => funext (fun n => by
  unfold lRC
  rw [show (fun i => xi (E' (64 * (i + 1) + 12)) 0) = (fun i => xi (E (64 * (i + 1) + 12)) 0) from funext (fun i => k (64 * (i + 1) + 12) (by omega) 0), show (fun i => xi (E' (64 * (i + 1) + 12)) 1) = (fun i => xi (E (64 * (i + 1) + 12)) 1) from funext (fun i => k (64 * (i + 1) + 12) (by omega) 1), show (fun i => xi (E' (64 * (i + 1) + 12)) 4) = (fun i => xi (E (64 * (i + 1) + 12)) 4) from funext (fun i => k (64 * (i + 1) + 12) (by omega) 4)]))))
theorem cdN_k {E E' : Nat → va_E} (k : K64 E E') : cdN E' = cdN E := funext (fun race => funext (fun q => funext (fun n => funext (fun b => funext (fun c => by
  unfold cdN cd0 entCd
  rw [lRC_k k, k (64 * (race.toNatClampNeg + 1) + 7) (by omega) b, k (64 * ((lRC E race (nI b) q n).toNatClampNeg + 1) + 12) (by omega) 2])))))
theorem scN_k {E E' : Nat → va_E} (k : K64 E E') : scN E' = scN E := funext (fun race => funext (fun q => funext (fun n => funext (fun b => funext (fun c => by
  unfold scN
  rw [lRC_k k, k (64 * ((lRC E race (nI b) q n).toNatClampNeg + 1) + 12) (by omega) 3])))))
theorem CdR_k {cf : Nat → Nat} {E E' : Nat → va_E} (k : K64 E E') : CdR cf E' = CdR cf E := funext (fun race => funext (fun q => funext (fun b => funext (fun c => by
  unfold CdR
  rw [outC_k k, cdN_k k]))))
theorem rcS_k {E E' : Nat → va_E} (k : K64 E E') : rcS E' = rcS E := funext (fun i => funext (fun j => k (64 * (i + 1) + 6) (by omega) j))
theorem entr_k {E E' : Nat → va_E} (k : K64 E E') (i : Nat) : xi (E' (64 * (i + 1) + 7)) = xi (E (64 * (i + 1) + 7)) := funext (fun j => k (64 * (i + 1) + 7) (by omega) j)
theorem ShR.k {cf : Nat → Nat} {E E' u : Nat → va_E} {race q : Int32} (k : K64 E E') (h : ShR cf E' u race q) : ShR cf E u race q := by
  have en : ∀ (b d q : Int32), numC cf E' b d q = numC cf E b d q := fun b d q => numC_k k
  unfold ShR ShB at h ⊢
  rw [CdR_k k, scN_k k, rcS_k k, lawC_cg k, entr_k k] at h
  simp only [en] at h
  exact h
/-- REDRESS of a BOAT as known in q -/
def redC (E : Nat → va_E) (b : Nat) (q : Int) (o : Nat) : Prop := ¬ (xi (E (64 * (o + 1) + 8)) b).toInt = -1 ∧ (xi (E (64 * (o + 1) + 8)) b).toInt ≤ q
theorem redC_k {E E' : Nat → va_E} (k : K64 E E') : redC E' = redC E := funext (fun b => funext (fun q => funext (fun o => by
  unfold redC
  rw [k (64 * (o + 1) + 8) (by omega) b])))
def meanI (s m : Int) : Int := if m = 0 then 0 else s / m
/-- POINTS of the class -/
def PtC (cf : Nat → Nat) (E : Nat → va_E) (race q : Int32) (b : Nat) (p : Int) : Prop := (¬ redC E b q.toInt race.toNatClampNeg → PpC cf E race q b p) ∧ (redC E b q.toInt race.toNatClampNeg → ∃ n s m : Int, CnR (fun i => (rcS E i 0).toInt ≤ q.toInt) (cf 2) n ∧ SmR (fun o => ¬ (o : Int) = race.toInt ∧ ¬ redC E b q.toInt o) (fun o v => PpC cf E (nI o) q b v) n.toNat s ∧ CnR (fun o => ¬ (o : Int) = race.toInt ∧ ¬ redC E b q.toInt o) n.toNat m ∧ p = meanI s m)
/-- what meanBeside makes of the row -/
def MnB (E : Nat → va_E) (race b : Nat) (q : Int) (n : Nat) (p : Int) : Prop := ∃ s m : Int, SmR (fun o => ¬ o = race ∧ ¬ redC E b q o) (fun o v => v = (xi (E 31) (16 * o + b)).toInt) n s ∧ CnR (fun o => ¬ o = race ∧ ¬ redC E b q o) n m ∧ p = meanI s m
theorem MnB.pt {cf : Nat → Nat} {E u : Nat → va_E} {race q : Int32} {b n : Nat} {p c : Int} (k : K64 E u) (h0 : 0 ≤ race.toInt) (hr : redC E b q.toInt race.toNatClampNeg) (h : MnB u race.toNatClampNeg b q.toInt n p) (hn : CnR (fun i => (rcS E i 0).toInt ≤ q.toInt) (cf 2) c) (hc : c.toNat = n) (hp : ∀ o, o < n → PpC cf E (nI o) q b (xi (u 31) (16 * o + b)).toInt) : PtC cf E race q b p := by
  refine ⟨fun z => absurd hr z, fun _ => ?_⟩
  obtain ⟨s, m, h1, h2, h3⟩ := h
  have e : ∀ o : Nat, (¬ o = race.toNatClampNeg ∧ ¬ redC u b q.toInt o) ↔ (¬ (o : Int) = race.toInt ∧ ¬ redC E b q.toInt o) := fun o => by
    rw [redC_k k, tn_]
    constructor
    · rintro ⟨z1, z2⟩
      exact ⟨by omega, z2⟩
    · rintro ⟨z1, z2⟩
      exact ⟨by omega, z2⟩
  refine ⟨c, s, m, hn, ?_, ?_, h3⟩
  · rw [hc]
    exact h1.cg n s (fun o _ => e o) (fun o ho _ v hv => by rw [hv]; exact hp o ho)
  · rw [hc]
    exact h2.cg n m (fun o _ => e o)
theorem row_c {E E' : Nat → va_E} {k k' ix v : Int32} {b : Nat} {P : Nat → Int → Prop} (h : ∀ o, o < k.toNatClampNeg → P o (xi (E 31) (16 * o + b)).toInt) (p : Pw E E' 31 ix.toNatClampNeg (.int v)) (hix : ix.toInt = 16 * k.toInt + (b : Int)) (hb : b < 16) (hv : P k.toNatClampNeg v.toInt) (e : k'.toInt = k.toInt + 1) (h0 : 0 ≤ k.toInt) : ∀ o, o < k'.toNatClampNeg → P o (xi (E' 31) (16 * o + b)).toInt := fun o ho => by
  have ei : ix.toNatClampNeg = 16 * k.toNatClampNeg + b := by
    rw [tn_, tn_]
    omega
  by_cases c : o = k.toNatClampNeg
  · subst c
    rw [← ei, show xi (E' 31) ix.toNatClampNeg = v from vi_e p.1]
    exact hv
  · rw [show xi (E' 31) (16 * o + b) = xi (E 31) (16 * o + b) from congrArg vi (p.2 31 (16 * o + b) (fun q => c (by have := q.2; omega)))]
    exact h o (by rw [tn_] at ho c ⊢; omega)
theorem row_cc {E E' : Nat → va_E} {n b : Nat} {P : Nat → Int → Prop} (h : ∀ o, o < n → P o (xi (E 31) (16 * o + b)).toInt) (k : ∀ j, xi (E' 31) j = xi (E 31) j) : ∀ o, o < n → P o (xi (E' 31) (16 * o + b)).toInt := fun o ho => by
  rw [k]
  exact h o ho
theorem lawC_lt {cf : Nat → Nat} {E : Nat → va_E} {day q x : Int32} (hC : CF cf) (h : x = lawC cf E day q) : x.toInt < ((cf 1 : Nat) : Int) := by
  obtain ⟨⟨-, h1, -⟩, -⟩ := id hC
  have h2 := cO_in (gB := fun _ => 0) (gF := fun k9 => xi (E (64 * (k9 + 1) + 1)) 0) (gT := fun k9 => xi (E (64 * (k9 + 1) + 1)) 1) (boat := 0) (day := day) (q := q) (cf 1) (by omega)
  rw [h]
  unfold lawC
  omega

