

/-! ===== CORRECTED and PLACE (pure) ===== -/
def corI (way s n m : Int32) : Int32 := if way.toInt = 0 then s * n / 1000 else s + (n - 1000) * m / 10
theorem corI_0 {way s n m a b : Int32} (h : way.toInt = 0) (e1 : a = s * n) (e2 : b = a / 1000) : b = corI way s n m := by
  unfold corI
  rw [if_pos h, e2, e1]
theorem corI_1 {way s n m a b c d : Int32} (h : ¬ way.toInt = 0) (e1 : a = n - 1000) (e2 : b = a * m) (e3 : c = b / 10) (e4 : d = s + c) : d = corI way s n m := by
  unfold corI
  rw [if_neg h, e4, e3, e2, e1]
theorem CnR.cg {P Q : Nat → Prop} : ∀ (n : Nat) (c : Int), CnR P n c → (∀ k, k < n → (P k ↔ Q k)) → CnR Q n c := by
  intro n
  induction n with
  | zero => exact fun c h _ => h
  | succ n ih =>
    intro c h e
    have en := e n (by omega)
    have e' : ∀ k, k < n → (P k ↔ Q k) := fun k hk => e k (by omega)
    rcases h with ⟨h1, h2⟩ | ⟨h1, h2⟩
    · exact Or.inl ⟨en.mp h1, ih _ h2 e'⟩
    · exact Or.inr ⟨fun z => h1 (en.mpr z), ih _ h2 e'⟩
/-- PLACE by rows of CODES and times -/
def PlG (c t : Nat → Int32) (b : Nat) (p : Int) : Prop := ∃ x y : Int, CnR (fun o => (c o).toInt = 0 ∧ (t o).toInt < (t b).toInt) 16 x ∧ CnR (fun o => (c o).toInt = 0 ∧ (t o).toInt = (t b).toInt) 16 y ∧ p = 5 * (2 * x + 1 + y)
theorem up_s {g g' : Nat → Int32} {k k' v : Int32} {P : Nat → Int32 → Prop} (h : ∀ b, b < k.toNatClampNeg → P b (g b)) (e : g' = upd g k.toNatClampNeg v) (hv : P k.toNatClampNeg v) (ek : k'.toInt = k.toInt + 1) (h0 : 0 ≤ k.toInt) : ∀ b, b < k'.toNatClampNeg → P b (g' b) := fun b hb => by
  rw [e]
  by_cases c : b = k.toNatClampNeg
  · subst c
    rw [pk_us]
    exact hv
  · rw [show upd g k.toNatClampNeg v b = g b from if_neg c]
    exact h b (by rw [tn_] at hb c ⊢; omega)
theorem up_k {g : Nat → Int32} {k k' : Int32} {P : Nat → Int32 → Prop} (h : ∀ b, b < k.toNatClampNeg → P b (g b)) (hv : P k.toNatClampNeg (g k.toNatClampNeg)) (ek : k'.toInt = k.toInt + 1) (h0 : 0 ≤ k.toInt) : ∀ b, b < k'.toNatClampNeg → P b (g b) := fun b hb => by
  by_cases c : b = k.toNatClampNeg
  · subst c
    exact hv
  · exact h b (by rw [tn_] at hb c ⊢; omega)
def rcS (E : Nat → va_E) (race j : Nat) : Int32 := xi (E (64 * (race + 1) + 6)) j
/-- what is written for a BOAT in the Sheet -/
def ShB (cf : Nat → Nat) (E u : Nat → va_E) (race q : Int32) (b : Nat) : Prop := CdR cf E race q b (xi (u 26) b).toInt ∧ scN E race q (cf 3) b (xi (u 27) b).toInt ∧ ((xi (u 26) b).toInt = 0 → (xi (u 28) b).toInt = numC cf E (nI b) (rcS E race.toNatClampNeg 1) q ∧ xi (u 29) b = corI (rcS E race.toNatClampNeg 3) (xi (u 27) b) (fI (numC cf E (nI b) (rcS E race.toNatClampNeg 1) q)) (rcS E race.toNatClampNeg 2)) ∧ ((xi (u 26) b).toInt = 0 → PlG (xi (u 26)) (xi (u 29)) b (xi (u 30) b).toInt) ∧ (¬ (xi (u 26) b).toInt = 0 → (xi (u 30) b).toInt = 0)
def ShR (cf : Nat → Nat) (E u : Nat → va_E) (race q : Int32) : Prop := (∀ b, b < 16 → ShB cf E u race q b) ∧ xi (u 3) 6 = lawC cf E (rcS E race.toNatClampNeg 1) q ∧ (xi (u 3) 7).toInt = ((entC (xi (E (64 * (race.toNatClampNeg + 1) + 7))) q.toInt 16 : Nat) : Int) ∧ CnR (fun o => (xi (u 26) o).toInt = 0) 16 (xi (u 3) 8).toInt
theorem ShR.of {cf : Nat → Nat} {E u : Nat → va_E} {race q : Int32} {g6 g7 g8 g9 g0 : Nat → Int32} {law ent fin : Int32} (e6 : xi (u 26) = g6) (e7 : xi (u 27) = g7) (e8 : xi (u 28) = g8) (e9 : xi (u 29) = g9) (e0 : xi (u 30) = g0) (h1 : ∀ b, b < 16 → CdR cf E race q b (g6 b).toInt ∧ scN E race q (cf 3) b (g7 b).toInt) (h2 : ∀ b, b < 16 → ((g6 b).toInt = 0 → (g8 b).toInt = numC cf E (nI b) (rcS E race.toNatClampNeg 1) q)) (h3 : ∀ b, b < 16 → ((g6 b).toInt = 0 → g9 b = corI (rcS E race.toNatClampNeg 3) (g7 b) (fI (numC cf E (nI b) (rcS E race.toNatClampNeg 1) q)) (rcS E race.toNatClampNeg 2))) (h4 : ∀ b, b < 16 → (((g6 b).toInt = 0 → PlG g6 g9 b (g0 b).toInt) ∧ (¬ (g6 b).toInt = 0 → (g0 b).toInt = 0))) (s6 : xi (u 3) 6 = law) (s7 : xi (u 3) 7 = ent) (s8 : xi (u 3) 8 = fin) (hl : law = lawC cf E (rcS E race.toNatClampNeg 1) q) (he : ent.toInt = ((entC (xi (E (64 * (race.toNatClampNeg + 1) + 7))) q.toInt 16 : Nat) : Int)) (hf : CnR (fun o => (g6 o).toInt = 0) 16 fin.toInt) : ShR cf E u race q := by
  subst e6
  subst e7
  subst e8
  subst e9
  subst e0
  refine ⟨fun b hb => ⟨(h1 b hb).1, (h1 b hb).2, fun z => ⟨h2 b hb z, h3 b hb z⟩, (h4 b hb).1, (h4 b hb).2⟩, s6.trans hl, ?_, ?_⟩
  · rw [s7]
    exact he
  · rw [s8]
    exact hf
theorem papC_k {cf : Nat → Nat} {E E' : Nat → va_E} {boat day q : Int32} (h : K64 E E') : papC cf E' boat day q = papC cf E boat day q := by
  unfold papC
  rw [show (fun k9 => xi (E' (64 * (k9 + 1) + 0)) 0) = (fun k9 => xi (E (64 * (k9 + 1) + 0)) 0) from funext (fun k9 => h (64 * (k9 + 1) + 0) (by omega) 0), show (fun k9 => xi (E' (64 * (k9 + 1) + 0)) 1) = (fun k9 => xi (E (64 * (k9 + 1) + 0)) 1) from funext (fun k9 => h (64 * (k9 + 1) + 0) (by omega) 1), show (fun k9 => xi (E' (64 * (k9 + 1) + 0)) 2) = (fun k9 => xi (E (64 * (k9 + 1) + 0)) 2) from funext (fun k9 => h (64 * (k9 + 1) + 0) (by omega) 2)]
theorem numC_k {cf : Nat → Nat} {E E' : Nat → va_E} {boat day q : Int32} (h : K64 E E') : numC cf E' boat day q = numC cf E boat day q := by
  have ew : wC cf E' = wC cf E := funext (fun lab => funext (fun k => funext (fun L => by
    unfold wC
    rw [clE_cg (fun t _ _ j => h (64 * (k + 1) + t) (by omega) j)])))
  have ep := papC_k (cf := cf) (boat := boat) (day := day) (q := q) h
  have el := lawC_cg (cf := cf) (day := day) (q := q) h
  have e3 := fun j => h (64 * ((papC cf E boat day q).toNatClampNeg + 1) + 0) (by omega) j
  unfold numC
  rw [ep, el, e3 3, e3 4, e3 5, ew]
theorem nuA_in {law paper a b c : Int32} {W : (Nat → Int32) → Int32} : 500 ≤ nuA law paper a b c W ∧ nuA law paper a b c W ≤ 2000 := by
  unfold nuA
  by_cases h : law.toInt = -1 ∨ paper.toInt = -1
  · rw [if_pos h]
    omega
  · rw [if_neg h]
    omega
theorem numC_in {cf : Nat → Nat} {E : Nat → va_E} {boat day q : Int32} : 500 ≤ numC cf E boat day q ∧ numC cf E boat day q ≤ 2000 := nuA_in
/-- the class's times, by what was told -/
def tmC (cf : Nat → Nat) (E : Nat → va_E) (race q : Int32) (b : Nat) : Int32 := corI (rcS E race.toNatClampNeg 3) (xi (E (64 * ((lRC E race (nI b) q (cf 3)).toNatClampNeg + 1) + 12)) 3) (fI (numC cf E (nI b) (rcS E race.toNatClampNeg 1) q)) (rcS E race.toNatClampNeg 2)
theorem CdR_0 {cf : Nat → Nat} {E : Nat → va_E} {race q : Int32} {b : Nat} (h : CdR cf E race q b 0) : ¬ (lRC E race (nI b) q (cf 3)).toInt = -1 := fun z => by
  by_cases o : exF (outC E race.toInt q.toInt (b : Int)) (cf 5)
  · exact absurd (h.1 o) (by decide)
  · have h2 := (h.2 o).1 z
    by_cases e : entCd E race.toNatClampNeg b q.toInt
    · exact absurd (h2.1 e) (by decide)
    · exact absurd (h2.2 e) (by decide)
theorem CdR.fn {cf : Nat → Nat} {E : Nat → va_E} {race q : Int32} {b : Nat} {c c' : Int} (h : CdR cf E race q b c) (h' : CdR cf E race q b c') : c = c' := by
  by_cases o : exF (outC E race.toInt q.toInt (b : Int)) (cf 5)
  · rw [h.1 o, h'.1 o]
  · have h2 := h.2 o
    have g2 := h'.2 o
    by_cases z : (lRC E race (nI b) q (cf 3)).toInt = -1
    · by_cases e : entCd E race.toNatClampNeg b q.toInt
      · rw [(h2.1 z).1 e, (g2.1 z).1 e]
      · rw [(h2.1 z).2 e, (g2.1 z).2 e]
    · rw [h2.2 z, g2.2 z]
theorem CdR.tot {cf : Nat → Nat} {E : Nat → va_E} {race q : Int32} {b : Nat} : ∃ c, CdR cf E race q b c := by
  by_cases o : exF (outC E race.toInt q.toInt (b : Int)) (cf 5)
  · exact ⟨5, fun _ => rfl, fun z => absurd o z⟩
  · by_cases z : (lRC E race (nI b) q (cf 3)).toInt = -1
    · by_cases e : entCd E race.toNatClampNeg b q.toInt
      · exact ⟨2, fun g => absurd g o, fun _ => ⟨fun _ => ⟨fun _ => rfl, fun g => absurd e g⟩, fun g => absurd z g⟩⟩
      · exact ⟨-1, fun g => absurd g o, fun _ => ⟨fun _ => ⟨fun g => absurd g e, fun _ => rfl⟩, fun g => absurd z g⟩⟩
    · exact ⟨_, fun g => absurd g o, fun _ => ⟨fun g => absurd g z, fun _ => rfl⟩⟩
theorem ShB.tm {cf : Nat → Nat} {E u : Nat → va_E} {race q : Int32} {b : Nat} (h : ShB cf E u race q b) (h0 : (xi (u 26) b).toInt = 0) : xi (u 29) b = tmC cf E race q b := by
  obtain ⟨h1, h2, h3, -, -⟩ := h
  rw [h0] at h1
  rw [(h3 h0).2, show xi (u 27) b = xi (E (64 * ((lRC E race (nI b) q (cf 3)).toNatClampNeg + 1) + 12)) 3 from Int32.toInt_inj.mp (h2 (CdR_0 h1))]
  rfl
theorem ShB.fin {cf : Nat → Nat} {E u : Nat → va_E} {race q : Int32} {b : Nat} (h : ShB cf E u race q b) : (xi (u 26) b).toInt = 0 ↔ CdR cf E race q b 0 := ⟨fun z => by
  have h1 := h.1
  rw [z] at h1
  exact h1, fun z => h.1.fn z⟩
/-- PLACE, by what was told -/
def PlS (F : Nat → Prop) (T : Nat → Int32) (n b : Nat) (p : Int) : Prop := ∃ x y : Int, CnR (fun o => F o ∧ (T o).toInt < (T b).toInt) n x ∧ CnR (fun o => F o ∧ (T o).toInt = (T b).toInt) n y ∧ p = 5 * (2 * x + 1 + y)
theorem ShR.pl {cf : Nat → Nat} {E u : Nat → va_E} {race q : Int32} {b : Nat} (h : ShR cf E u race q) (hb : b < 16) (h0 : (xi (u 26) b).toInt = 0) : PlS (fun o => CdR cf E race q o 0) (tmC cf E race q) 16 b (xi (u 30) b).toInt := by
  obtain ⟨x, y, h1, h2, h3⟩ := (h.1 b hb).2.2.2.1 h0
  have tb := (h.1 b hb).tm h0
  refine ⟨x, y, h1.cg 16 x (fun o ho => ?_), h2.cg 16 y (fun o ho => ?_), h3⟩
  · constructor
    · rintro ⟨g1, g2⟩
      rw [(h.1 o ho).tm g1, tb] at g2
      exact ⟨(h.1 o ho).fin.mp g1, g2⟩
    · rintro ⟨g1, g2⟩
      have g3 := (h.1 o ho).fin.mpr g1
      refine ⟨g3, ?_⟩
      rw [(h.1 o ho).tm g3, tb]
      exact g2
  · constructor
    · rintro ⟨g1, g2⟩
      rw [(h.1 o ho).tm g1, tb] at g2
      exact ⟨(h.1 o ho).fin.mp g1, g2⟩
    · rintro ⟨g1, g2⟩
      have g3 := (h.1 o ho).fin.mpr g1
      refine ⟨g3, ?_⟩
      rw [(h.1 o ho).tm g3, tb]
      exact g2
/-- the reference's -/
def tmB (E : Nat → va_E) (race boat q : Int32) : Int32 := corI (xi (E 15) race.toNatClampNeg) (xi (E 27) (lRM E race boat q).toNatClampNeg) (fI (numM E boat (xi (E 13) race.toNatClampNeg) q)) (xi (E 14) race.toNatClampNeg)
def tmM (E : Nat → va_E) (race q : Int32) (b : Nat) : Int32 := tmB E race (nI b) q
theorem CdM_0 {E : Nat → va_E} {race boat q : Int32} (h : CdM E race boat q 0) : ¬ (lRM E race boat q).toInt = -1 := fun z => by
  by_cases e : entMd E race.toInt boat.toInt q.toInt
  · by_cases o : OutMx E race.toInt boat.toInt q.toInt
    · exact absurd ((h.2 e).1 o) (by decide)
    · exact absurd (((h.2 e).2 o).1 z) (by decide)
  · exact absurd (h.1 e) (by decide)
theorem CdM.fn {E : Nat → va_E} {race boat q : Int32} {c c' : Int} (h : CdM E race boat q c) (h' : CdM E race boat q c') : c = c' := by
  by_cases e : entMd E race.toInt boat.toInt q.toInt
  · by_cases o : OutMx E race.toInt boat.toInt q.toInt
    · rw [(h.2 e).1 o, (h'.2 e).1 o]
    · have h2 := (h.2 e).2 o
      have g2 := (h'.2 e).2 o
      by_cases z : (lRM E race boat q).toInt = -1
      · rw [h2.1 z, g2.1 z]
      · rw [h2.2 z, g2.2 z]
  · rw [h.1 e, h'.1 e]
theorem CdM.tot {E : Nat → va_E} {race boat q : Int32} : ∃ c, CdM E race boat q c := by
  by_cases e : entMd E race.toInt boat.toInt q.toInt
  · by_cases o : OutMx E race.toInt boat.toInt q.toInt
    · exact ⟨5, fun g => absurd e g, fun _ => ⟨fun _ => rfl, fun g => absurd o g⟩⟩
    · by_cases z : (lRM E race boat q).toInt = -1
      · exact ⟨2, fun g => absurd e g, fun _ => ⟨fun g => absurd g o, fun _ => ⟨fun _ => rfl, fun g => absurd z g⟩⟩⟩
      · exact ⟨_, fun g => absurd e g, fun _ => ⟨fun g => absurd g o, fun _ => ⟨fun g => absurd g z, fun _ => rfl⟩⟩⟩
  · exact ⟨2, fun _ => rfl, fun g => absurd g e⟩
/-! ===== where the reference keeps all that NUMBERS and CODES read ===== -/
def kd8 : List Nat := [1, 2, 3, 4, 5, 6, 8, 9, 10, 11, 13, 14, 15, 21, 24, 25, 26, 27, 28, 46, 47, 48, 51, 52, 53, 54]
def KdN (E E' : Nat → va_E) : Prop := (∀ o ∈ kd8, ∀ j, xi (E' o) j = xi (E o) j) ∧ xi (E' 0) 9 = xi (E 0) 9 ∧ xi (E' 0) 17 = xi (E 0) 17 ∧ xi (E' 0) 47 = xi (E 0) 47 ∧ xi (E' 0) 75 = xi (E 0) 75
theorem KdN.of {a : List Nat} {b : List (Nat × Nat)} {E E' : Nat → va_E} (h : Kp (wl a b) E E') (hw : kd8.all (fun o => !a.contains o && b.all (fun q => q.1 != o)) = true) (h1 : wl a b 0 9 = false) (h2 : wl a b 0 17 = false) (h3 : wl a b 0 47 = false) (h4 : wl a b 0 75 = false) : KdN E E' := ⟨fun o ho j => xik h (wl_row (List.all_eq_true.mp hw o ho)), xik h h1, xik h h2, xik h h3, xik h h4⟩
theorem KdN.rf {E : Nat → va_E} : KdN E E := ⟨fun _ _ _ => rfl, rfl, rfl, rfl, rfl⟩
theorem KdN.rw_ {E E' : Nat → va_E} (h : KdN E E') (o : Nat) (ho : o ∈ kd8) : xi (E' o) = xi (E o) := funext (h.1 o ho)
theorem KdN.lr {E E' : Nat → va_E} (h : KdN E E') (race boat q : Int32) : lRM E' race boat q = lRM E race boat q := by
  unfold lRM
  rw [h.rw_ 24 (by decide), h.rw_ 25 (by decide), h.rw_ 28 (by decide), h.2.2.2.1]
theorem KdN.cd {E E' : Nat → va_E} (h : KdN E E') {race boat q : Int32} {c : Int} : CdM E' race boat q c ↔ CdM E race boat q c := by
  have e1 := h.lr race boat q
  have e2 : entMd E' race.toInt boat.toInt q.toInt = entMd E race.toInt boat.toInt q.toInt := by
    unfold entMd
    rw [h.rw_ 21 (by decide)]
  have e3 : OutMx E' race.toInt boat.toInt q.toInt = OutMx E race.toInt boat.toInt q.toInt := by
    unfold OutMx
    rw [outM_cg (fun o ho j => h.1 o (by
      simp only [kd7, List.mem_cons, List.not_mem_nil, or_false] at ho
      rcases ho with rfl | rfl | rfl | rfl | rfl | rfl | rfl | rfl | rfl | rfl | rfl | rfl <;> decide) j), h.2.2.2.2]
  unfold CdM
  rw [e1, e2, e3, h.rw_ 26 (by decide)]
theorem KdN.nm {E E' : Nat → va_E} (h : KdN E E') (boat day q : Int32) : numM E' boat day q = numM E boat day q := numM_cg (fun o ho j => h.1 o (by
  simp only [List.mem_cons, List.not_mem_nil, or_false] at ho
  rcases ho with rfl | rfl | rfl | rfl | rfl | rfl | rfl | rfl | rfl | rfl <;> decide) j) h.2.2.1 h.2.1
theorem KdN.tm {E E' : Nat → va_E} (h : KdN E E') (race boat q : Int32) : tmB E' race boat q = tmB E race boat q := by
  unfold tmB
  rw [h.lr, h.rw_ 13 (by decide), h.rw_ 14 (by decide), h.rw_ 15 (by decide), h.rw_ 27 (by decide), h.nm]
theorem KdN.txm {E E' : Nat → va_E} (h : KdN E E') (g : TXM E) : TXM E' := g.cg (h.1 8 (by decide)) (h.1 9 (by decide)) h.2.2.1
/-- a BOAT's CORRECTED, or hidden -/
def CoR (cf : Nat → Nat) (E : Nat → va_E) (race q : Int32) (b : Nat) (r : Int32) : Prop := (CdR cf E race q b 0 → r = tmC cf E race q b) ∧ (¬ CdR cf E race q b 0 → r.toInt = -1000000000)
def PlX (cf : Nat → Nat) (E : Nat → va_E) (race q : Int32) (b : Nat) (r : Int) : Prop := (CdR cf E race q b 0 → PlS (fun o => CdR cf E race q o 0) (tmC cf E race q) 16 b r) ∧ (¬ CdR cf E race q b 0 → r = -1)
theorem CoR.y {cf : Nat → Nat} {E u : Nat → va_E} {race q : Int32} {b : Nat} {c r : Int32} (h : ShR cf E u race q) (hb : b < 16) (ec : c = xi (u 26) b) (h0 : c.toInt = 0) (er : r = xi (u 29) b) : CoR cf E race q b r := by
  subst ec
  subst er
  exact ⟨fun _ => (h.1 b hb).tm h0, fun z => absurd ((h.1 b hb).fin.mp h0) z⟩
theorem CoR.n {cf : Nat → Nat} {E u : Nat → va_E} {race q : Int32} {b : Nat} {c r : Int32} (h : ShR cf E u race q) (hb : b < 16) (ec : c = xi (u 26) b) (h0 : ¬ c.toInt = 0) (er : r.toInt = -1000000000) : CoR cf E race q b r := by
  subst ec
  exact ⟨fun z => absurd ((h.1 b hb).fin.mpr z) h0, fun _ => er⟩
theorem PlX.y {cf : Nat → Nat} {E u : Nat → va_E} {race q : Int32} {b : Nat} {c r : Int32} (h : ShR cf E u race q) (hb : b < 16) (ec : c = xi (u 26) b) (h0 : c.toInt = 0) (er : r = xi (u 30) b) : PlX cf E race q b r.toInt := by
  subst ec
  subst er
  exact ⟨fun _ => h.pl hb h0, fun z => absurd ((h.1 b hb).fin.mp h0) z⟩
theorem PlX.n {cf : Nat → Nat} {E u : Nat → va_E} {race q : Int32} {b : Nat} {c r : Int32} (h : ShR cf E u race q) (hb : b < 16) (ec : c = xi (u 26) b) (h0 : ¬ c.toInt = 0) (er : r.toInt = -1) : PlX cf E race q b r.toInt := by
  subst ec
  exact ⟨fun z => absurd ((h.1 b hb).fin.mpr z) h0, fun _ => er⟩

