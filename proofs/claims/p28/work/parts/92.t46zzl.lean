

/-! ===== SCORES (pure) ===== -/
/-- what is thrown out behind k throw outs: rows by RACES -/
def ThR (p : Nat → Int) (K : Nat) : Nat → (Nat → Int32) → Prop
  | 0, t => ∀ r, r < K → t r = 0
  | k + 1, t => ∃ (t0 : Nat → Int32) (w : Nat), ThR p K k t0 ∧ (w < K ∧ t0 w = 0) ∧ (∀ r, r < K → t0 r = 0 → p r < p w ∨ (p r = p w ∧ r ≤ w)) ∧ ∀ r, r < K → t r = if r = w then 1 else t0 r
theorem ThR.cg {p p' : Nat → Int} {K : Nat} : ∀ (k : Nat) (t t' : Nat → Int32), ThR p K k t → (∀ r, r < K → p r = p' r) → (∀ r, r < K → t r = t' r) → ThR p' K k t' := by
  intro k
  induction k with
  | zero =>
    intro t t' h _ e r hr
    rw [← e r hr]
    exact h r hr
  | succ k ih =>
    rintro t t' ⟨t0, w, h1, h2, h3, h4⟩ ep e
    refine ⟨t0, w, ih t0 t0 h1 ep (fun _ _ => rfl), h2, fun r hr z => ?_, fun r hr => ?_⟩
    · rw [← ep r hr, ← ep w h2.1]
      exact h3 r hr z
    · rw [← e r hr]
      exact h4 r hr
theorem ThR.un {p p' : Nat → Int} {K : Nat} (ep : ∀ r, r < K → p r = p' r) : ∀ (k : Nat) (t t' : Nat → Int32), ThR p K k t → ThR p' K k t' → ∀ r, r < K → t r = t' r := by
  intro k
  induction k with
  | zero =>
    intro t t' h h' r hr
    rw [h r hr, h' r hr]
  | succ k ih =>
    rintro t t' ⟨t0, w, h1, h2, h3, h4⟩ ⟨t1, w', q1, q2, q3, q4⟩ r hr
    have e0 := ih t0 t1 h1 q1
    have ew : w = w' := by
      have a1 := h3 w' q2.1 (by rw [e0 w' q2.1]; exact q2.2)
      have a2 := q3 w h2.1 (by rw [← e0 w h2.1]; exact h2.2)
      rw [← ep w' q2.1, ← ep w h2.1] at a2
      omega
    subst ew
    rw [h4 r hr, q4 r hr, e0 r hr]
theorem ThR.one {p : Nat → Int} {K k k' w : Nat} {t t' : Nat → Int32} (h : ThR p K k t) (hw : w < K) (h0 : t w = 0) (hm : ∀ r, r < K → t r = 0 → p r < p w ∨ (p r = p w ∧ r ≤ w)) (e : ∀ r, r < K → t' r = if r = w then 1 else t r) (ek : k' = k + 1) : ThR p K k' t' := by
  subst ek
  exact ⟨t, w, h, ⟨hw, h0⟩, hm, e⟩
theorem ThR.b1 {p : Nat → Int} {K : Nat} : ∀ (k : Nat) (t : Nat → Int32), ThR p K k t → ∀ r, r < K → t r = 0 ∨ t r = 1 := by
  intro k
  induction k with
  | zero => exact fun t h r hr => Or.inl (h r hr)
  | succ k ih =>
    rintro t ⟨t0, w, h1, -, -, h4⟩ r hr
    rw [h4 r hr]
    by_cases q : r = w
    · rw [if_pos q]
      exact Or.inr rfl
    · rw [if_neg q]
      exact ih t0 h1 r hr
/-- how many are kept -/
theorem ThR.kept {p : Nat → Int} {K : Nat} : ∀ (k : Nat) (t : Nat → Int32), ThR p K k t → CnR (fun r => t r = 0) K ((K : Int) - (k : Int)) := by
  have al : ∀ (n : Nat) (t : Nat → Int32), (∀ r, r < n → t r = 0) → CnR (fun r => t r = 0) n (n : Int) := by
    intro n
    induction n with
    | zero => exact fun t _ => rfl
    | succ n ih =>
      intro t h
      refine Or.inl ⟨h n (by omega), ?_⟩
      rw [show ((n + 1 : Nat) : Int) - 1 = (n : Int) by omega]
      exact ih t (fun r hr => h r (by omega))
  have mi : ∀ (n w : Nat) (t t' : Nat → Int32) (c : Int), CnR (fun r => t r = 0) n c → w < n → t w = 0 → (∀ r, r < n → t' r = if r = w then 1 else t r) → CnR (fun r => t' r = 0) n (c - 1) := by
    intro n
    induction n with
    | zero => exact fun w t t' c _ hw => absurd hw (Nat.not_lt_zero w)
    | succ n ih =>
      intro w t t' c h hw h0 e
      by_cases q : w = n
      · subst q
        rcases h with ⟨-, h2⟩ | ⟨h1, -⟩
        · refine Or.inr ⟨?_, ?_⟩
          · show ¬ t' w = 0
            rw [e w (by omega), if_pos rfl]
            decide
          · exact h2.cg w _ (fun r hr => by rw [e r (by omega), if_neg (by omega)])
        · exact absurd h0 h1
      · have en := e n (by omega)
        rw [if_neg (fun z => q z.symm)] at en
        rcases h with ⟨h1, h2⟩ | ⟨h1, h2⟩
        · refine Or.inl ⟨?_, ih w t t' (c - 1) h2 (by omega) h0 (fun r hr => e r (by omega))⟩
          show t' n = 0
          rw [en]
          exact h1
        · refine Or.inr ⟨?_, ih w t t' c h2 (by omega) h0 (fun r hr => e r (by omega))⟩
          show ¬ t' n = 0
          rw [en]
          exact h1
  intro k
  induction k with
  | zero =>
    intro t h
    rw [show (K : Int) - ((0 : Nat) : Int) = (K : Int) by omega]
    exact al K t h
  | succ k ih =>
    rintro t ⟨t0, w, h1, h2, -, h4⟩
    rw [show (K : Int) - ((k + 1 : Nat) : Int) = (K : Int) - (k : Int) - 1 by omega]
    exact mi K w t0 t _ (ih t0 h1) h2.1 h2.2 h4
/-- the TOTAL of a BOAT -/
def ttF (p : Nat → Int) (t : Nat → Int32) (r : Nat) : Int := if t r = 0 then p r else 0
theorem tt_cg {p p' : Nat → Int} {t t' : Nat → Int32} {K : Nat} (ep : ∀ r, r < K → p r = p' r) (e : ∀ r, r < K → t r = t' r) : sumF (ttF p t) K = sumF (ttF p' t') K := sumF_cg K (fun r hr => by
  unfold ttF
  rw [ep r hr, e r hr])
theorem tt_all {p : Nat → Int} {t : Nat → Int32} {K : Nat} (e : ∀ r, r < K → t r = 0) : sumF (ttF p t) K = sumF p K := sumF_cg K (fun r hr => if_pos (e r hr))
theorem tt_one {p : Nat → Int} {t t' : Nat → Int32} {w : Nat} : ∀ K : Nat, w < K → t w = 0 → (∀ r, r < K → t' r = if r = w then 1 else t r) → sumF (ttF p t') K = sumF (ttF p t) K - p w := by
  intro K
  induction K with
  | zero => exact fun h => absurd h (Nat.not_lt_zero w)
  | succ K ih =>
    intro hw h0 e
    show sumF (ttF p t') K + ttF p t' K = sumF (ttF p t) K + ttF p t K - p w
    by_cases q : w = K
    · subst q
      have e1 : sumF (ttF p t') w = sumF (ttF p t) w := tt_cg (fun _ _ => rfl) (fun r hr => by rw [e r (by omega), if_neg (by omega)])
      have ew : t' w = 1 := by
        have h9 := e w (by omega)
        rw [if_pos rfl] at h9
        exact h9
      have e2 : ttF p t' w = 0 := by
        unfold ttF
        rw [ew]
        exact if_neg (by decide)
      have e3 : ttF p t w = p w := if_pos h0
      omega
    · have e1 := ih (by omega) h0 (fun r hr => e r (by omega))
      have ek : t' K = t K := by
        have h9 := e K (by omega)
        rw [if_neg (fun z => q z.symm)] at h9
        exact h9
      have e2 : ttF p t' K = ttF p t K := by
        unfold ttF
        rw [ek]
      omega
theorem tt_b {p : Nat → Int} {t : Nat → Int32} {K : Nat} (hp : ∀ r, r < K → 0 ≤ p r ∧ p r ≤ 10000) : 0 ≤ sumF (ttF p t) K ∧ sumF (ttF p t) K ≤ 10000 * (K : Int) := by
  refine ⟨sumF_nn K (fun r hr => ?_), sumF_le K (fun r hr => ?_)⟩
  · unfold ttF
    have := hp r hr
    split <;> omega
  · unfold ttF
    have := hp r hr
    split <;> omega
/-- all SCORES: rows by RACES and BOATS -/
def ScA (Pt : Nat → Nat → Int → Prop) (Sc : Nat → Prop) (n K o : Nat) (P T S O : Nat → Int32) : Prop := ∀ b, b < n → (∀ r, r < K → Pt r b (P (16 * r + b)).toInt) ∧ ((S b).toInt = 1 ↔ Sc b) ∧ ThR (fun r => (P (16 * r + b)).toInt) K o (fun r => T (16 * r + b)) ∧ (O b).toInt = sumF (ttF (fun r => (P (16 * r + b)).toInt) (fun r => T (16 * r + b))) K
def ScE (n K : Nat) (P T S O P' T' S' O' : Nat → Int32) : Prop := ∀ b, b < n → (∀ r, r < K → P (16 * r + b) = P' (16 * r + b) ∧ T (16 * r + b) = T' (16 * r + b)) ∧ ((S b).toInt = 1 ↔ (S' b).toInt = 1) ∧ (O b).toInt = (O' b).toInt
theorem ScA.un {Pt Pt' : Nat → Nat → Int → Prop} {Sc Sc' : Nat → Prop} {n K o : Nat} {P T S O P' T' S' O' : Nat → Int32} (h : ScA Pt Sc n K o P T S O) (h' : ScA Pt' Sc' n K o P' T' S' O') (ep : ∀ r b, r < K → b < n → ∀ x y, Pt r b x → Pt' r b y → x = y) (es : ∀ b, b < n → (Sc b ↔ Sc' b)) : ScE n K P T S O P' T' S' O' := fun b hb => by
  obtain ⟨a1, a2, a3, a4⟩ := h b hb
  obtain ⟨c1, c2, c3, c4⟩ := h' b hb
  have e1 : ∀ r, r < K → (P (16 * r + b)).toInt = (P' (16 * r + b)).toInt := fun r hr => ep r b hr hb _ _ (a1 r hr) (c1 r hr)
  have e2 := ThR.un e1 o _ _ a3 c3
  exact ⟨fun r hr => ⟨Int32.toInt_inj.mp (e1 r hr), e2 r hr⟩, a2.trans ((es b hb).trans c2.symm), by rw [a4, c4]; exact tt_cg e1 e2⟩
/-! ===== who is BETTER ===== -/
def LexR (g g' : Nat → Int32) (n : Nat) (e : Prop) : Prop := (∃ k, k < n ∧ (∀ j, j < k → g j = g' j) ∧ (g k).toInt < (g' k).toInt) ∨ ((∀ j, j < n → g j = g' j) ∧ e)
def RevR (p p' : Nat → Int32) (K : Nat) (e : Prop) : Prop := (∃ k, k < K ∧ (∀ j, k < j → j < K → p j = p' j) ∧ (p k).toInt < (p' k).toInt) ∨ ((∀ j, j < K → p j = p' j) ∧ e)
theorem LexR.cg {g g' f f' : Nat → Int32} {n : Nat} {e e' : Prop} (h1 : ∀ j, j < n → g j = f j) (h2 : ∀ j, j < n → g' j = f' j) (h3 : e ↔ e') : LexR g g' n e ↔ LexR f f' n e' := by
  constructor
  · rintro (⟨k, a1, a2, a3⟩ | ⟨a1, a2⟩)
    · exact Or.inl ⟨k, a1, fun j hj => by rw [← h1 j (by omega), ← h2 j (by omega)]; exact a2 j hj, by rw [← h1 k a1, ← h2 k a1]; exact a3⟩
    · exact Or.inr ⟨fun j hj => by rw [← h1 j hj, ← h2 j hj]; exact a1 j hj, h3.mp a2⟩
  · rintro (⟨k, a1, a2, a3⟩ | ⟨a1, a2⟩)
    · exact Or.inl ⟨k, a1, fun j hj => by rw [h1 j (by omega), h2 j (by omega)]; exact a2 j hj, by rw [h1 k a1, h2 k a1]; exact a3⟩
    · exact Or.inr ⟨fun j hj => by rw [h1 j hj, h2 j hj]; exact a1 j hj, h3.mpr a2⟩
theorem RevR.cg {g g' f f' : Nat → Int32} {n : Nat} {e : Prop} (h1 : ∀ j, j < n → g j = f j) (h2 : ∀ j, j < n → g' j = f' j) : RevR g g' n e ↔ RevR f f' n e := by
  constructor
  · rintro (⟨k, a1, a2, a3⟩ | ⟨a1, a2⟩)
    · exact Or.inl ⟨k, a1, fun j h8 hj => by rw [← h1 j hj, ← h2 j hj]; exact a2 j h8 hj, by rw [← h1 k a1, ← h2 k a1]; exact a3⟩
    · exact Or.inr ⟨fun j hj => by rw [← h1 j hj, ← h2 j hj]; exact a1 j hj, a2⟩
  · rintro (⟨k, a1, a2, a3⟩ | ⟨a1, a2⟩)
    · exact Or.inl ⟨k, a1, fun j h8 hj => by rw [h1 j hj, h2 j hj]; exact a2 j h8 hj, by rw [h1 k a1, h2 k a1]; exact a3⟩
    · exact Or.inr ⟨fun j hj => by rw [h1 j hj, h2 j hj]; exact a1 j hj, a2⟩
/-- how the comparison of two rows goes on -/
theorem LexR.lt {g g' : Nat → Int32} {n k : Nat} {e : Prop} (hk : k < n) (h : ∀ j, j < k → g j = g' j) (hl : (g k).toInt < (g' k).toInt) : LexR g g' n e := Or.inl ⟨k, hk, h, hl⟩
theorem LexR.gt {g g' : Nat → Int32} {n k : Nat} {e : Prop} (hk : k < n) (h : ∀ j, j < k → g j = g' j) (hl : (g' k).toInt < (g k).toInt) : ¬ LexR g g' n e := by
  rintro (⟨j, a1, a2, a3⟩ | ⟨a1, -⟩)
  · rcases Nat.lt_trichotomy j k with q | q | q
    · rw [h j q] at a3
      omega
    · subst q
      omega
    · rw [a2 k q] at hl
      omega
  · rw [a1 k hk] at hl
    omega
theorem LexR.eq {g g' : Nat → Int32} {n : Nat} {e : Prop} (h : ∀ j, j < n → g j = g' j) : LexR g g' n e ↔ e := by
  constructor
  · rintro (⟨j, a1, a2, a3⟩ | ⟨-, a2⟩)
    · rw [h j a1] at a3
      omega
    · exact a2
  · exact fun a => Or.inr ⟨h, a⟩
theorem RevR.lt {p p' : Nat → Int32} {K k : Nat} {e : Prop} (hk : k < K) (h : ∀ j, k < j → j < K → p j = p' j) (hl : (p k).toInt < (p' k).toInt) : RevR p p' K e := Or.inl ⟨k, hk, h, hl⟩
theorem RevR.gt {p p' : Nat → Int32} {K k : Nat} {e : Prop} (hk : k < K) (h : ∀ j, k < j → j < K → p j = p' j) (hl : (p' k).toInt < (p k).toInt) : ¬ RevR p p' K e := by
  rintro (⟨j, a1, a2, a3⟩ | ⟨a1, -⟩)
  · rcases Nat.lt_trichotomy j k with q | q | q
    · rw [a2 k q hk] at hl
      omega
    · subst q
      omega
    · rw [h j q a1] at a3
      omega
  · rw [a1 k hk] at hl
    omega
theorem RevR.eq {p p' : Nat → Int32} {K : Nat} {e : Prop} (h : ∀ j, j < K → p j = p' j) : RevR p p' K e ↔ e := by
  constructor
  · rintro (⟨j, a1, a2, a3⟩ | ⟨-, a2⟩)
    · rw [h j a1] at a3
      omega
    · exact a2
  · exact fun a => Or.inr ⟨h, a⟩
/-- the kept POINTS of a BOAT, rising -/
def KpR (P T : Nat → Int32) (K b n : Nat) (g : Nat → Int32) : Prop := MR (fun r => T (16 * r + b) = 0) (fun r => P (16 * r + b)) 99 K n g
def BtP (P T O : Nat → Int32) (K a b : Nat) : Prop := (O a).toInt < (O b).toInt ∨ ((O a).toInt = (O b).toInt ∧ ∃ (n n' : Nat) (g g' : Nat → Int32), KpR P T K a n g ∧ KpR P T K b n' g' ∧ LexR g g' n (RevR (fun r => P (16 * r + a)) (fun r => P (16 * r + b)) K (a < b)))
theorem KpR.un {P T P' T' : Nat → Int32} {K b n n' : Nat} {g g' : Nat → Int32} (h : KpR P T K b n g) (h' : KpR P' T' K b n' g') (e : ∀ r, r < K → P (16 * r + b) = P' (16 * r + b) ∧ T (16 * r + b) = T' (16 * r + b)) : n = n' ∧ ∀ i, i < n → g i = g' i := MR.un K n n' g g' h h' (fun i hi => by rw [(e i hi).2]) (fun i hi _ => (e i hi).1)
theorem KpR.cg {P T P' T' : Nat → Int32} {K b n : Nat} {g : Nat → Int32} (h : KpR P T K b n g) (e : ∀ r, r < K → P (16 * r + b) = P' (16 * r + b) ∧ T (16 * r + b) = T' (16 * r + b)) : KpR P' T' K b n g := MR.cg K n g h (fun i hi => by rw [(e i hi).2]) (fun i hi _ => (e i hi).1)
theorem MR.cn {F : Nat → Prop} {T : Nat → Int32} {sk : Nat} : ∀ (k n : Nat) (g : Nat → Int32), MR F T sk k n g → k ≤ sk → CnR F k (n : Int) := by
  intro k
  induction k with
  | zero =>
    intro n g h _
    have h1 : n = 0 := h
    rw [h1]
    rfl
  | succ k ih =>
    intro n g h hs
    rcases h with ⟨h1, h2⟩ | ⟨h1, n0, g0, h2, h3, -⟩
    · exact Or.inr ⟨fun z => h1 ⟨by omega, z⟩, ih n g h2 (by omega)⟩
    · refine Or.inl ⟨h1.2, ?_⟩
      rw [show (n : Int) - 1 = (n0 : Int) by omega]
      exact ih n0 g0 h2 (by omega)
theorem KpR.num {P T : Nat → Int32} {p : Nat → Int} {K b n o : Nat} {g : Nat → Int32} (h : KpR P T K b n g) (ht : ThR p K o (fun r => T (16 * r + b))) (hK : K ≤ 20) : (n : Int) = (K : Int) - (o : Int) := CnR.un K _ _ (MR.cn K n g h (by omega)) (ht.kept o _) (fun _ _ => Iff.rfl)
theorem BtP.cg {P T O P' T' O' S S' : Nat → Int32} {n K a b : Nat} (e : ScE n K P T S O P' T' S' O') (ha : a < n) (hb : b < n) : BtP P T O K a b ↔ BtP P' T' O' K a b := by
  obtain ⟨a1, -, a3⟩ := e a ha
  obtain ⟨b1, -, b3⟩ := e b hb
  unfold BtP
  rw [a3, b3]
  refine or_congr Iff.rfl (and_congr Iff.rfl ⟨?_, ?_⟩)
  · rintro ⟨m, m', g, g', h1, h2, h3⟩
    exact ⟨m, m', g, g', h1.cg a1, h2.cg b1, (LexR.cg (fun _ _ => rfl) (fun _ _ => rfl) (RevR.cg (fun j hj => (a1 j hj).1) (fun j hj => (b1 j hj).1))).mp h3⟩
  · rintro ⟨m, m', g, g', h1, h2, h3⟩
    exact ⟨m, m', g, g', h1.cg (fun r hr => ⟨(a1 r hr).1.symm, (a1 r hr).2.symm⟩), h2.cg (fun r hr => ⟨(b1 r hr).1.symm, (b1 r hr).2.symm⟩), (LexR.cg (fun _ _ => rfl) (fun _ _ => rfl) (RevR.cg (fun j hj => (a1 j hj).1) (fun j hj => (b1 j hj).1))).mpr h3⟩
/-- the BOAT than which i others are BETTER -/
def bqF (S : Nat → Prop) (B : Nat → Nat → Prop) (b o : Nat) : Prop := ¬ o = b ∧ S o ∧ B o b
def RkR (S : Nat → Prop) (B : Nat → Nat → Prop) (n : Nat) (i r : Int) : Prop := (∃ b, b < n ∧ S b ∧ CnR (bqF S B b) n i ∧ (∀ b', b' < b → S b' → ¬ CnR (bqF S B b') n i) ∧ r = (b : Int)) ∨ ((∀ b, b < n → S b → ¬ CnR (bqF S B b) n i) ∧ r = -1)
theorem RkR.un {S S' : Nat → Prop} {B B' : Nat → Nat → Prop} {n : Nat} {i r r' : Int} (h : RkR S B n i r) (h' : RkR S' B' n i r') (es : ∀ b, b < n → (S b ↔ S' b)) (eb : ∀ a b, a < n → b < n → (B a b ↔ B' a b)) : r = r' := by
  have ec : ∀ b, b < n → (CnR (bqF S B b) n i ↔ CnR (bqF S' B' b) n i) := fun b hb => by
    have e : ∀ o, o < n → (bqF S B b o ↔ bqF S' B' b o) := fun o ho => and_congr Iff.rfl (and_congr (es o ho) (eb o b ho hb))
    exact ⟨fun z => z.cg n i e, fun z => z.cg n i (fun o ho => (e o ho).symm)⟩
  rcases h with ⟨b, a1, a2, a3, a4, a5⟩ | ⟨a1, a2⟩ <;> rcases h' with ⟨c, c1, c2, c3, c4, c5⟩ | ⟨c1, c2⟩
  · rcases Nat.lt_trichotomy b c with q | q | q
    · exact absurd ((ec b a1).mp a3) (c4 b q ((es b a1).mp a2))
    · rw [a5, c5, q]
    · exact absurd ((ec c c1).mpr c3) (a4 c q ((es c c1).mpr c2))
  · exact absurd ((ec b a1).mp a3) (c1 b a1 ((es b a1).mp a2))
  · exact absurd ((ec c c1).mpr c3) (a1 c c1 ((es c c1).mpr c2))
  · rw [a2, c2]

/-! ===== SCORES of the class (pure) ===== -/
theorem CnR.z {P : Nat → Prop} : ∀ (n : Nat) (c : Int), CnR P n c → (∀ k, k < n → ¬ P k) → c = 0 := by
  intro n
  induction n with
  | zero => exact fun c h _ => h
  | succ n ih =>
    intro c h e
    rcases h with ⟨h1, -⟩ | ⟨-, h2⟩
    · exact absurd h1 (e n (by omega))
    · exact ih c h2 (fun k hk => e k (by omega))
/-- the worst so far of those that are kept -/
def WsI (p : Nat → Int) (t : Nat → Int32) (k : Nat) (w m : Int) : Prop := (w = -1 ∧ m = 0 ∧ ∀ r, r < k → ¬ t r = 0) ∨ ∃ j : Nat, w = (j : Int) ∧ j < k ∧ t j = 0 ∧ m = p j ∧ ∀ r, r < k → t r = 0 → p r < p j ∨ (p r = p j ∧ r ≤ j)
theorem WsI.start {p : Nat → Int} {t : Nat → Int32} {w m : Int} (h : w = -1) (h2 : m = 0) : WsI p t 0 w m := Or.inl ⟨h, h2, fun r hr => absurd hr (Nat.not_lt_zero r)⟩
theorem WsI.out {p : Nat → Int} {t : Nat → Int32} {k k' : Nat} {w m : Int} {y : Int32} (h : WsI p t k w m) (ey : y = t k) (hy : ¬ y.toInt = 0) (ek : k' = k + 1) : WsI p t k' w m := by
  subst ek
  have ht : ¬ t k = 0 := fun z => hy (by rw [ey, z]; rfl)
  rcases h with ⟨h1, h2, h3⟩ | ⟨j, h1, h2, h3, h4, h5⟩
  · refine Or.inl ⟨h1, h2, fun r hr => ?_⟩
    by_cases q : r = k
    · rw [q]
      exact ht
    · exact h3 r (by omega)
  · refine Or.inr ⟨j, h1, by omega, h3, h4, fun r hr z => ?_⟩
    by_cases q : r = k
    · rw [q] at z
      exact absurd z ht
    · exact h5 r (by omega) z
theorem WsI.low {p : Nat → Int} {t : Nat → Int32} {k k' : Nat} {w m : Int} (h : WsI p t k w m) (hp : 0 ≤ p k) (hl : p k < m) (ek : k' = k + 1) : WsI p t k' w m := by
  subst ek
  rcases h with ⟨h1, h2, h3⟩ | ⟨j, h1, h2, h3, h4, h5⟩
  · omega
  · refine Or.inr ⟨j, h1, by omega, h3, h4, fun r hr z => ?_⟩
    by_cases q : r = k
    · rw [q]
      omega
    · exact h5 r (by omega) z
theorem WsI.new {p : Nat → Int} {t : Nat → Int32} {k k' : Nat} {w m w' m' : Int} {y : Int32} (h : WsI p t k w m) (ey : y = t k) (hy : y.toInt = 0) (hg : w = -1 ∨ m ≤ p k) (ew : w' = (k : Int)) (em : m' = p k) (ek : k' = k + 1) : WsI p t k' w' m' := by
  subst ek
  have ht : t k = 0 := by
    rw [← ey]
    exact Int32.toInt_inj.mp hy
  refine Or.inr ⟨k, ew, by omega, ht, em, fun r hr z => ?_⟩
  by_cases q : r = k
  · rw [q]
    omega
  · rcases h with ⟨h1, h2, h3⟩ | ⟨j, h1, h2, h3, h4, h5⟩
    · exact absurd z (h3 r (by omega))
    · have h6 := h5 r (by omega) z
      omega
theorem WsI.get {p : Nat → Int} {t : Nat → Int32} {k : Nat} {w m : Int} (h : WsI p t k w m) (hw : ¬ w = -1) : m = p w.toNat := by
  rcases h with ⟨h1, -, -⟩ | ⟨j, h1, -, -, h4, -⟩
  · exact absurd h1 hw
  · rw [h4, h1]
    rfl
theorem WsI.use {p : Nat → Int} {t : Nat → Int32} {k : Nat} {w : Int} (h : ∃ m, WsI p t k w m) (hw : ¬ w = -1) : (w.toNat < k ∧ t w.toNat = 0) ∧ ∀ r, r < k → t r = 0 → p r < p w.toNat ∨ (p r = p w.toNat ∧ r ≤ w.toNat) := by
  obtain ⟨m, h⟩ := h
  rcases h with ⟨h1, -, -⟩ | ⟨j, h1, h2, h3, -, h5⟩
  · exact absurd h1 hw
  · rw [h1]
    exact ⟨⟨h2, h3⟩, h5⟩
theorem WsI.no {p q : Nat → Int} {t : Nat → Int32} {k K : Nat} {w : Int} (h : ∃ m, WsI p t K w m) (hw : w = -1) (ht : ThR q K k t) (hk : k < K) : False := by
  obtain ⟨m, h⟩ := h
  rcases h with ⟨-, -, h3⟩ | ⟨j, h1, -⟩
  · have h4 := CnR.z K _ (ht.kept k t) h3
    omega
  · omega
/-- columns -/
theorem cl_s {g g' : Nat → Int32} {k k' ix v : Int32} {b : Nat} {P : Nat → Int32 → Prop} (h : ∀ r, r < k.toNatClampNeg → P r (g (16 * r + b))) (e : g' = upd g ix.toNatClampNeg v) (hix : ix.toNatClampNeg = 16 * k.toNatClampNeg + b) (hv : P k.toNatClampNeg v) (ek : k'.toInt = k.toInt + 1) (h0 : 0 ≤ k.toInt) : ∀ r, r < k'.toNatClampNeg → P r (g' (16 * r + b)) := fun r hr => by
  subst e
  by_cases q : r = k.toNatClampNeg
  · rw [q, ← hix, upd_i]
    exact hv
  · rw [upd_j (by omega)]
    exact h r (by rw [tn_] at hr q ⊢; omega)
theorem cl_if {g g' : Nat → Int32} {ix : Int32} {w b : Nat} (e : g' = upd g ix.toNatClampNeg 1) (hix : ix.toNatClampNeg = 16 * w + b) : ∀ r : Nat, g' (16 * r + b) = if r = w then 1 else g (16 * r + b) := fun r => by
  subst e
  by_cases q : r = w
  · rw [if_pos q, q, ← hix, upd_i]
  · rw [if_neg q, upd_j (by omega)]
/-- the other columns stand -/
def Frm (g g' : Nat → Int32) (b : Nat) : Prop := ∀ r b' : Nat, b' < 16 → ¬ b' = b → g' (16 * r + b') = g (16 * r + b')
theorem Frm.rf {g : Nat → Int32} {b : Nat} : Frm g g b := fun _ _ _ _ => rfl
theorem Frm.up {g g1 g' : Nat → Int32} {b k : Nat} {ix v : Int32} (h : Frm g g1 b) (e : g' = upd g1 ix.toNatClampNeg v) (hix : ix.toNatClampNeg = 16 * k + b) (hb : b < 16) : Frm g g' b := fun r b' h1 h2 => by
  rw [e, upd_j (by omega)]
  exact h r b' h1 h2
theorem Frm.tr {g g1 g' : Nat → Int32} {b : Nat} (h : Frm g g1 b) (h' : Frm g1 g' b) : Frm g g' b := fun r b' h1 h2 => (h' r b' h1 h2).trans (h r b' h1 h2)
/-- as many are kept of each -/
def KeQ (P T : Nat → Int32) (K a b : Nat) : Prop := ∀ (n n' : Nat) (g g' : Nat → Int32), KpR P T K a n g → KpR P T K b n' g' → n = n'
theorem Bt_iff {P T O : Nat → Int32} {K a b n n' : Nat} {g g' : Nat → Int32} (ho : (O a).toInt = (O b).toInt) (h1 : KpR P T K a n g) (h2 : KpR P T K b n' g') (hk : KeQ P T K a b) : BtP P T O K a b ↔ LexR g g' n (RevR (fun r => P (16 * r + a)) (fun r => P (16 * r + b)) K (a < b)) := by
  have en := hk n n' g g' h1 h2
  subst en
  constructor
  · rintro (q | ⟨-, m, m', f, f', q1, q2, q3⟩)
    · omega
    · obtain ⟨a1, a2⟩ := KpR.un q1 h1 (fun _ _ => ⟨rfl, rfl⟩)
      obtain ⟨c1, c2⟩ := KpR.un q2 h2 (fun _ _ => ⟨rfl, rfl⟩)
      subst a1
      subst c1
      exact (LexR.cg a2 c2 Iff.rfl).mp q3
  · exact fun q => Or.inr ⟨ho, n, n, g, g', h1, h2, q⟩
theorem Bt_lt {P T O : Nat → Int32} {K a b : Nat} (h : (O a).toInt < (O b).toInt) : BtP P T O K a b := Or.inl h
theorem Bt_gt {P T O : Nat → Int32} {K a b : Nat} (h : (O b).toInt < (O a).toInt) : ¬ BtP P T O K a b := by
  rintro (q | ⟨q, -⟩) <;> omega
theorem sx_eq {g G : Nat → Int32} {k k' y z : Int32} (h : ∀ j, j < k.toNatClampNeg → g j = G j) (ey : y = g k.toNatClampNeg) (ez : z = G k.toNatClampNeg) (e : y.toInt = z.toInt) (ek : k'.toInt = k.toInt + 1) (h0 : 0 ≤ k.toInt) : ∀ j, j < k'.toNatClampNeg → g j = G j := fun j hj => by
  by_cases q : j = k.toNatClampNeg
  · rw [q, ← ey, ← ez]
    exact Int32.toInt_inj.mp e
  · exact h j (by rw [tn_] at hj q ⊢; omega)
theorem rx_eq {g G : Nat → Int32} {K : Nat} {k k' y z : Int32} (h : ∀ j : Nat, k.toInt < (j : Int) → j < K → g j = G j) (ey : y = g k.toNatClampNeg) (ez : z = G k.toNatClampNeg) (e : y.toInt = z.toInt) (ek : k'.toInt = k.toInt - 1) (h0 : 0 ≤ k.toInt) : ∀ j : Nat, k'.toInt < (j : Int) → j < K → g j = G j := fun j hj hK => by
  by_cases q : j = k.toNatClampNeg
  · rw [q, ← ey, ← ez]
    exact Int32.toInt_inj.mp e
  · exact h j (by rw [tn_] at q; omega) hK

