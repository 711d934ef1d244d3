

/-! ===== all SCORES of the class (pure) ===== -/
/-- the Sheet stands -/
def ShS (u u' : Nat → va_E) : Prop := (∀ o ∈ [26, 27, 28, 29, 30], xi (u' o) = xi (u o)) ∧ xi (u' 3) 6 = xi (u 3) 6 ∧ xi (u' 3) 7 = xi (u 3) 7 ∧ xi (u' 3) 8 = xi (u 3) 8
theorem ShS.rf {u : Nat → va_E} : ShS u u := ⟨fun _ _ => rfl, rfl, rfl, rfl⟩
theorem ShS.tr {u u1 u2 : Nat → va_E} (h : ShS u u1) (h' : ShS u1 u2) : ShS u u2 := ⟨fun o ho => (h'.1 o ho).trans (h.1 o ho), h'.2.1.trans h.2.1, h'.2.2.1.trans h.2.2.1, h'.2.2.2.trans h.2.2.2⟩
theorem ShS.kp {w : Nat → Nat → Bool} {u u' : Nat → va_E} (h : Kp w u u') (hw : ∀ o ∈ [26, 27, 28, 29, 30], ∀ j, w o j = false) (h6 : w 3 6 = false) (h7 : w 3 7 = false) (h8 : w 3 8 = false) : ShS u u' := ⟨fun o ho => funext (fun j => xik h (hw o ho j)), xik h h6, xik h h7, xik h h8⟩
theorem ShS.pw {u u' : Nat → va_E} {o j : Nat} {v : Value} (p : Pw u u' o j v) (ho : 31 ≤ o) : ShS u u' := ⟨fun q hq => funext (fun i => congrArg vi (p.2 q i (fun z => by
  simp only [List.mem_cons, List.not_mem_nil, or_false] at hq
  omega))), congrArg vi (p.2 3 6 (fun z => by omega)), congrArg vi (p.2 3 7 (fun z => by omega)), congrArg vi (p.2 3 8 (fun z => by omega))⟩
theorem ShR.cu {cf : Nat → Nat} {E u u' : Nat → va_E} {race q : Int32} (h : ShR cf E u race q) (s : ShS u u') : ShR cf E u' race q := by
  obtain ⟨s1, s6, s7, s8⟩ := s
  unfold ShR ShB at h ⊢
  rw [s1 26 (by decide), s1 27 (by decide), s1 28 (by decide), s1 29 (by decide), s1 30 (by decide), s6, s7, s8]
  exact h
def ScN (cf : Nat → Nat) (E : Nat → va_E) (race q : Int32) (b : Nat) : Prop := ∃ c : Int, CdR cf E race q b c ∧ ¬ c = -1
def ScK (cf : Nat → Nat) (E : Nat → va_E) (q : Int32) (k b : Nat) : Prop := ∃ r, r < k ∧ ScN cf E (nI r) q b
theorem sc_0 {cf : Nat → Nat} {E : Nat → va_E} {q : Int32} {N : Nat} {g : Nat → Int32} (hN : N ≤ 16) (h : ∀ b, b < 16 → g b = 0) : ∀ b, b < N → ((g b).toInt = 1 ↔ ScK cf E q 0 b) := fun b hb => by
  rw [h b (by omega)]
  exact ⟨fun z => absurd z (by decide), fun ⟨r, hr, _⟩ => absurd hr (Nat.not_lt_zero r)⟩
theorem sc_in {A B : Nat → Prop} {N : Nat} {g : Nat → Int32} (h : ∀ b, b < N → ((g b).toInt = 1 ↔ A b)) : ∀ b, b < N → ((g b).toInt = 1 ↔ A b ∨ (b < 0 ∧ B b)) := fun b hb => (h b hb).trans ⟨Or.inl, fun z => z.elim id (fun w => absurd w.1 (Nat.not_lt_zero b))⟩
theorem sc_y {A B : Nat → Prop} {N : Nat} {g g' : Nat → Int32} {k k' : Int32} (h : ∀ b, b < N → ((g b).toInt = 1 ↔ A b ∨ (b < k.toNatClampNeg ∧ B b))) (e : g' = upd g k.toNatClampNeg 1) (hB : B k.toNatClampNeg) (ek : k'.toInt = k.toInt + 1) (h0 : 0 ≤ k.toInt) : ∀ b, b < N → ((g' b).toInt = 1 ↔ A b ∨ (b < k'.toNatClampNeg ∧ B b)) := fun b hb => by
  have e1 : k'.toNatClampNeg = k.toNatClampNeg + 1 := by
    rw [tn_, tn_]
    omega
  subst e
  rw [e1]
  by_cases q : b = k.toNatClampNeg
  · rw [q, upd_i]
    exact ⟨fun _ => Or.inr ⟨by omega, hB⟩, fun _ => rfl⟩
  · rw [upd_j q]
    refine (h b hb).trans (or_congr Iff.rfl (and_congr ?_ Iff.rfl))
    omega
theorem sc_n {A B : Nat → Prop} {N : Nat} {g : Nat → Int32} {k k' : Int32} (h : ∀ b, b < N → ((g b).toInt = 1 ↔ A b ∨ (b < k.toNatClampNeg ∧ B b))) (hB : ¬ B k.toNatClampNeg) (ek : k'.toInt = k.toInt + 1) (h0 : 0 ≤ k.toInt) : ∀ b, b < N → ((g b).toInt = 1 ↔ A b ∨ (b < k'.toNatClampNeg ∧ B b)) := fun b hb => by
  have e1 : k'.toNatClampNeg = k.toNatClampNeg + 1 := by
    rw [tn_, tn_]
    omega
  rw [e1]
  refine (h b hb).trans (or_congr Iff.rfl ⟨fun z => ⟨by omega, z.2⟩, fun z => ⟨?_, z.2⟩⟩)
  by_cases q : b = k.toNatClampNeg
  · exact absurd (q ▸ z.2) hB
  · omega
theorem sc_x {cf : Nat → Nat} {E : Nat → va_E} {q k k' : Int32} {N m : Nat} {g : Nat → Int32} (h : ∀ b, b < N → ((g b).toInt = 1 ↔ ScK cf E q k.toNatClampNeg b ∨ (b < m ∧ ScN cf E k q b))) (hm : m = N) (ek : k'.toInt = k.toInt + 1) (h0 : 0 ≤ k.toInt) : ∀ b, b < N → ((g b).toInt = 1 ↔ ScK cf E q k'.toNatClampNeg b) := fun b hb => by
  have e1 : k'.toNatClampNeg = k.toNatClampNeg + 1 := by
    rw [tn_, tn_]
    omega
  have e2 : nI k.toNatClampNeg = k := nI_tn h0
  rw [e1]
  refine (h b hb).trans ⟨?_, ?_⟩
  · rintro (⟨r, h1, h2⟩ | ⟨-, h2⟩)
    · exact ⟨r, by omega, h2⟩
    · exact ⟨k.toNatClampNeg, by omega, by rw [e2]; exact h2⟩
  · rintro ⟨r, h1, h2⟩
    by_cases c : r = k.toNatClampNeg
    · rw [c, e2] at h2
      exact Or.inr ⟨by omega, h2⟩
    · exact Or.inl ⟨r, by omega, h2⟩
/-- rows of RACES and BOATS -/
theorem rb_old {g g' : Nat → Int32} {R N k : Nat} {ix v : Int32} {P : Nat → Nat → Int32 → Prop} (h : ∀ r b, r < R → b < N → P r b (g (16 * r + b))) (e : g' = upd g ix.toNatClampNeg v) (hix : ix.toNatClampNeg = 16 * R + k) (hN : N ≤ 16) (hk : k < 16) : ∀ r b, r < R → b < N → P r b (g' (16 * r + b)) := fun r b hr hb => by
  rw [e, upd_j (by omega)]
  exact h r b hr hb
theorem rb_new {g g' : Nat → Int32} {R : Nat} {k k' ix v : Int32} {P : Nat → Int32 → Prop} (h : ∀ b, b < k.toNatClampNeg → P b (g (16 * R + b))) (e : g' = upd g ix.toNatClampNeg v) (hix : ix.toNatClampNeg = 16 * R + k.toNatClampNeg) (hv : P k.toNatClampNeg v) (ek : k'.toInt = k.toInt + 1) (h0 : 0 ≤ k.toInt) : ∀ b, b < k'.toNatClampNeg → P b (g' (16 * R + b)) := fun b hb => by
  subst e
  by_cases q : b = k.toNatClampNeg
  · rw [q, ← hix, upd_i]
    exact hv
  · rw [upd_j (by omega)]
    exact h b (by rw [tn_] at hb q ⊢; omega)
theorem rb_all {g : Nat → Int32} {N m : Nat} {k k' : Int32} {P : Nat → Nat → Int32 → Prop} (h : ∀ r b, r < k.toNatClampNeg → b < N → P r b (g (16 * r + b))) (h' : ∀ b, b < m → P k.toNatClampNeg b (g (16 * k.toNatClampNeg + b))) (hm : m = N) (ek : k'.toInt = k.toInt + 1) (h0 : 0 ≤ k.toInt) : ∀ r b, r < k'.toNatClampNeg → b < N → P r b (g (16 * r + b)) := fun r b hr hb => by
  by_cases q : r = k.toNatClampNeg
  · rw [q]
    exact h' b (by omega)
  · exact h r b (by rw [tn_] at hr q ⊢; omega) hb
/-- the POINTS of a RACE lie between 0 and 10000 -/
theorem clamp_b (w : Int) : 0 ≤ clamp w ∧ clamp w ≤ 10000 := by
  unfold clamp
  omega
theorem PpC.b {cf : Nat → Nat} {E : Nat → va_E} {race q : Int32} {b : Nat} {p : Int} (h : PpC cf E race q b p) : 0 ≤ p ∧ p ≤ 10000 := by
  obtain ⟨c, pl, f, -, -, -, -, e⟩ := h
  rw [e]
  exact clamp_b _
theorem sm_cn {P : Nat → Prop} {F : Nat → Int → Prop} (hf : ∀ k v, F k v → 0 ≤ v ∧ v ≤ 10000) : ∀ (n : Nat) (s m : Int), SmR P F n s → CnR P n m → 0 ≤ m ∧ 0 ≤ s ∧ s ≤ 10000 * m := by
  intro n
  induction n with
  | zero =>
    intro s m h h'
    have h1 : s = 0 := h
    have h2 : m = 0 := h'
    omega
  | succ n ih =>
    intro s m h h'
    rcases h with h1 | h1 <;> rcases h' with h2 | h2
    · obtain ⟨-, v, hv, hs⟩ := h1
      have := ih _ _ hs h2.2
      have := hf n v hv
      omega
    · exact absurd h1.1 h2.1
    · exact absurd h2.1 h1.1
    · exact ih _ _ h1.2 h2.2
theorem meanI_b {s m : Int} (h0 : 0 ≤ m) (h1 : 0 ≤ s) (h2 : s ≤ 10000 * m) : 0 ≤ meanI s m ∧ meanI s m ≤ 10000 := by
  unfold meanI
  by_cases z : m = 0
  · rw [if_pos z]
    decide
  · rw [if_neg z]
    refine ⟨Int.ediv_nonneg h1 h0, ?_⟩
    exact Int.ediv_le_of_le_mul (by omega) h2
theorem PtC.b {cf : Nat → Nat} {E : Nat → va_E} {race q : Int32} {b : Nat} {p : Int} (h : PtC cf E race q b p) : 0 ≤ p ∧ p ≤ 10000 := by
  by_cases r : redC E b q.toInt race.toNatClampNeg
  · obtain ⟨n, s, m, -, h2, h3, h4⟩ := h.2 r
    obtain ⟨a1, a2, a3⟩ := sm_cn (fun _ _ hv => PpC.b hv) _ _ _ h2 h3
    rw [h4]
    exact meanI_b a1 a2 a3
  · exact (h.1 r).b
/-- one BOAT's SCORES -/
def ScX (Pt : Nat → Nat → Int → Prop) (K o : Nat) (P T O : Nat → Int32) (b : Nat) : Prop := (∀ r, r < K → Pt r b (P (16 * r + b)).toInt) ∧ ThR (fun r => (P (16 * r + b)).toInt) K o (fun r => T (16 * r + b)) ∧ (O b).toInt = sumF (ttF (fun r => (P (16 * r + b)).toInt) (fun r => T (16 * r + b))) K
theorem ScX.cg {Pt : Nat → Nat → Int → Prop} {K o b : Nat} {P T O P' T' O' : Nat → Int32} (h : ScX Pt K o P T O b) (e : ∀ r, r < K → P' (16 * r + b) = P (16 * r + b) ∧ T' (16 * r + b) = T (16 * r + b)) (eo : O' b = O b) : ScX Pt K o P' T' O' b := by
  obtain ⟨h1, h2, h3⟩ := h
  refine ⟨fun r hr => ?_, h2.cg o _ _ (fun r hr => by rw [(e r hr).1]) (fun r hr => (e r hr).2.symm), ?_⟩
  · rw [(e r hr).1]
    exact h1 r hr
  · rw [eo, h3]
    exact tt_cg (fun r hr => by rw [(e r hr).1]) (fun r hr => (e r hr).2.symm)
theorem ScX.next {Pt : Nat → Nat → Int → Prop} {K o : Nat} {P T O P' T' O' : Nat → Int32} {k k' : Int32} (h : ∀ b, b < k.toNatClampNeg → ScX Pt K o P T O b) (fp : Frm P P' k.toNatClampNeg) (ft : Frm T T' k.toNatClampNeg) (eo : ∀ b, ¬ b = k.toNatClampNeg → O' b = O b) (hp : ∀ r, r < K → Pt r k.toNatClampNeg (P' (16 * r + k.toNatClampNeg)).toInt) (ht : ThR (fun r => (P' (16 * r + k.toNatClampNeg)).toInt) K o (fun r => T' (16 * r + k.toNatClampNeg))) (hs : (O' k.toNatClampNeg).toInt = sumF (ttF (fun r => (P' (16 * r + k.toNatClampNeg)).toInt) (fun r => T' (16 * r + k.toNatClampNeg))) K) (ek : k'.toInt = k.toInt + 1) (h0 : 0 ≤ k.toInt ∧ k.toInt < 16) : ∀ b, b < k'.toNatClampNeg → ScX Pt K o P' T' O' b := fun b hb => by
  have e1 : k'.toNatClampNeg = k.toNatClampNeg + 1 := by
    rw [tn_, tn_]
    omega
  have e2 : k.toNatClampNeg < 16 := by
    rw [tn_]
    omega
  by_cases q : b = k.toNatClampNeg
  · subst q
    exact ⟨hp, ht, hs⟩
  · exact (h b (by omega)).cg (fun r _ => ⟨fp r b (by omega) q, ft r b (by omega) q⟩) (eo b q)
/-- what a tally finds -/
def TaX (cf : Nat → Nat) (E : Nat → va_E) (q K o : Int32) (P T S O : Nat → Int32) : Prop := CnR (fun i9 => (rcS E i9 0).toInt ≤ q.toInt) (cf 2) K.toInt ∧ (0 ≤ K.toInt ∧ K.toInt ≤ ((cf 2 : Nat) : Int)) ∧ o.toInt = max 0 (min (max 0 (K.toInt - 1)) (wV cf E 116 (lawC cf E q q) (lset lz 7 K)).toInt) ∧ ScA (fun r9 b9 p9 => PtC cf E (nI r9) q b9 p9) (ScK cf E q K.toNatClampNeg) (xi (E 1) 1).toNatClampNeg K.toNatClampNeg o.toNatClampNeg P T S O
theorem TaX.ke {cf : Nat → Nat} {E : Nat → va_E} {q K o : Int32} {P T S O : Nat → Int32} (h : TaX cf E q K o P T S O) (h20 : cf 2 ≤ 20) : ∀ x y : Nat, x < (xi (E 1) 1).toNatClampNeg → y < (xi (E 1) 1).toNatClampNeg → KeQ P T K.toNatClampNeg x y := fun x y hx hy n n' g g' k1 k2 => by
  obtain ⟨-, hK, -, hs⟩ := h
  have hK20 : K.toNatClampNeg ≤ 20 := by
    rw [tn_]
    omega
  have a1 := KpR.num k1 (hs x hx).2.2.1 hK20
  have a2 := KpR.num k2 (hs y hy).2.2.1 hK20
  omega

