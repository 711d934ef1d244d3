

/-! ===== MIDDLE (pure) ===== -/
/-- a number put where it belongs among the first n of a row -/
def shf (g : Nat → Int32) (c : Int32) : Nat → (Nat → Int32)
  | 0 => upd g 0 c
  | k + 1 => if c.toInt < (g k).toInt then shf (upd g (k + 1) (g k)) c k else upd g (k + 1) c
theorem shf_0 {g : Nat → Int32} {c : Int32} : shf g c 0 = upd g 0 c := rfl
theorem shf_s {g : Nat → Int32} {c : Int32} {k : Nat} (h : c.toInt < (g k).toInt) : shf g c (k + 1) = shf (upd g (k + 1) (g k)) c k := if_pos h
theorem shf_e {g : Nat → Int32} {c : Int32} {k : Nat} (h : ¬ c.toInt < (g k).toInt) : shf g c (k + 1) = upd g (k + 1) c := if_neg h
theorem upd_i {g : Nat → Int32} {k : Nat} {v : Int32} : upd g k v k = v := if_pos rfl
theorem upd_j {g : Nat → Int32} {k q : Nat} {v : Int32} (h : ¬ q = k) : upd g k v q = g q := if_neg h
theorem shf_hi {c : Int32} : ∀ (n : Nat) (g : Nat → Int32) (i : Nat), n < i → shf g c n i = g i := by
  intro n
  induction n with
  | zero => exact fun g i hi => upd_j (by omega)
  | succ n ih =>
    intro g i hi
    by_cases h : c.toInt < (g n).toInt
    · rw [shf_s h, ih _ i (by omega), upd_j (by omega)]
    · rw [shf_e h, upd_j (by omega)]
theorem shf_cg {c : Int32} : ∀ (n : Nat) (g g' : Nat → Int32), (∀ i, i < n → g i = g' i) → ∀ i, i ≤ n → shf g c n i = shf g' c n i := by
  intro n
  induction n with
  | zero =>
    intro g g' _ i hi
    have e : i = 0 := by omega
    subst e
    rw [shf_0, shf_0, upd_i, upd_i]
  | succ n ih =>
    intro g g' h i hi
    have hn := h n (by omega)
    by_cases q : c.toInt < (g n).toInt
    · have q' : c.toInt < (g' n).toInt := by
        rw [← hn]
        exact q
      rw [shf_s q, shf_s q']
      by_cases e : i = n + 1
      · subst e
        rw [shf_hi n _ _ (by omega), shf_hi n _ _ (by omega), upd_i, upd_i, hn]
      · exact ih _ _ (fun j hj => by rw [upd_j (by omega), upd_j (by omega)]; exact h j (by omega)) i (by omega)
    · have q' : ¬ c.toInt < (g' n).toInt := by
        rw [← hn]
        exact q
      rw [shf_e q, shf_e q']
      by_cases e : i = n + 1
      · subst e
        rw [upd_i, upd_i]
      · rw [upd_j e, upd_j e]
        exact h i (by omega)
/-- the others' times, rising, of those ahead of k -/
def MR (F : Nat → Prop) (T : Nat → Int32) (sk : Nat) : Nat → Nat → (Nat → Int32) → Prop
  | 0, n, _ => n = 0
  | k + 1, n, g => (¬ (¬ k = sk ∧ F k) ∧ MR F T sk k n g) ∨ ((¬ k = sk ∧ F k) ∧ ∃ (n0 : Nat) (g0 : Nat → Int32), MR F T sk k n0 g0 ∧ n = n0 + 1 ∧ ∀ i, i ≤ n0 → g i = shf g0 (T k) n0 i)
theorem MR.no {F : Nat → Prop} {T : Nat → Int32} {sk k k' n : Nat} {g : Nat → Int32} (h : MR F T sk k n g) (hn : ¬ (¬ k = sk ∧ F k)) (e : k' = k + 1) : MR F T sk k' n g := by
  subst e
  exact Or.inl ⟨hn, h⟩
theorem MR.one {F : Nat → Prop} {T : Nat → Int32} {sk k k' n n' : Nat} {g g' : Nat → Int32} (h : MR F T sk k n g) (hn : ¬ k = sk ∧ F k) (hg : ∀ i, i ≤ n → g' i = shf g (T k) n i) (en : n' = n + 1) (e : k' = k + 1) : MR F T sk k' n' g' := by
  subst e
  exact Or.inr ⟨hn, n, g, h, en, hg⟩
theorem MR.le {F : Nat → Prop} {T : Nat → Int32} {sk : Nat} : ∀ (k n : Nat) (g : Nat → Int32), MR F T sk k n g → n ≤ k := by
  intro k
  induction k with
  | zero =>
    intro n g h
    have h1 : n = 0 := h
    omega
  | succ k ih =>
    intro n g h
    rcases h with ⟨-, h2⟩ | ⟨-, n0, g0, h2, h3, -⟩
    · have := ih n g h2
      omega
    · have := ih n0 g0 h2
      omega
theorem MR.un {F F' : Nat → Prop} {T T' : Nat → Int32} {sk : Nat} : ∀ (k n n' : Nat) (g g' : Nat → Int32), MR F T sk k n g → MR F' T' sk k n' g' → (∀ i, i < k → (F i ↔ F' i)) → (∀ i, i < k → F i → T i = T' i) → n = n' ∧ ∀ i, i < n → g i = g' i := by
  intro k
  induction k with
  | zero =>
    intro n n' g g' h h' _ _
    have h1 : n = 0 := h
    have h2 : n' = 0 := h'
    subst h1
    subst h2
    exact ⟨rfl, fun i hi => absurd hi (Nat.not_lt_zero i)⟩
  | succ k ih =>
    intro n n' g g' h h' e t
    have ek := e k (by omega)
    have e1 : ∀ i, i < k → (F i ↔ F' i) := fun i hi => e i (by omega)
    have t1 : ∀ i, i < k → F i → T i = T' i := fun i hi => t i (by omega)
    rcases h with ⟨h1, h2⟩ | ⟨h1, n0, g0, h2, h3, h4⟩ <;> rcases h' with ⟨q1, q2⟩ | ⟨q1, m0, f0, q2, q3, q4⟩
    · exact ih n n' g g' h2 q2 e1 t1
    · exact absurd ⟨q1.1, ek.mpr q1.2⟩ h1
    · exact absurd ⟨h1.1, ek.mp h1.2⟩ q1
    · obtain ⟨a1, a2⟩ := ih n0 m0 g0 f0 h2 q2 e1 t1
      subst a1
      refine ⟨by omega, fun i hi => ?_⟩
      rw [h4 i (by omega), q4 i (by omega), ← t k (by omega) h1.2]
      exact shf_cg n0 g0 f0 a2 i (by omega)
theorem MR.cut {F : Nat → Prop} {T : Nat → Int32} {sk k : Nat} : ∀ (d n : Nat) (g : Nat → Int32), MR F T sk (k + d) n g → (∀ i, k ≤ i → i < k + d → ¬ F i) → MR F T sk k n g := by
  intro d
  induction d with
  | zero => exact fun n g h _ => h
  | succ d ih =>
    intro n g h e
    rcases (show (¬ (¬ (k + d) = sk ∧ F (k + d)) ∧ MR F T sk (k + d) n g) ∨ ((¬ (k + d) = sk ∧ F (k + d)) ∧ ∃ (n0 : Nat) (g0 : Nat → Int32), MR F T sk (k + d) n0 g0 ∧ n = n0 + 1 ∧ ∀ i, i ≤ n0 → g i = shf g0 (T (k + d)) n0 i) from h) with ⟨-, h2⟩ | ⟨h1, -⟩
    · exact ih n g h2 (fun i hi hi2 => e i hi (by omega))
    · exact absurd h1.2 (e _ (by omega) (by omega))
/-- MIDDLE, or hidden -/
def MdV (F : Nat → Prop) (T : Nat → Int32) (K sk : Nat) (ok : Prop) (r : Int32) : Prop := (¬ ok → r.toInt = -1000000000) ∧ (ok → ∃ (n : Nat) (g : Nat → Int32), MR F T sk K n g ∧ (n = 0 → r.toInt = -1000000000) ∧ (¬ n = 0 → r = g ((n - 1) / 2)))
theorem MdV.un {F F' : Nat → Prop} {T T' : Nat → Int32} {K K' sk : Nat} {ok ok' : Prop} {r r' : Int32} (h : MdV F T K sk ok r) (h' : MdV F' T' K' sk ok' r') (hk : K' ≤ K) (eo : ok ↔ ok') (e : ∀ i, i < K → (F i ↔ F' i)) (t : ∀ i, i < K → F i → T i = T' i) (top : ∀ i, K' ≤ i → i < K → ¬ F i) : r.toInt = r'.toInt := by
  by_cases o : ok
  · obtain ⟨n, g, h1, h2, h3⟩ := h.2 o
    obtain ⟨n', g', q1, q2, q3⟩ := h'.2 (eo.mp o)
    obtain ⟨d, rfl⟩ : ∃ d, K = K' + d := ⟨K - K', by omega⟩
    obtain ⟨a1, a2⟩ := MR.un K' n n' g g' (MR.cut d n g h1 top) q1 (fun i hi => e i (by omega)) (fun i hi => t i (by omega))
    subst a1
    by_cases z : n = 0
    · rw [h2 z, q2 z]
    · rw [h3 z, q3 z, a2 _ (by omega)]
  · rw [h.1 o, h'.1 (fun z => o (eo.mpr z))]
theorem MR.cg {F F' : Nat → Prop} {T T' : Nat → Int32} {sk : Nat} : ∀ (k n : Nat) (g : Nat → Int32), MR F T sk k n g → (∀ i, i < k → (F i ↔ F' i)) → (∀ i, i < k → F i → T i = T' i) → MR F' T' sk k n g := by
  intro k
  induction k with
  | zero => exact fun n g h _ _ => h
  | succ k ih =>
    intro n g h e t
    have ek := e k (by omega)
    rcases h with ⟨h1, h2⟩ | ⟨h1, n0, g0, h2, h3, h4⟩
    · exact Or.inl ⟨fun z => h1 ⟨z.1, ek.mpr z.2⟩, ih n g h2 (fun i hi => e i (by omega)) (fun i hi => t i (by omega))⟩
    · exact Or.inr ⟨⟨h1.1, ek.mp h1.2⟩, n0, g0, ih n0 g0 h2 (fun i hi => e i (by omega)) (fun i hi => t i (by omega)), h3, fun i hi => by rw [← t k (by omega) h1.2]; exact h4 i hi⟩
theorem MdV.cg {F F' : Nat → Prop} {T T' : Nat → Int32} {K sk : Nat} {ok ok' : Prop} {r : Int32} (h : MdV F T K sk ok r) (eo : ok ↔ ok') (e : ∀ i, i < K → (F i ↔ F' i)) (t : ∀ i, i < K → F i → T i = T' i) : MdV F' T' K sk ok' r := ⟨fun z => h.1 (fun w => z (eo.mp w)), fun z => by
  obtain ⟨n, g, h1, h2, h3⟩ := h.2 (eo.mpr z)
  exact ⟨n, g, MR.cg K n g h1 e t, h2, h3⟩⟩
/-! ===== the Office's rows ===== -/
def LdB (cf : Nat → Nat) (E u : Nat → va_E) (race q : Int32) (b : Nat) : Prop := ((xi (u 43) (16 * race.toNatClampNeg + b)).toInt = 1 ↔ CdR cf E race q b 0) ∧ (CdR cf E race q b 0 → xi (u 46) (16 * race.toNatClampNeg + b) = tmC cf E race q b ∧ (xi (u 45) (16 * race.toNatClampNeg + b)).toInt = numC cf E (nI b) (rcS E race.toNatClampNeg 1) q ∧ xi (u 44) (16 * race.toNatClampNeg + b) = xi (E (64 * ((lRC E race (nI b) q (cf 3)).toNatClampNeg + 1) + 12)) 3)
def kd4 : List Nat := [43, 44, 45, 46]
def LdR (cf : Nat → Nat) (E u : Nat → va_E) (race q : Int32) : Prop := (∀ b, b < 16 → LdB cf E u race q b) ∧ ∀ o ∈ kd4, ∀ j, (j < 16 * race.toNatClampNeg ∨ 16 * race.toNatClampNeg + 16 ≤ j) → xi (u o) j = xi (E o) j
theorem up_d {g g' : Nat → Int32} {k k' ix v : Int32} {B : Nat} {P : Nat → Int32 → Prop} (h : ∀ b, b < k.toNatClampNeg → P b (g (B + b))) (e : g' = upd g ix.toNatClampNeg v) (hix : ix.toNatClampNeg = B + k.toNatClampNeg) (hv : P k.toNatClampNeg v) (ek : k'.toInt = k.toInt + 1) (h0 : 0 ≤ k.toInt) : ∀ b, b < k'.toNatClampNeg → P b (g' (B + b)) := fun b hb => by
  rw [e, hix]
  by_cases c : b = k.toNatClampNeg
  · subst c
    rw [upd_i]
    exact hv
  · rw [upd_j (by omega)]
    exact h b (by rw [tn_] at hb c ⊢; omega)
theorem up_z {g g' G : Nat → Int32} {ix v : Int32} {B : Nat} (h : ∀ j, (j < B ∨ B + 16 ≤ j) → g j = G j) (e : g' = upd g ix.toNatClampNeg v) (hix : B ≤ ix.toNatClampNeg ∧ ix.toNatClampNeg < B + 16) : ∀ j, (j < B ∨ B + 16 ≤ j) → g' j = G j := fun j hj => by
  rw [e, upd_j (by omega)]
  exact h j hj
theorem LdR.of {cf : Nat → Nat} {E u w : Nat → va_E} {race q : Int32} {g3 g4 g5 g6 G3 G4 G5 G6 G26 G27 G28 G29 : Nat → Int32} (s : ShR cf E w race q) (w6 : xi (w 26) = G26) (w7 : xi (w 27) = G27) (w8 : xi (w 28) = G28) (w9 : xi (w 29) = G29) (u3 : xi (u 43) = g3) (u4 : xi (u 44) = g4) (u5 : xi (u 45) = g5) (u6 : xi (u 46) = g6) (e3 : xi (E 43) = G3) (e4 : xi (E 44) = G4) (e5 : xi (E 45) = G5) (e6 : xi (E 46) = G6) (h3 : ∀ b, b < 16 → ((G26 b).toInt = 0 ↔ (g3 (16 * race.toNatClampNeg + b)).toInt = 1)) (h4 : ∀ b, b < 16 → g4 (16 * race.toNatClampNeg + b) = G27 b) (h5 : ∀ b, b < 16 → g5 (16 * race.toNatClampNeg + b) = G28 b) (h6 : ∀ b, b < 16 → g6 (16 * race.toNatClampNeg + b) = G29 b) (o3 : ∀ j, (j < 16 * race.toNatClampNeg ∨ 16 * race.toNatClampNeg + 16 ≤ j) → g3 j = G3 j) (o4 : ∀ j, (j < 16 * race.toNatClampNeg ∨ 16 * race.toNatClampNeg + 16 ≤ j) → g4 j = G4 j) (o5 : ∀ j, (j < 16 * race.toNatClampNeg ∨ 16 * race.toNatClampNeg + 16 ≤ j) → g5 j = G5 j) (o6 : ∀ j, (j < 16 * race.toNatClampNeg ∨ 16 * race.toNatClampNeg + 16 ≤ j) → g6 j = G6 j) : LdR cf E u race q := by
  subst w6
  subst w7
  subst w8
  subst w9
  subst u3
  subst u4
  subst u5
  subst u6
  subst e3
  subst e4
  subst e5
  subst e6
  refine ⟨fun b hb => ?_, fun o ho j hj => ?_⟩
  · have sb := s.1 b hb
    refine ⟨(h3 b hb).symm.trans sb.fin, fun z => ?_⟩
    have z0 := sb.fin.mpr z
    obtain ⟨h1, h2, k3, -, -⟩ := id sb
    rw [h6 b hb, h5 b hb, h4 b hb]
    exact ⟨sb.tm z0, (k3 z0).1, Int32.toInt_inj.mp (h2 (CdR_0 z))⟩
  · simp only [kd4, List.mem_cons, List.not_mem_nil, or_false] at ho
    rcases ho with rfl | rfl | rfl | rfl
    · exact o3 j hj
    · exact o4 j hj
    · exact o5 j hj
    · exact o6 j hj
theorem LdB.k {cf : Nat → Nat} {E E' u : Nat → va_E} {race q : Int32} {b : Nat} (k : K64 E E') (h : LdB cf E' u race q b) : LdB cf E u race q b := by
  have en : ∀ (b d q : Int32), numC cf E' b d q = numC cf E b d q := fun b d q => numC_k k
  have et : tmC cf E' race q b = tmC cf E race q b := by
    unfold tmC
    rw [rcS_k k, lRC_k k, en, k (64 * ((lRC E race (nI b) q (cf 3)).toNatClampNeg + 1) + 12) (by omega) 3]
  unfold LdB at h ⊢
  rw [CdR_k k, et, en, rcS_k k, lRC_k k, k (64 * ((lRC E race (nI b) q (cf 3)).toNatClampNeg + 1) + 12) (by omega) 3] at h
  exact h
theorem LdB.rows {cf : Nat → Nat} {E u u' : Nat → va_E} {race q : Int32} {b : Nat} (h : LdB cf E u race q b) (e : ∀ o ∈ kd4, xi (u' o) (16 * race.toNatClampNeg + b) = xi (u o) (16 * race.toNatClampNeg + b)) : LdB cf E u' race q b := by
  unfold LdB at h ⊢
  rw [e 43 (by decide), e 44 (by decide), e 45 (by decide), e 46 (by decide)]
  exact h
/-- MIDDLE by what was told -/
def MdC (cf : Nat → Nat) (E : Nat → va_E) (race q : Int32) (b : Nat) (r : Int32) : Prop := MdV (fun o => CdR cf E race q o 0) (tmC cf E race q) 16 b ((rcS E race.toNatClampNeg 3).toInt = 0 ∧ CdR cf E race q b 0) r
def MdO (E : Nat → va_E) (race b : Nat) (r : Int32) : Prop := MdV (fun o => (xi (E 43) (16 * race + o)).toInt = 1) (fun o => xi (E 46) (16 * race + o)) 16 b ((rcS E race 3).toInt = 0 ∧ (xi (E 43) (16 * race + b)).toInt = 1) r
theorem MdO.c {cf : Nat → Nat} {E u : Nat → va_E} {race q : Int32} {b : Nat} {r : Int32} (h : MdO u race.toNatClampNeg b r) (k : K64 E u) (hb : b < 16) (l : ∀ o, o < 16 → LdB cf E u race q o) : MdC cf E race q b r := by
  unfold MdO at h
  rw [rcS_k k] at h
  exact h.cg (and_congr Iff.rfl (l b hb).1) (fun i hi => (l i hi).1) (fun i hi z => ((l i hi).2 ((l i hi).1.mp z)).1)
theorem la_next {cf : Nat → Nat} {E E1 E2 : Nat → va_E} {k k' q : Int32} (h : ∀ r9 : Nat, r9 < k.toNatClampNeg → ∀ b9 : Nat, b9 < 16 → LdB cf E E1 (nI r9) q b9) (k64 : K64 E E1) (l : LdR cf E1 E2 k q) (h0 : 0 ≤ k.toInt ∧ k.toInt ≤ 20) (e : k'.toInt = k.toInt + 1) : ∀ r9 : Nat, r9 < k'.toNatClampNeg → ∀ b9 : Nat, b9 < 16 → LdB cf E E2 (nI r9) q b9 := fun r9 hr b9 hb => by
  by_cases c : r9 = k.toNatClampNeg
  · subst c
    rw [nI_tn h0.1]
    exact (l.1 b9 hb).k k64
  · have hr1 : r9 < k.toNatClampNeg := by
      rw [tn_] at hr c ⊢
      omega
    have hi : (nI r9).toNatClampNeg = r9 := by
      have h9 : (nI r9).toInt = (r9 : Int) := nI_toInt (by rw [tn_] at hr1; omega)
      rw [tn_, h9]
      omega
    exact (h r9 hr1 b9 hb).rows (fun o ho => l.2 o ho _ (by rw [hi]; omega))

