

/-! ===== what evens BOATS (pure) ===== -/
def p7 : Nat → Nat
  | 0 => 1
  | k + 1 => 7 * p7 k
theorem p7_pos : ∀ k, 0 < p7 k := by
  intro k
  induction k with
  | zero => exact Nat.one_pos
  | succ k ih =>
    show 0 < 7 * p7 k
    omega
theorem p7_add (a : Nat) : ∀ b : Nat, p7 (a + b) = p7 a * p7 b := by
  intro b
  induction b with
  | zero => exact (Nat.mul_one _).symm
  | succ b ih =>
    show 7 * p7 (a + b) = p7 a * (7 * p7 b)
    rw [ih, Nat.mul_left_comm]
/-- the digits of a number of m digits, the highest first -/
def dg7 (m i s : Nat) : Nat := i / p7 (m - 1 - s) % 7
theorem dg7_lt {m i s : Nat} : dg7 m i s < 7 := Nat.mod_lt _ (by decide)
theorem dg7_at {m a b t N : Nat} (ha : a < m) (hN : N = b * p7 (m - a)) (ht : t < 7) : dg7 m (N + t * p7 (m - a - 1)) a = t ∧ ∀ s, s < a → dg7 m (N + t * p7 (m - a - 1)) s = dg7 m N s := by
  have hp := p7_pos (m - a - 1)
  have e1 : p7 (m - a) = 7 * p7 (m - a - 1) := by
    rw [show m - a = (m - a - 1) + 1 by omega]
    rfl
  have e2 : N + t * p7 (m - a - 1) = (b * 7 + t) * p7 (m - a - 1) := by
    rw [hN, e1, Nat.add_mul, Nat.mul_assoc]
  constructor
  · unfold dg7
    rw [show m - 1 - a = m - a - 1 by omega, e2, Nat.mul_div_cancel _ hp]
    omega
  · intro s hs
    subst hN
    have hP := p7_pos (m - a)
    have e3 : p7 (m - 1 - s) = p7 (m - a) * p7 (a - 1 - s) := by
      rw [← p7_add]
      congr 1
      omega
    have ht6 : t * p7 (m - a - 1) ≤ 6 * p7 (m - a - 1) := Nat.mul_le_mul_right _ (by omega)
    have hlt : t * p7 (m - a - 1) < p7 (m - a) := by omega
    have q : (b * p7 (m - a) + t * p7 (m - a - 1)) / p7 (m - a) = b := by
      rw [Nat.add_comm, Nat.add_mul_div_right _ _ hP, Nat.div_eq_of_lt hlt, Nat.zero_add]
    unfold dg7
    rw [e3, ← Nat.div_div_eq_div_mul, ← Nat.div_div_eq_div_mul, q, Nat.mul_div_cancel _ hP]
/-- digits from the last on -/
theorem dg_st {m i S X l l' : Nat} (h : l = i / p7 (m - S)) (hS : S = X + 1) (hm : S ≤ m) (e : l' = l / 7) : l' = i / p7 (m - X) ∧ dg7 m i X = l % 7 := by
  subst h
  subst e
  subst hS
  have e1 : p7 (m - X) = p7 (m - (X + 1)) * 7 := by
    rw [show m - X = (m - (X + 1)) + 1 by omega]
    exact Nat.mul_comm 7 _
  refine ⟨?_, ?_⟩
  · rw [Nat.div_div_eq_div_mul, e1]
  · unfold dg7
    rw [show m - 1 - X = m - (X + 1) by omega]
theorem p7_le : ∀ k : Nat, k < 5 → 1 ≤ p7 k ∧ p7 k ≤ 2401 ∧ (k < 4 → p7 k ≤ 343) := by decide
/-- the BOATS that bits name -/
def EvL (N : Nat) : Nat → Nat → (Nat → Int32) → Prop
  | 0, m, _ => m = 0
  | k + 1, m, g => (N / 2 ^ k % 2 = 0 ∧ EvL N k m g) ∨ (¬ N / 2 ^ k % 2 = 0 ∧ ∃ m0, m = m0 + 1 ∧ EvL N k m0 g ∧ (g m0).toInt = (k : Int))
theorem EvL.up {N : Nat} : ∀ (k m : Nat) (g g' : Nat → Int32), EvL N k m g → (∀ j, j < m → g' j = g j) → EvL N k m g' := by
  intro k
  induction k with
  | zero => exact fun m g g' h _ => h
  | succ k ih =>
    intro m g g' h e
    rcases h with ⟨h1, h2⟩ | ⟨h1, m0, h2, h3, h4⟩
    · exact Or.inl ⟨h1, ih m g g' h2 e⟩
    · refine Or.inr ⟨h1, m0, h2, ih m0 g g' h3 (fun j hj => e j (by omega)), ?_⟩
      rw [e m0 (by omega)]
      exact h4
theorem EvL.no {N k k' m : Nat} {g : Nat → Int32} (h : EvL N k m g) (hb : N / 2 ^ k % 2 = 0) (e : k' = k + 1) : EvL N k' m g := by
  subst e
  exact Or.inl ⟨hb, h⟩
theorem EvL.yes {N k k' m m' j : Nat} {g g' : Nat → Int32} {v : Int32} (h : EvL N k m g) (hb : ¬ N / 2 ^ k % 2 = 0) (eg : g' = upd g j v) (hj : j = m) (hv : v.toInt = (k : Int)) (em : m' = m + 1) (e : k' = k + 1) : EvL N k' m' g' := by
  subst e
  subst hj
  subst eg
  refine Or.inr ⟨hb, _, em, EvL.up k _ g _ h (fun i hi => upd_j (by omega)), ?_⟩
  rw [upd_i]
  exact hv
theorem EvL.un {N : Nat} : ∀ (k m m' : Nat) (g g' : Nat → Int32), EvL N k m g → EvL N k m' g' → m = m' ∧ ∀ j, j < m → g j = g' j := by
  intro k
  induction k with
  | zero =>
    intro m m' g g' h h'
    have h1 : m = 0 := h
    have h2 : m' = 0 := h'
    subst h1
    subst h2
    exact ⟨rfl, fun j hj => absurd hj (Nat.not_lt_zero j)⟩
  | succ k ih =>
    intro m m' g g' h h'
    rcases h with ⟨h1, h2⟩ | ⟨h1, m0, h2, h3, h4⟩ <;> rcases h' with ⟨q1, q2⟩ | ⟨q1, n0, q2, q3, q4⟩
    · exact ih m m' g g' h2 q2
    · exact absurd h1 q1
    · exact absurd q1 h1
    · obtain ⟨a1, a2⟩ := ih m0 n0 g g' h3 q3
      subst a1
      refine ⟨by omega, fun j hj => ?_⟩
      by_cases q : j = m0
      · rw [q]
        exact Int32.toInt_inj.mp (h4.trans q4.symm)
      · exact a2 j (by omega)
theorem EvL.num {N : Nat} : ∀ (k m : Nat) (g : Nat → Int32), EvL N k m g → m = pcS N k ∧ ∀ j, j < m → 0 ≤ (g j).toInt ∧ (g j).toInt < (k : Int) := by
  intro k
  induction k with
  | zero =>
    intro m g h
    have h1 : m = 0 := h
    subst h1
    exact ⟨rfl, fun j hj => absurd hj (Nat.not_lt_zero j)⟩
  | succ k ih =>
    intro m g h
    have ql : N / 2 ^ k % 2 < 2 := Nat.mod_lt _ (by decide)
    have qs : pcS N (k + 1) = pcS N k + N / 2 ^ k % 2 := rfl
    rcases h with ⟨h1, h2⟩ | ⟨h1, m0, h2, h3, h4⟩
    · obtain ⟨a1, a2⟩ := ih m g h2
      exact ⟨by omega, fun j hj => by have := a2 j hj; omega⟩
    · obtain ⟨a1, a2⟩ := ih m0 g h3
      refine ⟨by omega, fun j hj => ?_⟩
      by_cases q : j = m0
      · rw [q, h4]
        omega
      · have := a2 j (by omega)
        omega
theorem EvL.cut {N k : Nat} : ∀ (d m : Nat) (g : Nat → Int32), EvL N (k + d) m g → N < 2 ^ k → EvL N k m g := by
  intro d
  induction d with
  | zero => exact fun m g h _ => h
  | succ d ih =>
    intro m g h hN
    have z : N / 2 ^ (k + d) = 0 := Nat.div_eq_of_lt (Nat.lt_of_lt_of_le hN (Nat.pow_le_pow_right (by decide) (by omega)))
    rcases (show (N / 2 ^ (k + d) % 2 = 0 ∧ EvL N (k + d) m g) ∨ (¬ N / 2 ^ (k + d) % 2 = 0 ∧ ∃ m0, m = m0 + 1 ∧ EvL N (k + d) m0 g ∧ (g m0).toInt = ((k + d : Nat) : Int)) from h) with ⟨-, h2⟩ | ⟨h1, -⟩
    · exact ih m g h2 hN
    · exact absurd ((congrArg (fun x => x % 2) z).trans (Nat.zero_mod 2)) h1
theorem EvL.mem {N : Nat} : ∀ (k m : Nat) (g : Nat → Int32), EvL N k m g → ∀ b, b < k → (¬ N / 2 ^ b % 2 = 0 ↔ ∃ j, j < m ∧ (g j).toInt = (b : Int)) := by
  intro k
  induction k with
  | zero => exact fun m g _ b hb => absurd hb (Nat.not_lt_zero b)
  | succ k ih =>
    intro m g h b hb
    rcases h with ⟨h1, h2⟩ | ⟨h1, m0, h2, h3, h4⟩
    · by_cases q : b = k
      · subst q
        have a := (EvL.num b m g h2).2
        exact ⟨fun z => absurd h1 z, fun ⟨j, j1, j2⟩ => by
          have := a j j1
          omega⟩
      · exact ih m g h2 b (by omega)
    · by_cases q : b = k
      · subst q
        exact ⟨fun _ => ⟨m0, by omega, h4⟩, fun _ => h1⟩
      · refine (ih m0 g h3 b (by omega)).trans ⟨fun ⟨j, j1, j2⟩ => ⟨j, by omega, j2⟩, fun ⟨j, j1, j2⟩ => ?_⟩
        by_cases z : j = m0
        · rw [z, h4] at j2
          omega
        · exact ⟨j, by omega, j2⟩
/-- the least and the most of those that finished -/
def loF (f : Nat → Int) : Nat → Int
  | 0 => 2147483647
  | j + 1 => if f j = -1 then loF f j else min (loF f j) (f j)
def hiF (f : Nat → Int) : Nat → Int
  | 0 => 0
  | j + 1 => if f j = -1 then hiF f j else max (hiF f j) (f j)
def xtF (f : Nat → Int) (m : Nat) : Int := hiF f m - loF f m
theorem lohi_cg {f g : Nat → Int} : ∀ m : Nat, (∀ j, j < m → f j = g j) → loF f m = loF g m ∧ hiF f m = hiF g m := by
  intro m
  induction m with
  | zero => exact fun _ => ⟨rfl, rfl⟩
  | succ m ih =>
    intro h
    obtain ⟨a1, a2⟩ := ih (fun j hj => h j (by omega))
    have e := h m (by omega)
    show (if f m = -1 then loF f m else min (loF f m) (f m)) = (if g m = -1 then loF g m else min (loF g m) (g m)) ∧ (if f m = -1 then hiF f m else max (hiF f m) (f m)) = (if g m = -1 then hiF g m else max (hiF g m) (g m))
    rw [a1, a2, e]
    exact ⟨rfl, rfl⟩
theorem lohi_b {f : Nat → Int} {c : Int} (hc : c ≤ 2147483647) : ∀ m : Nat, (∀ j, j < m → -1 ≤ f j ∧ f j ≤ c) → (0 ≤ loF f m ∧ loF f m ≤ 2147483647) ∧ (0 ≤ hiF f m ∧ (hiF f m ≤ c ∨ hiF f m = 0)) ∧ ((∃ j, j < m ∧ ¬ f j = -1) → loF f m ≤ hiF f m) := by
  intro m
  induction m with
  | zero => exact fun _ => ⟨⟨show (0 : Int) ≤ 2147483647 by decide, show (2147483647 : Int) ≤ 2147483647 by decide⟩, ⟨show (0 : Int) ≤ 0 by decide, Or.inr rfl⟩, fun ⟨j, hj, _⟩ => absurd hj (Nat.not_lt_zero j)⟩
  | succ m ih =>
    intro h
    obtain ⟨a1, a2, a3⟩ := ih (fun j hj => h j (by omega))
    have e := h m (by omega)
    by_cases z : f m = -1
    · have e1 : loF f (m + 1) = loF f m := if_pos z
      have e2 : hiF f (m + 1) = hiF f m := if_pos z
      rw [e1, e2]
      refine ⟨a1, a2, fun ⟨j, j1, j2⟩ => a3 ⟨j, ?_, j2⟩⟩
      by_cases q : j = m
      · rw [q] at j2
        exact absurd z j2
      · omega
    · have e1 : loF f (m + 1) = min (loF f m) (f m) := if_neg z
      have e2 : hiF f (m + 1) = max (hiF f m) (f m) := if_neg z
      rw [e1, e2]
      exact ⟨by omega, by omega, fun _ => by omega⟩
theorem lo_n {f : Nat → Int} {j j' : Nat} {v : Int} (h : v = loF f j) (hf : f j = -1) (e : j' = j + 1) : v = loF f j' := by
  subst e
  show v = if f j = -1 then loF f j else min (loF f j) (f j)
  rw [if_pos hf]
  exact h
theorem lo_y {f : Nat → Int} {j j' : Nat} {v v' : Int} (h : v = loF f j) (hf : ¬ f j = -1) (hv : v' = min v (f j)) (e : j' = j + 1) : v' = loF f j' := by
  subst e
  show v' = if f j = -1 then loF f j else min (loF f j) (f j)
  rw [if_neg hf, ← h]
  exact hv
theorem hi_n {f : Nat → Int} {j j' : Nat} {v : Int} (h : v = hiF f j) (hf : f j = -1) (e : j' = j + 1) : v = hiF f j' := by
  subst e
  show v = if f j = -1 then hiF f j else max (hiF f j) (f j)
  rw [if_pos hf]
  exact h
theorem hi_y {f : Nat → Int} {j j' : Nat} {v v' : Int} (h : v = hiF f j) (hf : ¬ f j = -1) (hv : v' = max v (f j)) (e : j' = j + 1) : v' = hiF f j' := by
  subst e
  show v' = if f j = -1 then hiF f j else max (hiF f j) (f j)
  rw [if_neg hf, ← h]
  exact hv
/-- SPREAD of a table with digits -/
def spF (X : Nat → Nat → Nat → Int) (c m i : Nat) : Int := sumF (fun k => xtF (fun j => X k j (dg7 m i j)) m) c
def smF (m i : Nat) : Int := sumF (fun j => ab ((dg7 m i j : Int) - 3)) m
theorem spF_cg {X Y : Nat → Nat → Nat → Int} {c m i : Nat} (h : ∀ k j d, k < c → j < m → d < 7 → X k j d = Y k j d) : spF X c m i = spF Y c m i := sumF_cg c (fun k hk => by
  obtain ⟨a1, a2⟩ := lohi_cg (f := fun j => X k j (dg7 m i j)) (g := fun j => Y k j (dg7 m i j)) m (fun j hj => h k j _ hk hj dg7_lt)
  unfold xtF
  rw [a1, a2])
/-- the best of the first ones -/
def BsK (Sp Sm : Nat → Int) (m N : Nat) (bs sm : Int) (g : Nat → Int) : Prop := ∃ j, j < N ∧ (∀ i, i < N → Sp j < Sp i ∨ (Sp j = Sp i ∧ Sm j < Sm i) ∨ (Sp j = Sp i ∧ Sm j = Sm i ∧ j ≤ i)) ∧ bs = Sp j ∧ sm = Sm j ∧ ∀ s, s < m → g s = (dg7 m j s : Int)
theorem BsK.keep {Sp Sm : Nat → Int} {m N N' : Nat} {bs sm : Int} {g g' : Nat → Int} (h : BsK Sp Sm m N bs sm g) (hk : bs < Sp N ∨ (bs = Sp N ∧ sm ≤ Sm N)) (eg : ∀ s, s < m → g' s = g s) (e : N' = N + 1) : BsK Sp Sm m N' bs sm g' := by
  subst e
  obtain ⟨j, h1, h2, h3, h4, h5⟩ := h
  refine ⟨j, by omega, fun i hi => ?_, h3, h4, fun s hs => (eg s hs).trans (h5 s hs)⟩
  by_cases q : i = N
  · rw [q]
    omega
  · exact h2 i (by omega)
theorem BsK.new {Sp Sm : Nat → Int} {m N N' : Nat} {bs sm bs' sm' : Int} {g g' : Nat → Int} (h : N = 0 ∨ (BsK Sp Sm m N bs sm g ∧ (Sp N < bs ∨ (Sp N = bs ∧ Sm N < sm)))) (eb : bs' = Sp N) (es : sm' = Sm N) (eg : ∀ s, s < m → g' s = (dg7 m N s : Int)) (e : N' = N + 1) : BsK Sp Sm m N' bs' sm' g' := by
  subst e
  refine ⟨N, by omega, fun i hi => ?_, eb, es, eg⟩
  by_cases q : i = N
  · rw [q]
    omega
  · rcases h with h | ⟨⟨j, h1, h2, h3, h4, h5⟩, h6⟩
    · omega
    · have := h2 i (by omega)
      omega
theorem BsK.un {Sp Sm Sp' Sm' : Nat → Int} {m N : Nat} {bs sm bs' sm' : Int} {g g' : Nat → Int} (h : BsK Sp Sm m N bs sm g) (h' : BsK Sp' Sm' m N bs' sm' g') (ep : ∀ i, i < N → Sp i = Sp' i) (es : ∀ i, i < N → Sm i = Sm' i) : bs = bs' ∧ ∀ s, s < m → g s = g' s := by
  obtain ⟨j, h1, h2, h3, h4, h5⟩ := h
  obtain ⟨i, q1, q2, q3, q4, q5⟩ := h'
  have a := h2 i q1
  have b := q2 j h1
  rw [ep i q1, es i q1, ep j h1, es j h1] at a
  have e : i = j := by omega
  subst e
  exact ⟨by rw [h3, q3, ep i q1], fun s hs => (h5 s hs).trans (q5 s hs).symm⟩
/-- a table that lists what counts -/
def TbR (C : Nat → Prop) (Q : Nat → (Nat → Nat → Int) → Prop) : Nat → Nat → (Nat → Nat → Nat → Int) → Prop
  | 0, c, _ => c = 0
  | r + 1, c, X => (¬ C r ∧ TbR C Q r c X) ∨ (C r ∧ ∃ c0, c = c0 + 1 ∧ TbR C Q r c0 X ∧ Q r (X c0))
theorem TbR.up {C : Nat → Prop} {Q : Nat → (Nat → Nat → Int) → Prop} : ∀ (r c : Nat) (X Y : Nat → Nat → Nat → Int), TbR C Q r c X → (∀ k, k < c → ∀ r', Q r' (X k) → Q r' (Y k)) → TbR C Q r c Y := by
  intro r
  induction r with
  | zero => exact fun c X Y h _ => h
  | succ r ih =>
    intro c X Y h e
    rcases h with ⟨h1, h2⟩ | ⟨h1, c0, h2, h3, h4⟩
    · exact Or.inl ⟨h1, ih c X Y h2 e⟩
    · exact Or.inr ⟨h1, c0, h2, ih c0 X Y h3 (fun k hk => e k (by omega)), e c0 (by omega) r h4⟩
theorem TbR.no {C : Nat → Prop} {Q : Nat → (Nat → Nat → Int) → Prop} {r r' c : Nat} {X : Nat → Nat → Nat → Int} (h : TbR C Q r c X) (hn : ¬ C r) (e : r' = r + 1) : TbR C Q r' c X := by
  subst e
  exact Or.inl ⟨hn, h⟩
theorem TbR.yes {C : Nat → Prop} {Q : Nat → (Nat → Nat → Int) → Prop} {r r' c c' : Nat} {X : Nat → Nat → Nat → Int} (h : TbR C Q r c X) (hc : C r) (hq : Q r (X c)) (ec : c' = c + 1) (e : r' = r + 1) : TbR C Q r' c' X := by
  subst e
  exact Or.inr ⟨hc, c, ec, h, hq⟩
theorem TbR.un {C C' : Nat → Prop} {Q Q' : Nat → (Nat → Nat → Int) → Prop} {m : Nat} : ∀ (r c c' : Nat) (X Y : Nat → Nat → Nat → Int), TbR C Q r c X → TbR C' Q' r c' Y → (∀ i, i < r → (C i ↔ C' i)) → (∀ i, i < r → ∀ U V, Q i U → Q' i V → ∀ j d, j < m → d < 7 → U j d = V j d) → c = c' ∧ ∀ k j d, k < c → j < m → d < 7 → X k j d = Y k j d := by
  intro r
  induction r with
  | zero =>
    intro c c' X Y h h' _ _
    have h1 : c = 0 := h
    have h2 : c' = 0 := h'
    subst h1
    subst h2
    exact ⟨rfl, fun k j d hk => absurd hk (Nat.not_lt_zero k)⟩
  | succ r ih =>
    intro c c' X Y h h' e t
    have er := e r (by omega)
    have e1 : ∀ i, i < r → (C i ↔ C' i) := fun i hi => e i (by omega)
    have t1 : ∀ i, i < r → ∀ U V, Q i U → Q' i V → ∀ j d, j < m → d < 7 → U j d = V j d := fun i hi => t i (by omega)
    rcases h with ⟨h1, h2⟩ | ⟨h1, c0, h2, h3, h4⟩ <;> rcases h' with ⟨q1, q2⟩ | ⟨q1, n0, q2, q3, q4⟩
    · exact ih c c' X Y h2 q2 e1 t1
    · exact absurd (er.mpr q1) h1
    · exact absurd (er.mp h1) q1
    · obtain ⟨a1, a2⟩ := ih c0 n0 X Y h3 q3 e1 t1
      subst a1
      refine ⟨by omega, fun k j d hk hj hd => ?_⟩
      by_cases q : k = c0
      · rw [q]
        exact t r (by omega) _ _ h4 q4 j d hj hd
      · exact a2 k j d (by omega) hj hd
theorem TbR.all {C : Nat → Prop} {Q : Nat → (Nat → Nat → Int) → Prop} : ∀ (r c : Nat) (X : Nat → Nat → Nat → Int), TbR C Q r c X → c ≤ r ∧ ∀ k, k < c → ∃ i, i < r ∧ C i ∧ Q i (X k) := by
  intro r
  induction r with
  | zero =>
    intro c X h
    have h1 : c = 0 := h
    subst h1
    exact ⟨Nat.le_refl _, fun k hk => absurd hk (Nat.not_lt_zero k)⟩
  | succ r ih =>
    intro c X h
    rcases h with ⟨h1, h2⟩ | ⟨h1, c0, h2, h3, h4⟩
    · obtain ⟨a1, a2⟩ := ih c X h2
      exact ⟨by omega, fun k hk => by
        obtain ⟨i, b1, b2⟩ := a2 k hk
        exact ⟨i, by omega, b2⟩⟩
    · obtain ⟨a1, a2⟩ := ih c0 X h3
      refine ⟨by omega, fun k hk => ?_⟩
      by_cases q : k = c0
      · rw [q]
        exact ⟨r, by omega, h1, h4⟩
      · obtain ⟨i, b1, b2⟩ := a2 k (by omega)
        exact ⟨i, by omega, b2⟩
/-- a time with a change -/
def chT (s n : Int) (d : Nat) : Int := s * max 1 (n + (d : Int) - 3) / 1000
def QtR (fin : Nat → Prop) (s n : Nat → Int) (m : Nat) (U : Nat → Nat → Int) : Prop := ∀ j d, j < m → d < 7 → (fin j → U j d = chT (s j) (n j) d) ∧ (¬ fin j → U j d = -1)
theorem QtR.un {fin fin' : Nat → Prop} {s n s' n' : Nat → Int} {m : Nat} {U V : Nat → Nat → Int} (h : QtR fin s n m U) (h' : QtR fin' s' n' m V) (e : ∀ j, j < m → (fin j ↔ fin' j)) (es : ∀ j, j < m → fin j → s j = s' j ∧ n j = n' j) : ∀ j d, j < m → d < 7 → U j d = V j d := fun j d hj hd => by
  by_cases f : fin j
  · rw [(h j d hj hd).1 f, (h' j d hj hd).1 ((e j hj).mp f), (es j hj f).1, (es j hj f).2]
  · rw [(h j d hj hd).2 f, (h' j d hj hd).2 (fun z => f ((e j hj).mpr z))]
theorem TbR.cg {C C' : Nat → Prop} {Q Q' : Nat → (Nat → Nat → Int) → Prop} : ∀ (r c : Nat) (X : Nat → Nat → Nat → Int), TbR C Q r c X → (∀ i, i < r → (C i ↔ C' i)) → (∀ i, i < r → ∀ U, Q i U → Q' i U) → TbR C' Q' r c X := by
  intro r
  induction r with
  | zero => exact fun c X h _ _ => h
  | succ r ih =>
    intro c X h e t
    rcases h with ⟨h1, h2⟩ | ⟨h1, c0, h2, h3, h4⟩
    · exact Or.inl ⟨fun z => h1 ((e r (by omega)).mpr z), ih c X h2 (fun i hi => e i (by omega)) (fun i hi => t i (by omega))⟩
    · exact Or.inr ⟨(e r (by omega)).mp h1, c0, h2, ih c0 X h3 (fun i hi => e i (by omega)) (fun i hi => t i (by omega)), t r (by omega) _ h4⟩
theorem QtR.cg {fin fin' : Nat → Prop} {s n s' n' : Nat → Int} {m : Nat} {U : Nat → Nat → Int} (h : QtR fin s n m U) (e : ∀ j, j < m → (fin j ↔ fin' j)) (es : ∀ j, j < m → fin j → s j = s' j ∧ n j = n' j) : QtR fin' s' n' m U := fun j d hj hd => ⟨fun f => by
  have f1 := (e j hj).mpr f
  rw [(h j d hj hd).1 f1, (es j hj f1).1, (es j hj f1).2], fun f => (h j d hj hd).2 (fun z => f ((e j hj).mp z))⟩
/-! ===== all of it (pure) ===== -/
def cnG (way : Nat → Prop) (F : Nat → Nat → Prop) (m : Nat) (g : Nat → Int32) (r : Nat) : Prop := way r ∧ ∃ n : Int, CnR (fun j => F r (g j).toNatClampNeg) m n ∧ 2 ≤ n
def qtG (F : Nat → Nat → Prop) (S Nm : Nat → Nat → Int) (m : Nat) (g : Nat → Int32) (r : Nat) (U : Nat → Nat → Int) : Prop := QtR (fun j => F r (g j).toNatClampNeg) (fun j => S r (g j).toNatClampNeg) (fun j => Nm r (g j).toNatClampNeg) m U
def EvR (way : Nat → Prop) (F : Nat → Nat → Prop) (S Nm : Nat → Nat → Int) (R N K : Nat) (P : Nat → (Nat → Int32) → Int → (Nat → Int) → Prop) : Prop := ∃ (m : Nat) (g : Nat → Int32) (c : Nat) (X : Nat → Nat → Nat → Int) (bs sm : Int) (bc : Nat → Int), EvL N K m g ∧ TbR (cnG way F m g) (qtG F S Nm m g) R c X ∧ BsK (spF X c m) (smF m) m (p7 m) bs sm bc ∧ P m g bs bc
theorem cnG.cg {way way' : Nat → Prop} {F F' : Nat → Nat → Prop} {m r : Nat} {g g' : Nat → Int32} (ew : way r ↔ way' r) (e : ∀ j, j < m → (F r (g j).toNatClampNeg ↔ F' r (g' j).toNatClampNeg)) : cnG way F m g r ↔ cnG way' F' m g' r := by
  unfold cnG
  constructor
  · rintro ⟨h1, n, h2, h3⟩
    exact ⟨ew.mp h1, n, CnR.cg m n h2 e, h3⟩
  · rintro ⟨h1, n, h2, h3⟩
    exact ⟨ew.mpr h1, n, CnR.cg m n h2 (fun j hj => (e j hj).symm), h3⟩
theorem EvL.n16 {N K m : Nat} {g : Nat → Int32} (h : EvL N K m g) (hK : K ≤ 16) {j : Nat} (hj : j < m) : (g j).toNatClampNeg < 16 := by
  have h1 := (EvL.num K m g h).2 j hj
  rw [tn_]
  omega
theorem EvR.cg {way way' : Nat → Prop} {F F' : Nat → Nat → Prop} {S Nm S' Nm' : Nat → Nat → Int} {R N K : Nat} {P : Nat → (Nat → Int32) → Int → (Nat → Int) → Prop} (h : EvR way F S Nm R N K P) (hK : K ≤ 16) (ew : ∀ r, r < R → (way r ↔ way' r)) (eF : ∀ r b, r < R → b < 16 → (F r b ↔ F' r b)) (eS : ∀ r b, r < R → b < 16 → F r b → S r b = S' r b ∧ Nm r b = Nm' r b) : EvR way' F' S' Nm' R N K P := by
  obtain ⟨m, g, c, X, bs, sm, bc, h1, h2, h3, h4⟩ := h
  refine ⟨m, g, c, X, bs, sm, bc, h1, TbR.cg R c X h2 (fun r hr => cnG.cg (ew r hr) (fun j hj => eF r _ hr (h1.n16 hK hj))) (fun r hr U hU => ?_), h3, h4⟩
  exact QtR.cg hU (fun j hj => eF r _ hr (h1.n16 hK hj)) (fun j hj f => eS r _ hr (h1.n16 hK hj) f)
theorem EvR.un {way way' : Nat → Prop} {F F' : Nat → Nat → Prop} {S Nm S' Nm' : Nat → Nat → Int} {R N K : Nat} {P P' : Nat → (Nat → Int32) → Int → (Nat → Int) → Prop} (h : EvR way F S Nm R N 16 P) (h' : EvR way' F' S' Nm' R N K P') (hK : K ≤ 16) (hN : N < 2 ^ K) (ew : ∀ r, r < R → (way r ↔ way' r)) (eF : ∀ r b, r < R → b < 16 → (F r b ↔ F' r b)) (eS : ∀ r b, r < R → b < 16 → F r b → S r b = S' r b ∧ Nm r b = Nm' r b) : ∃ (m : Nat) (g g' : Nat → Int32) (bs : Int) (bc bc' : Nat → Int), EvL N K m g ∧ (∀ j, j < m → g j = g' j) ∧ (∀ s, s < m → bc s = bc' s) ∧ P m g bs bc ∧ P' m g' bs bc' := by
  obtain ⟨m, g, c, X, bs, sm, bc, h1, h2, h3, h4⟩ := h
  obtain ⟨m', g', c', X', bs', sm', bc', q1, q2, q3, q4⟩ := h'
  obtain ⟨d, hd⟩ : ∃ d, 16 = K + d := ⟨16 - K, by omega⟩
  have h16 : EvL N K m g := EvL.cut d m g (by rw [← hd]; exact h1) hN
  obtain ⟨a1, a2⟩ := EvL.un K m m' g g' h16 q1
  subst a1
  have n16 : ∀ j, j < m → (g j).toNatClampNeg < 16 := fun j hj => h16.n16 hK hj
  obtain ⟨b1, b2⟩ := TbR.un (m := m) R c c' X X' h2 q2 (fun r hr => cnG.cg (ew r hr) (fun j hj => by rw [← a2 j hj]; exact eF r _ hr (n16 j hj))) (fun r hr U V hU hV => QtR.un hU hV (fun j hj => by
    show F r (g j).toNatClampNeg ↔ F' r (g' j).toNatClampNeg
    rw [← a2 j hj]
    exact eF r _ hr (n16 j hj)) (fun j hj f => by
    show S r (g j).toNatClampNeg = S' r (g' j).toNatClampNeg ∧ Nm r (g j).toNatClampNeg = Nm' r (g' j).toNatClampNeg
    rw [← a2 j hj]
    exact eS r _ hr (n16 j hj) f))
  subst b1
  obtain ⟨e1, e2⟩ := BsK.un h3 q3 (fun i _ => spF_cg b2) (fun i _ => rfl)
  subst e1
  exact ⟨m, g, g', bs, bc, bc', h16, a2, e2, h4, q4⟩
section
/-! ===== what evens BOATS (the class) ===== -/
theorem shl1_eq : ∀ k : Nat, k < 17 → ((1 : Int32) <<< (nI k &&& 31)).toInt = ((2 ^ k : Nat) : Int) := by decide +kernel
theorem ti_shlN {y w : Int32} (hy : 0 ≤ y.toInt ∧ y.toInt ≤ 16) (ew : w = (1 : Int32) <<< (y &&& 31)) : w.toInt = ((2 ^ y.toNatClampNeg : Nat) : Int) := by
  have h := shl1_eq y.toNatClampNeg (by rw [tn_]; omega)
  rw [nI_tn hy.1] at h
  rw [ew]
  exact h
def SmB (a b : Int32) : Prop := (0 ≤ a.toInt ∧ a.toInt < ((2 ^ b.toNatClampNeg : Nat) : Int)) ∧ 2 ≤ pcS a.toNatClampNeg 16 ∧ pcS a.toNatClampNeg 16 ≤ 4
theorem SmB.of {a b p : Int32} {P : Nat} (hb : P = 2 ^ b.toNatClampNeg) (hp : p.toInt = (pcS a.toNatClampNeg 16 : Int)) (h : (0 ≤ a.toInt ∧ a.toInt < (P : Int)) ∧ 2 ≤ p.toInt ∧ p.toInt ≤ 4) : SmB a b := by
  unfold SmB
  rw [← hb]
  omega
theorem SmB.no {a b p : Int32} {P : Nat} (hb : P = 2 ^ b.toNatClampNeg) (hp : p.toInt = (pcS a.toNatClampNeg 16 : Int)) (h : ¬ (2 ≤ p.toInt ∧ p.toInt ≤ 4)) : ¬ SmB a b := by
  intro z
  unfold SmB at z
  omega
theorem SmB.no2 {a b : Int32} {P : Nat} (hb : P = 2 ^ b.toNatClampNeg) (h : ¬ (0 ≤ a.toInt ∧ a.toInt < (P : Int))) : ¬ SmB a b := by
  intro z
  unfold SmB at z
  rw [← hb] at z
  exact h z.1
def evX (G : Nat → Int32) (k j d : Nat) : Int := (G ((4 * k + j) * 7 + d)).toInt
def wyO (E : Nat → va_E) (r : Nat) : Prop := (rcS E r 3).toInt = 0
def fnO (E : Nat → va_E) (r b : Nat) : Prop := (xi (E 43) (16 * r + b)).toInt = 1
def scO (E : Nat → va_E) (r b : Nat) : Int := (xi (E 44) (16 * r + b)).toInt
def nmO (E : Nat → va_E) (r b : Nat) : Int := (xi (E 45) (16 * r + b)).toInt
def qcO (E : Nat → va_E) (r b d : Nat) (z : Int) : Prop := (fnO E r b → z = chT (scO E r b) (nmO E r b) d) ∧ (¬ fnO E r b → z = -1)
theorem chT_of {s n mx p r i : Int32} {d : Nat} (hi : i.toInt = (d : Int)) (hm : mx.toInt = max 1 (n.toInt + i.toInt - 3)) (hp : p.toInt = s.toInt * mx.toInt) (hr : r.toInt = p.toInt / 1000) : r.toInt = chT s.toInt n.toInt d := by
  unfold chT
  rw [hr, hp, hm, hi]
theorem gc_a {g g' g0 : Nat → Int32} {L ix : Nat} {v : Int32} (h : ∀ x, x < L → g x = g0 x) (e : g' = upd g ix v) (hx : L ≤ ix) : ∀ x, x < L → g' x = g0 x := fun x hx2 => by
  rw [e, upd_j (by omega)]
  exact h x hx2
theorem gc_b {P : Nat → Int → Prop} {g g' : Nat → Int32} {L i i' ix : Nat} {v : Int32} (h : ∀ d, d < i → P d (g (L + d)).toInt) (e : g' = upd g ix v) (hx : ix = L + i) (hv : P i v.toInt) (ei : i' = i + 1) : ∀ d, d < i' → P d (g' (L + d)).toInt := fun d hd => by
  rw [e, hx]
  by_cases c : d = i
  · subst c
    rw [upd_i]
    exact hv
  · rw [upd_j (by omega)]
    exact h d (by omega)
theorem gc_c {P : Nat → Nat → Int → Prop} {g g' : Nat → Int32} {K J J' D : Nat} (h : ∀ j, j < J → ∀ d, d < 7 → P j d (g ((4 * K + j) * 7 + d)).toInt) (h1 : ∀ x, x < (4 * K + J) * 7 → g' x = g x) (h2 : ∀ d, d < D → P J d (g' ((4 * K + J) * 7 + d)).toInt) (hD : D = 7) (eJ : J' = J + 1) : ∀ j, j < J' → ∀ d, d < 7 → P j d (g' ((4 * K + j) * 7 + d)).toInt := fun j hj d hd => by
  by_cases c : j = J
  · subst c
    exact h2 d (by omega)
  · rw [h1 _ (by omega)]
    exact h j (by omega) d hd
theorem TbX.up {C : Nat → Prop} {F : Nat → Nat → Prop} {S Nm : Nat → Nat → Int} {g : Nat → Int32} {m r c : Nat} {G G' : Nat → Int32} (hm : m ≤ 4) (h : TbR C (qtG F S Nm m g) r c (evX G)) (hk : ∀ x, x < 28 * c → G' x = G x) : TbR C (qtG F S Nm m g) r c (evX G') := TbR.up r c _ _ h (fun k hkc r' hq j d hj hd => by
  have e : evX G' k j d = evX G k j d := by
    unfold evX
    rw [hk _ (by omega)]
  rw [e]
  exact hq j d hj hd)
theorem TbX.some {way : Nat → Prop} {F : Nat → Nat → Prop} {S Nm : Nat → Nat → Int} {g : Nat → Int32} {m R c : Nat} {X : Nat → Nat → Nat → Int} (h : TbR (cnG way F m g) (qtG F S Nm m g) R c X) (hs : ∀ r j, r < R → j < m → 0 ≤ S r (g j).toNatClampNeg) : ∀ k, k < c → ∃ j, j < m ∧ ∀ d, d < 7 → ¬ X k j d = -1 := fun k hk => by
  obtain ⟨i, hi, ⟨-, n, h1, h2⟩, h3⟩ := (TbR.all R c X h).2 k hk
  obtain ⟨j, hj, hf⟩ : ∃ j, j < m ∧ F i (g j).toNatClampNeg := Classical.byContradiction (fun no => by
    have h4 := CnR.z m n h1 (fun j hj z => no ⟨j, hj, z⟩)
    omega)
  refine ⟨j, hj, fun d hd z => ?_⟩
  have h4 := (h3 j d hj hd).1 hf
  have h5 : 0 ≤ chT (S i (g j).toNatClampNeg) (Nm i (g j).toNatClampNeg) d := Int.ediv_nonneg (Int.mul_nonneg (hs i j hi hj) (by omega)) (by decide)
  rw [z] at h4
  have h6 : (-1 : Int) = chT (S i (g j).toNatClampNeg) (Nm i (g j).toNatClampNeg) d := h4
  omega
theorem TbO.cg {E u : Nat → va_E} {m R c : Nat} {g : Nat → Int32} {X : Nat → Nat → Nat → Int} (k : K64 E u) (h3 : xi (u 43) = xi (E 43)) (h4 : xi (u 44) = xi (E 44)) (h5 : xi (u 45) = xi (E 45)) (h53 : xi (u 53) = g) (h : TbR (cnG (wyO u) (fnO u) m (xi (u 53))) (qtG (fnO u) (scO u) (nmO u) m (xi (u 53))) R c X) : TbR (cnG (wyO E) (fnO E) m g) (qtG (fnO E) (scO E) (nmO E) m g) R c X := by
  have e1 : wyO u = wyO E := by
    funext r
    unfold wyO
    rw [rcS_k k]
  have e2 : fnO u = fnO E := by
    funext r b
    unfold fnO
    rw [h3]
  have e3 : scO u = scO E := by
    funext r b
    unfold scO
    rw [h4]
  have e4 : nmO u = nmO E := by
    funext r b
    unfold nmO
    rw [h5]
  rw [e1, e2, e3, e4, h53] at h
  exact h
def sprO (E : Nat → va_E) (m : Nat) : Int := sumF (fun k => xtF (fun j => evX (xi (E 52)) k j (xi (E 54) j).toNatClampNeg) m) (xi (E 6) 15).toNatClampNeg
def trO (E : Nat → va_E) (k j : Nat) : Int := evX (xi (E 52)) k j (xi (E 54) j).toNatClampNeg
theorem sp_dg {u : Nat → va_E} {G T : Nat → Int32} {c m i : Nat} (h52 : xi (u 52) = G) (h54 : xi (u 54) = T) (hc : (xi (u 6) 15).toNatClampNeg = c) (ht : ∀ j, j < m → (T j).toInt = ((dg7 m i j : Nat) : Int)) : sprO u m = spF (evX G) c m i := by
  unfold sprO spF
  rw [h52, h54, hc]
  refine sumF_cg c (fun k hk => ?_)
  obtain ⟨a, b⟩ := lohi_cg (f := fun j => evX G k j (T j).toNatClampNeg) (g := fun j => evX G k j (dg7 m i j)) m (fun j hj => by
    show evX G k j (T j).toNatClampNeg = evX G k j (dg7 m i j)
    have e : (T j).toNatClampNeg = dg7 m i j := by
      have := ht j hj
      rw [tn_]
      omega
    rw [e])
  unfold xtF
  rw [a, b]
/-- one digit down -/
theorem ev_st {m i S S' X : Nat} {g g' : Nat → Int32} {l l' d s s' t : Int32} (hl : l.toNatClampNeg = i / p7 (m - S)) (ht : ∀ j, S ≤ j → j < m → (g j).toInt = ((dg7 m i j : Nat) : Int)) (hs : s.toInt + sumF (fun j => ab (((dg7 m i j : Nat) : Int) - 3)) S = smF m i) (hS : S = X + 1) (hS' : S' = X) (hm : S ≤ m) (l0 : 0 ≤ l.toInt) (ed : d.toInt = l.toInt % 7) (el : l'.toInt = l.toInt / 7) (eg : g' = upd g X d) (et : t.toInt = ab (d.toInt - 3)) (es : s'.toInt = s.toInt + t.toInt) : l'.toNatClampNeg = i / p7 (m - S') ∧ (∀ j, S' ≤ j → j < m → (g' j).toInt = ((dg7 m i j : Nat) : Int)) ∧ s'.toInt + sumF (fun j => ab (((dg7 m i j : Nat) : Int) - 3)) S' = smF m i := by
  subst hS'
  obtain ⟨a1, a2⟩ := dg_st (l' := l'.toNatClampNeg) hl hS hm (by rw [tn_ l', tn_ l]; omega)
  have e1 : d.toInt = ((dg7 m i S' : Nat) : Int) := by
    rw [a2, tn_]
    omega
  refine ⟨a1, fun j h1 h2 => ?_, ?_⟩
  · rw [eg]
    by_cases c : j = S'
    · subst c
      rw [upd_i]
      exact e1
    · rw [upd_j (by omega)]
      exact ht j (by omega) h2
  · subst hS
    have h8 : sumF (fun j => ab (((dg7 m i j : Nat) : Int) - 3)) (S' + 1) = sumF (fun j => ab (((dg7 m i j : Nat) : Int) - 3)) S' + ab (((dg7 m i S' : Nat) : Int) - 3) := rfl
    rw [e1] at et
    omega
def fnC (cf : Nat → Nat) (E : Nat → va_E) (q : Int32) (r b : Nat) : Prop := CdR cf E (nI r) q b 0
def seC (cf : Nat → Nat) (E : Nat → va_E) (q : Int32) (r b : Nat) : Int := (scC cf E b q r).toInt
def nmC (cf : Nat → Nat) (E : Nat → va_E) (q : Int32) (r b : Nat) : Int := numC cf E (nI b) (rcS E r 1) q
theorem EvR.c {cf : Nat → Nat} {E u : Nat → va_E} {q : Int32} {N : Nat} {P : Nat → (Nat → Int32) → Int → (Nat → Int) → Prop} (h : EvR (wyO u) (fnO u) (scO u) (nmO u) (cf 2) N 16 P) (k : K64 E u) (h20 : cf 2 ≤ 20) (l : ∀ r, r < cf 2 → ∀ b, b < 16 → LdB cf E u (nI r) q b) : EvR (wyO E) (fnC cf E q) (seC cf E q) (nmC cf E q) (cf 2) N 16 P := by
  have hn : ∀ r, r < cf 2 → (nI r).toNatClampNeg = r := fun r hr => by
    have hi : (nI r).toInt = (r : Int) := nI_toInt (by omega)
    rw [tn_, hi]
    omega
  refine h.cg (by decide) (fun r _ => ?_) (fun r b hr hb => ?_) (fun r b hr hb hf => ?_)
  · unfold wyO
    rw [rcS_k k]
  · have h1 := (l r hr b hb).1
    rw [hn r hr] at h1
    exact h1
  · have h1 := l r hr b hb
    unfold LdB at h1
    rw [hn r hr] at h1
    obtain ⟨h2, h3⟩ := h1
    obtain ⟨-, h4, h5⟩ := h3 (h2.mp hf)
    exact ⟨congrArg Int32.toInt h5, h4⟩
theorem tr_7 {cT : Nat → ClassId} {cf ad : Nat → Nat} {E : Nat → va_E} {j : Nat} (hI : IXL cT (shC cf) (spC cf) (LC cf) ad E) (hj : j < 4) : (xi (E 54) j).toNatClampNeg < 7 := by
  have h : 0 ≤ (xi (E 54) j).toInt ∧ (xi (E 54) j).toInt ≤ 6 := hI.iv 54 (mF 54 rfl) rfl (j := j) (by show j < 4; exact hj) rfl
  rw [tn_]
  omega
theorem tr_b {cT : Nat → ClassId} {cf ad : Nat → Nat} {E : Nat → va_E} {k j : Nat} (hI : IXL cT (shC cf) (spC cf) (LC cf) ad E) (hk : k < 20) (hj : j < 4) : -1 ≤ trO E k j ∧ trO E k j ≤ 400600 := by
  have h7 := tr_7 hI hj
  exact hI.iv 52 (mF 52 rfl) rfl (j := (4 * k + j) * 7 + (xi (E 54) j).toNatClampNeg) (by show _ < 560; omega) rfl
theorem sp_nn {cT : Nat → ClassId} {cf ad : Nat → Nat} {E : Nat → va_E} {m c : Nat} (hI : IXL cT (shC cf) (spC cf) (LC cf) ad E) (hm : m ≤ 4) (hc : c ≤ 20) (h : ∀ k : Nat, k < c → ∃ j : Nat, j < m ∧ ∀ d : Nat, d < 7 → ¬ evX (xi (E 52)) k j d = -1) : ∀ k, k < c → 0 ≤ xtF (trO E k) m := fun k hk => by
  have b := lohi_b (f := trO E k) (c := 400600) (by decide) m (fun j hj => tr_b hI (by omega) (by omega))
  obtain ⟨j, hj, h7⟩ := h k hk
  have b9 := b.2.2 ⟨j, hj, h7 _ (tr_7 hI (by omega))⟩
  unfold xtF
  omega
theorem bc_ok {N m : Nat} {g g5 g7 : Nat → Int32} {c : Nat → Int} {b r : Int32} (h : EvL N 16 m g) (eg : g = g5) (ec : c = fun s9 : Nat => (g7 s9).toInt) (hb : b.toNatClampNeg < 16) (hbit : ¬ N / 2 ^ b.toNatClampNeg % 2 = 0) (hr : (∃ s9 : Nat, s9 < 4 ∧ (g5 s9).toInt = b.toInt ∧ r.toInt = (g7 s9).toInt - 3 ∧ ∀ t9 : Nat, t9 < s9 → ¬ (g5 t9).toInt = b.toInt) ∨ ((∀ s9 : Nat, s9 < 4 → ¬ (g5 s9).toInt = b.toInt) ∧ r.toInt = -1000000000)) (hm : m ≤ 4) (h0 : 0 ≤ b.toInt) : ∃ s9 : Nat, s9 < m ∧ (g s9).toInt = b.toInt ∧ r.toInt = c s9 - 3 := by
  subst eg
  subst ec
  obtain ⟨j, hj, ej⟩ := (EvL.mem 16 m g h _ hb).mp hbit
  have ej2 : (g j).toInt = b.toInt := by
    rw [ej, tn_]
    omega
  rcases hr with ⟨s, h1, h2, h3, h4⟩ | ⟨h1, -⟩
  · refine ⟨s, ?_, h2, h3⟩
    by_cases q : s ≤ j
    · omega
    · exact absurd ej2 (h4 j (by omega))
  · exact absurd ej2 (h1 j (by omega))
end

