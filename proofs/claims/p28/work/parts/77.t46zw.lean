

/-! ===== sums and enumerations (pure) ===== -/
def sumF (f : Nat → Int) : Nat → Int
  | 0 => 0
  | n + 1 => sumF f n + f n
theorem sumF_cg {f g : Nat → Int} : ∀ n : Nat, (∀ i, i < n → f i = g i) → sumF f n = sumF g n := by
  intro n
  induction n with
  | zero => exact fun _ => rfl
  | succ n ih =>
    intro h
    show sumF f n + f n = sumF g n + g n
    rw [ih (fun i hi => h i (by omega)), h n (by omega)]
theorem sumF_z {f : Nat → Int} : ∀ n : Nat, (∀ i, i < n → f i = 0) → sumF f n = 0 := by
  intro n
  induction n with
  | zero => exact fun _ => rfl
  | succ n ih =>
    intro h
    show sumF f n + f n = 0
    rw [ih (fun i hi => h i (by omega)), h n (by omega)]
    rfl
theorem sumF_o {f : Nat → Int} {k : Nat} : ∀ n : Nat, k < n → (∀ i, i < n → ¬ i = k → f i = 0) → sumF f n = f k := by
  intro n
  induction n with
  | zero => exact fun h _ => absurd h (Nat.not_lt_zero k)
  | succ n ih =>
    intro hk h
    show sumF f n + f n = f k
    by_cases e : k = n
    · subst e
      rw [sumF_z k (fun i hi => h i (by omega) (by omega))]
      omega
    · rw [ih (by omega) (fun i hi hne => h i (by omega) hne), h n (by omega) (by omega)]
      omega
theorem sumF_a {f g : Nat → Int} : ∀ n : Nat, sumF (fun i => f i + g i) n = sumF f n + sumF g n := by
  intro n
  induction n with
  | zero => rfl
  | succ n ih =>
    show sumF (fun i => f i + g i) n + (f n + g n) = sumF f n + f n + (sumF g n + g n)
    rw [ih]
    omega
theorem sumF_nn {f : Nat → Int} : ∀ n : Nat, (∀ i, i < n → 0 ≤ f i) → 0 ≤ sumF f n := by
  intro n
  induction n with
  | zero => exact fun _ => Int.le_refl _
  | succ n ih =>
    intro h
    have h1 := ih (fun i hi => h i (by omega))
    have h2 := h n (by omega)
    show 0 ≤ sumF f n + f n
    omega
theorem sumF_mo {f : Nat → Int} {k : Nat} : ∀ d : Nat, (∀ i, i < k + d → 0 ≤ f i) → sumF f k ≤ sumF f (k + d) := by
  intro d
  induction d with
  | zero => exact fun _ => Int.le_refl _
  | succ d ih =>
    intro h
    have h1 := ih (fun i hi => h i (by omega))
    have h2 := h (k + d) (by omega)
    show sumF f k ≤ sumF f (k + d) + f (k + d)
    omega
theorem sumF_le {f : Nat → Int} {b : Int} : ∀ n : Nat, (∀ i, i < n → f i ≤ b) → sumF f n ≤ b * (n : Int) := by
  intro n
  induction n with
  | zero =>
    intro _
    show (0 : Int) ≤ b * ((0 : Nat) : Int)
    rw [show ((0 : Nat) : Int) = 0 from rfl, Int.mul_zero]
    exact Int.le_refl _
  | succ n ih =>
    intro h
    have h1 := ih (fun i hi => h i (by omega))
    have h2 := h n (by omega)
    have h3 : b * ((n + 1 : Nat) : Int) = b * (n : Int) + b := by
      rw [show ((n + 1 : Nat) : Int) = (n : Int) + 1 from rfl, Int.mul_add, Int.mul_one]
    show sumF f n + f n ≤ b * ((n + 1 : Nat) : Int)
    omega
/-- all that P holds of, once each -/
def Enm (P : Nat → Prop) (R : Nat) (c : Nat → Nat) (n : Nat) : Prop := (∀ i, i < n → c i < R ∧ P (c i)) ∧ (∀ r, r < R → P r → ∃ i, i < n ∧ c i = r) ∧ ∀ i j, i < j → j < n → ¬ c i = c j
theorem Enm.sumr {P : Nat → Prop} {R n : Nat} {c : Nat → Nat} (h : Enm P R c n) (f : Nat → Int) : ∀ R' : Nat, R' ≤ R → SmR P (fun r v => v = f r) R' (sumF (fun i => if c i < R' then f (c i) else 0) n) := by
  obtain ⟨h1, h2, h3⟩ := h
  intro R'
  induction R' with
  | zero =>
    intro _
    exact sumF_z n (fun i _ => if_neg (Nat.not_lt_zero _))
  | succ R' ih =>
    intro hR
    have i1 := ih (by omega)
    have e : sumF (fun i => if c i < R' + 1 then f (c i) else 0) n = sumF (fun i => if c i < R' then f (c i) else 0) n + sumF (fun i => if c i = R' then f (c i) else 0) n := by
      rw [← sumF_a]
      refine sumF_cg n (fun i _ => ?_)
      by_cases q : c i = R'
      · rw [if_pos (by omega), if_neg (by omega), if_pos q]
        omega
      · by_cases q2 : c i < R'
        · rw [if_pos (by omega), if_pos q2, if_neg q]
          omega
        · rw [if_neg (by omega), if_neg q2, if_neg q]
          rfl
    by_cases p : P R'
    · obtain ⟨k, hk, ek⟩ := h2 R' (by omega) p
      have o : sumF (fun i => if c i = R' then f (c i) else 0) n = f R' := by
        rw [sumF_o n hk (fun i hi hne => ?_), if_pos ek, ek]
        refine if_neg (fun z => ?_)
        rcases Nat.lt_or_gt_of_ne hne with q | q
        · exact h3 i k q hk (by omega)
        · exact h3 k i q hi (by omega)
      exact i1.one p rfl (by rw [e, o]) rfl
    · have o : sumF (fun i => if c i = R' then f (c i) else 0) n = 0 := sumF_z n (fun i hi => if_neg (fun z => p (by rw [← z]; exact (h1 i hi).2)))
      exact i1.no p (by rw [e, o]; omega) rfl
theorem Enm.sum {P : Nat → Prop} {R n : Nat} {c : Nat → Nat} (h : Enm P R c n) (f : Nat → Int) : SmR P (fun r v => v = f r) R (sumF (fun i => f (c i)) n) := by
  have h1 := h.sumr f R (Nat.le_refl R)
  rw [show sumF (fun i => if c i < R then f (c i) else 0) n = sumF (fun i => f (c i)) n from sumF_cg n (fun i hi => if_pos (h.1 i hi).1)] at h1
  exact h1
/-- by DAYS, of one DAY by numbers -/
def kLt (day : Nat → Int) (a b : Nat) : Prop := day a < day b ∨ (day a = day b ∧ a < b)
def Srt (day : Nat → Int) (c : Nat → Nat) (n : Nat) : Prop := ∀ i j, i < j → j < n → kLt day (c i) (c j)
theorem Enm.step {P P' : Nat → Prop} {R n n' : Nat} {c c' : Nat → Nat} {day : Nat → Int} (h : Enm P R c n) (s : Srt day c n) (h' : Enm P' R c' n') (s' : Srt day c' n') (e : ∀ r, r < R → (P r → P' r)) {i : Nat} (hi : i < n) (hb : ∀ j, j < i → c j = c' j) : i < n' ∧ ¬ kLt day (c i) (c' i) := by
  obtain ⟨j, hj, ej⟩ := h'.2.1 (c i) (h.1 i hi).1 (e _ (h.1 i hi).1 (h.1 i hi).2)
  have hij : i ≤ j := by
    by_cases q : j < i
    · exact absurd ((hb j q).trans ej) (h.2.2 j i q hi)
    · omega
  refine ⟨by omega, fun z => ?_⟩
  by_cases q : i = j
  · subst q
    rw [ej] at z
    unfold kLt at z
    omega
  · have h9 := s' i j (by omega) hj
    rw [ej] at h9
    unfold kLt at h9 z
    omega
theorem Enm.un {P P' : Nat → Prop} {R n n' : Nat} {c c' : Nat → Nat} {day : Nat → Int} (h : Enm P R c n) (s : Srt day c n) (h' : Enm P' R c' n') (s' : Srt day c' n') (e : ∀ r, r < R → (P r ↔ P' r)) : n = n' ∧ ∀ i, i < n → c i = c' i := by
  have key : ∀ m : Nat, ∀ i, i < m → i < n → i < n' ∧ c i = c' i := by
    intro m
    induction m with
    | zero => exact fun i hi => absurd hi (Nat.not_lt_zero i)
    | succ m ih =>
      intro i hi hn
      by_cases q : i < m
      · exact ih i q hn
      · have hb : ∀ j, j < i → c j = c' j := fun j hj => (ih j (by omega) (by omega)).2
        obtain ⟨a1, a2⟩ := h.step s h' s' (fun r hr => (e r hr).mp) hn hb
        obtain ⟨b1, b2⟩ := h'.step s' h s (fun r hr => (e r hr).mpr) a1 (fun j hj => (hb j hj).symm)
        refine ⟨a1, ?_⟩
        unfold kLt at a2 b2
        omega
  have hle : n ≤ n' := by
    by_cases q : n = 0
    · omega
    · have := (key n (n - 1) (by omega) (by omega)).1
      omega
  refine ⟨?_, fun i hi => (key n i hi hi).2⟩
  by_cases q : n < n'
  · exfalso
    obtain ⟨j, hj, ej⟩ := h.2.1 (c' n) (h'.1 n q).1 ((e _ (h'.1 n q).1).mpr (h'.1 n q).2)
    have h9 := (key n j hj hj).2
    exact h'.2.2 j n hj q (h9.symm.trans ej)
  · omega
/-- one more is put where it belongs -/
def insR (g g' : Nat → Int32) (n k : Nat) (x : Int32) : Prop := (∀ i, i < k → g' i = g i) ∧ g' k = x ∧ ∀ i, k ≤ i → i < n → g' (i + 1) = g i
theorem Enm.ins {P : Nat → Prop} {R n k : Nat} {g g' : Nat → Int32} {x : Int32} {day : Nat → Int} (h : Enm P R (fun i => (g i).toNatClampNeg) n) (s : Srt day (fun i => (g i).toNatClampNeg) n) (hk : k ≤ n) (hi : insR g g' n k x) (hx : x.toNatClampNeg = R) (hp : P R) (hl : ∀ i, i < k → day (g i).toNatClampNeg ≤ day R) (hr : ∀ i, k ≤ i → i < n → day R < day (g i).toNatClampNeg) : Enm P (R + 1) (fun i => (g' i).toNatClampNeg) (n + 1) ∧ Srt day (fun i => (g' i).toNatClampNeg) (n + 1) := by
  obtain ⟨i1, i2, i3⟩ := hi
  obtain ⟨h1, h2, h3⟩ := h
  have e1 : ∀ i, i < k → (g' i).toNatClampNeg = (g i).toNatClampNeg := fun i hi => by rw [i1 i hi]
  have e2 : (g' k).toNatClampNeg = R := by rw [i2, hx]
  have e3 : ∀ i, k < i → i < n + 1 → (g' i).toNatClampNeg = (g (i - 1)).toNatClampNeg := fun i hi hn => by
    have h9 := i3 (i - 1) (by omega) (by omega)
    rw [show i - 1 + 1 = i by omega] at h9
    rw [h9]
  have b1 : ∀ i, i < n → (g i).toNatClampNeg < R := fun i hi => (h1 i hi).1
  have hs : Srt day (fun i => (g' i).toNatClampNeg) (n + 1) := fun i j hij hj => by
    show kLt day (g' i).toNatClampNeg (g' j).toNatClampNeg
    by_cases qi : i < k
    · rw [e1 i qi]
      by_cases qj : j < k
      · rw [e1 j qj]
        exact s i j hij (by omega)
      · by_cases ej : j = k
        · rw [ej, e2]
          have a1 := hl i qi
          have a2 := b1 i (by omega)
          unfold kLt
          omega
        · rw [e3 j (by omega) hj]
          exact s i (j - 1) (by omega) (by omega)
    · by_cases ei : i = k
      · rw [ei, e2, e3 j (by omega) hj]
        exact Or.inl (hr (j - 1) (by omega) (by omega))
      · rw [e3 i (by omega) (by omega), e3 j (by omega) hj]
        exact s (i - 1) (j - 1) (by omega) (by omega)
  refine ⟨⟨fun i hi => ?_, fun r hr9 hpr => ?_, fun i j hij hj z => ?_⟩, hs⟩
  · show (g' i).toNatClampNeg < R + 1 ∧ P (g' i).toNatClampNeg
    by_cases qi : i < k
    · rw [e1 i qi]
      exact ⟨by have := b1 i (by omega); omega, (h1 i (by omega)).2⟩
    · by_cases ei : i = k
      · rw [ei, e2]
        exact ⟨by omega, hp⟩
      · rw [e3 i (by omega) hi]
        exact ⟨by have := b1 (i - 1) (by omega); omega, (h1 (i - 1) (by omega)).2⟩
  · by_cases q : r = R
    · exact ⟨k, by omega, by rw [q]; exact e2⟩
    · obtain ⟨i, hi, ei⟩ := h2 r (by omega) hpr
      by_cases qi : i < k
      · exact ⟨i, by omega, (e1 i qi).trans ei⟩
      · refine ⟨i + 1, by omega, ?_⟩
        show (g' (i + 1)).toNatClampNeg = r
        rw [e3 (i + 1) (by omega) (by omega), show i + 1 - 1 = i by omega]
        exact ei
  · have h9 := hs i j hij hj
    have z' : (g' i).toNatClampNeg = (g' j).toNatClampNeg := z
    have h9' : kLt day (g' i).toNatClampNeg (g' j).toNatClampNeg := h9
    rw [z'] at h9'
    unfold kLt at h9'
    omega
/-! ===== gather: rows shifted while a place is sought ===== -/
def shI (G g : Nat → Int32) (n k : Nat) : Prop := (∀ i, i < k → g i = G i) ∧ ∀ i, k ≤ i → i < n → g (i + 1) = G i
theorem shI.start {G : Nat → Int32} {n : Nat} : shI G G n n := ⟨fun _ _ => rfl, fun i h1 h2 => absurd h2 (Nat.not_lt.mpr h1)⟩
theorem shI.step {G g g' : Nat → Int32} {n k k' j : Nat} {v : Int32} (h : shI G g n k') (hk : k' = k + 1) (hn : k' ≤ n) (e : g' = upd g j v) (hj : j = k') (hv : v = g k) : shI G g' n k := by
  subst hk
  subst hj
  subst hv
  subst e
  refine ⟨fun i hi => ?_, fun i h1 h2 => ?_⟩
  · rw [upd_j (by omega)]
    exact h.1 i (by omega)
  · by_cases q : i = k
    · subst q
      rw [upd_i]
      exact h.1 i (by omega)
    · rw [upd_j (by omega)]
      exact h.2 i (by omega) h2
theorem shI.fin {G g g' : Nat → Int32} {n k j : Nat} {x : Int32} (h : shI G g n k) (e : g' = upd g j x) (hj : j = k) : insR G g' n k x := by
  subst hj
  subst e
  refine ⟨fun i hi => ?_, upd_i, fun i h1 h2 => ?_⟩
  · rw [upd_j (by omega)]
    exact h.1 i hi
  · rw [upd_j (by omega)]
    exact h.2 i h1 h2
theorem insR.two {G G' g g' : Nat → Int32} {n k : Nat} {x y : Int32} {Q : Nat → Int32 → Prop} (hk : k ≤ n) (h : ∀ i, i < n → Q (G i).toNatClampNeg (G' i)) (i1 : insR G g n k x) (i2 : insR G' g' n k y) (hq : Q x.toNatClampNeg y) : ∀ i, i < n + 1 → Q (g i).toNatClampNeg (g' i) := fun i hi => by
  by_cases q : i < k
  · rw [i1.1 i q, i2.1 i q]
    exact h i (by omega)
  · by_cases e : i = k
    · subst e
      rw [i1.2.1, i2.2.1]
      exact hq
    · have h1 := i1.2.2 (i - 1) (by omega) (by omega)
      have h2 := i2.2.2 (i - 1) (by omega) (by omega)
      rw [show i - 1 + 1 = i by omega] at h1 h2
      rw [h1, h2]
      exact h (i - 1) (by omega)
def dyC (E : Nat → va_E) (r : Nat) : Int := (rcS E r 1).toInt
/-- the RACES that count for a BOAT -/
def ctO (E : Nat → va_E) (b r : Nat) : Prop := ∃ x : Int32, MdO E r b x ∧ ¬ x.toInt = -1000000000
def GaG (E : Nat → va_E) (b R n : Nat) (c m : Nat → Int32) : Prop := Enm (ctO E b) R (fun i => (c i).toNatClampNeg) n ∧ Srt (dyC E) (fun i => (c i).toNatClampNeg) n ∧ ∀ i, i < n → MdO E (c i).toNatClampNeg b (m i)
theorem MdV.fn {F : Nat → Prop} {T : Nat → Int32} {K sk : Nat} {ok : Prop} {r r' : Int32} (h : MdV F T K sk ok r) (h' : MdV F T K sk ok r') : r = r' := Int32.toInt_inj.mp (MdV.un h h' (Nat.le_refl K) Iff.rfl (fun _ _ => Iff.rfl) (fun _ _ _ => rfl) (fun i h1 h2 => absurd h2 (Nat.not_lt.mpr h1)))
theorem MdO_cg {E E' : Nat → va_E} (k : K64 E E') (h3 : xi (E' 43) = xi (E 43)) (h6 : xi (E' 46) = xi (E 46)) : MdO E' = MdO E := funext (fun race => funext (fun b => funext (fun r => by
  unfold MdO
  rw [rcS_k k, h3, h6])))
theorem GaG.no {E : Nat → va_E} {b R R' n : Nat} {c m : Nat → Int32} {x : Int32} (h : GaG E b R n c m) (hx : MdO E R b x) (hh : x.toInt = -1000000000) (e : R' = R + 1) : GaG E b R' n c m := by
  subst e
  obtain ⟨⟨h1, h2, h3⟩, h4, h5⟩ := h
  refine ⟨⟨fun i hi => ⟨by have := (h1 i hi).1; omega, (h1 i hi).2⟩, fun r hr hp => ?_, h3⟩, h4, h5⟩
  by_cases q : r = R
  · subst q
    obtain ⟨y, hy, hne⟩ := hp
    rw [MdV.fn hy hx] at hne
    exact absurd hh hne
  · exact h2 r (by omega) hp
theorem GaG.yes {E : Nat → va_E} {b R R' n n' k : Nat} {c m c' m' : Nat → Int32} {x rc : Int32} (h : GaG E b R n c m) (hx : MdO E R b x) (hh : ¬ x.toInt = -1000000000) (hk : k ≤ n) (i1 : insR c c' n k rc) (i2 : insR m m' n k x) (hrc : rc.toNatClampNeg = R) (hl : ∀ i, i < k → dyC E (c i).toNatClampNeg ≤ dyC E R) (hr : ∀ i, k ≤ i → i < n → dyC E R < dyC E (c i).toNatClampNeg) (e : R' = R + 1) (en : n' = n + 1) : GaG E b R' n' c' m' := by
  subst e
  subst en
  obtain ⟨h1, h2, h3⟩ := h
  obtain ⟨a1, a2⟩ := Enm.ins h1 h2 hk i1 hrc ⟨x, hx, hh⟩ hl hr
  exact ⟨a1, a2, insR.two (Q := fun r y => MdO E r b y) hk h3 i1 i2 (by rw [hrc]; exact hx)⟩

