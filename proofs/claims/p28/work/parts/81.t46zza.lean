

/-! ===== FIT of the reference (pure) ===== -/
theorem fI_nn {n : Int} (h : 0 ≤ n ∧ n ≤ 2000000000) : (fI n).toInt = n := by
  have e0 : (nI n.toNat).toInt = ((n.toNat : Nat) : Int) := nI_toInt (by omega)
  have e : (nI n.toNat).toInt = n := by omega
  rw [← fI_of e]
  exact e
theorem corI_in {way s n m : Int32} (h : way.toInt = 0) (hs : 0 ≤ s.toInt ∧ s.toInt ≤ 200000) (hn : 500 ≤ n.toInt ∧ n.toInt ≤ 2000) : 0 ≤ (corI way s n m).toInt ∧ (corI way s n m).toInt ≤ 400000 := by
  obtain ⟨w, ew⟩ : ∃ w, w = s * n := ⟨_, rfl⟩
  obtain ⟨-, b1⟩ := ti_mul (e := 0) (f := 400000000) hs hn ew (by decide)
  obtain ⟨y, ey⟩ : ∃ y, y = w / 1000 := ⟨_, rfl⟩
  obtain ⟨-, b2⟩ := ti_div (e := 0) (f := 400000) b1 (show (1000 : Int) ≤ (1000 : Int32).toInt ∧ (1000 : Int32).toInt ≤ 1000 by decide) ey (by decide)
  have e : corI way s n m = y := by
    unfold corI
    rw [if_pos h, ← ew, ← ey]
  rw [e]
  exact b2
theorem lO_ix {gA gB gT : Nat → Int32} {a b q : Int32} : ∀ n : Nat, lO gA gB gT a b q n = -1 ∨ ∃ k, k < n ∧ lO gA gB gT a b q n = nI k := by
  intro n
  induction n with
  | zero => exact Or.inl rfl
  | succ n ih =>
    by_cases c : gA n = a ∧ gB n = b ∧ gT n ≤ q
    · exact Or.inr ⟨n, by omega, if_pos c⟩
    · have e : lO gA gB gT a b q (n + 1) = lO gA gB gT a b q n := if_neg c
      rw [e]
      exact ih.imp id (fun ⟨k, h1, h2⟩ => ⟨k, by omega, h2⟩)
theorem shf_mem {c : Int32} : ∀ (n : Nat) (g : Nat → Int32) (i : Nat), i ≤ n → shf g c n i = c ∨ ∃ j, j < n ∧ shf g c n i = g j := by
  intro n
  induction n with
  | zero =>
    intro g i hi
    have e : i = 0 := by omega
    subst e
    exact Or.inl upd_i
  | succ n ih =>
    intro g i hi
    by_cases q : c.toInt < (g n).toInt
    · rw [shf_s q]
      by_cases e : i = n + 1
      · subst e
        rw [shf_hi n (upd g (n + 1) (g n)) (n + 1) (by omega), upd_i]
        exact Or.inr ⟨n, by omega, rfl⟩
      · rcases ih (upd g (n + 1) (g n)) i (by omega) with h | ⟨j, hj, h⟩
        · exact Or.inl h
        · exact Or.inr ⟨j, by omega, by rw [h, upd_j (by omega)]⟩
    · rw [shf_e q]
      by_cases e : i = n + 1
      · subst e
        rw [upd_i]
        exact Or.inl rfl
      · rw [upd_j e]
        exact Or.inr ⟨i, by omega, rfl⟩
theorem MR.mem {F : Nat → Prop} {T : Nat → Int32} {sk : Nat} : ∀ (k n : Nat) (g : Nat → Int32), MR F T sk k n g → ∀ i, i < n → ∃ o, o < k ∧ F o ∧ g i = T o := by
  intro k
  induction k with
  | zero =>
    intro n g h i hi
    have h1 : n = 0 := h
    omega
  | succ k ih =>
    intro n g h i hi
    rcases h with ⟨-, h2⟩ | ⟨h1, n0, g0, h2, h3, h4⟩
    · obtain ⟨o, a1, a2⟩ := ih n g h2 i hi
      exact ⟨o, by omega, a2⟩
    · rw [h4 i (by omega)]
      rcases shf_mem (c := T k) n0 g0 i (by omega) with q | ⟨j, hj, q⟩
      · exact ⟨k, by omega, h1.2, q⟩
      · obtain ⟨o, a1, a2, a3⟩ := ih n0 g0 h2 j hj
        exact ⟨o, by omega, a2, by rw [q]; exact a3⟩
/-- MIDDLE in the reference -/
def MdM (E : Nat → va_E) (b q : Int32) (r : Nat) (x : Int32) : Prop := MdV (fun o9 => CdM E (nI r) (nI o9) q 0) (tmM E (nI r) q) (xi (E 0) 8).toNatClampNeg b.toNatClampNeg ((xi (E 15) (nI r).toNatClampNeg).toInt = 0 ∧ CdM E (nI r) b q 0) x
theorem tmM_in {cT : Nat → ClassId} {ad : Nat → Nat} {E : Nat → va_E} {race q : Int32} {o : Nat} (hI : IX cT shM spM 72 ad E) (hw : (xi (E 15) race.toNatClampNeg).toInt = 0) (hc : CdM E race (nI o) q 0) : 0 ≤ (tmM E race q o).toInt ∧ (tmM E race q o).toInt ≤ 400000 := by
  have hl := CdM_0 hc
  have h47 : (0 : Int) ≤ (xi (E 0) 47).toInt ∧ (xi (E 0) 47).toInt ≤ 300 := hI.iv 0 (Nat.le_of_ble_eq_true rfl) rfl (Nat.le_of_ble_eq_true rfl) rfl
  have hix : (lRM E race (nI o) q).toNatClampNeg < 300 := by
    rcases lO_ix (gA := xi (E 24)) (gB := xi (E 25)) (gT := xi (E 28)) (a := race) (b := nI o) (q := q) (xi (E 0) 47).toNatClampNeg with h | ⟨k, hk, h⟩
    · exfalso
      refine hl ?_
      unfold lRM
      rw [h]
      rfl
    · have hk3 : k < 300 := by
        rw [tn_] at hk
        omega
      have e : lRM E race (nI o) q = nI k := h
      have hi : (nI k).toInt = (k : Int) := nI_toInt (by omega)
      rw [e, tn_, hi]
      omega
  have hs : (0 : Int) ≤ (xi (E 27) (lRM E race (nI o) q).toNatClampNeg).toInt ∧ (xi (E 27) (lRM E race (nI o) q).toNatClampNeg).toInt ≤ 200000 := hI.iv 27 (Nat.le_of_ble_eq_true rfl) rfl hix rfl
  have hn := numM_in (E := E) (boat := nI o) (day := xi (E 13) race.toNatClampNeg) (q := q)
  unfold tmM tmB
  exact corI_in hw hs (by
    have e9 : (fI (numM E (nI o) (xi (E 13) race.toNatClampNeg) q)).toInt = numM E (nI o) (xi (E 13) race.toNatClampNeg) q := fI_nn ⟨by omega, by omega⟩
    rw [e9]
    exact hn)
theorem MdM_in {cT : Nat → ClassId} {ad : Nat → Nat} {E : Nat → va_E} {b q : Int32} {r : Nat} {x : Int32} (hI : IX cT shM spM 72 ad E) (h : MdM E b q r x) : x.toInt = -1000000000 ∨ (0 ≤ x.toInt ∧ x.toInt ≤ 400000) := by
  by_cases o : (xi (E 15) (nI r).toNatClampNeg).toInt = 0 ∧ CdM E (nI r) b q 0
  · obtain ⟨n, g, h1, h2, h3⟩ := h.2 o
    by_cases z : n = 0
    · exact Or.inl (h2 z)
    · refine Or.inr ?_
      obtain ⟨k, hk, hc, e⟩ := MR.mem _ n g h1 ((n - 1) / 2) (by omega)
      rw [h3 z, e]
      exact tmM_in hI o.1 hc
  · exact Or.inl (h.1 o)
theorem MdM_ok {E : Nat → va_E} {b q : Int32} {r : Nat} {x : Int32} (h : MdM E b q r x) (hx : ¬ x.toInt = -1000000000) : CdM E (nI r) b q 0 := Classical.byContradiction (fun z => hx (h.1 (fun w => z w.2)))
/-- rows that list what counts, in the order of RACES -/
def LsR (P : Nat → Prop) (Q : Nat → Int32 → Int32 → Prop) : Nat → Nat → (Nat → Int32) → (Nat → Int32) → Prop
  | 0, n, _, _ => n = 0
  | k + 1, n, s, m => (¬ P k ∧ LsR P Q k n s m) ∨ (P k ∧ ∃ n0, n = n0 + 1 ∧ LsR P Q k n0 s m ∧ Q k (s n0) (m n0))
theorem LsR.up {P : Nat → Prop} {Q : Nat → Int32 → Int32 → Prop} : ∀ (k n : Nat) (s m s' m' : Nat → Int32), LsR P Q k n s m → (∀ i, i < n → s' i = s i ∧ m' i = m i) → LsR P Q k n s' m' := by
  intro k
  induction k with
  | zero => exact fun n s m s' m' h _ => h
  | succ k ih =>
    intro n s m s' m' h e
    rcases h with ⟨h1, h2⟩ | ⟨h1, n0, h2, h3, h4⟩
    · exact Or.inl ⟨h1, ih n s m s' m' h2 e⟩
    · refine Or.inr ⟨h1, n0, h2, ih n0 s m s' m' h3 (fun i hi => e i (by omega)), ?_⟩
      rw [(e n0 (by omega)).1, (e n0 (by omega)).2]
      exact h4
theorem LsR.no {P : Nat → Prop} {Q : Nat → Int32 → Int32 → Prop} {k k' n : Nat} {s m : Nat → Int32} (h : LsR P Q k n s m) (hp : ¬ P k) (e : k' = k + 1) : LsR P Q k' n s m := by
  subst e
  exact Or.inl ⟨hp, h⟩
theorem LsR.yes {P : Nat → Prop} {Q : Nat → Int32 → Int32 → Prop} {k k' n n' i j : Nat} {s m s' m' : Nat → Int32} {x y : Int32} (h : LsR P Q k n s m) (hp : P k) (es : s' = upd s i x) (em : m' = upd m j y) (hi : i = n) (hj : j = n) (hq : Q k x y) (en : n' = n + 1) (e : k' = k + 1) : LsR P Q k' n' s' m' := by
  subst e
  subst hi
  subst hj
  subst es
  subst em
  refine Or.inr ⟨hp, _, en, LsR.up k _ s m _ _ h (fun i hi => ⟨upd_j (by omega), upd_j (by omega)⟩), ?_⟩
  rw [upd_i, upd_i]
  exact hq
theorem LsR.some {P : Nat → Prop} {Q : Nat → Int32 → Int32 → Prop} : ∀ (k n : Nat) (s m : Nat → Int32), LsR P Q k n s m → (∀ i, i < n → ∃ r, r < k ∧ P r ∧ Q r (s i) (m i)) ∧ (n = 0 ↔ ∀ r, r < k → ¬ P r) := by
  intro k
  induction k with
  | zero =>
    intro n s m h
    have h1 : n = 0 := h
    subst h1
    exact ⟨fun i hi => absurd hi (Nat.not_lt_zero i), ⟨fun _ r hr => absurd hr (Nat.not_lt_zero r), fun _ => rfl⟩⟩
  | succ k ih =>
    intro n s m h
    rcases h with ⟨h1, h2⟩ | ⟨h1, n0, h2, h3, h4⟩
    · obtain ⟨a1, a2⟩ := ih n s m h2
      refine ⟨fun i hi => ?_, ⟨fun z r hr => ?_, fun z => a2.mpr (fun r hr => z r (by omega))⟩⟩
      · obtain ⟨r, b1, b2⟩ := a1 i hi
        exact ⟨r, by omega, b2⟩
      · by_cases q : r = k
        · subst q
          exact h1
        · exact a2.mp z r (by omega)
    · obtain ⟨a1, a2⟩ := ih n0 s m h3
      subst h2
      refine ⟨fun i hi => ?_, ⟨fun z => by omega, fun z => absurd h1 (z k (by omega))⟩⟩
      by_cases q : i = n0
      · subst q
        exact ⟨k, by omega, h1, h4⟩
      · obtain ⟨r, b1, b2⟩ := a1 i (by omega)
        exact ⟨r, by omega, b2⟩
theorem LsR.sum {P : Nat → Prop} {Q : Nat → Int32 → Int32 → Prop} {f : Int32 → Int32 → Int} : ∀ (k n : Nat) (s m : Nat → Int32), LsR P Q k n s m → SmR P (fun r w => ∃ x y, Q r x y ∧ w = f x y) k (sumF (fun i => f (s i) (m i)) n) := by
  intro k
  induction k with
  | zero =>
    intro n s m h
    have h1 : n = 0 := h
    subst h1
    rfl
  | succ k ih =>
    intro n s m h
    rcases h with ⟨h1, h2⟩ | ⟨h1, n0, h2, h3, h4⟩
    · exact (ih n s m h2).no h1 rfl rfl
    · subst h2
      exact (ih n0 s m h3).one h1 ⟨_, _, h4, rfl⟩ rfl rfl
theorem FtI.neg {S : Int → Int} {v least fit : Int} (h : FtI S v least fit) (e : fit = -1) : v = 500 := by
  rcases h with ⟨h1, -⟩ | ⟨h1, -⟩ <;> omega
theorem FtI.pos {S : Int → Int} {v least fit : Int} (h : FtI S v least fit) (e : ¬ fit = -1) : ¬ v = 500 := by
  rcases h with ⟨-, h1⟩ | ⟨h1, -⟩ <;> omega
theorem LsR.fit {P : Nat → Prop} {Q : Nat → Int32 → Int32 → Prop} {R n : Nat} {s m : Nat → Int32} {v least fit : Int} (h : LsR P Q R n s m) (hn : 0 < n) (hf : FtI (fun v9 : Int => sumF (fun i9 => tFt (s i9) (m i9) v9) n) v least fit) (hv : v = 2001) : FtR P (fun v9 r9 x9 => ∃ x y, Q r9 x y ∧ x9 = tFt x y v9) R fit := by
  refine ⟨fun z => ?_, fun _ => ?_⟩
  · have := (LsR.some R n s m h).2.mpr z
    omega
  · obtain ⟨f1, f2, f3⟩ := hf.fin hv
    exact ⟨_, fun w _ _ => LsR.sum (f := fun x y => tFt x y w) R n s m h, f1, f2, f3⟩
theorem MdM_kd {E E' : Nat → va_E} {b q : Int32} {r : Nat} {x : Int32} (k : KdN E E') (h8 : xi (E' 0) 8 = xi (E 0) 8) : MdM E' b q r x ↔ MdM E b q r x := by
  have e1 : ∀ a : Int32, (fun o9 => CdM E' a (nI o9) q 0) = (fun o9 => CdM E a (nI o9) q 0) := fun a => funext (fun o => propext k.cd)
  have e2 : ∀ a : Int32, tmM E' a q = tmM E a q := fun a => funext (fun o => k.tm a (nI o) q)
  have e3 : ∀ a : Int32, (CdM E' a b q 0) = (CdM E a b q 0) := fun a => propext k.cd
  unfold MdM
  rw [e1, e2, e3, h8, k.rw_ 15 (by decide)]
theorem FtR_kd {E E' : Nat → va_E} {b q : Int32} {R : Nat} {f : Int} (k : KdN E E') (h8 : xi (E' 0) 8 = xi (E 0) 8) (h : FtR (fun r9 => ∃ x9 : Int32, MdM E' b q r9 x9 ∧ ¬ x9.toInt = -1000000000) (fun v9 r9 x9 => ∃ s9 m9 : Int32, (MdM E' b q r9 m9 ∧ ¬ m9.toInt = -1000000000 ∧ s9 = xi (E' 27) (lRM E' (nI r9) b q).toNatClampNeg) ∧ x9 = tFt s9 m9 v9) R f) : FtR (fun r9 => ∃ x9 : Int32, MdM E b q r9 x9 ∧ ¬ x9.toInt = -1000000000) (fun v9 r9 x9 => ∃ s9 m9 : Int32, (MdM E b q r9 m9 ∧ ¬ m9.toInt = -1000000000 ∧ s9 = xi (E 27) (lRM E (nI r9) b q).toNatClampNeg) ∧ x9 = tFt s9 m9 v9) R f := by
  have e : ∀ r x, MdM E' b q r x = MdM E b q r x := fun r x => propext (MdM_kd k h8)
  simp only [e, k.lr, k.rw_ 27 (by decide)] at h
  exact h

