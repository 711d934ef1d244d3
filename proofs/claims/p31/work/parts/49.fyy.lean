

/-! ===== the reference's WORDS and lists of STATES (pure) ===== -/
def wRow (j : Nat) : Nat := [38, 39, 45, 40, 41, 42, 43].getD j 38
def wcM (E : Nat → va_E) : Nat → Nat → Int := fun j i => (xi (E (wRow j)) i).toInt
def wdM (E : Nat → va_E) : Nat → Int32 := fun i => xi (E 44) i
def ffM (w : Nat → Nat → Int) (i : Nat) (x y : Int) : Int := max (max 0 (max (w 4 i - x) (x - w 4 i - w 6 i))) (max 0 (max (w 5 i - y) (y - w 5 i - w 6 i)))
theorem ab_0 (n : Int) : 0 ≤ ab n := by
  unfold ab
  by_cases h : 0 ≤ n
  · rw [if_pos h]
    exact h
  · rw [if_neg h]
    omega
theorem ff_near {w : Nat → Nat → Int} {t s x y f : Int} {i : Nat} (hf : f = s * ab (w 3 i - t)) (h0 : 0 ≤ f) : ffM w i x y ≤ f ↔ nearW w t s x y i := by
  unfold ffM nearW
  rw [← hf]
  omega
theorem wRow_b (j : Nat) : 38 ≤ wRow j ∧ wRow j ≤ 45 := by
  rcases j with _ | _ | _ | _ | _ | _ | _ | j <;> first | decide | (rw [show wRow (j + 7) = 38 from rfl]; decide)
theorem wcM_cg {E E' : Nat → va_E} (h : ∀ o, 38 ≤ o → o ≤ 45 → ∀ i, xi (E' o) i = xi (E o) i) : wcM E' = wcM E := funext (fun j => funext (fun i => by
  show (xi (E' (wRow j)) i).toInt = (xi (E (wRow j)) i).toInt
  rw [h (wRow j) (wRow_b j).1 (wRow_b j).2]))
theorem plc_first {w : Nat → Nat → Int} {n i : Nat} {r b q t s x y : Int} (h : plc w n r b q t s x y) (hi : i < n) (ho : wOf w r b q i) (ht : w 3 i = t) : ffM w i x y ≤ 0 := by
  have e : (0 : Int) = s * ab (w 3 i - t) := by
    rw [ht, Int.sub_self]
    exact (Int.mul_zero s).symm
  exact (ff_near e (Int.le_refl 0)).mpr (h.2 i hi ho)
/-- all that is a STATE -/
def StS (w : Nat → Nat → Int) (wd : Nat → Int32) (n : Nat) (r b q t s : Int) : Int → Int → Int → Prop := fun x y d => hrd w n r b q t ∧ plc w n r b q t s x y ∧ ∃ k : Nat, d = (k : Int) ∧ k < 8 ∧ drs w wd n r b q t k
theorem StS.bd {w : Nat → Nat → Int} {wd : Nat → Int32} {n : Nat} {r b q t s x y d : Int} (h : StS w wd n r b q t s x y d) : (0 ≤ x ∧ x ≤ 99) ∧ (0 ≤ y ∧ y ≤ 99) ∧ 0 ≤ d ∧ d < 8 := by
  obtain ⟨-, ⟨⟨a1, a2, a3, a4⟩, -⟩, k, e, hk, -⟩ := h
  exact ⟨⟨a1, a2⟩, ⟨a3, a4⟩, by omega, by omega⟩
theorem Sts_iff {w : Nat → Nat → Int} {wd : Nat → Int32} {n : Nat} {r b q t s : Int} : Sts w wd n r b q t s ↔ ∃ x y d, StS w wd n r b q t s x y d := by
  constructor
  · rintro ⟨a1, ⟨x, y, a2⟩, k, hk, a3⟩
    exact ⟨x, y, (k : Int), a1, a2, k, rfl, hk, a3⟩
  · rintro ⟨x, y, d, a1, a2, k, -, hk, a3⟩
    exact ⟨a1, ⟨x, y, a2⟩, k, hk, a3⟩
/-- three rows list a set -/
def LM (f g h : Nat → Int) (o n : Nat) (P : Int → Int → Int → Prop) : Prop := (∀ i, i < n → P (f (o + i)) (g (o + i)) (h (o + i))) ∧ ∀ x y d, P x y d → ∃ i, i < n ∧ f (o + i) = x ∧ g (o + i) = y ∧ h (o + i) = d
theorem LM.nil {f g h : Nat → Int} {o : Nat} {P : Int → Int → Int → Prop} (hP : ∀ x y d, ¬ P x y d) : LM f g h o 0 P := ⟨fun i hi => absurd hi (Nat.not_lt_zero i), fun x y d q => absurd q (hP x y d)⟩
theorem LM.cg {f g h : Nat → Int} {o n : Nat} {P P' : Int → Int → Int → Prop} (l : LM f g h o n P) (e : ∀ x y d, P' x y d ↔ P x y d) : LM f g h o n P' := ⟨fun i hi => (e _ _ _).mpr (l.1 i hi), fun x y d q => l.2 x y d ((e x y d).mp q)⟩
theorem LM.rows {f g h f' g' h' : Nat → Int} {o n : Nat} {P : Int → Int → Int → Prop} (l : LM f g h o n P) (e : ∀ i, i < n → f' (o + i) = f (o + i) ∧ g' (o + i) = g (o + i) ∧ h' (o + i) = h (o + i)) : LM f' g' h' o n P := by
  refine ⟨fun i hi => ?_, fun x y d q => ?_⟩
  · obtain ⟨e1, e2, e3⟩ := e i hi
    rw [e1, e2, e3]
    exact l.1 i hi
  · obtain ⟨i, hi, a1, a2, a3⟩ := l.2 x y d q
    obtain ⟨e1, e2, e3⟩ := e i hi
    exact ⟨i, hi, e1.trans a1, e2.trans a2, e3.trans a3⟩
theorem LM.push {f g h f' g' h' : Nat → Int} {o n n' : Nat} {P P' : Int → Int → Int → Prop} {x y d : Int} (l : LM f g h o n P) (e : ∀ i, i < n → f' (o + i) = f (o + i) ∧ g' (o + i) = g (o + i) ∧ h' (o + i) = h (o + i)) (ex : f' (o + n) = x) (ey : g' (o + n) = y) (ed : h' (o + n) = d) (hP : ∀ u v k, P' u v k ↔ (P u v k ∨ (u = x ∧ v = y ∧ k = d))) (hn : n' = n + 1) : LM f' g' h' o n' P' := by
  subst hn
  have l' := l.rows e
  refine ⟨fun i hi => ?_, fun u v k q => ?_⟩
  · by_cases c : i = n
    · subst c
      exact (hP _ _ _).mpr (Or.inr ⟨ex, ey, ed⟩)
    · exact (hP _ _ _).mpr (Or.inl (l'.1 i (by omega)))
  · rcases (hP u v k).mp q with q1 | ⟨q1, q2, q3⟩
    · obtain ⟨i, hi, a⟩ := l'.2 u v k q1
      exact ⟨i, by omega, a⟩
    · exact ⟨n, by omega, by rw [q1]; exact ex, by rw [q2]; exact ey, by rw [q3]; exact ed⟩
/-- those of it that were gone through -/
def adv (S : Int → Int → Int → Prop) (x y d : Int) : Int → Int → Int → Prop := fun u v k => S u v k ∧ (u < x ∨ (u = x ∧ (v < y ∨ (v = y ∧ k < d))))
section ADV
variable {S : Int → Int → Int → Prop} {x y d x' y' d' : Int}
def Sbd (S : Int → Int → Int → Prop) : Prop := ∀ u v k, S u v k → (0 ≤ u ∧ u ≤ 99) ∧ (0 ≤ v ∧ v ≤ 99) ∧ 0 ≤ k ∧ k < 8
theorem adv_0 (hS : Sbd S) (hx : x ≤ 0) (hy : y ≤ 0) (hd : d ≤ 0) : ∀ u v k, ¬ adv S x y d u v k := fun u v k q => by
  have h1 := hS u v k q.1
  have h2 := q.2
  omega
theorem adv_all (hS : Sbd S) (hx : 99 < x) : ∀ u v k, S u v k ↔ adv S x y d u v k := fun u v k => ⟨fun q => ⟨q, by have h1 := hS u v k q; omega⟩, fun q => q.1⟩
theorem adv_no (hS : ∀ u v k, ¬ S u v k) : ∀ u v k, S u v k ↔ adv S x y d u v k := fun u v k => ⟨fun q => absurd q (hS u v k), fun q => q.1⟩
theorem adv_x (hS : Sbd S) (hy : 99 < y) (e : x' = x + 1) (hy' : y' ≤ 0) (hd' : d' ≤ 0) : ∀ u v k, adv S x' y' d' u v k ↔ adv S x y d u v k := fun u v k => ⟨fun q => ⟨q.1, by have h1 := hS u v k q.1; have h2 := q.2; omega⟩, fun q => ⟨q.1, by have h1 := hS u v k q.1; have h2 := q.2; omega⟩⟩
theorem adv_y (hS : Sbd S) (hd : 7 < d) (e : y' = y + 1) (hd' : d' ≤ 0) : ∀ u v k, adv S x y' d' u v k ↔ adv S x y d u v k := fun u v k => ⟨fun q => ⟨q.1, by have h1 := hS u v k q.1; have h2 := q.2; omega⟩, fun q => ⟨q.1, by have h1 := hS u v k q.1; have h2 := q.2; omega⟩⟩
theorem adv_yn (hS : Sbd S) (hn : ∀ k, ¬ S x y k) (e : y' = y + 1) (hd : d ≤ 0) (hd' : d' ≤ 0) : ∀ u v k, adv S x y' d' u v k ↔ adv S x y d u v k := fun u v k => ⟨fun q => ⟨q.1, by
  have h1 := hS u v k q.1
  have h2 := q.2
  by_cases c : u = x ∧ v = y
  · obtain ⟨rfl, rfl⟩ := c
    exact absurd q.1 (hn k)
  · omega⟩, fun q => ⟨q.1, by have h1 := hS u v k q.1; have h2 := q.2; omega⟩⟩
theorem adv_dn (hn : ¬ S x y d) (e : d' = d + 1) : ∀ u v k, adv S x y d' u v k ↔ adv S x y d u v k := fun u v k => ⟨fun q => ⟨q.1, by
  have h2 := q.2
  by_cases c : u = x ∧ v = y ∧ k = d
  · obtain ⟨rfl, rfl, rfl⟩ := c
    exact absurd q.1 hn
  · omega⟩, fun q => ⟨q.1, by have h2 := q.2; omega⟩⟩
theorem adv_dy (hy : S x y d) (e : d' = d + 1) : ∀ u v k, adv S x y d' u v k ↔ (adv S x y d u v k ∨ (u = x ∧ v = y ∧ k = d)) := fun u v k => by
  constructor
  · intro q
    have h2 := q.2
    by_cases c : u = x ∧ v = y ∧ k = d
    · exact Or.inr c
    · exact Or.inl ⟨q.1, by omega⟩
  · rintro (q | ⟨q1, q2, q3⟩)
    · exact ⟨q.1, by have h2 := q.2; omega⟩
    · subst q1
      subst q2
      subst q3
      exact ⟨hy, by omega⟩
end ADV
/-- one STATE more in the rows -/
theorem push3o {E E1 E2 E3 : Nat → va_E} {i1 i2 i3 x y d : Int32} {m : Nat} (p1 : Pw E E1 56 i1.toNatClampNeg (.int x)) (p2 : Pw E1 E2 57 i2.toNatClampNeg (.int y)) (p3 : Pw E2 E3 58 i3.toNatClampNeg (.int d)) (h1 : i1.toNatClampNeg = m) (h2 : i2.toNatClampNeg = m) (h3 : i3.toNatClampNeg = m) : (∀ j, j ≠ m → xi (E3 56) j = xi (E 56) j ∧ xi (E3 57) j = xi (E 57) j ∧ xi (E3 58) j = xi (E 58) j) ∧ xi (E3 56) m = x ∧ xi (E3 57) m = y ∧ xi (E3 58) m = d := by
  rw [h1] at p1
  rw [h2] at p2
  rw [h3] at p3
  refine ⟨fun j hj => ⟨?_, ?_, ?_⟩, ?_, ?_, ?_⟩
  · exact congrArg vi ((p3.2 56 j (by omega)).trans ((p2.2 56 j (by omega)).trans (p1.2 56 j (by omega))))
  · exact congrArg vi ((p3.2 57 j (by omega)).trans ((p2.2 57 j (by omega)).trans (p1.2 57 j (by omega))))
  · exact congrArg vi ((p3.2 58 j (by omega)).trans ((p2.2 58 j (by omega)).trans (p1.2 58 j (by omega))))
  · exact vi_e ((p3.2 56 m (by omega)).trans ((p2.2 56 m (by omega)).trans p1.1))
  · exact vi_e ((p3.2 57 m (by omega)).trans p2.1)
  · exact vi_e p3.1
theorem push3 {E E1 E2 E3 : Nat → va_E} {i1 i2 i3 x y d : Int32} {o n n' : Nat} {P P' : Int → Int → Int → Prop} (l : LM (rI E 56) (rI E 57) (rI E 58) o n P) (p1 : Pw E E1 56 i1.toNatClampNeg (.int x)) (p2 : Pw E1 E2 57 i2.toNatClampNeg (.int y)) (p3 : Pw E2 E3 58 i3.toNatClampNeg (.int d)) (h1 : i1.toNatClampNeg = o + n) (h2 : i2.toNatClampNeg = o + n) (h3 : i3.toNatClampNeg = o + n) (hP : ∀ u v k, P' u v k ↔ (P u v k ∨ (u = x.toInt ∧ v = y.toInt ∧ k = d.toInt))) (hn : n' = n + 1) : LM (rI E3 56) (rI E3 57) (rI E3 58) o n' P' := by
  obtain ⟨a, b1, b2, b3⟩ := push3o p1 p2 p3 h1 h2 h3
  exact l.push (fun i hi => by
    obtain ⟨a1, a2, a3⟩ := a (o + i) (by omega)
    exact ⟨congrArg Int32.toInt a1, congrArg Int32.toInt a2, congrArg Int32.toInt a3⟩) (congrArg Int32.toInt b1) (congrArg Int32.toInt b2) (congrArg Int32.toInt b3) hP hn
def OthR (E u : Nat → va_E) (o : Nat) : Prop := ∀ j, j < o ∨ o + 128 ≤ j → xi (u 56) j = xi (E 56) j ∧ xi (u 57) j = xi (E 57) j ∧ xi (u 58) j = xi (E 58) j
def OthM (E u : Nat → va_E) (o : Nat) : Prop := OthR E u o ∧ ∀ j, xi (u 59) j = xi (E 59) j
theorem OthM.rf {E : Nat → va_E} {o : Nat} : OthM E E o := ⟨fun _ _ => ⟨rfl, rfl, rfl⟩, fun _ => rfl⟩
theorem OthM.push {E E0 E1 E2 E3 : Nat → va_E} {i1 i2 i3 x y d : Int32} {o m : Nat} (l : OthM E0 E o) (p1 : Pw E E1 56 i1.toNatClampNeg (.int x)) (p2 : Pw E1 E2 57 i2.toNatClampNeg (.int y)) (p3 : Pw E2 E3 58 i3.toNatClampNeg (.int d)) (h1 : i1.toNatClampNeg = m) (h2 : i2.toNatClampNeg = m) (h3 : i3.toNatClampNeg = m) (hm : o ≤ m ∧ m < o + 128) : OthM E0 E3 o := by
  refine ⟨fun j hj => ?_, fun j => ?_⟩
  · obtain ⟨a, -⟩ := push3o p1 p2 p3 h1 h2 h3
    obtain ⟨a1, a2, a3⟩ := a j (by omega)
    obtain ⟨b1, b2, b3⟩ := l.1 j hj
    exact ⟨a1.trans b1, a2.trans b2, a3.trans b3⟩
  · exact (congrArg vi ((p3.2 59 j (by omega)).trans ((p2.2 59 j (by omega)).trans (p1.2 59 j (by omega))))).trans (l.2 j)
/-- what findStates leaves -/
def StM (E u : Nat → va_E) (who : Nat) (S : Int → Int → Int → Prop) : Prop := LM (rI u 56) (rI u 57) (rI u 58) (128 * who) (xi (u 59) who).toNatClampNeg S ∧ OthR E u (128 * who) ∧ ∀ j, j ≠ who → xi (u 59) j = xi (E 59) j
theorem StM.of {E E1 E2 : Nat → va_E} {who : Nat} {i : Int32} {v : Int32} {n : Nat} {S P : Int → Int → Int → Prop} (l : LM (rI E1 56) (rI E1 57) (rI E1 58) (128 * who) n P) (o : OthM E E1 (128 * who)) (p : Pw E1 E2 59 i.toNatClampNeg (.int v)) (hi : i.toNatClampNeg = who) (hv : v.toNatClampNeg = n) (e : ∀ x y d, S x y d ↔ P x y d) : StM E E2 who S := by
  rw [hi] at p
  have k : ∀ c, ¬ c = 59 → ∀ j, xi (E2 c) j = xi (E1 c) j := fun c hc j => congrArg vi (p.2 c j (fun q => hc q.1))
  refine ⟨?_, fun j hj => ?_, fun j hj => ?_⟩
  · rw [show (xi (E2 59) who).toNatClampNeg = n from (congrArg Int32.toNatClampNeg (show xi (E2 59) who = v from vi_e p.1)).trans hv]
    exact (l.cg e).rows (fun i _ => ⟨congrArg Int32.toInt (k 56 (by decide) _), congrArg Int32.toInt (k 57 (by decide) _), congrArg Int32.toInt (k 58 (by decide) _)⟩)
  · obtain ⟨a1, a2, a3⟩ := o.1 j hj
    exact ⟨(k 56 (by decide) j).trans a1, (k 57 (by decide) j).trans a2, (k 58 (by decide) j).trans a3⟩
  · exact (congrArg vi (p.2 59 j (fun q => hj q.2))).trans (o.2 j)
/-- the letters as the reference sets them -/
theorem ls_ord {a b c d e f g : Int32} : lset (lset (lset (lset (lset (lset (lset lz 8 a) 9 b) 10 c) 11 d) 12 e) 3 f) 13 g = lset (lset (lset (lset (lset (lset (lset lz 8 a) 11 d) 12 e) 3 f) 9 b) 10 c) 13 g := funext (fun q => by
  unfold lset
  by_cases h13 : q = 13
  · simp only [if_pos h13]
  · by_cases h8 : q = 8
    · subst h8
      rfl
    · by_cases h9 : q = 9
      · subst h9
        rfl
      · by_cases h10 : q = 10
        · subst h10
          rfl
        · by_cases h11 : q = 11
          · subst h11
            rfl
          · by_cases h12 : q = 12
            · subst h12
              rfl
            · simp only [if_neg h13, if_neg h8, if_neg h9, if_neg h10, if_neg h11, if_neg h12])
/-- how many pairs, and at how many of them there is no FAULT -/
def Cnt (al wr : Int) (Q P : Prop) : Prop := 0 ≤ wr ∧ wr ≤ al ∧ (al = 0 ↔ ¬ Q) ∧ (wr = al ↔ P)
def prc (m i j a b : Nat) : Prop := b < m ∧ (a < i ∨ (a = i ∧ b < j))
section CNT
variable {al wr al' wr' : Int} {m i j i' j' : Nat} {X : Nat → Nat → Prop}
theorem Cnt.start (h : i = 0) (h2 : j = 0) : Cnt 0 0 (∃ a b, prc m i j a b) (∀ a b, prc m i j a b → X a b) := by
  have no : ∀ a b, ¬ prc m i j a b := fun a b q => by
    have h3 := q.2
    omega
  exact ⟨Int.le_refl _, Int.le_refl _, ⟨fun _ ⟨a, b, q⟩ => no a b q, fun _ => rfl⟩, ⟨fun _ a b q => absurd q (no a b), fun _ => rfl⟩⟩
theorem Cnt.row (h : Cnt al wr (∃ a b, prc m i j a b) (∀ a b, prc m i j a b → X a b)) (hj : m ≤ j) (e : i' = i + 1) (e0 : j' = 0) : Cnt al wr (∃ a b, prc m i' j' a b) (∀ a b, prc m i' j' a b → X a b) := by
  have eq : ∀ a b, prc m i' j' a b ↔ prc m i j a b := fun a b => by
    unfold prc
    omega
  obtain ⟨h1, h2, h3, h4⟩ := h
  refine ⟨h1, h2, h3.trans ⟨fun q ⟨a, b, p⟩ => q ⟨a, b, (eq a b).mp p⟩, fun q ⟨a, b, p⟩ => q ⟨a, b, (eq a b).mpr p⟩⟩, h4.trans ⟨fun q a b p => q a b ((eq a b).mp p), fun q a b p => q a b ((eq a b).mpr p)⟩⟩
theorem Cnt.one (h : Cnt al wr (∃ a b, prc m i j a b) (∀ a b, prc m i j a b → X a b)) (hj : j < m) (e : j' = j + 1) (ea : al' = al + 1) (ew : wr' = wr + 1) (hx : X i j) : Cnt al' wr' (∃ a b, prc m i j' a b) (∀ a b, prc m i j' a b → X a b) := by
  obtain ⟨h1, h2, h3, h4⟩ := h
  refine ⟨by omega, by omega, ⟨fun q => by omega, fun q => absurd ⟨i, j, hj, by omega⟩ q⟩, ⟨fun q a b p => ?_, fun q => ?_⟩⟩
  · by_cases c : a = i ∧ b = j
    · obtain ⟨rfl, rfl⟩ := c
      exact hx
    · exact h4.mp (by omega) a b ⟨p.1, by have h5 := p.2; omega⟩
  · have h5 := h4.mpr (fun a b p => q a b ⟨p.1, by have h6 := p.2; omega⟩)
    omega
theorem Cnt.none (h : Cnt al wr (∃ a b, prc m i j a b) (∀ a b, prc m i j a b → X a b)) (hj : j < m) (e : j' = j + 1) (ea : al' = al + 1) (ew : wr' = wr) (hx : ¬ X i j) : Cnt al' wr' (∃ a b, prc m i j' a b) (∀ a b, prc m i j' a b → X a b) := by
  obtain ⟨h1, h2, h3, h4⟩ := h
  exact ⟨by omega, by omega, ⟨fun q => by omega, fun q => absurd ⟨i, j, hj, by omega⟩ q⟩, ⟨fun q => by omega, fun q => absurd (q i j ⟨hj, by omega⟩) hx⟩⟩
end CNT
/-- findingOf's answer 1 -/
theorem fin_e {w : Nat → Nat → Int} {wd : Nat → Int32} {n n0 n1 : Nat} {r a b q t s : Int} {wnd : Nat} {mx my : Int} {W : (Nat → Int32) → Int32} {f g h : Nat → Int} {al wr : Int} (hA : LM f g h 0 n0 (StS w wd n r a q t s)) (hB : LM f g h 128 n1 (StS w wd n r b q t s)) (c : Cnt al wr (∃ i j, prc n1 n0 0 i j) (∀ i j, prc n1 n0 0 i j → ¬ W (pL wnd mx my (f i) (g i) (h i) (f (128 + j)) (g (128 + j)) (h (128 + j))) = 0)) : (¬ al = 0 ∧ wr = al) ↔ Sure w wd n r a b q t s wnd mx my W := by
  obtain ⟨-, -, c1, c2⟩ := c
  rw [c1, c2]
  have z : ∀ i, 0 + i = i := fun i => Nat.zero_add i
  constructor
  · rintro ⟨p1, p2⟩
    obtain ⟨i, j, hj, hi⟩ := Classical.byContradiction p1
    have hi0 : i < n0 := by omega
    have sA := hA.1 i hi0
    have sB := hB.1 j hj
    refine ⟨Sts_iff.mpr ⟨_, _, _, sA⟩, Sts_iff.mpr ⟨_, _, _, sB⟩, fun x y d u v d2 e1 e2 e3 e4 e5 e6 => ?_⟩
    obtain ⟨i1, k1, k2, k3, k4⟩ := hA.2 x y (d : Int) ⟨sA.1, e1, d, rfl, e2, e3⟩
    obtain ⟨j1, l1, l2, l3, l4⟩ := hB.2 u v (d2 : Int) ⟨sB.1, e4, d2, rfl, e5, e6⟩
    rw [z] at k2 k3 k4
    have h9 := p2 i1 j1 ⟨l1, Or.inl k1⟩
    rw [k2, k3, k4, l2, l3, l4] at h9
    exact h9
  · rintro ⟨p1, p2, p3⟩
    obtain ⟨x, y, d, s1⟩ := Sts_iff.mp p1
    obtain ⟨u, v, d2, s2⟩ := Sts_iff.mp p2
    obtain ⟨i1, k1, -⟩ := hA.2 x y d s1
    obtain ⟨j1, l1, -⟩ := hB.2 u v d2 s2
    refine ⟨fun q => q ⟨i1, j1, l1, Or.inl k1⟩, fun i j p => ?_⟩
    have hi0 : i < n0 := by
      have h5 := p.2
      omega
    obtain ⟨-, a2, d3, a3, a4, a5⟩ := hA.1 i hi0
    obtain ⟨-, b2, d4, b3, b4, b5⟩ := hB.1 j p.1
    rw [z] at a2 a3
    rw [a3, b3]
    exact p3 _ _ d3 _ _ d4 a2 a4 a5 b2 b4 b5
/-- the two sides' words are the same -/
theorem Sure_cg {w w' : Nat → Nat → Int} {wd wd' : Nat → Int32} {n : Nat} {r a b q t s : Int} {wnd : Nat} {mx my : Int} {W W' : (Nat → Int32) → Int32} (hw : ∀ i, i < n → ∀ j, j < 7 → w' j i = w j i) (hd : ∀ i, i < n → wd' i = wd i) (hW : ∀ L, W' L = W L) : Sure w' wd' n r a b q t s wnd mx my W' ↔ Sure w wd n r a b q t s wnd mx my W := by
  have e0 : ∀ (r b : Int) (i : Nat), i < n → (wOf w' r b q i ↔ wOf w r b q i) := fun r b i hi => by
    unfold wOf
    rw [hw i hi 0 (by decide), hw i hi 1 (by decide), hw i hi 2 (by decide)]
  have e1 : ∀ (r b x y : Int), plc w' n r b q t s x y ↔ plc w n r b q t s x y := fun r b x y => by
    have en : ∀ i, i < n → (nearW w' t s x y i ↔ nearW w t s x y i) := fun i hi => by
      unfold nearW
      rw [hw i hi 3 (by decide), hw i hi 4 (by decide), hw i hi 5 (by decide), hw i hi 6 (by decide)]
    exact ⟨fun p => ⟨p.1, fun i hi g => (en i hi).mp (p.2 i hi ((e0 r b i hi).mpr g))⟩, fun p => ⟨p.1, fun i hi g => (en i hi).mpr (p.2 i hi ((e0 r b i hi).mp g))⟩⟩
  have e2 : ∀ (r b : Int), hrd w' n r b q t ↔ hrd w n r b q t := fun r b => ⟨fun ⟨i, hi, g1, g2⟩ => ⟨i, hi, (e0 r b i hi).mp g1, by rw [← hw i hi 3 (by decide)]; exact g2⟩, fun ⟨i, hi, g1, g2⟩ => ⟨i, hi, (e0 r b i hi).mpr g1, by rw [hw i hi 3 (by decide)]; exact g2⟩⟩
  have e3 : ∀ (r b : Int) (d : Nat), drs w' wd' n r b q t d ↔ drs w wd n r b q t d := fun r b d => ⟨fun p i hi g1 g2 => by rw [← hd i hi]; exact p i hi ((e0 r b i hi).mpr g1) (by rw [hw i hi 3 (by decide)]; exact g2), fun p i hi g1 g2 => by rw [hd i hi]; exact p i hi ((e0 r b i hi).mp g1) (by rw [← hw i hi 3 (by decide)]; exact g2)⟩
  have e4 : ∀ (r b : Int), Sts w' wd' n r b q t s ↔ Sts w wd n r b q t s := fun r b => by
    unfold Sts
    simp only [e1, e2, e3]
  unfold Sure
  simp only [e1, e3, e4, hW]

