

/-! ===== SUSPECTED (pure) ===== -/
theorem l_add {a b x : Int64} (e : x = a + b) (h : -4611686018427387904 ≤ a.toInt + b.toInt) (h1 : a.toInt + b.toInt ≤ 4611686018427387904) : x.toInt = a.toInt + b.toInt := by
  rw [e, Int64.toInt_add]
  exact tl_bm h h1
theorem l_sub {a b x : Int64} (e : x = a - b) (h : -4611686018427387904 ≤ a.toInt - b.toInt) (h1 : a.toInt - b.toInt ≤ 4611686018427387904) : x.toInt = a.toInt - b.toInt := by
  rw [e, Int64.toInt_sub]
  exact tl_bm h h1
theorem l_mul {a b x : Int64} (e : x = a * b) (h : -4611686018427387904 ≤ a.toInt * b.toInt) (h1 : a.toInt * b.toInt ≤ 4611686018427387904) : x.toInt = a.toInt * b.toInt := by
  rw [e, Int64.toInt_mul]
  exact tl_bm h h1
theorem l_div {a b x : Int64} (e : x = a / b) (h : 0 ≤ a.toInt ∧ a.toInt ≤ 4611686018427387904) (hb : 0 < b.toInt) : x.toInt = a.toInt / b.toInt := by
  have h1 : 0 ≤ a.toInt / b.toInt := Int.ediv_nonneg h.1 (by omega)
  have h2 : a.toInt / b.toInt ≤ a.toInt := Int.ediv_le_self _ h.1
  rw [e, Int64.toInt_div, Int.tdiv_eq_ediv_of_nonneg h.1]
  exact tl_bm (by omega) (by omega)
theorem l_i {x : Int64} {r : Int32} (e : r = x.toInt32) (h : -2147483648 ≤ x.toInt ∧ x.toInt ≤ 2147483647) : r.toInt = x.toInt := by
  rw [e, Int64.toInt_toInt32, ti_bm (by omega) (by omega)]
/-- a mean, cut -/
theorem mn_of {s D q : Int64} {d r : Int32} (ed : D = d.toInt64) (eq : q = s / D) (er : r = q.toInt32) (hs : 0 ≤ s.toInt ∧ s.toInt ≤ 400000000 * d.toInt) (hd : 0 < d.toInt ∧ d.toInt ≤ 20) : r.toInt = s.toInt / d.toInt ∧ 0 ≤ r.toInt ∧ r.toInt ≤ 400000000 := by
  have hD : D.toInt = d.toInt := by rw [ed, l_of]
  have h1 : q.toInt = s.toInt / d.toInt := by
    rw [← hD]
    exact l_div eq ⟨hs.1, by omega⟩ (by omega)
  have h2 : 0 ≤ s.toInt / d.toInt := Int.ediv_nonneg hs.1 (by omega)
  have h3 : s.toInt / d.toInt ≤ 400000000 := Int.ediv_le_of_le_mul hd.1 hs.2
  have h4 : r.toInt = q.toInt := l_i er (by omega)
  omega
def mnG (g : Nat → Int) (a n : Nat) : Int := if a < n then sumF (fun i => g (a + i)) (n - a) / ((n - a : Nat) : Int) else 0
def jpG (g : Nat → Int) (k n : Nat) : Int := mnG g k n - mnG g 0 k
theorem mnG_cg {g g' : Nat → Int} {a n : Nat} (h : ∀ i, i < n → g i = g' i) : mnG g a n = mnG g' a n := by
  unfold mnG
  rw [sumF_cg (n - a) (fun i hi => h (a + i) (by omega))]
theorem jpG_cg {g g' : Nat → Int} {k n : Nat} (h : ∀ i, i < n → g i = g' i) (hk : k ≤ n) : jpG g k n = jpG g' k n := by
  unfold jpG
  rw [mnG_cg h, mnG_cg (fun i hi => h i (by omega))]
/-- RATIO of a MIDDLE by a CORRECTED -/
def rtI (m t : Int32) : Int := 1000 * m.toInt / max 1 t.toInt
theorem rtI_in {m t : Int32} (h : 0 ≤ m.toInt ∧ m.toInt ≤ 400000) : 0 ≤ rtI m t ∧ rtI m t ≤ 400000000 := by
  unfold rtI
  have h1 : 1 ≤ max 1 t.toInt := by omega
  have h2 : 0 ≤ 1000 * m.toInt / max 1 t.toInt := Int.ediv_nonneg (by omega) (by omega)
  have h3 : 1000 * m.toInt / max 1 t.toInt ≤ 1000 * m.toInt := Int.ediv_le_self _ (by omega)
  omega
/-- the first of those that are furthest from 0 -/
def BsF (J : Nat → Int) (hi f : Nat) : Prop := (2 ≤ f ∧ f < hi) ∧ (∀ j, 2 ≤ j → j < f → ab (J j) < ab (J f)) ∧ ∀ j, f ≤ j → j < hi → ab (J j) ≤ ab (J f)
theorem BsF.start {J : Nat → Int} {hi f : Nat} (h : hi = 3) (h2 : f = 2) : BsF J hi f := by
  subst h
  subst h2
  refine ⟨by omega, fun j h1 h2 => by omega, fun j h1 h2 => ?_⟩
  have e : j = 2 := by omega
  subst e
  exact Int.le_refl _
theorem BsF.no {J : Nat → Int} {hi hi' f : Nat} (h : BsF J hi f) (hn : ab (J hi) ≤ ab (J f)) (e : hi' = hi + 1) : BsF J hi' f := by
  subst e
  refine ⟨⟨h.1.1, by have := h.1.2; omega⟩, h.2.1, fun j h1 h2 => ?_⟩
  by_cases q : j = hi
  · subst q
    exact hn
  · exact h.2.2 j h1 (by omega)
theorem BsF.yes {J : Nat → Int} {hi hi' f : Nat} (h : BsF J hi f) (hy : ab (J f) < ab (J hi)) (e : hi' = hi + 1) : BsF J hi' hi := by
  subst e
  obtain ⟨h1, h2, h3⟩ := h
  refine ⟨⟨by omega, by omega⟩, fun j q1 q2 => ?_, fun j q1 q2 => ?_⟩
  · by_cases q : j < f
    · have := h2 j q1 q
      omega
    · have := h3 j (by omega) q2
      omega
  · have e : j = hi := by omega
    subst e
    exact Int.le_refl _
theorem BsF.un {J J' : Nat → Int} {hi f f' : Nat} (h : BsF J hi f) (h' : BsF J' hi f') (e : ∀ j, j < hi → J j = J' j) : f = f' := by
  obtain ⟨⟨a1, a2⟩, a3, a4⟩ := h
  obtain ⟨⟨b1, b2⟩, b3, b4⟩ := h'
  by_cases c : f < f'
  · have k1 := b3 f a1 c
    have k2 := a4 f' (by omega) b2
    rw [e f a2, e f' b2] at k2
    omega
  · by_cases c2 : f' < f
    · have k1 := a3 f' b1 c2
      have k2 := b4 f (by omega) a2
      rw [e f a2, e f' b2] at k1
      omega
    · omega
def SpR (P : Nat → Prop) (day : Nat → Int) (V : Nat → Int → Prop) (R : Nat) (what r : Int) : Prop := ∃ (n : Nat) (c : Nat → Nat) (g : Nat → Int), Enm P R c n ∧ Srt day c n ∧ (∀ i, i < n → V (c i) (g i)) ∧ (n < 4 → r = -1000000000) ∧ (4 ≤ n → ∃ f, BsF (fun k => jpG g k n) (n - 1) f ∧ r = if what = 0 then (c f : Int) else jpG g f n)
theorem Srt.cg {day day' : Nat → Int} {P : Nat → Prop} {R n : Nat} {c : Nat → Nat} (h : Srt day c n) (k : Enm P R c n) (e : ∀ r, r < R → day r = day' r) : Srt day' c n := fun i j hij hj => by
  have h9 := h i j hij hj
  unfold kLt at h9 ⊢
  rw [← e (c i) (k.1 i (by omega)).1, ← e (c j) (k.1 j hj).1]
  exact h9
theorem SpR.un {P P' : Nat → Prop} {day day' : Nat → Int} {V V' : Nat → Int → Prop} {R : Nat} {what r r' : Int} (h : SpR P day V R what r) (h' : SpR P' day' V' R what r') (e : ∀ r, r < R → (P r ↔ P' r)) (d : ∀ r, r < R → day r = day' r) (t : ∀ r, r < R → P r → ∀ x x', V r x → V' r x' → x = x') : r = r' := by
  obtain ⟨n, c, g, h1, h2, h3, h4, h5⟩ := h
  obtain ⟨n', c', g', k1, k2, k3, k4, k5⟩ := h'
  obtain ⟨en, ec⟩ := h1.un h2 k1 (k2.cg k1 (fun r hr => (d r hr).symm)) e
  subst en
  have eg : ∀ i, i < n → g i = g' i := fun i hi => by
    have h9 := k3 i hi
    rw [← ec i hi] at h9
    exact t (c i) (h1.1 i hi).1 (h1.1 i hi).2 _ _ (h3 i hi) h9
  by_cases q : n < 4
  · rw [h4 q, k4 q]
  · obtain ⟨f, f1, f2⟩ := h5 (by omega)
    obtain ⟨f', f3, f4⟩ := k5 (by omega)
    have ef : f = f' := f1.un f3 (fun j hj => jpG_cg eg (by omega))
    subst ef
    have hf := f1.1
    rw [f2, f4, ec f (by omega), jpG_cg eg (by omega)]
theorem SpR.cg {P P' : Nat → Prop} {day day' : Nat → Int} {V V' : Nat → Int → Prop} {R : Nat} {what r : Int} (h : SpR P day V R what r) (e : ∀ r, r < R → (P r ↔ P' r)) (d : ∀ r, r < R → day r = day' r) (t : ∀ r, r < R → P r → ∀ x, V r x → V' r x) : SpR P' day' V' R what r := by
  obtain ⟨n, c, g, h1, h2, h3, h4, h5⟩ := h
  exact ⟨n, c, g, ⟨fun i hi => ⟨(h1.1 i hi).1, (e _ (h1.1 i hi).1).mp (h1.1 i hi).2⟩, fun r hr hp => h1.2.1 r hr ((e r hr).mpr hp), h1.2.2⟩, h2.cg h1 d, fun i hi => t _ (h1.1 i hi).1 (h1.1 i hi).2 _ (h3 i hi), h4, h5⟩
/-- one more behind all -/
theorem Enm.app {P P' : Nat → Prop} {R n k : Nat} {c c' : Nat → Nat} {day : Nat → Int} (h : Enm P R c n) (s : Srt day c n) (hk : k < R) (hn : ¬ P k) (hl : ∀ i, i < n → kLt day (c i) k) (e : ∀ r, r < R → (P' r ↔ (P r ∨ r = k))) (e1 : ∀ i, i < n → c' i = c i) (e2 : c' n = k) : Enm P' R c' (n + 1) ∧ Srt day c' (n + 1) := by
  obtain ⟨h1, h2, h3⟩ := h
  have hs : Srt day c' (n + 1) := fun i j hij hj => by
    by_cases q : j = n
    · subst q
      rw [e2, e1 i hij]
      exact hl i hij
    · rw [e1 i (by omega), e1 j (by omega)]
      exact s i j hij (by omega)
  refine ⟨⟨fun i hi => ?_, fun r hr hp => ?_, fun i j hij hj z => ?_⟩, hs⟩
  · by_cases q : i = n
    · subst q
      rw [e2]
      exact ⟨hk, (e k hk).mpr (Or.inr rfl)⟩
    · rw [e1 i (by omega)]
      have h9 := h1 i (by omega)
      exact ⟨h9.1, (e _ h9.1).mpr (Or.inl h9.2)⟩
  · rcases (e r hr).mp hp with q | q
    · obtain ⟨i, hi, ei⟩ := h2 r hr q
      exact ⟨i, by omega, by rw [e1 i hi]; exact ei⟩
    · exact ⟨n, by omega, by rw [e2]; exact q.symm⟩
  · have h9 := hs i j hij hj
    rw [z] at h9
    unfold kLt at h9
    omega
theorem Enm.cg {P P' : Nat → Prop} {R n : Nat} {c : Nat → Nat} (h : Enm P R c n) (e : ∀ r, r < R → (P r ↔ P' r)) : Enm P' R c n := ⟨fun i hi => ⟨(h.1 i hi).1, (e _ (h.1 i hi).1).mp (h.1 i hi).2⟩, fun r hr hp => h.2.1 r hr ((e r hr).mpr hp), h.2.2⟩
theorem mnG_of {g : Nat → Int} {a n : Nat} {s d r : Int} (h : a < n) (hs : s = sumF (fun i => g (a + i)) (n - a)) (hd : d = ((n - a : Nat) : Int)) (hr : r = s / d) : r = mnG g a n := by
  unfold mnG
  rw [if_pos h, hr, hs, hd]
theorem sumF_st {f : Nat → Int} {n n' : Nat} {s s' : Int} (h : s = sumF f n) (e : n' = n + 1) (hs : s' = s + f n) : s' = sumF f n' := by
  subst e
  show s' = sumF f n + f n
  rw [hs, h]
/-! ===== SUSPECTED of the class ===== -/
theorem GaG.mid {E : Nat → va_E} {b R n : Nat} {c m : Nat → Int32} (h : GaG E b R n c m) {i : Nat} (hi : i < n) : ¬ (m i).toInt = -1000000000 ∧ MdO E (c i).toNatClampNeg b (m i) ∧ (c i).toNatClampNeg < R := by
  obtain ⟨h1, h2, h3⟩ := h
  obtain ⟨k1, x, k2, k3⟩ := h1.1 i hi
  have e : m i = x := MdV.fn (h3 i hi) k2
  exact ⟨by rw [e]; exact k3, h3 i hi, k1⟩
theorem GaG.sp0 {E : Nat → va_E} {b R n : Nat} {c m : Nat → Int32} {what r : Int} (h : GaG E b R n c m) (hn : n < 4) (hr : r = -1000000000) : SpR (ctO E b) (dyC E) (fun r9 x9 => ∃ m9 : Int32, MdO E r9 b m9 ∧ x9 = rtI m9 (xi (E 46) (16 * r9 + b))) R what r :=
  ⟨n, fun i => (c i).toNatClampNeg, fun i => rtI (m i) (xi (E 46) (16 * (c i).toNatClampNeg + b)), h.1, h.2.1, fun i hi => ⟨m i, h.2.2 i hi, rfl⟩, fun _ => hr, fun q => absurd hn (Nat.not_lt.mpr q)⟩
theorem GaG.sp1 {E : Nat → va_E} {b R n f : Nat} {c m : Nat → Int32} {g : Nat → Int} {what r : Int} (h : GaG E b R n c m) (hg : ∀ i, i < n → g i = rtI (m i) (xi (E 46) (16 * (c i).toNatClampNeg + b))) (h4 : 4 ≤ n) (hb : BsF (fun k => jpG g k n) (n - 1) f) (hr : r = if what = 0 then (((c f).toNatClampNeg : Nat) : Int) else jpG g f n) : SpR (ctO E b) (dyC E) (fun r9 x9 => ∃ m9 : Int32, MdO E r9 b m9 ∧ x9 = rtI m9 (xi (E 46) (16 * r9 + b))) R what r :=
  ⟨n, fun i => (c i).toNatClampNeg, g, h.1, h.2.1, fun i hi => ⟨m i, h.2.2 i hi, hg i hi⟩, fun q => absurd q (Nat.not_lt.mpr h4), fun _ => ⟨f, hb, hr⟩⟩
def rtC (cf : Nat → Nat) (E : Nat → va_E) (b : Nat) (q : Int32) (r : Nat) (x : Int) : Prop := ∃ m : Int32, MdC cf E (nI r) q b m ∧ ¬ m.toInt = -1000000000 ∧ x = rtI m (tmC cf E (nI r) q b)
theorem SpR.c {cf : Nat → Nat} {E u : Nat → va_E} {q : Int32} {b : Nat} {what f : Int} (h : SpR (ctO u b) (dyC u) (fun r9 x9 => ∃ m9 : Int32, MdO u r9 b m9 ∧ x9 = rtI m9 (xi (u 46) (16 * r9 + b))) (cf 2) what f) (k : K64 E u) (hb : b < 16) (h20 : cf 2 ≤ 20) (l : ∀ r, r < cf 2 → ∀ o, o < 16 → LdB cf E u (nI r) q o) : SpR (ctC cf E b q) (dyC E) (rtC cf E b q) (cf 2) what f := by
  refine h.cg (fun r hr => ?_) (fun r hr => ?_) (fun r hr hp x hx => ?_)
  · unfold ctO ctC
    exact ⟨fun ⟨x, h1, h2⟩ => ⟨x, (MdO_iff k hb (by omega) (l r hr)).mp h1, h2⟩, fun ⟨x, h1, h2⟩ => ⟨x, (MdO_iff k hb (by omega) (l r hr)).mpr h1, h2⟩⟩
  · unfold dyC
    rw [rcS_k k]
  · obtain ⟨m, h1, h2⟩ := hx
    obtain ⟨y, y1, y2⟩ := hp
    have e : m = y := MdV.fn h1 y1
    subst e
    have c1 := (MdO_iff k hb (by omega) (l r hr)).mp h1
    have hn : (nI r).toNatClampNeg = r := by
      have h9 : (nI r).toInt = (r : Int) := nI_toInt (by omega)
      rw [tn_, h9]
      omega
    have h9 := ((l r hr b hb).2 (MdC_ok c1 y2)).1
    rw [hn] at h9
    refine ⟨m, c1, y2, ?_⟩
    rw [h2, h9]
theorem tmC_in {cT : Nat → ClassId} {cf ad : Nat → Nat} {E : Nat → va_E} {race q : Int32} {b : Nat} (hC : CF cf) (hI : IXL cT (shC cf) (spC cf) (LC cf) ad E) (h3 : cf 3 ≤ 300) (hw : (rcS E race.toNatClampNeg 3).toInt = 0) (hc : CdR cf E race q b 0) : 0 ≤ (tmC cf E race q b).toInt ∧ (tmC cf E race q b).toInt ≤ 400000 := by
  have hl := CdR_0 hc
  have h9 : lRC E race (nI b) q (cf 3) = -1 ∨ ∃ k, k < cf 3 ∧ lRC E race (nI b) q (cf 3) = nI k := lO_ix (cf 3)
  rcases h9 with h | ⟨k, hk, h⟩
  · exfalso
    refine hl ?_
    rw [h]
    rfl
  · have hi : (nI k).toInt = (k : Int) := nI_toInt (by omega)
    have hn : (nI k).toNatClampNeg = k := by
      rw [tn_, hi]
      omega
    have hs : (0 : Int) ≤ (xi (E (64 * ((lRC E race (nI b) q (cf 3)).toNatClampNeg + 1) + 12)) 3).toInt ∧ (xi (E (64 * ((lRC E race (nI b) q (cf 3)).toNatClampNeg + 1) + 12)) 3).toInt ≤ 200000 := by
      rw [h, hn]
      exact hI.iv (64 * (k + 1) + 12) (mP 12 k (by decide) hk (kl_le hC 3 (by decide))) (shC_p 12 k (by decide)) (Nat.le_of_ble_eq_true rfl) (spC_p 12 k (by decide) 3)
    have hn := numC_in (cf := cf) (E := E) (boat := nI b) (day := rcS E race.toNatClampNeg 1) (q := q)
    have e9 : (fI (numC cf E (nI b) (rcS E race.toNatClampNeg 1) q)).toInt = numC cf E (nI b) (rcS E race.toNatClampNeg 1) q := fI_nn ⟨by omega, by omega⟩
    unfold tmC
    exact corI_in hw hs (by rw [e9]; exact hn)
theorem MdC_in {cT : Nat → ClassId} {cf ad : Nat → Nat} {E : Nat → va_E} {race q x : Int32} {b : Nat} (hC : CF cf) (hI : IXL cT (shC cf) (spC cf) (LC cf) ad E) (h3 : cf 3 ≤ 300) (h : MdC cf E race q b x) : x.toInt = -1000000000 ∨ (0 ≤ x.toInt ∧ x.toInt ≤ 400000) := by
  by_cases o : (rcS E race.toNatClampNeg 3).toInt = 0 ∧ CdR cf E race q b 0
  · obtain ⟨n, g, h1, h2, h4⟩ := h.2 o
    by_cases z : n = 0
    · exact Or.inl (h2 z)
    · refine Or.inr ?_
      obtain ⟨k, hk, hc, e⟩ := MR.mem _ n g h1 ((n - 1) / 2) (by omega)
      rw [h4 z, e]
      exact tmC_in hC hI h3 o.1 hc
  · exact Or.inl (h.1 o)
theorem MdO_in {cT : Nat → ClassId} {cf ad : Nat → Nat} {E u : Nat → va_E} {q x : Int32} {b r : Nat} (hC : CF cf) (hI : IXL cT (shC cf) (spC cf) (LC cf) ad E) (h3 : cf 3 ≤ 300) (k : K64 E u) (hb : b < 16) (h20 : cf 2 ≤ 20) (l : ∀ r, r < cf 2 → ∀ o, o < 16 → LdB cf E u (nI r) q o) (hr : r < cf 2) (h : MdO u r b x) : x.toInt = -1000000000 ∨ (0 ≤ x.toInt ∧ x.toInt ≤ 400000) := MdC_in hC hI h3 ((MdO_iff k hb (by omega) (l r hr)).mp h)

