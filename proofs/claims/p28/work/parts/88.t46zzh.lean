

/-! ===== the DRAW (pure) ===== -/
def plcL (x : Int64) (t : Int32) : Int32 := ((x.toUInt64 >>> ((33 : Int32).toInt64.toUInt64 &&& Int64.toUInt64 63)).toInt64 - (x.toUInt64 >>> ((33 : Int32).toInt64.toUInt64 &&& Int64.toUInt64 63)).toInt64 / t.toInt64 * t.toInt64).toInt32
def nxtL (x : Int64) : Int64 := x * 6364136223846793005 + 1442695040888963407
theorem plcL_of {x y z w : Int64} {t r : Int32} (ey : y = (x.toUInt64 >>> ((33 : Int32).toInt64.toUInt64 &&& Int64.toUInt64 63)).toInt64) (ez : z = t.toInt64) (ew : w = y - y / z * z) (er : r = w.toInt32) : r = plcL x t := by
  rw [er, ew, ez, ey]
  rfl
theorem nxtL_of {x a y b z : Int64} (ea : a = 6364136223846793005) (ey : y = x * a) (eb : b = 1442695040888963407) (ez : z = y + b) : z = nxtL x := by
  rw [ez, eb, ey, ea]
  rfl
/-- a row of weights, who is drawn by a number -/
def PkR (g : Nat → Int32) (N : Nat) (p : Int) (b : Nat) : Prop := b < N ∧ sumI g b ≤ p ∧ p < sumI g b + (g b).toInt
theorem sumI_cg {g g' : Nat → Int32} : ∀ n : Nat, (∀ i, i < n → g i = g' i) → sumI g n = sumI g' n := by
  intro n
  induction n with
  | zero => exact fun _ => rfl
  | succ n ih =>
    intro h
    show sumI g n + (g n).toInt = sumI g' n + (g' n).toInt
    rw [ih (fun i hi => h i (by omega)), h n (by omega)]
theorem PkR.un {g g' : Nat → Int32} {N n b b' : Nat} {p : Int} (hn : n ≤ N) (e : ∀ i, i < n → g i = g' i) (hz : ∀ i, n ≤ i → i < N → (g i).toInt = 0) (hp : ∀ i, i < n → 0 ≤ (g i).toInt) (h : PkR g N p b) (h' : PkR g' n p b') : b = b' := by
  obtain ⟨a1, a2, a3⟩ := h
  obtain ⟨c1, c2, c3⟩ := h'
  have hb : b < n := by
    by_cases q : b < n
    · exact q
    · have := hz b (by omega) a1
      omega
  rw [← sumI_cg b' (fun i hi => e i (by omega)), ← e b' c1] at c3
  rw [← sumI_cg b' (fun i hi => e i (by omega))] at c2
  rcases Nat.lt_trichotomy b b' with q | q | q
  · exfalso
    have h1 := sumI_mono (g := g) (k := b + 1) b' (by omega) (fun j hj => hp j (by omega))
    have h2 : sumI g (b + 1) = sumI g b + (g b).toInt := rfl
    omega
  · exact q
  · exfalso
    have h1 := sumI_mono (g := g) (k := b' + 1) b (by omega) (fun j hj => hp j (by omega))
    have h2 : sumI g (b' + 1) = sumI g b' + (g b').toInt := rfl
    omega
/-- the state behind k that were drawn -/
def DrR (g0 : Nat → Int32) (s0 : Int32) (x0 : Int64) (N : Nat) : Nat → (Nat → Int32) → Int32 → Int64 → Int32 → Prop
  | 0, g, s, x, d => g = g0 ∧ s = s0 ∧ x = x0 ∧ d = 0
  | k + 1, g, s, x, d => ∃ (g1 : Nat → Int32) (s1 : Int32) (x1 : Int64) (d1 b : Int32), DrR g0 s0 x0 N k g1 s1 x1 d1 ∧ x = nxtL x1 ∧ 0 ≤ b.toInt ∧ PkR g1 N (plcL x s1).toInt b.toNatClampNeg ∧ g = upd g1 b.toNatClampNeg 0 ∧ s = s1 - g1 b.toNatClampNeg ∧ d = d1 ||| (1 <<< (b &&& 31))
theorem DrR.go {g0 g1 g : Nat → Int32} {s0 s1 s v : Int32} {x0 x1 x : Int64} {N k k' : Nat} {d1 d b t : Int32} (h : DrR g0 s0 x0 N k g1 s1 x1 d1) (ex : x = nxtL x1) (hb : 0 ≤ b.toInt) (hp : PkR g1 N (plcL x s1).toInt b.toNatClampNeg) (eg : g = upd g1 b.toNatClampNeg 0) (ev : v = g1 b.toNatClampNeg) (es : s = s1 - v) (et : t = 1 <<< (b &&& 31)) (ed : d = d1 ||| t) (ek : k' = k + 1) : DrR g0 s0 x0 N k' g s x d := by
  subst ek
  exact ⟨g1, s1, x1, d1, b, h, ex, hb, hp, eg, by rw [es, ev], by rw [ed, et]⟩
theorem DrR.un {g0 g0' : Nat → Int32} {s0 : Int32} {x0 : Int64} {N n : Nat} (hn : n ≤ N) (e : ∀ i, i < n → g0 i = g0' i) (hz : ∀ i, n ≤ i → i < N → (g0 i).toInt = 0) (hp : ∀ i, i < n → 0 ≤ (g0 i).toInt) : ∀ (k : Nat) (g : Nat → Int32) (s : Int32) (x : Int64) (d : Int32) (g' : Nat → Int32) (s' : Int32) (x' : Int64) (d' : Int32), DrR g0 s0 x0 N k g s x d → DrR g0' s0 x0 n k g' s' x' d' → (∀ i, i < n → g i = g' i) ∧ (∀ i, n ≤ i → i < N → (g i).toInt = 0) ∧ (∀ i, i < n → 0 ≤ (g i).toInt) ∧ s = s' ∧ x = x' ∧ d = d' := by
  intro k
  induction k with
  | zero =>
    rintro g s x d g' s' x' d' ⟨a1, a2, a3, a4⟩ ⟨c1, c2, c3, c4⟩
    rw [a1, a2, a3, a4, c1, c2, c3, c4]
    exact ⟨e, hz, hp, rfl, rfl, rfl⟩
  | succ k ih =>
    rintro g s x d g' s' x' d' ⟨g1, s1, x1, d1, b, h, a1, a2, a3, a4, a5, a6⟩ ⟨g2, s2, x2, d2, b2, h2, c1, c2, c3, c4, c5, c6⟩
    obtain ⟨i1, i2, i3, i4, i5, i6⟩ := ih _ _ _ _ _ _ _ _ h h2
    have ex : x = x' := by rw [a1, c1, i5]
    rw [← i4, ← ex] at c3
    have eb : b.toNatClampNeg = b2.toNatClampNeg := a3.un hn i1 i2 i3 c3
    have eb2 : b = b2 := Int32.toInt_inj.mp (by
      rw [tn_, tn_] at eb
      omega)
    subst eb2
    have hbn : b.toNatClampNeg < n := c3.1
    refine ⟨fun i hi => ?_, fun i h8 h9 => ?_, fun i hi => ?_, ?_, ex, ?_⟩
    · rw [a4, c4]
      by_cases q : i = b.toNatClampNeg
      · rw [q, upd_i, upd_i]
      · rw [upd_j q, upd_j q]
        exact i1 i hi
    · rw [a4, upd_j (by omega)]
      exact i2 i h8 h9
    · rw [a4]
      by_cases q : i = b.toNatClampNeg
      · rw [q, upd_i]
        decide
      · rw [upd_j q]
        exact i3 i hi
    · rw [a5, c5, i4, i1 _ hbn]
    · rw [a6, c6, i6]
/-- the weight of a BOAT -/
def WgP (C : Prop) (Ft : Int → Prop) (nm w : Int) : Prop := (¬ C → w = 0) ∧ (C → ∃ f, Ft f ∧ (f = -1 → w = 1) ∧ (¬ f = -1 → w = 1 + ab (f - nm)))
theorem ab_nn {a : Int} : 0 ≤ ab a := ab_0 _
theorem WgP.nn {C : Prop} {Ft : Int → Prop} {nm w : Int} (h : WgP C Ft nm w) : 0 ≤ w ∧ (C ↔ 0 < w) := by
  by_cases c : C
  · obtain ⟨f, h1, h2, h3⟩ := h.2 c
    have h4 := ab_nn (a := f - nm)
    by_cases q : f = -1
    · have := h2 q
      exact ⟨by omega, ⟨fun _ => by omega, fun _ => c⟩⟩
    · have := h3 q
      exact ⟨by omega, ⟨fun _ => by omega, fun _ => c⟩⟩
  · have := h.1 c
    exact ⟨by omega, ⟨fun z => absurd z c, fun z => by omega⟩⟩
theorem WgP.un {C C' : Prop} {Ft Ft' : Int → Prop} {nm nm' w w' : Int} (h : WgP C Ft nm w) (h' : WgP C' Ft' nm' w') (ec : C ↔ C') (en : nm = nm') (ef : ∀ f f', Ft f → Ft' f' → f = f') : w = w' := by
  by_cases c : C
  · obtain ⟨f, h1, h2, h3⟩ := h.2 c
    obtain ⟨f', q1, q2, q3⟩ := h'.2 (ec.mp c)
    have e := ef f f' h1 q1
    subst e
    subst en
    by_cases z : f = -1
    · rw [h2 z, q2 z]
    · rw [h3 z, q3 z]
  · rw [h.1 c, h'.1 (fun z => c (ec.mpr z))]
theorem pos_cn {C : Nat → Prop} {g : Nat → Int32} : ∀ (n : Nat) (c : Int), CnR C n c → (∀ b, b < n → (C b ↔ 0 < (g b).toInt)) → (posI g n : Int) = c := by
  intro n
  induction n with
  | zero =>
    intro c h _
    have h1 : c = 0 := h
    rw [h1]
    rfl
  | succ n ih =>
    intro c h e
    have e1 := e n (by omega)
    rcases h with ⟨h1, h2⟩ | ⟨h1, h2⟩
    · have h3 := ih _ h2 (fun b hb => e b (by omega))
      simp only [posI]
      rw [if_pos (e1.mp h1)]
      omega
    · have h3 := ih _ h2 (fun b hb => e b (by omega))
      simp only [posI]
      rw [if_neg (fun z => h1 (e1.mpr z))]
      omega
/-- what a DRAW answers -/
def DwR (C : Nat → Prop) (W : Nat → Int → Prop) (N : Nat) (n : Int) (x0 : Int64) (r : Int32) : Prop := (n < 1 → r = -1) ∧ (1 ≤ n → ∃ c : Int, CnR C N c ∧ (c < n → r = -1) ∧ (n ≤ c → ∃ (g0 : Nat → Int32) (s0 : Int32) (g : Nat → Int32) (s : Int32) (x : Int64), (∀ b, b < N → W b (g0 b).toInt) ∧ s0.toInt = sumI g0 N ∧ DrR g0 s0 x0 N n.toNat g s x r))
theorem DwR.cg {C : Nat → Prop} {W W' : Nat → Int → Prop} {N : Nat} {n : Int} {x0 : Int64} {r : Int32} (h : DwR C W N n x0 r) (e : ∀ b, b < N → ∀ w, W b w → W' b w) : DwR C W' N n x0 r := by
  refine ⟨h.1, fun q => ?_⟩
  obtain ⟨c, h1, h2, h3⟩ := h.2 q
  refine ⟨c, h1, h2, fun z => ?_⟩
  obtain ⟨g0, s0, g, s, x, a1, a2, a3⟩ := h3 z
  exact ⟨g0, s0, g, s, x, fun b hb => e b hb _ (a1 b hb), a2, a3⟩
theorem DwR.un {C C' : Nat → Prop} {W W' : Nat → Int → Prop} {N k : Nat} {n : Int} {x0 : Int64} {r r' : Int32} (hk : k ≤ N) (h : DwR C W N n x0 r) (h' : DwR C' W' k n x0 r') (ec : ∀ b, b < k → (C b ↔ C' b)) (eo : ∀ b, k ≤ b → b < N → ¬ C b) (ew : ∀ b, b < k → ∀ w w', W b w → W' b w' → w = w') (wn : ∀ b w, W b w → 0 ≤ w ∧ (C b ↔ 0 < w)) : r = r' := by
  by_cases q : n < 1
  · rw [h.1 q, h'.1 q]
  · obtain ⟨c, h1, h2, h3⟩ := h.2 (by omega)
    obtain ⟨c', q1, q2, q3⟩ := h'.2 (by omega)
    have h4 := CnR.cut h1 hk eo
    have e : c = c' := CnR.un k _ _ h4 q1 ec
    subst e
    by_cases z : c < n
    · rw [h2 z, q2 z]
    · obtain ⟨g0, s0, g, s, x, a1, a2, a3⟩ := h3 (by omega)
      obtain ⟨g0', s0', g', s', x', b1, b2, b3⟩ := q3 (by omega)
      have e0 : ∀ i, i < k → g0 i = g0' i := fun i hi => Int32.toInt_inj.mp (ew i hi _ _ (a1 i (by omega)) (b1 i hi))
      have ez : ∀ i, k ≤ i → i < N → (g0 i).toInt = 0 := fun i h8 h9 => by
        have h7 := wn i _ (a1 i h9)
        have h6 : ¬ 0 < (g0 i).toInt := fun w => eo i h8 h9 (h7.2.mpr w)
        omega
      have ep : ∀ i, i < k → 0 ≤ (g0 i).toInt := fun i hi => (wn i _ (a1 i (by omega))).1
      have sz : ∀ m : Nat, k + m ≤ N → sumI g0 (k + m) = sumI g0 k := by
        intro m
        induction m with
        | zero => exact fun _ => rfl
        | succ m ih =>
          intro hm
          have h8 := ih (by omega)
          have h9 := ez (k + m) (by omega) (by omega)
          show sumI g0 (k + m) + (g0 (k + m)).toInt = sumI g0 k
          omega
      have es : s0 = s0' := Int32.toInt_inj.mp (by
        have h8 := sz (N - k) (by omega)
        rw [show k + (N - k) = N by omega, sumI_cg k e0] at h8
        omega)
      subst es
      exact (DrR.un hk e0 ez ep _ _ _ _ _ _ _ _ _ a3 b3).2.2.2.2.2

/-! ===== the DRAW of the class (pure) ===== -/
def cxK (E : Nat → va_E) (K b : Nat) : Prop := ∃ i, i < K ∧ (xi (E (64 * (i + 1) + 0)) 0).toInt = (b : Int)
def cxC (cf : Nat → Nat) (E : Nat → va_E) : Nat → Prop := cxK E (cf 0)
def MkR (C : Nat → Prop) (g : Nat → Int32) : Prop := ∀ b, b < 16 → (C b → (g b).toInt = 1) ∧ (¬ C b → (g b).toInt = 0)
theorem MkR.start {E : Nat → va_E} {g : Nat → Int32} (h : ∀ j, j < 16 → g j = 0) : MkR (cxK E 0) g := fun b hb => by
  refine ⟨fun ⟨i, hi, _⟩ => absurd hi (Nat.not_lt_zero i), fun _ => ?_⟩
  rw [h b hb]
  rfl
theorem MkR.step {E : Nat → va_E} {K K' : Nat} {g g' : Nat → Int32} {ix : Int32} (h : MkR (cxK E K) g) (e : g' = upd g ix.toNatClampNeg 1) (hi : ix = xi (E (64 * (K + 1) + 0)) 0) (hb : 0 ≤ ix.toInt) (ek : K' = K + 1) : MkR (cxK E K') g' := fun b h16 => by
  subst ek
  subst e
  by_cases q : b = ix.toNatClampNeg
  · refine ⟨fun _ => by rw [q, upd_i]; rfl, fun z => absurd ⟨K, by omega, ?_⟩ z⟩
    rw [← hi, q, tn_]
    omega
  · rw [upd_j q]
    refine ⟨fun ⟨i, h1, h2⟩ => (h b h16).1 ⟨i, ?_, h2⟩, fun z => (h b h16).2 (fun ⟨i, h1, h2⟩ => z ⟨i, by omega, h2⟩)⟩
    by_cases c : i = K
    · exfalso
      subst c
      rw [← hi] at h2
      rw [tn_] at q
      omega
    · omega
theorem CnR.mk {C : Nat → Prop} {g : Nat → Int32} {k k' c c' y : Int32} (h : CnR C k.toNatClampNeg c.toInt) (m : MkR C g) (hk : 0 ≤ k.toInt ∧ k.toInt < 16) (ey : y = g k.toNatClampNeg) (ec : c'.toInt = c.toInt + y.toInt) (ek : k'.toInt = k.toInt + 1) : CnR C k'.toNatClampNeg c'.toInt := by
  have e : k'.toNatClampNeg = k.toNatClampNeg + 1 := by
    rw [tn_, tn_]
    omega
  have hm := m k.toNatClampNeg (by rw [tn_]; omega)
  rw [← ey] at hm
  by_cases p : C k.toNatClampNeg
  · exact h.one p (by rw [ec, hm.1 p]) e
  · exact h.no p (by rw [ec, hm.2 p]; omega) e
theorem mk_01 {C : Nat → Prop} {g : Nat → Int32} {k y : Int32} (m : MkR C g) (hk : 0 ≤ k.toInt ∧ k.toInt < 16) (ey : y = g k.toNatClampNeg) : 0 ≤ y.toInt ∧ y.toInt ≤ 1 := by
  have hm := m k.toNatClampNeg (by rw [tn_]; omega)
  rw [← ey] at hm
  by_cases p : C k.toNatClampNeg
  · have := hm.1 p
    omega
  · have := hm.2 p
    omega
def ftO (E : Nat → va_E) (b : Nat) : Int → Nat → Int → Prop := fun v9 r9 x9 => ∃ m9 : Int32, MdO E r9 b m9 ∧ x9 = tFt (xi (E 44) (16 * r9 + b)) m9 v9
theorem FtO_cg {E E' : Nat → va_E} {b R : Nat} {f : Int} (k : K64 E E') (h3 : xi (E' 43) = xi (E 43)) (h4 : xi (E' 44) = xi (E 44)) (h6 : xi (E' 46) = xi (E 46)) (h : FtR (ctO E' b) (fun v9 r9 x9 => ∃ m9 : Int32, MdO E' r9 b m9 ∧ x9 = tFt (xi (E' 44) (16 * r9 + b)) m9 v9) R f) : FtR (ctO E b) (ftO E b) R f := by
  have e : ctO E' b = ctO E b := by
    unfold ctO
    rw [MdO_cg k h3 h6]
  rw [e, MdO_cg k h3 h6, h4] at h
  exact h
/-- the weight of a BOAT, from what stood there -/
def WgV (cf : Nat → Nat) (E : Nat → va_E) (q x : Int32) (b : Nat) (z : Int32) : Prop := (x.toInt = 0 → z.toInt = 0) ∧ (¬ x.toInt = 0 → ∃ f, FtR (ctO E b) (ftO E b) (cf 2) f ∧ (f = -1 → z.toInt = x.toInt) ∧ (¬ f = -1 → z.toInt = 1 + ab (f - numC cf E (nI b) q q)))
theorem nx_s {g : Nat → Int32} {k k' : Int32} {P : Nat → Int32 → Prop} (h : ∀ b, b < k.toNatClampNeg → P b (g b)) (hv : P k.toNatClampNeg (g k.toNatClampNeg)) (ek : k'.toInt = k.toInt + 1) (h0 : 0 ≤ k.toInt) : ∀ b, b < k'.toNatClampNeg → P b (g b) := fun b hb => by
  by_cases q : b = k.toNatClampNeg
  · rw [q]
    exact hv
  · exact h b (by rw [tn_] at hb q ⊢; omega)
theorem up_hi {g g' G : Nat → Int32} {k k' v : Int32} (h : ∀ b, k.toNatClampNeg ≤ b → g b = G b) (e : g' = upd g k.toNatClampNeg v) (ek : k'.toInt = k.toInt + 1) (h0 : 0 ≤ k.toInt) : ∀ b, k'.toNatClampNeg ≤ b → g' b = G b := fun b hb => by
  subst e
  have e1 : k'.toNatClampNeg = k.toNatClampNeg + 1 := by
    rw [tn_, tn_]
    omega
  rw [upd_j (by omega)]
  exact h b (by omega)
theorem nx_hi {g G : Nat → Int32} {k k' : Int32} (h : ∀ b, k.toNatClampNeg ≤ b → g b = G b) (ek : k'.toInt = k.toInt + 1) (h0 : 0 ≤ k.toInt) : ∀ b, k'.toNatClampNeg ≤ b → g b = G b := fun b hb => by
  have e1 : k'.toNatClampNeg = k.toNatClampNeg + 1 := by
    rw [tn_, tn_]
    omega
  exact h b (by omega)
/-- weights by what was told -/
def WdC (cf : Nat → Nat) (E : Nat → va_E) (q : Int32) (b : Nat) (w : Int) : Prop := WgP (cxC cf E b) (FtR (ctC cf E b q) (ftC cf E b q) (cf 2)) (numC cf E (nI b) q q) w
theorem cxC_k {cf : Nat → Nat} {E E' : Nat → va_E} (k : K64 E E') : cxC cf E' = cxC cf E := funext (fun b => by
  unfold cxC cxK
  exact propext ⟨fun ⟨i, h1, h2⟩ => ⟨i, h1, by rw [← k (64 * (i + 1) + 0) (by omega) 0]; exact h2⟩, fun ⟨i, h1, h2⟩ => ⟨i, h1, by rw [k (64 * (i + 1) + 0) (by omega) 0]; exact h2⟩⟩)
theorem Wg_c {cf : Nat → Nat} {E u : Nat → va_E} {G : Nat → Int32} {q z : Int32} {b : Nat} (k : K64 E u) (hm : MkR (cxC cf E) G) (hb : b < 16) (h20 : cf 2 ≤ 20) (l : ∀ r, r < cf 2 → ∀ o, o < 16 → LdB cf E u (nI r) q o) (h : WgV cf u q (G b) b z) : WdC cf E q b z.toInt := by
  have m := hm b hb
  refine ⟨fun c => h.1 (m.2 c), fun c => ?_⟩
  have g1 := m.1 c
  obtain ⟨f, h1, h2, h3⟩ := h.2 (by omega)
  refine ⟨f, FtR.c h1 k hb h20 l, fun z => by rw [h2 z, g1], fun z => ?_⟩
  rw [h3 z, numC_k k]
theorem Wd_pos {cf : Nat → Nat} {E : Nat → va_E} {g : Nat → Int32} {q : Int32} {c : Int} (hw : ∀ b, b < 16 → WdC cf E q b (g b).toInt) (hc : CnR (cxC cf E) 16 c) : (posI g 16 : Int) = c := pos_cn 16 c hc (fun b hb => (hw b hb).nn.2)

