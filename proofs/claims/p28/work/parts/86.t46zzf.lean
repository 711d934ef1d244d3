

/-! ===== SUSPECTED of the reference ===== -/
theorem mnq {s D q : Int64} {d : Int32} (ed : D = d.toInt64) (eq : q = s / D) (hs : 0 ≤ s.toInt ∧ s.toInt ≤ 400000000 * d.toInt) (hd : 0 < d.toInt ∧ d.toInt ≤ 20) : q.toInt = s.toInt / d.toInt ∧ 0 ≤ q.toInt ∧ q.toInt ≤ 400000000 := by
  have hD : D.toInt = d.toInt := by rw [ed, l_of]
  have h1 : q.toInt = s.toInt / d.toInt := by
    rw [← hD]
    exact l_div eq ⟨hs.1, by omega⟩ (by omega)
  have h2 : 0 ≤ s.toInt / d.toInt := Int.ediv_nonneg hs.1 (by omega)
  have h3 : s.toInt / d.toInt ≤ 400000000 := Int.ediv_le_of_le_mul hd.1 hs.2
  omega
theorem jp_of {s t D D' q q' x : Int64} {d d' r : Int32} (ed : D = d.toInt64) (eq : q = s / D) (ed' : D' = d'.toInt64) (eq' : q' = t / D') (ex : x = q - q') (er : r = x.toInt32) (hs : 0 ≤ s.toInt ∧ s.toInt ≤ 400000000 * d.toInt) (hd : 0 < d.toInt ∧ d.toInt ≤ 20) (ht : 0 ≤ t.toInt ∧ t.toInt ≤ 400000000 * d'.toInt) (hd' : 0 < d'.toInt ∧ d'.toInt ≤ 20) : r.toInt = s.toInt / d.toInt - t.toInt / d'.toInt ∧ -400000000 ≤ r.toInt ∧ r.toInt ≤ 400000000 := by
  obtain ⟨a1, a2, a3⟩ := mnq ed eq hs hd
  obtain ⟨b1, b2, b3⟩ := mnq ed' eq' ht hd'
  have hx : x.toInt = q.toInt - q'.toInt := l_sub ex (by omega) (by omega)
  have h4 : r.toInt = x.toInt := l_i er (by omega)
  omega
theorem jpG_of {g : Nat → Int} {k n : Nat} {s t d d' r : Int} (hk : 0 < k) (h : k < n) (hs : s = sumF (fun i => g (k + i)) (n - k)) (ht : t = sumF g k) (hd : d = ((n - k : Nat) : Int)) (hd' : d' = ((k : Nat) : Int)) (hr : r = s / d - t / d') : r = jpG g k n := by
  have e1 : s / d = mnG g k n := mnG_of h hs hd rfl
  have e2 : t / d' = mnG g 0 k := mnG_of hk (ht.trans (sumF_cg (k - 0) (fun i _ => by rw [Nat.zero_add]))) hd' rfl
  unfold jpG
  rw [hr, e1, e2]
theorem rt_of {A B C D Q : Int64} {m w t r : Int32} (eA : A.toInt = 1000) (eB : B = m.toInt64) (eC : C = A * B) (eD : D = w.toInt64) (eQ : Q = C / D) (er : r = Q.toInt32) (hm : 0 ≤ m.toInt ∧ m.toInt ≤ 400000) (hw : w.toInt = max 1 t.toInt) : r.toInt = rtI m t := by
  have hB : B.toInt = m.toInt := by rw [eB, l_of]
  have hC : C.toInt = 1000 * m.toInt := by
    rw [← hB, ← eA]
    exact l_mul eC (by rw [eA, hB]; omega) (by rw [eA, hB]; omega)
  have hD : D.toInt = max 1 t.toInt := by rw [eD, l_of, hw]
  have hQ : Q.toInt = rtI m t := by
    unfold rtI
    rw [← hC, ← hD]
    exact l_div eQ (by omega) (by omega)
  have h9 := rtI_in (t := t) hm
  have h8 : r.toInt = Q.toInt := l_i er (by omega)
  omega
/-- what is listed while the days go by -/
def LsD (P : Nat → Prop) (day : Nat → Int) (V : Nat → Int → Prop) (R : Nat) (d : Int) (k n : Nat) (c g : Nat → Int32) : Prop := Enm (fun r => P r ∧ (day r < d ∨ (day r = d ∧ r < k))) R (fun i => (c i).toNatClampNeg) n ∧ Srt day (fun i => (c i).toNatClampNeg) n ∧ ∀ i, i < n → V (c i).toNatClampNeg (g i).toInt
theorem LsD.start {P : Nat → Prop} {day : Nat → Int} {V : Nat → Int → Prop} {R n : Nat} {d : Int} {c g : Nat → Int32} (hd : ∀ r, r < R → d ≤ day r) (hn : n = 0) : LsD P day V R d 0 n c g := by
  subst hn
  refine ⟨⟨fun i hi => absurd hi (Nat.not_lt_zero i), fun r hr h => ?_, fun i j _ hj => absurd hj (Nat.not_lt_zero j)⟩, fun i j _ hj => absurd hj (Nat.not_lt_zero j), fun i hi => absurd hi (Nat.not_lt_zero i)⟩
  have h1 := hd r hr
  have h2 := h.2
  omega
theorem LsD.day {P : Nat → Prop} {day : Nat → Int} {V : Nat → Int → Prop} {R k n : Nat} {d d' : Int} {c g : Nat → Int32} (h : LsD P day V R d k n c g) (hk : k = R) (e : d' = d + 1) : LsD P day V R d' 0 n c g := by
  subst hk
  subst e
  refine ⟨h.1.cg (fun r hr => and_congr Iff.rfl ?_), h.2⟩
  omega
theorem LsD.no {P : Nat → Prop} {day : Nat → Int} {V : Nat → Int → Prop} {R k k' n : Nat} {d : Int} {c g : Nat → Int32} (h : LsD P day V R d k n c g) (hn : ¬ (P k ∧ day k = d)) (e : k' = k + 1) : LsD P day V R d k' n c g := by
  subst e
  refine ⟨h.1.cg (fun r hr => ?_), h.2⟩
  constructor
  · rintro ⟨h1, h2⟩
    exact ⟨h1, by omega⟩
  · rintro ⟨h1, h2⟩
    refine ⟨h1, ?_⟩
    by_cases q : r = k
    · subst q
      have h3 : ¬ day r = d := fun z => hn ⟨h1, z⟩
      omega
    · omega
theorem LsD.yes {P : Nat → Prop} {day : Nat → Int} {V : Nat → Int → Prop} {R k k' n n' i j : Nat} {d : Int} {c g c' g' : Nat → Int32} {x y : Int32} (h : LsD P day V R d k n c g) (hP : P k) (hd : day k = d) (hk : k < R) (es : c' = upd c i x) (em : g' = upd g j y) (hi : i = n) (hj : j = n) (hx : x.toNatClampNeg = k) (hv : V k y.toInt) (en : n' = n + 1) (e : k' = k + 1) : LsD P day V R d k' n' c' g' := by
  rw [hi] at es
  rw [hj] at em
  subst e
  subst en
  subst es
  subst em
  obtain ⟨h1, h2, h3⟩ := h
  have e1 : ∀ q, q < n → (upd c n x q).toNatClampNeg = (c q).toNatClampNeg := fun q hq => by rw [upd_j (show ¬ q = n by omega)]
  have e2 : (upd c n x n).toNatClampNeg = k := by rw [upd_i, hx]
  have hl : ∀ q, q < n → kLt day (c q).toNatClampNeg k := fun q hq => by
    have h9 : day (c q).toNatClampNeg < d ∨ (day (c q).toNatClampNeg = d ∧ (c q).toNatClampNeg < k) := (h1.1 q hq).2.2
    show day (c q).toNatClampNeg < day k ∨ (day (c q).toNatClampNeg = day k ∧ (c q).toNatClampNeg < k)
    omega
  have hno : ¬ (P k ∧ (day k < d ∨ (day k = d ∧ k < k))) := fun z => by
    have h9 := z.2
    omega
  have hiff : ∀ r, r < R → ((P r ∧ (day r < d ∨ (day r = d ∧ r < k + 1))) ↔ ((P r ∧ (day r < d ∨ (day r = d ∧ r < k))) ∨ r = k)) := fun r hr => by
    constructor
    · rintro ⟨q1, q2⟩
      by_cases q : r = k
      · exact Or.inr q
      · exact Or.inl ⟨q1, by omega⟩
    · rintro (⟨q1, q2⟩ | q)
      · exact ⟨q1, by omega⟩
      · subst q
        exact ⟨hP, by omega⟩
  obtain ⟨a1, a2⟩ := Enm.app (P := fun r => P r ∧ (day r < d ∨ (day r = d ∧ r < k))) (P' := fun r => P r ∧ (day r < d ∨ (day r = d ∧ r < k + 1))) (c := fun i => (c i).toNatClampNeg) (c' := fun i => (upd c n x i).toNatClampNeg) h1 h2 hk hno hl hiff e1 e2
  refine ⟨a1, a2, fun q hq => ?_⟩
  by_cases z : q = n
  · rw [z, e2, upd_i]
    exact hv
  · rw [e1 q (by omega), upd_j z]
    exact h3 q (by omega)
def dyM (E : Nat → va_E) (r : Nat) : Int := (xi (E 13) r).toInt
def ctM (E : Nat → va_E) (b q : Int32) (r : Nat) : Prop := ∃ x : Int32, MdM E b q r x ∧ ¬ x.toInt = -1000000000
def rtM (E : Nat → va_E) (b q : Int32) (r : Nat) (x : Int) : Prop := ∃ m : Int32, MdM E b q r m ∧ ¬ m.toInt = -1000000000 ∧ x = rtI m (tmB E (nI r) b q)
theorem rtM_in {cT : Nat → ClassId} {ad : Nat → Nat} {E : Nat → va_E} {b q : Int32} {r : Nat} {x : Int} (hI : IX cT shM spM 72 ad E) (h : rtM E b q r x) : 0 ≤ x ∧ x ≤ 400000000 := by
  obtain ⟨m, h1, h2, h3⟩ := h
  rw [h3]
  exact rtI_in ((MdM_in hI h1).resolve_left h2)
theorem LsD.bd {cT : Nat → ClassId} {ad : Nat → Nat} {E : Nat → va_E} {P : Nat → Prop} {day : Nat → Int} {b q : Int32} {R k n : Nat} {d : Int} {c g : Nat → Int32} (h : LsD P day (rtM E b q) R d k n c g) (hI : IX cT shM spM 72 ad E) {i : Nat} (hi : i < n) : 0 ≤ (g i).toInt ∧ (g i).toInt ≤ 400000000 := rtM_in hI (h.2.2 i hi)
/-- the best so far, with what is held -/
def BsM (J : Nat → Int) (c : Nat → Int32) (k : Nat) (best jump : Int) : Prop := (best = -1 ∧ k = 2) ∨ ∃ f, BsF J k f ∧ best = (((c f).toNatClampNeg : Nat) : Int) ∧ jump = J f
theorem BsM.one {J : Nat → Int} {c : Nat → Int32} {k k' : Nat} {best jump best' jump' : Int} (h : BsM J c k best jump) (hb : best = -1) (e : k' = k + 1) (eb : best' = (((c k).toNatClampNeg : Nat) : Int)) (ej : jump' = J k) : BsM J c k' best' jump' := by
  rcases h with ⟨-, h2⟩ | ⟨f, h1, h2, h3⟩
  · exact Or.inr ⟨k, BsF.start (by omega) h2, eb, ej⟩
  · omega
theorem BsM.yes {J : Nat → Int} {c : Nat → Int32} {k k' : Nat} {best jump best' jump' : Int} (h : BsM J c k best jump) (hb : ¬ best = -1) (hj : ab jump < ab (J k)) (e : k' = k + 1) (eb : best' = (((c k).toNatClampNeg : Nat) : Int)) (ej : jump' = J k) : BsM J c k' best' jump' := by
  rcases h with ⟨h1, -⟩ | ⟨f, h1, h2, h3⟩
  · exact absurd h1 hb
  · exact Or.inr ⟨k, h1.yes (by rw [← h3]; exact hj) e, eb, ej⟩
theorem BsM.no {J : Nat → Int} {c : Nat → Int32} {k k' : Nat} {best jump : Int} (h : BsM J c k best jump) (hb : ¬ best = -1) (hj : ab (J k) ≤ ab jump) (e : k' = k + 1) : BsM J c k' best jump := by
  rcases h with ⟨h1, -⟩ | ⟨f, h1, h2, h3⟩
  · exact absurd h1 hb
  · exact Or.inr ⟨f, h1.no (by rw [← h3]; exact hj) e, h2, h3⟩
theorem LsD.sp {P P' : Nat → Prop} {day : Nat → Int} {V : Nat → Int → Prop} {R n k : Nat} {d best jump : Int} {c g : Nat → Int32} (h : LsD P day V R d 0 n c g) (hP : ∀ r, r < R → (P' r ↔ P r ∧ day r < d)) (hk : k = 2 ∨ k + 1 ≤ n) (hx : n < k + 2) (hb : BsM (fun k => jpG (fun i => (g i).toInt) k n) c k best jump) : (best = -1 → ∀ w, SpR P' day V R w (-1000000000)) ∧ (¬ best = -1 → ∀ w, SpR P' day V R w (if w = 0 then best else jump)) := by
  have h1 : Enm P' R (fun i => (c i).toNatClampNeg) n := h.1.cg (fun r hr => by
    rw [hP r hr]
    refine and_congr Iff.rfl ?_
    omega)
  refine ⟨fun z w => ?_, fun z w => ?_⟩
  · rcases hb with ⟨-, k2⟩ | ⟨f, -, e, -⟩
    · exact ⟨n, _, fun i => (g i).toInt, h1, h.2.1, h.2.2, fun _ => rfl, fun q => by omega⟩
    · omega
  · rcases hb with ⟨k1, -⟩ | ⟨f, b1, b2, b3⟩
    · exact absurd k1 z
    · have hf := b1.1
      have ek : k = n - 1 := by omega
      subst ek
      refine ⟨n, fun i => (c i).toNatClampNeg, fun i => (g i).toInt, h1, h.2.1, h.2.2, fun q => by omega, fun _ => ⟨f, b1, ?_⟩⟩
      rw [b2, b3]
theorem ctM_kd {E E' : Nat → va_E} {b q : Int32} (k : KdN E E') (h8 : xi (E' 0) 8 = xi (E 0) 8) : ctM E' b q = ctM E b q := funext (fun r => by
  have e : ∀ x, MdM E' b q r x = MdM E b q r x := fun x => propext (MdM_kd k h8)
  unfold ctM
  simp only [e])
theorem rtM_kd {E E' : Nat → va_E} {b q : Int32} (k : KdN E E') (h8 : xi (E' 0) 8 = xi (E 0) 8) : rtM E' b q = rtM E b q := funext (fun r => funext (fun x => by
  have e : ∀ x, MdM E' b q r x = MdM E b q r x := fun x => propext (MdM_kd k h8)
  unfold rtM
  simp only [e, k.tm]))
theorem dyM_kd {E E' : Nat → va_E} (h : xi (E' 13) = xi (E 13)) : dyM E' = dyM E := funext (fun r => by
  unfold dyM
  rw [h])
theorem SpR.eq {P : Nat → Prop} {day : Nat → Int} {V : Nat → Int → Prop} {R : Nat} {what r r' : Int} (h : SpR P day V R what r) (e : r' = r) : SpR P day V R what r' := by
  rw [e]
  exact h

