

/-! ===== the class's TAPE in a world ===== -/
def tT (E : Nat → va_E) : Nat → Int := fun j => (xi (E 21) j).toInt
def tN (E : Nat → va_E) : Nat := (xi (E 2) 1).toNatClampNeg
def tA (E : Nat → va_E) : Nat := (xi (E 2) 2).toNatClampNeg
def tF (E : Nat → va_E) : Int := (xi (E 2) 3).toInt
def TS (E E' : Nat → va_E) : Prop := tT E' = tT E ∧ tN E' = tN E
theorem TS.rf {E : Nat → va_E} : TS E E := ⟨rfl, rfl⟩
theorem TS.tr {E E1 E2 : Nat → va_E} (h : TS E E1) (h1 : TS E1 E2) : TS E E2 := ⟨h1.1.trans h.1, h1.2.trans h.2⟩
theorem TS.kp {w : Nat → Nat → Bool} {E E' : Nat → va_E} (hk : Kp w E E') (h1 : ∀ j, w 21 j = false) (h2 : w 2 1 = false) : TS E E' := ⟨funext (fun j => congrArg Int32.toInt (congrArg vi (hk 21 j (h1 j)))), congrArg Int32.toNatClampNeg (congrArg vi (hk 2 1 h2))⟩
/-- what a reader comes to -/
def Out {α : Type} (r : PR α) (E : Nat → va_E) : Prop := match r with
  | Sum.inl i => tF E = (i : Int)
  | Sum.inr (a, _) => tF E = -1 ∧ tA E = a
def RdC {α : Type} (P : (Nat → Int) → Nat → Nat → PR α) (E E' : Nat → va_E) : Prop := TS E E' ∧ (¬ tF E = -1 → tF E' = tF E) ∧ (tF E = -1 → Out (P (tT E) (tN E) (tA E)) E')
def RdN (E E' : Nat → va_E) (r : Int32) : Prop := TS E E' ∧ tF E' = tF E ∧ (¬ tF E = -1 → r.toInt = -2 ∧ tA E' = tA E) ∧ (tF E = -1 → r.toInt = pk (tT E) (tN E) (tA E) ∧ tA E' = sk (tT E) (tN E) (tA E))
def RdF (E E' : Nat → va_E) : Prop := TS E E' ∧ (¬ tF E = -1 → tF E' = tF E) ∧ (tF E = -1 → tF E' = (tA E : Int))
def AtP (E E' : Nat → va_E) : Prop := TS E E' ∧ tF E' = tF E ∧ tA E' = tA E + 1
def KS (E E' : Nat → va_E) : Prop := TS E E' ∧ tF E' = tF E ∧ tA E' = tA E
theorem KS.rf {E : Nat → va_E} : KS E E := ⟨TS.rf, rfl, rfl⟩
theorem KS.tr {E E1 E2 : Nat → va_E} (h : KS E E1) (h1 : KS E1 E2) : KS E E2 := ⟨h.1.tr h1.1, h1.2.1.trans h.2.1, h1.2.2.trans h.2.2⟩
theorem KS.kp {w : Nat → Nat → Bool} {E E' : Nat → va_E} (hk : Kp w E E') (h1 : ∀ j, w 21 j = false) (h2 : w 2 1 = false) (h3 : w 2 2 = false) (h4 : w 2 3 = false) : KS E E' := ⟨TS.kp hk h1 h2, congrArg Int32.toInt (congrArg vi (hk 2 3 h4)), congrArg Int32.toNatClampNeg (congrArg vi (hk 2 2 h3))⟩
theorem KS.pw {o j : Nat} {E E' : Nat → va_E} (hk : ∀ o9 j9, ¬ (o9 = o ∧ j9 = j) → xv (E' o9) j9 = xv (E o9) j9) (h1 : ¬ o = 21) (h2 : o = 2 → ¬ j = 1 ∧ ¬ j = 2 ∧ ¬ j = 3) : KS E E' := ⟨⟨funext (fun k => congrArg Int32.toInt (congrArg vi (hk 21 k (fun q => h1 q.1.symm)))), congrArg Int32.toNatClampNeg (congrArg vi (hk 2 1 (fun q => (h2 q.1.symm).1 q.2.symm)))⟩, congrArg Int32.toInt (congrArg vi (hk 2 3 (fun q => (h2 q.1.symm).2.2 q.2.symm))), congrArg Int32.toNatClampNeg (congrArg vi (hk 2 2 (fun q => (h2 q.1.symm).2.1 q.2.symm)))⟩
theorem AtP.pw {E E' : Nat → va_E} {x y : Int32} (hk : ∀ o9 j9, ¬ (o9 = 2 ∧ j9 = 2) → xv (E' o9) j9 = xv (E o9) j9) (h0 : xi (E 2) 2 = x) (h1 : xi (E' 2) 2 = y) (t : y.toInt = x.toInt + 1) (hx : 0 ≤ x.toInt) : AtP E E' := ⟨⟨funext (fun k => congrArg Int32.toInt (congrArg vi (hk 21 k (by omega)))), congrArg Int32.toNatClampNeg (congrArg vi (hk 2 1 (by omega)))⟩, congrArg Int32.toInt (congrArg vi (hk 2 3 (by omega))), by
  unfold tA
  rw [h0, h1, tn_, tn_]
  omega⟩
theorem Out.andThen {α β : Type} {r : PR α} {f : Nat → α → PR β} {E1 E2 : Nat → va_E} (h1 : Out r E1) (h2 : ¬ tF E1 = -1 → tF E2 = tF E1) (h3 : tF E1 = -1 → ∀ c, r = .good (tA E1) c → Out (f (tA E1) c) E2) : Out (r.andThen f) E2 := by
  rcases r with i | ⟨a, c⟩
  · 
    have h4 : tF E1 = (i : Int) := h1
    exact (h2 (by omega)).trans h4
  · 
    obtain ⟨h4, rfl⟩ : tF E1 = -1 ∧ tA E1 = a := h1
    exact h3 h4 c rfl
theorem Out.f {α : Type} {r : PR α} {E : Nat → va_E} (h : Out r E) (hf : tF E = -1) : ∃ c, r = .good (tA E) c := by
  rcases r with i | ⟨a, c⟩
  · 
    have h4 : tF E = (i : Int) := h
    exfalso
    omega
  · 
    obtain ⟨_, rfl⟩ : tF E = -1 ∧ tA E = a := h
    exact ⟨c, rfl⟩
theorem Out.kf {α : Type} {r : PR α} {E E' : Nat → va_E} (h : Out r E) (hf : tF E' = tF E) (ha : tF E = -1 → tA E' = tA E) : Out r E' := by
  rcases r with i | ⟨a, c⟩
  · exact hf.trans h
  · 
    obtain ⟨h4, h5⟩ : tF E = -1 ∧ tA E = a := h
    exact ⟨hf.trans h4, (ha h4).trans h5⟩
/-- one reader behind another -/
theorem RdC.andThen {α β γ : Type} {P : (Nat → Int) → Nat → Nat → PR α} {Q : (Nat → Int) → Nat → Nat → PR γ} {R : (Nat → Int) → Nat → Nat → PR β} {f : (Nat → Int) → Nat → Nat → α → PR β} {E E1 E2 : Nat → va_E} (h : RdC P E E1) (h1 : RdC Q E1 E2) (hR : ∀ t n a, R t n a = (P t n a).andThen (f t n)) (hQ : ∀ t n a c E9, Out (Q t n a) E9 → Out (f t n a c) E9) : RdC R E E2 := ⟨h.1.tr h1.1, fun q => (h1.2.1 (by rw [h.2.1 q]; exact q)).trans (h.2.1 q), fun q => by
  rw [hR]
  refine Out.andThen (h.2.2 q) h1.2.1 (fun q1 c _ => ?_)
  have h5 := h1.2.2 q1
  rw [h.1.1, h.1.2] at h5
  exact hQ _ _ _ c _ h5⟩
theorem RdC.ks {α : Type} {P : (Nat → Int) → Nat → Nat → PR α} {E E1 E2 : Nat → va_E} (h : RdC P E E1) (h1 : KS E1 E2) : RdC P E E2 := ⟨h.1.tr h1.1, fun q => h1.2.1.trans (h.2.1 q), fun q => (h.2.2 q).kf h1.2.1 (fun _ => h1.2.2)⟩
theorem RdC.sk0 {α : Type} {P : (Nat → Int) → Nat → Nat → PR α} {E E1 E2 : Nat → va_E} (h1 : KS E E1) (h : RdC P E1 E2) : RdC P E E2 := ⟨h1.1.tr h.1, fun q => (h.2.1 (by rw [h1.2.1]; exact q)).trans h1.2.1, fun q => by
  have h5 := h.2.2 (h1.2.1.trans q)
  rw [h1.1.1, h1.1.2, h1.2.2] at h5
  exact h5⟩
theorem RdC.cg {α β : Type} {P : (Nat → Int) → Nat → Nat → PR α} {R : (Nat → Int) → Nat → Nat → PR β} {E E' : Nat → va_E} (h : RdC P E E') (hR : ∀ E9, Out (P (tT E) (tN E) (tA E)) E9 → Out (R (tT E) (tN E) (tA E)) E9) : RdC R E E' := ⟨h.1, h.2.1, fun q => hR _ (h.2.2 q)⟩
/-- what stands behind a look, a place on -/
theorem RdN.rd {α β : Type} {P : (Nat → Int) → Nat → Nat → PR α} {R : (Nat → Int) → Nat → Nat → PR β} {E E1 E2 : Nat → va_E} {r : Int32} (hN : RdN E E1 r) (h : RdC P E1 E2) (hR : tF E = -1 → r.toInt = pk (tT E) (tN E) (tA E) → ∀ E9, Out (P (tT E) (tN E) (sk (tT E) (tN E) (tA E))) E9 → Out (R (tT E) (tN E) (tA E)) E9) : RdC R E E2 := ⟨hN.1.tr h.1, fun q => (h.2.1 (by rw [hN.2.1]; exact q)).trans hN.2.1, fun q => by
  have h5 := h.2.2 (hN.2.1.trans q)
  rw [hN.1.1, hN.1.2, (hN.2.2.2 q).2] at h5
  exact hR q (hN.2.2.2 q).1 _ h5⟩
theorem RdN.at {α β : Type} {P : (Nat → Int) → Nat → Nat → PR α} {R : (Nat → Int) → Nat → Nat → PR β} {E E1 E2 E3 : Nat → va_E} {r : Int32} (hN : RdN E E1 r) (ha : AtP E1 E2) (h : RdC P E2 E3) (hR : tF E = -1 → r.toInt = pk (tT E) (tN E) (tA E) → ∀ E9, Out (P (tT E) (tN E) (sk (tT E) (tN E) (tA E) + 1)) E9 → Out (R (tT E) (tN E) (tA E)) E9) : RdC R E E3 := ⟨(hN.1.tr ha.1).tr h.1, fun q => (h.2.1 (by rw [ha.2.1, hN.2.1]; exact q)).trans (ha.2.1.trans hN.2.1), fun q => by
  have h5 := h.2.2 (ha.2.1.trans (hN.2.1.trans q))
  rw [ha.1.1, ha.1.2, hN.1.1, hN.1.2, ha.2.2, (hN.2.2.2 q).2] at h5
  exact hR q (hN.2.2.2 q).1 _ h5⟩
/-- a place on alone -/
theorem RdN.at0 {β : Type} {R : (Nat → Int) → Nat → Nat → PR β} {E E1 E2 : Nat → va_E} {r : Int32} (hN : RdN E E1 r) (ha : AtP E1 E2) (hR : tF E = -1 → r.toInt = pk (tT E) (tN E) (tA E) → ∃ c, R (tT E) (tN E) (tA E) = .good (sk (tT E) (tN E) (tA E) + 1) c) : RdC R E E2 := ⟨hN.1.tr ha.1, fun q => ha.2.1.trans hN.2.1, fun q => by
  obtain ⟨c, hc⟩ := hR q (hN.2.2.2 q).1
  rw [hc]
  exact ⟨ha.2.1.trans (hN.2.1.trans q), by rw [ha.2.2, (hN.2.2.2 q).2]⟩⟩
theorem RdN.f {β : Type} {R : (Nat → Int) → Nat → Nat → PR β} {E E1 E2 : Nat → va_E} {r : Int32} (hN : RdN E E1 r) (hf : RdF E1 E2) (hR : tF E = -1 → r.toInt = pk (tT E) (tN E) (tA E) → R (tT E) (tN E) (tA E) = .bad (sk (tT E) (tN E) (tA E))) : RdC R E E2 := ⟨hN.1.tr hf.1, fun q => (hf.2.1 (by rw [hN.2.1]; exact q)).trans hN.2.1, fun q => by
  rw [hR q (hN.2.2.2 q).1]
  show tF E2 = _
  rw [hf.2.2 (hN.2.1.trans q), (hN.2.2.2 q).2]⟩
theorem RdN.nf {E E1 : Nat → va_E} {r : Int32} (hN : RdN E E1 r) (h : 0 ≤ r.toInt) : tF E = -1 := by
  by_cases q : tF E = -1
  · exact q
  · have := (hN.2.2.1 q).1
    omega
/-! ===== loops ===== -/
def Lp {α : Type} (P : (Nat → Int) → Nat → Nat → PR α) (K : (Nat → Int) → Nat → Nat → α → PR α) (i : Int) (E E1 : Nat → va_E) : Prop := TS E E1 ∧ (¬ tF E = -1 → tF E1 = tF E) ∧ (tF E = -1 → (¬ tF E1 = -1 → Out (P (tT E) (tN E) (tA E)) E1) ∧ (tF E1 = -1 → i ≤ (tA E1 : Int) ∧ ∃ c, P (tT E) (tN E) (tA E) = K (tT E) (tN E) (tA E1) c))
theorem Lp.start {α : Type} {P P0 : (Nat → Int) → Nat → Nat → PR α} {K : (Nat → Int) → Nat → Nat → α → PR α} {i : Int} {E E1 : Nat → va_E} (h : RdC P0 E E1) (hP : ∀ t n a, P t n a = (P0 t n a).andThen (K t n)) (hi : i ≤ 0) : Lp P K i E E1 := ⟨h.1, h.2.1, fun q => ⟨fun q1 => by
  have h5 := h.2.2 q
  rw [hP]
  exact Out.andThen h5 (fun _ => rfl) (fun q2 => absurd q2 q1), fun q1 => by
  obtain ⟨c, hc⟩ := (h.2.2 q).f q1
  exact ⟨by omega, c, by rw [hP, hc]; rfl⟩⟩⟩
theorem Lp.step {α : Type} {P P0 : (Nat → Int) → Nat → Nat → PR α} {K : (Nat → Int) → Nat → Nat → α → PR α} {op : Int → Bool} {cb : α → Int → α → α} {i j : Int} {r : Int32} {E E1 E2 E3 E4 E5 : Nat → va_E} (hl : Lp P K i E E1) (hN : RdN E1 E2 r) (ho : op r.toInt = true) (h0 : 0 ≤ r.toInt) (ha : AtP E2 E3) (hr : RdC P0 E3 E4) (hk : KS E4 E5) (hij : j = i + 1) (hm : ∀ t n, Mono (P0 t n)) (hK : ∀ t n a c, op (pk t n a) = true → K t n a c = (P0 t n (sk t n a + 1)).andThen (fun a2 c2 => K t n a2 (cb c (pk t n a) c2))) : Lp P K j E E5 := by
  have f1 := hN.nf h0
  have f3 : tF E3 = -1 := ha.2.1.trans (hN.2.1.trans f1)
  obtain ⟨r1, r2⟩ := hN.2.2.2 f1
  refine ⟨hl.1.tr ((hN.1.tr ha.1).tr (hr.1.tr hk.1)), fun q => absurd ((hl.2.1 q).symm.trans f1) q, fun q => ?_⟩
  obtain ⟨hi, c, hc⟩ := (hl.2.2 q).2 f1
  have h5 := hr.2.2 f3
  rw [ha.1.1, ha.1.2, hN.1.1, hN.1.2, ha.2.2, r2, hl.1.1, hl.1.2] at h5
  rw [r1, hl.1.1, hl.1.2] at ho
  rw [hc, hK _ _ _ _ ho]
  refine ⟨fun q5 => ?_, fun q5 => ?_⟩
  · refine Out.andThen h5 (fun _ => hk.2.1) (fun q6 => absurd (hk.2.1.trans q6) q5)
  · have f4 : tF E4 = -1 := hk.2.1.symm.trans q5
    obtain ⟨c2, hc2⟩ := h5.f f4
    have h7 := hm _ _ _ _ _ hc2
    have h8 := sk_ge (tT E) (tN E) (tA E1)
    refine ⟨by rw [hk.2.2]; omega, cb c (pk (tT E) (tN E) (tA E1)) c2, ?_⟩
    rw [hc2, hk.2.2]
    rfl
theorem Lp.exit {α : Type} {P : (Nat → Int) → Nat → Nat → PR α} {K : (Nat → Int) → Nat → Nat → α → PR α} {op : Int → Bool} {i : Int} {r : Int32} {E E1 E2 : Nat → va_E} (hl : Lp P K i E E1) (hN : RdN E1 E2 r) (ho : ¬ op r.toInt = true) (hK : ∀ t n a c, ¬ op (pk t n a) = true → K t n a c = .good (sk t n a) c) : RdC P E E2 := ⟨hl.1.tr hN.1, fun q => hN.2.1.trans (hl.2.1 q), fun q => by
  by_cases f1 : tF E1 = -1
  · obtain ⟨_, c, hc⟩ := (hl.2.2 q).2 f1
    obtain ⟨r1, r2⟩ := hN.2.2.2 f1
    rw [r1, hl.1.1, hl.1.2] at ho
    rw [hc, hK _ _ _ _ ho]
    exact ⟨hN.2.1.trans f1, by rw [r2, hl.1.1, hl.1.2]⟩
  · exact ((hl.2.2 q).1 f1).kf hN.2.1 (fun q1 => absurd q1 f1)⟩
theorem Lp.fin {α : Type} {P : (Nat → Int) → Nat → Nat → PR α} {K : (Nat → Int) → Nat → Nat → α → PR α} {op : Int → Bool} {i : Int} {E E1 : Nat → va_E} (hl : Lp P K i E E1) (hn : (tN E : Int) ≤ i) (hop : op (-1) = false) (hK : ∀ t n a c, ¬ op (pk t n a) = true → K t n a c = .good (sk t n a) c) : RdC P E E1 := ⟨hl.1, hl.2.1, fun q => by
  by_cases f1 : tF E1 = -1
  · obtain ⟨h8, c, hc⟩ := (hl.2.2 q).2 f1
    have h9 : tN E ≤ tA E1 := by omega
    rw [hc, hK _ _ _ _ (by rw [pk_ge h9, hop]; decide)]
    exact ⟨f1, (sk_0 (by omega)).symm⟩
  · exact (hl.2.2 q).1 f1⟩

