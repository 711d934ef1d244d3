

/-! ===== POINTS of the reference (pure) ===== -/
def redM (E : Nat → va_E) (race boat q : Int) : Prop := ∃ k : Nat, (k : Int) < (xi (E 0) 48).toInt ∧ (xi (E 29) k).toInt = race ∧ (xi (E 30) k).toInt = boat ∧ (xi (E 31) k).toInt ≤ q
def PpM (E : Nat → va_E) (race boat q : Int32) (p : Int) : Prop := ∃ c pl e f : Int, CdM E race boat q c ∧ (c = 0 → PlS (fun o => CdM E race (nI o) q 0) (tmM E race q) (xi (E 0) 8).toNatClampNeg boat.toNatClampNeg pl) ∧ (¬ c = 0 → pl = 0) ∧ CnR (fun o => entMd E race.toInt (o : Int) q.toInt) (xi (E 0) 8).toNatClampNeg e ∧ CnR (fun o => CdM E race (nI o) q 0) (xi (E 0) 8).toNatClampNeg f ∧ p = clamp (wML (ptL c pl e f) E 112 (lawM E (xi (E 13) race.toNatClampNeg) q)).toInt
theorem KdN.law {E E' : Nat → va_E} (h : KdN E E') (day q : Int32) : lawM E' day q = lawM E day q := by
  unfold lawM
  rw [h.rw_ 10 (by decide), h.rw_ 11 (by decide), h.2.2.1]
theorem KdN.wml {E E' : Nat → va_E} (h : KdN E E') (L : Nat → Int32) (lab : Int) (k : Int32) : wML L E' lab k = wML L E lab k := wML_cg (h.1 8 (by decide)) (h.1 9 (by decide))
theorem PpM_kd {E E' : Nat → va_E} {race boat q : Int32} {p : Int} (k : KdN E E') (h8 : xi (E' 0) 8 = xi (E 0) 8) (h : PpM E' race boat q p) : PpM E race boat q p := by
  obtain ⟨c, pl, e, f, h1, h2, h3, h4, h5, h6⟩ := h
  have ec : (fun o9 => CdM E' race (nI o9) q 0) = (fun o9 => CdM E race (nI o9) q 0) := funext (fun o => propext k.cd)
  have ee : (fun o : Nat => entMd E' race.toInt (o : Int) q.toInt) = (fun o : Nat => entMd E race.toInt (o : Int) q.toInt) := funext (fun o => by
    unfold entMd
    rw [k.rw_ 21 (by decide)])
  rw [h8, ee] at h4
  rw [h8, ec] at h5
  refine ⟨c, pl, e, f, k.cd.mp h1, fun z => ?_, h3, h4, h5, ?_⟩
  · have h7 := PlS_kd k (h2 z)
    rw [h8] at h7
    exact h7
  · rw [h6, k.wml, k.law, k.rw_ 13 (by decide)]
theorem ptL_of {c3 c4 c5 c6 : Int32} : lset (lset (lset (lset lz 3 c3) 4 c4) 5 c5) 6 c6 = ptL c3.toInt c4.toInt c5.toInt c6.toInt := by
  unfold ptL
  rw [← fI_of (r := c3) rfl, ← fI_of (r := c4) rfl, ← fI_of (r := c5) rfl, ← fI_of (r := c6) rfl]
def PMr (E : Nat → va_E) (race boat q : Int32) (o : Nat) : Prop := ¬ (o : Int) = race.toInt ∧ (xi (E 20) o).toInt ≤ q.toInt ∧ ¬ redM E (o : Int) boat.toInt q.toInt
/-- POINTS of the reference -/
def PtM (E : Nat → va_E) (race boat q : Int32) (p : Int) : Prop := (¬ redM E race.toInt boat.toInt q.toInt → PpM E race boat q p) ∧ (redM E race.toInt boat.toInt q.toInt → ∃ s m : Int, SmR (PMr E race boat q) (fun o v => PpM E (nI o) boat q v) (xi (E 0) 46).toNatClampNeg s ∧ CnR (PMr E race boat q) (xi (E 0) 46).toNatClampNeg m ∧ p = meanI s m)
def kd9 : List Nat := [20, 29, 30, 31]
theorem PtM_kd {E E' : Nat → va_E} {race boat q : Int32} {p : Int} (k : KdN E E') (h9 : ∀ o ∈ kd9, ∀ j, xi (E' o) j = xi (E o) j) (h8 : xi (E' 0) 8 = xi (E 0) 8) (h46 : xi (E' 0) 46 = xi (E 0) 46) (h48 : xi (E' 0) 48 = xi (E 0) 48) (h : PtM E' race boat q p) : PtM E race boat q p := by
  have er : ∀ a b c : Int, redM E' a b c = redM E a b c := fun a b c => by
    unfold redM
    rw [h48, show xi (E' 29) = xi (E 29) from funext (h9 29 (by decide)), show xi (E' 30) = xi (E 30) from funext (h9 30 (by decide)), show xi (E' 31) = xi (E 31) from funext (h9 31 (by decide))]
  have ep : PMr E' race boat q = PMr E race boat q := funext (fun o => by
    unfold PMr
    rw [er, h9 20 (by decide)])
  unfold PtM at h ⊢
  rw [er, ep, h46] at h
  exact ⟨fun z => PpM_kd k h8 (h.1 z), fun z => by
    obtain ⟨s, m, h1, h2, h3⟩ := h.2 z
    exact ⟨s, m, h1.cg _ s (fun _ _ => Iff.rfl) (fun _ _ _ v hv => PpM_kd k h8 hv), h2, h3⟩⟩

