

/-! ===== MIDDLE of the reference where nothing of it is written ===== -/
theorem MdV_kd {E E' : Nat → va_E} {race boat q r : Int32} {K sk : Nat} (k : KdN E E') (h : MdV (fun o9 => CdM E' race (nI o9) q 0) (tmM E' race q) K sk ((xi (E' 15) race.toNatClampNeg).toInt = 0 ∧ CdM E' race boat q 0) r) : MdV (fun o9 => CdM E race (nI o9) q 0) (tmM E race q) K sk ((xi (E 15) race.toNatClampNeg).toInt = 0 ∧ CdM E race boat q 0) r := h.cg (by rw [k.rw_ 15 (by decide), k.cd]) (fun i _ => k.cd) (fun i _ _ => k.tm race (nI i) q)

