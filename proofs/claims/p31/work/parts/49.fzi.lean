

/-! ===== CODES of the reference where nothing of them is written ===== -/
def kd7 : List Nat := [21, 24, 25, 26, 28, 46, 47, 48, 51, 52, 53, 54]
theorem outM_cg {E E' : Nat → va_E} {race q boat : Int} (h : ∀ o ∈ kd7, ∀ j, xi (E' o) j = xi (E o) j) : outM E' race q boat = outM E race q boat := funext (fun p => by
  unfold outM kM
  simp only [h 46 (by decide), h 47 (by decide), h 48 (by decide), h 51 (by decide), h 52 (by decide), h 53 (by decide), h 54 (by decide)])
theorem kd7_kp {a : List Nat} {b : List (Nat × Nat)} {E E' : Nat → va_E} (h : Kp (wl a b) E E') (hw : kd7.all (fun o => !a.contains o && b.all (fun q => q.1 != o)) = true) : ∀ o ∈ kd7, ∀ j, xi (E' o) j = xi (E o) j := fun o ho j => xik h (wl_row (List.all_eq_true.mp hw o ho))
theorem OutMx_kp {a : List Nat} {b : List (Nat × Nat)} {E E' : Nat → va_E} {race boat q : Int} (h : Kp (wl a b) E E') (hw : kd7.all (fun o => !a.contains o && b.all (fun q => q.1 != o)) = true) (h75 : wl a b 0 75 = false) : OutMx E' race boat q = OutMx E race boat q := by
  unfold OutMx
  rw [outM_cg (kd7_kp h hw), xik h h75]
theorem CdM_kp {a : List Nat} {b : List (Nat × Nat)} {E E' : Nat → va_E} {race boat q : Int32} {c : Int} (h : Kp (wl a b) E E') (hw : kd7.all (fun o => !a.contains o && b.all (fun q => q.1 != o)) = true) (h75 : wl a b 0 75 = false) (h47 : wl a b 0 47 = false) (g : CdM E' race boat q c) : CdM E race boat q c := by
  have k := kd7_kp h hw
  have kr : ∀ o ∈ kd7, xi (E' o) = xi (E o) := fun o ho => funext (k o ho)
  have e1 : lRM E' race boat q = lRM E race boat q := by
    unfold lRM
    rw [kr 24 (by decide), kr 25 (by decide), kr 28 (by decide), xik h h47]
  have e2 : entMd E' race.toInt boat.toInt q.toInt = entMd E race.toInt boat.toInt q.toInt := by
    unfold entMd
    rw [kr 21 (by decide)]
  unfold CdM at g ⊢
  rw [e1, e2, OutMx_kp h hw h75, kr 26 (by decide)] at g
  exact g

