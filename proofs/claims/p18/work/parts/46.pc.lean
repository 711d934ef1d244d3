

/-! ===== the class's readers: a way each ===== -/
theorem ixF_ge {c : Int32} : ∀ (l : List Int32) (k : Nat), k + l.length < 2 ^ 31 → c ∈ l → 0 ≤ (ixF c l k).toInt := by
  intro l
  induction l with
  | nil => exact fun k _ h => absurd h (by simp)
  | cons b l ih =>
    intro k hk h
    simp only [List.length_cons] at hk
    by_cases e : b = c
    · rw [ixF, if_pos e, nI_toInt (by omega)]
      omega
    · rw [ixF, if_neg e]
      exact ih (k + 1) (by omega) (by
        rcases List.mem_cons.mp h with h | h
        · exact absurd h.symm e
        · exact h)
theorem ixc {x : Int32} {l : List Int32} {L : List Int} (hl : 0 + l.length < 2 ^ 31) (hL : L = l.map Int32.toInt) : 0 ≤ (ixF x l 0).toInt ↔ L.contains x.toInt = true := by
  rw [hL]
  constructor
  · intro h
    have h1 := ixF_mem l 0 hl h
    simp only [List.contains_eq_mem, decide_eq_true_eq]
    exact List.mem_map.mpr ⟨x, h1, rfl⟩
  · intro h
    simp only [List.contains_eq_mem, decide_eq_true_eq] at h
    obtain ⟨y, h1, h2⟩ := List.mem_map.mp h
    rw [Int32.toInt_inj.mp h2] at h1
    exact ixF_ge l 0 hl h1
theorem ix_let {x : Int32} : 0 ≤ (ixF x tLET 0).toInt ↔ isLet x.toInt = true := ixc (by decide) (by decide)
theorem ix_mul {x : Int32} : 0 ≤ (ixF x tMUL 0).toInt ↔ isMul x.toInt = true := ixc (by decide) (by decide)
theorem ix_add {x : Int32} : 0 ≤ (ixF x tADD 0).toInt ↔ isAdd x.toInt = true := ixc (by decide) (by decide)
theorem ix_cmp {x : Int32} : 0 ≤ (ixF x tCMP 0).toInt ↔ isCmp x.toInt = true := ixc (by decide) (by decide)
theorem ix_lab {x : Int32} : 0 ≤ (ixF x tLAB 0).toInt ↔ isLab x.toInt = true := ixc (by decide) (by decide)
theorem ix_con {x : Int32} : 0 ≤ (ixF x tCON 0).toInt ↔ ([33, 40] : List Int).contains x.toInt = true := ixc (by decide) (by decide)
theorem con_or {x : Int} : ([33, 40] : List Int).contains x = true ↔ x = 33 ∨ x = 40 := by
  simp
/-- next -/
def NextI (E E1 : Nat → va_E) : Prop := TS E E1 ∧ tF E1 = tF E ∧ sk (tT E) (tN E) (tA E1) = sk (tT E) (tN E) (tA E)
theorem NextI.rf {E : Nat → va_E} : NextI E E := ⟨TS.rf, rfl, rfl⟩
theorem NextI.step {E E1 E2 : Nat → va_E} (h : NextI E E1) (ha : AtP E1 E2) (h1 : tA E1 < tN E) (h2 : tT E (tA E1) = 32) : NextI E E2 := ⟨h.1.tr ha.1, ha.2.1.trans h.2.1, by rw [ha.2.2, ← sk_1 ⟨h1, h2⟩]; exact h.2.2⟩
theorem NextI.out {E E1 : Nat → va_E} {r : Int32} (h : NextI E E1) (hf : tF E = -1) (hx : ¬ (tA E1 < tN E ∧ tT E (tA E1) = 32)) (hr : r.toInt = if tA E1 < tN E then tT E (tA E1) else -1) : RdN E E1 r := ⟨h.1, h.2.1, fun q => absurd hf q, fun _ => by
  have h1 := sk_0 hx
  have h2 := h.2.2
  rw [h1] at h2
  refine ⟨?_, h2⟩
  rw [hr]
  unfold pk
  rw [← h2]⟩
theorem RdN.no {E : Nat → va_E} (hf : ¬ tF E = -1) : RdN E E (-2) := ⟨TS.rf, rfl, fun _ => ⟨rfl, rfl⟩, fun q => absurd q hf⟩
/-- numbers -/
theorem numF_p {t : Nat → Int} {n : Nat} : ∀ f a v w, (numF t n f a v).1 = (numF t n f a w).1 := by
  intro f
  induction f with
  | zero => exact fun a v w => rfl
  | succ f ih =>
    intro a v w
    by_cases h : a < n ∧ dgt (t a)
    · rw [show numF t n (f + 1) a v = numF t n f (a + 1) (10 * v + (t a - 48)) from if_pos h, show numF t n (f + 1) a w = numF t n f (a + 1) (10 * w + (t a - 48)) from if_pos h]
      exact ih _ _ _
    · rw [show numF t n (f + 1) a v = (a, v) from if_neg h, show numF t n (f + 1) a w = (a, w) from if_neg h]
theorem numF_0 {t : Nat → Int} {n f a : Nat} {v : Int} (h : f = 0 ∨ ¬ (a < n ∧ dgt (t a))) : (numF t n f a v).1 = a := by
  cases f with
  | zero => rfl
  | succ f =>
    rw [show numF t n (f + 1) a v = (a, v) from if_neg (h.elim (fun q => absurd q (by omega)) id)]
def NumI (d : Int32) (E E1 : Nat → va_E) : Prop := TS E E1 ∧ tF E1 = tF E ∧ (numF (tT E) (tN E) 5 (tA E) 0).1 = (numF (tT E) (tN E) (5 - d.toNatClampNeg) (tA E1) 0).1
theorem NumI.rf {E : Nat → va_E} : NumI 0 E E := ⟨TS.rf, rfl, rfl⟩
theorem NumI.step {d d' : Int32} {E E1 E2 : Nat → va_E} (h : NumI d E E1) (ha : AtP E1 E2) (h1 : tA E1 < tN E) (h2 : dgt (tT E (tA E1))) (hd : 0 ≤ d.toInt ∧ d.toInt < 5) (t : d'.toInt = d.toInt + 1) : NumI d' E E2 := ⟨h.1.tr ha.1, ha.2.1.trans h.2.1, by
  rw [h.2.2, ha.2.2, show 5 - d.toNatClampNeg = (5 - d'.toNatClampNeg) + 1 by rw [tn_, tn_]; omega]
  rw [show numF (tT E) (tN E) ((5 - d'.toNatClampNeg) + 1) (tA E1) 0 = numF (tT E) (tN E) (5 - d'.toNatClampNeg) (tA E1 + 1) (10 * 0 + (tT E (tA E1) - 48)) from if_pos ⟨h1, h2⟩]
  exact numF_p _ _ _ _⟩
theorem NumI.out {d : Int32} {E E1 E2 : Nat → va_E} (h : NumI d E E1) (hk : KS E1 E2) (hx : 5 ≤ d.toInt ∨ ¬ (tA E1 < tN E ∧ dgt (tT E (tA E1)))) : RdC (fun t n a => numS false t n a) E E2 := ⟨h.1.tr hk.1, fun _ => hk.2.1.trans h.2.1, fun q => by
  show Out (numS false (tT E) (tN E) (tA E)) E2
  rw [show numS false (tT E) (tN E) (tA E) = .good (numF (tT E) (tN E) 5 (tA E) 0).1 [(numF (tT E) (tN E) 5 (tA E) 0).2] from if_neg (fun q9 => absurd q9.1 (by decide))]
  refine ⟨(hk.2.1.trans h.2.1).trans q, ?_⟩
  rw [hk.2.2, h.2.2, numF_0 (hx.imp (fun q9 => by rw [tn_]; omega) id)]⟩
/-- atoms -/
theorem out_clo {α β : Type} {t : Nat → Int} {n : Nat} {s : Int} {a : Nat} {c : α} {c2 : β} {E : Nat → va_E} (h : Out (clo t n s a c) E) : Out (clo t n s a c2) E := by
  unfold clo at h ⊢
  by_cases e : pk t n a = s
  · rw [if_pos e] at h ⊢
    exact h
  · rw [if_neg e] at h ⊢
    exact h
section RD
variable {d : Nat} {E E1 E2 E3 E4 E5 E6 E7 : Nat → va_E} {r : Int32}
theorem atC_num (hN : RdN E E1 r) (h : dgt r.toInt) (hn : RdC (fun t n a => numS false t n a) E1 E2) : RdC (fun t n a => atomS false t n d a) E E2 := hN.rd hn (fun _ hr E9 ho => by
  show Out (atomS false (tT E) (tN E) d (tA E)) E9
  unfold atomS atomO
  rw [if_pos (by rw [← hr]; exact h)]
  exact ho)
theorem atC_let (hN : RdN E E1 r) (h : ¬ dgt r.toInt) (h1 : isLet r.toInt = true) (ha : AtP E1 E2) (hk : KS E2 E3) : RdC (fun t n a => atomS false t n d a) E E3 := (hN.at0 ha (fun _ hr => by
  show ∃ c, atomS false (tT E) (tN E) d (tA E) = _
  unfold atomS atomO
  rw [if_neg (by rw [← hr]; exact h), if_pos (by rw [← hr]; exact h1)]
  exact ⟨_, rfl⟩)).ks hk
theorem in91 : ¬ dgt 91 ∧ ¬ isLet 91 = true := by decide
theorem atC_in0 (hN : RdN E E1 r) (h : r.toInt = 91) (hf : RdF E1 E2) (hd : d = 0) : RdC (fun t n a => atomS false t n d a) E E2 := hN.f hf (fun _ hr => by
  show atomS false (tT E) (tN E) d (tA E) = _
  unfold atomS atomO
  rw [← hr, h, if_neg in91.1, if_neg in91.2, if_pos rfl, hd]
  rfl)
theorem atC_in {k : Nat} (hN : RdN E E1 r) (h : r.toInt = 91) (ha : AtP E1 E2) (hs : RdC (fun t n a => sumS false t n k a) E2 E3) (ht : RdC (fun t n a => clo t n 93 a ()) E3 E4) (hd : d = k + 1) : RdC (fun t n a => atomS false t n d a) E E4 := hN.at ha (RdC.andThen hs ht (Q := fun t n a => clo t n 93 a ()) (R := fun t n a => (sumS false t n k a).andThen (clo t n 93)) (f := fun t n => clo t n 93) (fun _ _ _ => rfl) (fun _ _ _ _ _ ho => out_clo ho)) (fun _ hr E9 ho => by
  show Out (atomS false (tT E) (tN E) d (tA E)) E9
  unfold atomS atomO
  rw [← hr, h, if_neg in91.1, if_neg in91.2, if_pos rfl, hd]
  exact ho)
theorem atC_no (hN : RdN E E1 r) (h : ¬ dgt r.toInt) (h1 : ¬ isLet r.toInt = true) (h2 : ¬ r.toInt = 91) (hf : RdF E1 E2) : RdC (fun t n a => atomS false t n d a) E E2 := hN.f hf (fun _ hr => by
  show atomS false (tT E) (tN E) d (tA E) = _
  unfold atomS atomO
  rw [← hr, if_neg h, if_neg h1, if_neg h2])
/-- terms, sums -/
theorem lpT : ∀ t n a, termS false t n d a = (atomS false t n d a).andThen (opL t n isMul jb (atomS false t n d)) := fun _ _ _ => rfl
theorem lpS : ∀ t n a, sumS false t n d a = (termS false t n d a).andThen (opL t n isAdd jb (termS false t n d)) := fun t n a => by
  rw [sumS_o]
  rfl
theorem cmC_no (hN : RdN E E1 r) (h : ¬ isCmp r.toInt = true) (hf : RdF E1 E2) : RdC (fun t n a => cmpS false t n d a) E E2 := hN.f hf (fun _ hr => by
  show cmpS false (tT E) (tN E) d (tA E) = _
  unfold cmpS
  rw [← hr, if_neg h])
theorem cmC (hN : RdN E E1 r) (h : isCmp r.toInt = true) (ha : AtP E1 E2) (hs : RdC (fun t n a => sumS false t n d a) E2 E3) (hk : KS E3 E4) : RdC (fun t n a => cmpS false t n d a) E E4 := (hN.at ha hs (fun _ hr E9 ho => by
  show Out (cmpS false (tT E) (tN E) d (tA E)) E9
  unfold cmpS
  rw [if_pos (by rw [← hr]; exact h)]
  exact Out.andThen ho (fun _ => rfl) (fun q c _ => ⟨q, rfl⟩))).ks hk
def unX (w : Int32) (d : Nat) (t : Nat → Int) (n a : Nat) : PR (List Int) := if w.toInt = 0 then unitS false t n d a else cmpS false t n d a
def paX (w : Int32) (d : Nat) (t : Nat → Int) (n a : Nat) : PR (List Int) := (unX w d t n a).andThen (opL t n isAnd jb (unitS false t n d))
def coX (w : Int32) (d : Nat) (t : Nat → Int) (n a : Nat) : PR (List Int) := (paX w d t n a).andThen (opL t n isOr jb (partS false t n d))
theorem unC_b {w : Int32} (h : ¬ w.toInt = 0) (hc : RdC (fun t n a => cmpS false t n d a) E E1) : RdC (unX w d) E E1 := hc.cg (fun E9 ho => by
  unfold unX
  rw [if_neg h]
  exact ho)
theorem unC_n0 {w : Int32} (hw : w.toInt = 0) (hN : RdN E E1 r) (h : r.toInt = 33) (hf : RdF E1 E2) (hd : d = 0) : RdC (unX w d) E E2 := hN.f hf (fun _ hr => by
  unfold unX
  rw [if_pos hw, hd]
  show unitO false _ _ 0 _ _ _ = _
  unfold unitO
  rw [← hr, h, if_pos rfl])
theorem unC_n {w : Int32} {k : Nat} (hw : w.toInt = 0) (hN : RdN E E1 r) (h : r.toInt = 33) (ha : AtP E1 E2) (hu : RdC (unX 0 k) E2 E3) (hk : KS E3 E4) (hd : d = k + 1) : RdC (unX w d) E E4 := (hN.at ha hu (fun _ hr E9 ho => by
  unfold unX
  rw [if_pos hw, hd]
  show Out (unitO false _ _ (k + 1) _ _ _) E9
  unfold unitO
  rw [← hr, h, if_pos rfl]
  exact Out.andThen ho (fun _ => rfl) (fun q c _ => ⟨q, rfl⟩))).ks hk
theorem unC_p0 {w : Int32} (hw : w.toInt = 0) (hN : RdN E E1 r) (h : r.toInt = 40) (hf : RdF E1 E2) (hd : d = 0) : RdC (unX w d) E E2 := hN.f hf (fun _ hr => by
  unfold unX
  rw [if_pos hw, hd]
  show unitO false _ _ 0 _ _ _ = _
  unfold unitO
  rw [← hr, h, if_neg (by decide), if_pos rfl])
theorem unC_p {w : Int32} {k : Nat} (hw : w.toInt = 0) (hN : RdN E E1 r) (h : r.toInt = 40) (ha : AtP E1 E2) (hu : RdC (coX 0 k) E2 E3) (ht : RdC (fun t n a => clo t n 41 a ()) E3 E4) (hd : d = k + 1) : RdC (unX w d) E E4 := hN.at ha (RdC.andThen hu ht (Q := fun t n a => clo t n 41 a ()) (R := fun t n a => (condS false t n k a).andThen (clo t n 41)) (f := fun t n => clo t n 41) (fun _ _ _ => rfl) (fun _ _ _ _ _ ho => out_clo ho)) (fun _ hr E9 ho => by
  unfold unX
  rw [if_pos hw, hd]
  show Out (unitO false _ _ (k + 1) _ _ _) E9
  unfold unitO
  rw [← hr, h, if_neg (by decide), if_pos rfl]
  exact ho)
theorem unC_c {w : Int32} (hw : w.toInt = 0) (hN : RdN E E1 r) (h : ¬ r.toInt = 33) (h1 : ¬ r.toInt = 40) (hs : RdC (fun t n a => sumS false t n d a) E1 E2) (hc : RdC (fun t n a => cmpS false t n d a) E2 E3) : RdC (unX w d) E E3 := hN.rd (RdC.andThen hs hc (R := fun t n a => (sumS false t n d a).andThen (fun a1 c1 => (cmpS false t n d a1).andThen (fun a2 c2 => .good a2 (c1 ++ c2)))) (f := fun t n a1 c1 => (cmpS false t n d a1).andThen (fun a2 c2 => .good a2 (c1 ++ c2))) (fun _ _ _ => rfl) (fun _ _ _ _ _ ho => Out.andThen ho (fun _ => rfl) (fun q c _ => ⟨q, rfl⟩))) (fun _ hr E9 ho => by
  unfold unX
  rw [if_pos hw]
  have key : unitS false (tT E) (tN E) d (tA E) = (sumS false (tT E) (tN E) d (sk (tT E) (tN E) (tA E))).andThen (fun a1 c1 => (cmpS false (tT E) (tN E) d a1).andThen (fun a2 c2 => .good a2 (c1 ++ c2))) := by
    cases d with
    | zero =>
      show unitO false _ _ 0 _ _ _ = _
      unfold unitO
      rw [← hr, if_neg h, if_neg h1]
    | succ d =>
      show unitO false _ _ (d + 1) _ _ _ = _
      unfold unitO
      rw [← hr, if_neg h, if_neg h1]
  rw [key]
  exact ho)
theorem lpP {w : Int32} : ∀ t n a, paX w d t n a = (unX w d t n a).andThen (opL t n isAnd jb (unX 0 d t n)) := fun _ _ _ => rfl
theorem lpO {w : Int32} : ∀ t n a, coX w d t n a = (paX w d t n a).andThen (opL t n isOr jb (paX 0 d t n)) := fun _ _ _ => rfl
theorem unX_mono (d : Nat) (t : Nat → Int) (n : Nat) : Mono (unX 0 d t n) := unitS_mono false t n d
theorem paX_mono (d : Nat) (t : Nat → Int) (n : Nat) : Mono (paX 0 d t n) := partS_mono false t n d
end RD
theorem i2c_all : ∀ k : Nat, k < 256 → ((nI k).toUInt32 % 65536).toInt32 = nI k := by decide +kernel
theorem i2c_s {x : Int32} (h : 0 ≤ x.toInt ∧ x.toInt ≤ 255) : (x.toUInt32 % 65536).toInt32 = x := by
  have h1 := i2c_all x.toNatClampNeg (by rw [tn_]; omega)
  rw [nI_tn h.1] at h1
  exact h1
theorem noX {x : Int32} {l : List Int32} {L : List Int} (hix : 0 ≤ (ixF x l 0).toInt ↔ L.contains x.toInt = true) (hp : ∀ y ∈ L, 0 < y) (h : ¬ (0 < x.toInt ∧ 0 ≤ (ixF x l 0).toInt)) : ¬ L.contains x.toInt = true := fun q => h ⟨by
  have q1 := q
  simp only [List.contains_eq_mem, decide_eq_true_eq] at q1
  exact hp _ q1, hix.mpr q⟩
theorem no_let {x : Int32} (h : ¬ (0 < x.toInt ∧ 0 ≤ (ixF x tLET 0).toInt)) : ¬ isLet x.toInt = true := noX (L := lets) ix_let (by decide) h
theorem no_mul {x : Int32} (h : ¬ (0 < x.toInt ∧ 0 ≤ (ixF x tMUL 0).toInt)) : ¬ isMul x.toInt = true := noX (L := [42, 47]) ix_mul (by decide) h
theorem no_add {x : Int32} (h : ¬ (0 < x.toInt ∧ 0 ≤ (ixF x tADD 0).toInt)) : ¬ isAdd x.toInt = true := noX (L := [43, 45]) ix_add (by decide) h
theorem no_cmp {x : Int32} (h : ¬ (0 < x.toInt ∧ 0 ≤ (ixF x tCMP 0).toInt)) : ¬ isCmp x.toInt = true := noX (L := [61, 60, 62]) ix_cmp (by decide) h
theorem no_lab {x : Int32} (h : ¬ (0 < x.toInt ∧ 0 ≤ (ixF x tLAB 0).toInt)) : ¬ isLab x.toInt = true := noX (L := [110, 112, 116, 97, 98]) ix_lab (by decide) h
theorem no_con {x : Int32} (h : ¬ (0 < x.toInt ∧ 0 ≤ (ixF x tCON 0).toInt)) : ¬ (x.toInt = 33 ∨ x.toInt = 40) := fun q => noX (L := [33, 40]) ix_con (by decide) h (con_or.mpr q)
theorem is_and {x : Int} : isAnd x = true ↔ x = 38 := by
  unfold isAnd
  simp
theorem is_or {x : Int} : isOr x = true ↔ x = 124 := by
  unfold isOr
  simp
theorem is_sem {x : Int} : isSem x = true ↔ x = 59 := by
  unfold isSem
  simp
/-! ===== what a walk knows ===== -/
theorem tA_e {E : Nat → va_E} {x : Int32} (h : xv (E 2) 2 = .int x) (h0 : 0 ≤ x.toInt) : (tA E : Int) = x.toInt := by
  unfold tA
  rw [show xi (E 2) 2 = x from vi_e h, tn_]
  omega
theorem tN_e {E : Nat → va_E} (h0 : 0 ≤ (xi (E 2) 1).toInt) : (tN E : Int) = (xi (E 2) 1).toInt := by
  unfold tN
  rw [tn_]
  omega
theorem tT_e {E E1 : Nat → va_E} {x y : Int32} (h : xv (E1 2) 2 = .int x) (e : y = xi (E 21) x.toNatClampNeg) : tT E (tA E1) = y.toInt := by
  unfold tT tA
  rw [show xi (E1 2) 2 = x from vi_e h, e]
theorem RdF.of {E E' : Nat → va_E} {x : Int32} (hk : ∀ o9 j9, ¬ (o9 = 2 ∧ j9 = 3) → xv (E' o9) j9 = xv (E o9) j9) (h1 : xv (E' 2) 3 = .int x) (h0 : xi (E 2) 2 = x) (hx : 0 ≤ x.toInt) (hf : (xi (E 2) 3).toInt = -1) : RdF E E' := ⟨⟨funext (fun k => congrArg Int32.toInt (congrArg vi (hk 21 k (by omega)))), congrArg Int32.toNatClampNeg (congrArg vi (hk 2 1 (by omega)))⟩, fun q => absurd hf q, fun _ => by
  show (xi (E' 2) 3).toInt = ((xi (E 2) 2).toNatClampNeg : Int)
  rw [show xi (E' 2) 3 = x from vi_e h1, h0, tn_]
  omega⟩
theorem RdF.no {E : Nat → va_E} (hf : ¬ (xi (E 2) 3).toInt = -1) : RdF E E := ⟨TS.rf, fun _ => rfl, fun q => absurd q hf⟩
theorem tkC {s : Int32} {E E1 E2 : Nat → va_E} {r : Int32} (hN : RdN E E1 r) (h : r.toInt = s.toInt) (ha : AtP E1 E2) : RdC (fun t n a => clo t n s.toInt a ()) E E2 := hN.at0 ha (fun _ hr => ⟨(), by
  show clo _ _ _ _ _ = _
  unfold clo
  rw [if_pos (by rw [← hr]; exact h)]⟩)
theorem tkC_no {s : Int32} {E E1 E2 : Nat → va_E} {r : Int32} (hN : RdN E E1 r) (h : ¬ r.toInt = s.toInt) (hf : RdF E1 E2) : RdC (fun t n a => clo t n s.toInt a ()) E E2 := hN.f hf (fun _ hr => by
  show clo _ _ _ _ _ = _
  unfold clo
  rw [if_neg (by rw [← hr]; exact h)])

