

/-! ===== the class's readers: a way each ===== -/
theorem ixF_ge {c : Int32} : ∀ (l : List Int32) (k : Nat), k + l.length < 2 ^ 31 → c ∈ l → 0 ≤ (ixF c l k).toInt := by
  intro l
  induction l with
  | nil => exact fun k _ h => absurd h (by simp)
  | cons b l ih =>
    intro k hk h
    simp only [List.length_cons] at hk
    by_cases e : b = c
    · rw [ixF, if_pos e, nI_toInt (by omega)]
      omega
    · rw [ixF, if_neg e]
      exact ih (k + 1) (by omega) (by
        rcases List.mem_cons.mp h with h | h
        · exact absurd h.symm e
        · exact h)
theorem ixc {x : Int32} {l : List Int32} {L : List Int} (hl : 0 + l.length < 2 ^ 31) (hL : L = l.map Int32.toInt) : 0 ≤ (ixF x l 0).toInt ↔ L.contains x.toInt = true := by
  rw [hL]
  constructor
  · intro h
    have h1 := ixF_mem l 0 hl h
    simp only [List.contains_eq_mem, decide_eq_true_eq]
    exact List.mem_map.mpr ⟨x, h1, rfl⟩
  · intro h
    simp only [List.contains_eq_mem, decide_eq_true_eq] at h
    obtain ⟨y, h1, h2⟩ := List.mem_map.mp h
    rw [Int32.toInt_inj.mp h2] at h1
    exact ixF_ge l 0 hl h1
theorem ix_let {x : Int32} : 0 ≤ (ixF x tLET 0).toInt ↔ isLet x.toInt = true := ixc (by decide) (by decide)
theorem ix_mul {x : Int32} : 0 ≤ (ixF x tMUL 0).toInt ↔ isMul x.toInt = true := ixc (by decide) (by decide)
theorem ix_add {x : Int32} : 0 ≤ (ixF x tADD 0).toInt ↔ isAdd x.toInt = true := ixc (by decide) (by decide)
theorem ix_cmp {x : Int32} : 0 ≤ (ixF x tCMP 0).toInt ↔ isCmp x.toInt = true := ixc (by decide) (by decide)
theorem ix_lab {x : Int32} : 0 ≤ (ixF x tLAB 0).toInt ↔ isLab x.toInt = true := ixc (by decide) (by decide)
theorem ix_con {x : Int32} : 0 ≤ (ixF x tCON 0).toInt ↔ ([33, 40] : List Int).contains x.toInt = true := ixc (by decide) (by decide)
theorem con_or {x : Int} : ([33, 40] : List Int).contains x = true ↔ x = 33 ∨ x = 40 := by
  simp
/-- next -/
def NextI (E E1 : Nat → va_E) : Prop := TS E E1 ∧ tF E1 = tF E ∧ sk (tT E) (tN E) (tA E1) = sk (tT E) (tN E) (tA E)
theorem NextI.rf {E : Nat → va_E} : NextI E E := ⟨TS.rf, rfl, rfl⟩
theorem NextI.step {E E1 E2 : Nat → va_E} (h : NextI E E1) (ha : AtP E1 E2) (h1 : tA E1 < tN E) (h2 : tT E (tA E1) = 32) : NextI E E2 := ⟨h.1.tr ha.1, ha.2.1.trans h.2.1, by rw [ha.2.2, ← sk_1 ⟨h1, h2⟩]; exact h.2.2⟩
theorem NextI.out {E E1 : Nat → va_E} {r : Int32} (h : NextI E E1) (hf : tF E = -1) (hx : ¬ (tA E1 < tN E ∧ tT E (tA E1) = 32)) (hr : r.toInt = if tA E1 < tN E then tT E (tA E1) else -1) : RdN E E1 r := ⟨h.1, h.2.1, fun q => absurd hf q, fun _ => by
  have h1 := sk_0 hx
  have h2 := h.2.2
  rw [h1] at h2
  refine ⟨?_, h2⟩
  rw [hr]
  unfold pk
  rw [← h2]⟩
theorem RdN.no {E : Nat → va_E} (hf : ¬ tF E = -1) : RdN E E (-2) := ⟨TS.rf, rfl, fun _ => ⟨rfl, rfl⟩, fun q => absurd q hf⟩
/-- numbers -/
theorem numF_p {t : Nat → Int} {n : Nat} : ∀ f a v w, (numF t n f a v).1 = (numF t n f a w).1 := by
  intro f
  induction f with
  | zero => exact fun a v w => rfl
  | succ f ih =>
    intro a v w
    by_cases h : a < n ∧ dgt (t a)
    · rw [show numF t n (f + 1) a v = numF t n f (a + 1) (10 * v + (t a - 48)) from if_pos h, show numF t n (f + 1) a w = numF t n f (a + 1) (10 * w + (t a - 48)) from if_pos h]
      exact ih _ _ _
    · rw [show numF t n (f + 1) a v = (a, v) from if_neg h, show numF t n (f + 1) a w = (a, w) from if_neg h]
theorem numF_0 {t : Nat → Int} {n f a : Nat} {v : Int} (h : f = 0 ∨ ¬ (a < n ∧ dgt (t a))) : (numF t n f a v).1 = a := by
  cases f with
  | zero => rfl
  | succ f =>
    rw [show numF t n (f + 1) a v = (a, v) from if_neg (h.elim (fun q => absurd q (by omega)) id)]
def NumI (d : Int32) (E E1 : Nat → va_E) : Prop := TS E E1 ∧ tF E1 = tF E ∧ (numF (tT E) (tN E) 5 (tA E) 0).1 = (numF (tT E) (tN E) (5 - d.toNatClampNeg) (tA E1) 0).1
theorem NumI.rf {E : Nat → va_E} : NumI 0 E E := ⟨TS.rf, rfl, rfl⟩
theorem NumI.step {d d' : Int32} {E E1 E2 : Nat → va_E} (h : NumI d E E1) (ha : AtP E1 E2) (h1 : tA E1 < tN E) (h2 : dgt (tT E (tA E1))) (hd : 0 ≤ d.toInt ∧ d.toInt < 5) (t : d'.toInt = d.toInt + 1) : NumI d' E E2 := ⟨h.1.tr ha.1, ha.2.1.trans h.2.1, by
  rw [h.2.2, ha.2.2, show 5 - d.toNatClampNeg = (5 - d'.toNatClampNeg) + 1 by rw [tn_, tn_]; omega]
  rw [show numF (tT E) (tN E) ((5 - d'.toNatClampNeg) + 1) (tA E1) 0 = numF (tT E) (tN E) (5 - d'.toNatClampNeg) (tA E1 + 1) (10 * 0 + (tT E (tA E1) - 48)) from if_pos ⟨h1, h2⟩]
  exact numF_p _ _ _ _⟩
theorem NumI.out {d : Int32} {E E1 E2 : Nat → va_E} (h : NumI d E E1) (hk : KS E1 E2) (hx : 5 ≤ d.toInt ∨ ¬ (tA E1 < tN E ∧ dgt (tT E (tA E1)))) : RdC (fun t n a => numS false t n a) E E2 := ⟨h.1.tr hk.1, fun _ => hk.2.1.trans h.2.1, fun q => by
  show Out (numS false (tT E) (tN E) (tA E)) E2
  rw [show numS false (tT E) (tN E) (tA E) = .good (numF (tT E) (tN E) 5 (tA E) 0).1 [(numF (tT E) (tN E) 5 (tA E) 0).2] from if_neg (fun q9 => absurd q9.1 (by decide))]
  refine ⟨(hk.2.1.trans h.2.1).trans q, ?_⟩
  rw [hk.2.2, h.2.2, numF_0 (hx.imp (fun q9 => by rw [tn_]; omega) id)]⟩
/-- atoms -/
theorem out_clo {α β : Type} {t : Nat → Int} {n : Nat} {s : Int} {a : Nat} {c : α} {c2 : β} {E : Nat → va_E} (h : Out (clo t n s a c) E) : Out (clo t n s a c2) E := by
  unfold clo at h ⊢
  by_cases e : pk t n a = s
  · rw [if_pos e] at h ⊢
    exact h
  · rw [if_neg e] at h ⊢
    exact h
section RD
variable {d : Nat} {E E1 E2 E3 E4 E5 E6 E7 : Nat → va_E} {r : Int32}
theorem atC_num (hN : RdN E E1 r) (h : dgt r.toInt) (hn : RdC (fun t n a => numS false t n a) E1 E2) : RdC (fun t n a => atomS false t n d a) E E2 := hN.rd hn (fun _ hr E9 ho => by
  show Out (atomS false (tT E) (tN E) d (tA E)) E9
  unfold atomS atomO
  rw [if_pos (by rw [← hr]; exact h)]
  exact ho)
theorem atC_let (hN : RdN E E1 r) (h : ¬ dgt r.toInt) (h1 : isLet r.toInt = true) (ha : AtP E1 E2) (hk : KS E2 E3) : RdC (fun t n a => atomS false t n d a) E E3 := (hN.at0 ha (fun _ hr => by
  show ∃ c, atomS false (tT E) (tN E) d (tA E) = _
  unfold atomS atomO
  rw [if_neg (by rw [← hr]; exact h), if_pos (by rw [← hr]; exact h1)]
  exact ⟨_, rfl⟩)).ks hk
theorem in91 : ¬ dgt 91 ∧ ¬ isLet 91 = true := by decide
theorem atC_in0 (hN : RdN E E1 r) (h : r.toInt = 91) (hf : RdF E1 E2) (hd : d = 0) : RdC (fun t n a => atomS false t n d a) E E2 := hN.f hf (fun _ hr => by
  show atomS false (tT E) (tN E) d (tA E) = _
  unfold atomS atomO
  rw [← hr, h, if_neg in91.1, if_neg in91.2, if_pos rfl, hd]
  rfl)
theorem atC_in {k : Nat} (hN : RdN E E1 r) (h : r.toInt = 91) (ha : AtP E1 E2) (hs : RdC (fun t n a => sumS false t n k a) E2 E3) (ht : RdC (fun t n a => clo t n 93 a ()) E3 E4) (hd : d = k + 1) : RdC (fun t n a => atomS false t n d a) E E4 := hN.at ha (RdC.andThen hs ht (Q := fun t n a => clo t n 93 a ()) (R := fun t n a => (sumS false t n k a).andThen (clo t n 93)) (f := fun t n => clo t n 93) (fun _ _ _ => rfl) (fun _ _ _ _ _ ho => out_clo ho)) (fun _ hr E9 ho => by
  show Out (atomS false (tT E) (tN E) d (tA E)) E9
  unfold atomS atomO
  rw [← hr, h, if_neg in91.1, if_neg in91.2, if_pos rfl, hd]
  exact ho)
theorem atC_no (hN : RdN E E1 r) (h : ¬ dgt r.toInt) (h1 : ¬ isLet r.toInt = true) (h2 : ¬ r.toInt = 91) (hf : RdF E1 E2) : RdC (fun t n a => atomS false t n d a) E E2 := hN.f hf (fun _ hr => by
  show atomS false (tT E) (tN E) d (tA E) = _
  unfold atomS atomO
  rw [← hr, if_neg h, if_neg h1, if_neg h2])
/-- terms, sums -/
theorem lpT : ∀ t n a, termS false t n d a = (atomS false t n d a).andThen (opL t n isMul jb (atomS false t n d)) := fun _ _ _ => rfl
theorem lpS : ∀ t n a, sumS false t n d a = (termS false t n d a).andThen (opL t n isAdd jb (termS false t n d)) := fun t n a => by
  rw [sumS_o]
  rfl
theorem cmC_no (hN : RdN E E1 r) (h : ¬ isCmp r.toInt = true) (hf : RdF E1 E2) : RdC (fun t n a => cmpS false t n d a) E E2 := hN.f hf (fun _ hr => by
  show cmpS false (tT E) (tN E) d (tA E) = _
  unfold cmpS
  rw [← hr, if_neg h])
theorem cmC (hN : RdN E E1 r) (h : isCmp r.toInt = true) (ha : AtP E1 E2) (hs : RdC (fun t n a => sumS false t n d a) E2 E3) (hk : KS E3 E4) : RdC (fun t n a => cmpS false t n d a) E E4 := (hN.at ha hs (fun _ hr E9 ho => by
  show Out (cmpS false (tT E) (tN E) d (tA E)) E9
  unfold cmpS
  rw [if_pos (by rw [← hr]; exact h)]
  exact Out.andThen ho (fun _ => rfl) (fun q c _ => ⟨q, rfl⟩))).ks hk
def unX (w : Int32) (d : Nat) (t : Nat → Int) (n a : Nat) : PR (List Int) := if w.toInt = 0 then unitS false t n d a else cmpS false t n d a
def paX (w : Int32) (d : Nat) (t : Nat → Int) (n a : Nat) : PR (List Int) := (unX w d t n a).andThen (opL t n isAnd jb (unitS false t n d))
def coX (w : Int32) (d : Nat) (t : Nat → Int) (n a : Nat) : PR (List Int) := (paX w d t n a).andThen (opL t n isOr jb (partS false t n d))
theorem unC_b {w : Int32} (h : ¬ w.toInt = 0) (hc : RdC (fun t n a => cmpS false t n d a) E E1) : RdC (unX w d) E E1 := hc.cg (fun E9 ho => by
  unfold unX
  rw [if_neg h]
  exact ho)
theorem unC_n0 {w : Int32} (hw : w.toInt = 0) (hN : RdN E E1 r) (h : r.toInt = 33) (hf : RdF E1 E2) (hd : d = 0) : RdC (unX w d) E E2 := hN.f hf (fun _ hr => by
  unfold unX
  rw [if_pos hw, hd]
  show unitO false _ _ 0 _ _ _ = _
  unfold unitO
  rw [← hr, h, if_pos rfl])
theorem unC_n {w : Int32} {k : Nat} (hw : w.toInt = 0) (hN : RdN E E1 r) (h : r.toInt = 33) (ha : AtP E1 E2) (hu : RdC (unX 0 k) E2 E3) (hk : KS E3 E4) (hd : d = k + 1) : RdC (unX w d) E E4 := (hN.at ha hu (fun _ hr E9 ho => by
  unfold unX
  rw [if_pos hw, hd]
  show Out (unitO false _ _ (k + 1) _ _ _) E9
  unfold unitO
  rw [← hr, h, if_pos rfl]
  exact Out.andThen ho (fun _ => rfl) (fun q c _ => ⟨q, rfl⟩))).ks hk
theorem unC_p0 {w : Int32} (hw : w.toInt = 0) (hN : RdN E E1 r) (h : r.toInt = 40) (hf : RdF E1 E2) (hd : d = 0) : RdC (unX w d) E E2 := hN.f hf (fun _ hr => by
  unfold unX
  rw [if_pos hw, hd]
  show unitO false _ _ 0 _ _ _ = _
  unfold unitO
  rw [← hr, h, if_neg (by decide), if_pos rfl])
theorem unC_p {w : Int32} {k : Nat} (hw : w.toInt = 0) (hN : RdN E E1 r) (h : r.toInt = 40) (ha : AtP E1 E2) (hu : RdC (coX 0 k) E2 E3) (ht : RdC (fun t n a => clo t n 41 a ()) E3 E4) (hd : d = k + 1) : RdC (unX w d) E E4 := hN.at ha (RdC.andThen hu ht (Q := fun t n a => clo t n 41 a ()) (R := fun t n a => (condS false t n k a).andThen (clo t n 41)) (f := fun t n => clo t n 41) (fun _ _ _ => rfl) (fun _ _ _ _ _ ho => out_clo ho)) (fun _ hr E9 ho => by
  unfold unX
  rw [if_pos hw, hd]
  show Out (unitO false _ _ (k + 1) _ _ _) E9
  unfold unitO
  rw [← hr, h, if_neg (by decide), if_pos rfl]
  exact ho)
theorem unC_c {w : Int32} (hw : w.toInt = 0) (hN : RdN E E1 r) (h : ¬ r.toInt = 33) (h1 : ¬ r.toInt = 40) (hs : RdC (fun t n a => sumS false t n d a) E1 E2) (hc : RdC (fun t n a => cmpS false t n d a) E2 E3) : RdC (unX w d) E E3 := hN.rd (RdC.andThen hs hc (R := fun t n a => (sumS false t n d a).andThen (fun a1 c1 => (cmpS false t n d a1).andThen (fun a2 c2 => .good a2 (c1 ++ c2)))) (f := fun t n a1 c1 => (cmpS false t n d a1).andThen (fun a2 c2 => .good a2 (c1 ++ c2))) (fun _ _ _ => rfl) (fun _ _ _ _ _ ho => Out.andThen ho (fun _ => rfl) (fun q c _ => ⟨q, rfl⟩))) (fun _ hr E9 ho => by
  unfold unX
  rw [if_pos hw]
  have key : unitS false (tT E) (tN E) d (tA E) = (sumS false (tT E) (tN E) d (sk (tT E) (tN E) (tA E))).andThen (fun a1 c1 => (cmpS false (tT E) (tN E) d a1).andThen (fun a2 c2 => .good a2 (c1 ++ c2))) := by
    cases d with
    | zero =>
      show unitO false _ _ 0 _ _ _ = _
      unfold unitO
      rw [← hr, if_neg h, if_neg h1]
    | succ d =>
      show unitO false _ _ (d + 1) _ _ _ = _
      unfold unitO
      rw [← hr, if_neg h, if_neg h1]
  rw [key]
  exact ho)
theorem lpP {w : Int32} : ∀ t n a, paX w d t n a = (unX w d t n a).andThen (opL t n isAnd jb (unX 0 d t n)) := fun _ _ _ => rfl
theorem lpO {w : Int32} : ∀ t n a, coX w d t n a = (paX w d t n a).andThen (opL t n isOr jb (paX 0 d t n)) := fun _ _ _ => rfl
theorem unX_mono (d : Nat) (t : Nat → Int) (n : Nat) : Mono (unX 0 d t n) := unitS_mono false t n d
theorem paX_mono (d : Nat) (t : Nat → Int) (n : Nat) : Mono (paX 0 d t n) := partS_mono false t n d
end RD
theorem i2c_all : ∀ k : Nat, k < 256 → ((nI k).toUInt32 % 65536).toInt32 = nI k := by decide +kernel
theorem i2c_s {x : Int32} (h : 0 ≤ x.toInt ∧ x.toInt ≤ 255) : (x.toUInt32 % 65536).toInt32 = x := by
  have h1 := i2c_all x.toNatClampNeg (by rw [tn_]; omega)
  rw [nI_tn h.1] at h1
  exact h1
theorem noX {x : Int32} {l : List Int32} {L : List Int} (hix : 0 ≤ (ixF x l 0).toInt ↔ L.contains x.toInt = true) (hp : ∀ y ∈ L, 0 < y) (h : ¬ (0 < x.toInt ∧ 0 ≤ (ixF x l 0).toInt)) : ¬ L.contains x.toInt = true := fun q => h ⟨by
  have q1 := q
  simp only [List.contains_eq_mem, decide_eq_true_eq] at q1
  exact hp _ q1, hix.mpr q⟩
theorem no_let {x : Int32} (h : ¬ (0 < x.toInt ∧ 0 ≤ (ixF x tLET 0).toInt)) : ¬ isLet x.toInt = true := noX (L := lets) ix_let (by decide) h
theorem no_mul {x : Int32} (h : ¬ (0 < x.toInt ∧ 0 ≤ (ixF x tMUL 0).toInt)) : ¬ isMul x.toInt = true := noX (L := [42, 47]) ix_mul (by decide) h
theorem no_add {x : Int32} (h : ¬ (0 < x.toInt ∧ 0 ≤ (ixF x tADD 0).toInt)) : ¬ isAdd x.toInt = true := noX (L := [43, 45]) ix_add (by decide) h
theorem no_cmp {x : Int32} (h : ¬ (0 < x.toInt ∧ 0 ≤ (ixF x tCMP 0).toInt)) : ¬ isCmp x.toInt = true := noX (L := [61, 60, 62]) ix_cmp (by decide) h
theorem no_lab {x : Int32} (h : ¬ (0 < x.toInt ∧ 0 ≤ (ixF x tLAB 0).toInt)) : ¬ isLab x.toInt = true := noX (L := [110, 112, 116, 97, 98]) ix_lab (by decide) h
theorem no_con {x : Int32} (h : ¬ (0 < x.toInt ∧ 0 ≤ (ixF x tCON 0).toInt)) : ¬ (x.toInt = 33 ∨ x.toInt = 40) := fun q => noX (L := [33, 40]) ix_con (by decide) h (con_or.mpr q)
theorem is_and {x : Int} : isAnd x = true ↔ x = 38 := by
  unfold isAnd
  simp
theorem is_or {x : Int} : isOr x = true ↔ x = 124 := by
  unfold isOr
  simp
theorem is_sem {x : Int} : isSem x = true ↔ x = 59 := by
  unfold isSem
  simp
/-! ===== what a walk knows ===== -/
theorem tA_e {E : Nat → va_E} {x : Int32} (h : xv (E 2) 2 = .int x) (h0 : 0 ≤ x.toInt) : (tA E : Int) = x.toInt := by
  unfold tA
  rw [show xi (E 2) 2 = x from vi_e h, tn_]
  omega
theorem tN_e {E : Nat → va_E} (h0 : 0 ≤ (xi (E 2) 1).toInt) : (tN E : Int) = (xi (E 2) 1).toInt := by
  unfold tN
  rw [tn_]
  omega
theorem tT_e {E E1 : Nat → va_E} {x y : Int32} (h : xv (E1 2) 2 = .int x) (e : y = xi (E 21) x.toNatClampNeg) : tT E (tA E1) = y.toInt := by
  unfold tT tA
  rw [show xi (E1 2) 2 = x from vi_e h, e]
theorem RdF.of {E E' : Nat → va_E} {x : Int32} (hk : ∀ o9 j9, ¬ (o9 = 2 ∧ j9 = 3) → xv (E' o9) j9 = xv (E o9) j9) (h1 : xv (E' 2) 3 = .int x) (h0 : xi (E 2) 2 = x) (hx : 0 ≤ x.toInt) (hf : (xi (E 2) 3).toInt = -1) : RdF E E' := ⟨⟨funext (fun k => congrArg Int32.toInt (congrArg vi (hk 21 k (by omega)))), congrArg Int32.toNatClampNeg (congrArg vi (hk 2 1 (by omega)))⟩, fun q => absurd hf q, fun _ => by
  show (xi (E' 2) 3).toInt = ((xi (E 2) 2).toNatClampNeg : Int)
  rw [show xi (E' 2) 3 = x from vi_e h1, h0, tn_]
  omega⟩
theorem RdF.no {E : Nat → va_E} (hf : ¬ (xi (E 2) 3).toInt = -1) : RdF E E := ⟨TS.rf, fun _ => rfl, fun q => absurd q hf⟩
theorem tkC {s : Int32} {E E1 E2 : Nat → va_E} {r : Int32} (hN : RdN E E1 r) (h : r.toInt = s.toInt) (ha : AtP E1 E2) : RdC (fun t n a => clo t n s.toInt a ()) E E2 := hN.at0 ha (fun _ hr => ⟨(), by
  show clo _ _ _ _ _ = _
  unfold clo
  rw [if_pos (by rw [← hr]; exact h)]⟩)
theorem tkC_no {s : Int32} {E E1 E2 : Nat → va_E} {r : Int32} (hN : RdN E E1 r) (h : ¬ r.toInt = s.toInt) (hf : RdF E1 E2) : RdC (fun t n a => clo t n s.toInt a ()) E E2 := hN.f hf (fun _ hr => by
  show clo _ _ _ _ _ = _
  unfold clo
  rw [if_neg (by rw [← hr]; exact h)])
section
/-! ===== CLAUSES, the TEXT (class) ===== -/
theorem RdC.andThen2 {α β γ : Type} {P : (Nat → Int) → Nat → Nat → PR α} {Q : (Nat → Int) → Nat → Nat → PR γ} {R : (Nat → Int) → Nat → Nat → PR β} {f : (Nat → Int) → Nat → Nat → α → PR β} {E E1 E2 : Nat → va_E} (h : RdC P E E1) (h1 : RdC Q E1 E2) (hR : ∀ t n a, R t n a = (P t n a).andThen (f t n)) (hQ : tF E1 = -1 → ∀ c E9, Out (Q (tT E1) (tN E1) (tA E1)) E9 → Out (f (tT E1) (tN E1) (tA E1) c) E9) : RdC R E E2 := ⟨h.1.tr h1.1, fun q => (h1.2.1 (by rw [h.2.1 q]; exact q)).trans (h.2.1 q), fun q => by
  rw [hR]
  refine Out.andThen (h.2.2 q) h1.2.1 (fun q1 c _ => ?_)
  have h5 := hQ q1 c _ (h1.2.2 q1)
  rw [h.1.1, h.1.2] at h5
  exact h5⟩
theorem Out.re {α β γ : Type} {x : PR α} {k : Nat → α → PR β} {k' : Nat → α → PR γ} {E : Nat → va_E} (h : Out (x.andThen k) E) (hk : ∀ a c, Out (k a c) E → Out (k' a c) E) : Out (x.andThen k') E := by
  rcases x with i | ⟨a, c⟩
  · exact h
  · exact hk a c h
theorem Out.gd {α β : Type} {x : PR α} {k : Nat → α → β} {E : Nat → va_E} (h : Out x E) : Out (x.andThen (fun a c => PR.good a (k a c))) E := by
  rcases x with i | ⟨a, c⟩
  · exact h
  · exact h
theorem RdN.c {E E1 : Nat → va_E} {r : Int32} (hN : RdN E E1 r) : RdC (fun t n a => PR.good (sk t n a) ()) E E1 := ⟨hN.1, fun _ => hN.2.1, fun q => ⟨hN.2.1.trans q, (hN.2.2.2 q).2⟩⟩
section CL
variable {E E1 E2 E3 E4 E5 E6 E7 E8 E9 E10 E11 E12 : Nat → va_E} {r r2 r3 : Int32} {lab : Int}
/-- the sign ?, then a SUM -/
def qsS (t : Nat → Int) (n a : Nat) : PR (List Int) := (clo t n 63 a ()).andThen (fun a4 _ => sumS false t n 8 a4)
theorem qsC (ht : RdC (fun t n a => clo t n 63 a ()) E E1) (hk : KS E1 E2) (hs : RdC (fun t n a => sumS false t n 8 a) E2 E3) (hk2 : KS E3 E4) : RdC qsS E E4 := RdC.andThen ht ((RdC.sk0 hk hs).ks hk2) (f := fun t n a4 _ => sumS false t n 8 a4) (fun _ _ _ => rfl) (fun _ _ _ _ _ ho => ho)
theorem qs_out {t : Nat → Int} {n a : Nat} {g : Nat → List Int → List (Int × List Int × List Int)} (h : Out (qsS t n a) E) : Out ((clo t n 63 a ()).andThen (fun a4 _ => (sumS false t n 8 a4).andThen (fun a5 sc => PR.good a5 (g a5 sc)))) E := Out.re h (fun _ _ ho => ho.gd)
theorem vC_c (hN : RdN E E1 r) (h : r.toInt = 33 ∨ r.toInt = 40) (hC : RdC (coX 0 8) E1 E2) (hq : RdC qsS E2 E3) : RdC (fun t n a => clauseV false t n a lab) E E3 := hN.rd (RdC.andThen2 hC hq (R := fun t n a => (condS false t n 8 a).andThen (fun a3 cc => (clo t n 63 a3 ()).andThen (fun a4 _ => (sumS false t n 8 a4).andThen (fun a5 sc => .good a5 [(lab, cc, sc)])))) (f := fun t n a3 cc => (clo t n 63 a3 ()).andThen (fun a4 _ => (sumS false t n 8 a4).andThen (fun a5 sc => .good a5 [(lab, cc, sc)]))) (fun _ _ _ => rfl) (fun _ c _ ho => qs_out (g := fun _ sc => [(lab, c, sc)]) ho)) (fun _ hr E9 ho => by
  show Out (clauseV false (tT E) (tN E) (tA E) lab) E9
  unfold clauseV
  rw [if_pos (by rw [← hr]; exact h)]
  exact ho)
def tlV (lab : Int) (t : Nat → Int) (n a3 : Nat) (c1 : List Int) : PR (List (Int × List Int × List Int)) := if isCmp (pk t n a3) = true then (condB false t n 8 (sk t n a3)).andThen (fun a4 c2 => (clo t n 63 a4 ()).andThen (fun a5 _ => (sumS false t n 8 a5).andThen (fun a6 sc => .good a6 [(lab, c1 ++ c2, sc)]))) else .good (sk t n a3) [(lab, [], c1)]
theorem vC_t (hN : RdN E E1 r) (h : ¬ (r.toInt = 33 ∨ r.toInt = 40)) (hs : RdC (fun t n a => (sumS false t n 8 a).andThen (tlV lab t n)) E1 E2) : RdC (fun t n a => clauseV false t n a lab) E E2 := hN.rd hs (fun _ hr E9 ho => by
  show Out (clauseV false (tT E) (tN E) (tA E) lab) E9
  unfold clauseV
  rw [if_neg (by rw [← hr]; exact h)]
  exact ho)
theorem vC_b (hN : RdN E E1 r) (h : ¬ (r.toInt = 33 ∨ r.toInt = 40)) (hs : RdC (fun t n a => sumS false t n 8 a) E1 E2) (hN2 : RdN E2 E3 r2) (h2 : isCmp r2.toInt = true) (hC : RdC (coX 1 8) E3 E4) (hq : RdC qsS E4 E5) : RdC (fun t n a => clauseV false t n a lab) E E5 := by
  have hX : RdC (fun t n a => (condB false t n 8 a).andThen (fun a4 _ => qsS t n a4)) E3 E5 := RdC.andThen2 hC hq (f := fun t n a4 _ => qsS t n a4) (fun _ _ _ => rfl) (fun _ _ _ ho => ho)
  have hY : RdC (fun t n a => (condB false t n 8 (sk t n a)).andThen (fun a4 _ => qsS t n a4)) E2 E5 := hN2.rd hX (fun _ _ _ ho => ho)
  refine vC_t hN h (RdC.andThen2 hs hY (f := tlV lab) (fun _ _ _ => rfl) (fun hf c E9 ho => ?_))
  have hp := (hN2.2.2.2 hf).1
  unfold tlV
  rw [if_pos (by rw [← hp]; exact h2)]
  exact Out.re ho (fun a4 c2 ho => qs_out (g := fun _ sc => [(lab, c ++ c2, sc)]) ho)
theorem vC_s (hN : RdN E E1 r) (h : ¬ (r.toInt = 33 ∨ r.toInt = 40)) (hs : RdC (fun t n a => sumS false t n 8 a) E1 E2) (hN2 : RdN E2 E3 r2) (h2 : ¬ isCmp r2.toInt = true) : RdC (fun t n a => clauseV false t n a lab) E E3 := by
  refine vC_t hN h (RdC.andThen2 hs hN2.c (f := tlV lab) (fun _ _ _ => rfl) (fun hf c E9 ho => ?_))
  have hp := (hN2.2.2.2 hf).1
  unfold tlV
  rw [if_neg (by rw [← hp]; exact h2)]
  exact ho
theorem clC_no (hN : RdN E E1 r) (h : ¬ isLab r.toInt = true) (hf : RdF E1 E2) : RdC (fun t n a => clauseS false t n a) E E2 := hN.f hf (fun _ hr => by
  show clauseS false (tT E) (tN E) (tA E) = _
  unfold clauseS
  rw [← hr, if_neg h])
theorem clC (hN : RdN E E1 r) (h : isLab r.toInt = true) (ha : AtP E1 E2) (ht : RdC (fun t n a => clo t n 58 a ()) E2 E3) (hk : KS E3 E4) (hv : RdC (fun t n a => clauseV false t n a r.toInt) E4 E5) (hk2 : KS E5 E6) : RdC (fun t n a => clauseS false t n a) E E6 := (hN.at ha (RdC.andThen ht (RdC.sk0 hk hv) (R := fun t n a => (clo t n 58 a ()).andThen (fun a2 _ => clauseV false t n a2 r.toInt)) (f := fun t n a2 _ => clauseV false t n a2 r.toInt) (fun _ _ _ => rfl) (fun _ _ _ _ _ ho => ho)) (fun _ hr E9 ho => by
  show Out (clauseS false (tT E) (tN E) (tA E)) E9
  unfold clauseS
  rw [← hr, if_pos h]
  exact ho)).ks hk2
end CL
/-! ===== a CLAUSE takes three places at least ===== -/
theorem numS_m1 {b : Bool} {t : Nat → Int} {n a a2 : Nat} {c : List Int} (h1 : a < n) (h2 : dgt (t a)) (h : numS b t n a = .good a2 c) : a + 1 ≤ a2 := by
  unfold numS at h
  by_cases e : b = true ∧ (numF t n 5 a 0).1 < n ∧ dgt (t (numF t n 5 a 0).1)
  · rw [if_pos e] at h
    exact (bad_no h).elim
  · rw [if_neg e] at h
    have h3 := good_inj h
    rw [← h3, show numF t n 5 a 0 = numF t n 4 (a + 1) (10 * 0 + (t a - 48)) from if_pos ⟨h1, h2⟩]
    exact numF_ge _ _ _
theorem pkt_lt {t : Nat → Int} {n a : Nat} (h : 0 ≤ pk t n a) : sk t n a < n ∧ t (sk t n a) = pk t n a := by
  unfold pk at h ⊢
  by_cases c : sk t n a < n
  · rw [if_pos c]
    exact ⟨c, rfl⟩
  · rw [if_neg c] at h
    exact absurd h (by decide)
theorem sumS_m1 (b : Bool) (t : Nat → Int) (n : Nat) : ∀ d x a c, sumS b t n d x = .good a c → x + 1 ≤ a := by
  have key : ∀ (i : Nat → PR (List Int)), Mono i → (∀ x a c, i x = .good a c → x + 1 ≤ a) → ∀ x a c, sumO b t n i x = .good a c → x + 1 ≤ a := by
    intro i hi hi1 x a c h
    have hat : ∀ x a c, atomO b t n i x = .good a c → x + 1 ≤ a := by
      intro x a c h
      unfold atomO at h
      have h0 := sk_ge t n x
      by_cases c1 : dgt (pk t n x)
      · rw [if_pos c1] at h
        have h4 := pkt_lt (t := t) (n := n) (a := x) (by unfold dgt at c1; omega)
        have := numS_m1 h4.1 (by rw [h4.2]; exact c1) h
        omega
      · rw [if_neg c1] at h
        by_cases c2 : isLet (pk t n x) = true
        · rw [if_pos c2] at h
          have := good_inj h
          omega
        · rw [if_neg c2] at h
          by_cases c3 : pk t n x = 91
          · rw [if_pos c3] at h
            have := hi1 _ _ _ h
            omega
          · rw [if_neg c3] at h
            exact (bad_no h).elim
    refine andThen_mono (x := x + 1) (fun a c h => andThen_mono (x := x + 1) (fun a c h => hat _ _ _ h) (fun _ _ _ _ _ h => opL_mono (atomO_mono hi) h) a c h) (fun _ _ _ _ _ h => opL_mono (termO_mono hi) h) a c h
  intro d
  induction d with
  | zero => exact key _ bad_mono (fun _ _ _ h => (bad_no h).elim)
  | succ d ih => exact key _ (in_mono (sumS_mono b t n d)) (fun x a c h => andThen_mono (x := x + 1) (fun a c h => by have := ih _ _ _ h; omega) (fun _ _ _ _ _ h => clo_mono h) a c h)
theorem clauseV_m1 (b : Bool) (t : Nat → Int) (n : Nat) (lab : Int) (x : Nat) : ∀ a c, clauseV b t n x lab = .good a c → x + 1 ≤ a := by
  intro a c h
  unfold clauseV at h
  have h0 := sk_ge t n x
  by_cases c1 : pk t n x = 33 ∨ pk t n x = 40
  · rw [if_pos c1] at h
    exact andThen_m (x := x) (k := 1) (fun a c h => by have := condS_mono b t n 8 _ _ _ h; omega) (fun a3 c3 a4 c4 hx h => by
      have := andThen_m (x := a3) (k := 1) (fun a c h => clo_mono h) (fun a5 c5 a6 c6 _ h => by
        have := andThen_m (x := a5) (k := 0) (fun a c h => sumS_mono b t n 8 _ _ _ h) (fun a7 c7 a8 c8 _ h => by have := good_inj h; omega) a6 c6 h
        have h9 := sumS_m1 b t n 8
        rcases hs : sumS b t n 8 a5 with i | ⟨a7, c7⟩
        · 
          rw [hs] at h
          exact (bad_no h).elim
        · 
          rw [hs] at h
          have h8 := h9 _ _ _ hs
          have := good_inj h
          omega) a4 c4 h
      omega) a c h
  · rw [if_neg c1] at h
    rcases hs : sumS b t n 8 (sk t n x) with i | ⟨a3, c3⟩
    · 
      rw [hs] at h
      exact (bad_no h).elim
    · 
      rw [hs] at h
      have h8 := sumS_m1 b t n 8 _ _ _ hs
      have h3 := sk_ge t n a3
      have h' : (if isCmp (pk t n a3) = true then (condB b t n 8 (sk t n a3)).andThen (fun a4 c2 => (clo t n 63 a4 ()).andThen (fun a5 _ => (sumS b t n 8 a5).andThen (fun a6 sc => .good a6 [(lab, c3 ++ c2, sc)]))) else .good (sk t n a3) [(lab, [], c3)]) = PR.good a c := h
      by_cases c2 : isCmp (pk t n a3) = true
      · rw [if_pos c2] at h'
        have := andThen_mono (x := a3) (fun a c h => by have := condB_mono b t n 8 _ _ _ h; omega) (fun a5 c5 a6 c6 _ h => andThen_mono (x := a5) (fun a c h => clo_mono h) (fun a7 c7 a8 c8 _ h => andThen_mono (x := a7) (fun a c h => sumS_mono b t n 8 _ _ _ h) (fun a9 c9 a10 c10 _ h => by have := good_inj h; omega) a8 c8 h) a6 c6 h) a c h'
        omega
      · rw [if_neg c2] at h'
        have := good_inj h'
        omega
theorem clauseS_m3 {b : Bool} {t : Nat → Int} {n x a : Nat} {c : List (Int × List Int × List Int)} (h : clauseS b t n x = .good a c) : x + 3 ≤ a := by
  unfold clauseS at h
  have h0 := sk_ge t n x
  by_cases c1 : isLab (pk t n x) = true
  · rw [if_pos c1] at h
    rcases hs : clo t n 58 (sk t n x + 1) () with i | ⟨a2, c2⟩
    · 
      rw [hs] at h
      exact (bad_no h).elim
    · 
      rw [hs] at h
      have h1 := clo_m1 hs
      have h2 := clauseV_m1 b t n _ _ _ _ h
      omega
  · rw [if_neg c1] at h
    exact (bad_no h).elim
theorem RdC.m3 {E E' : Nat → va_E} (h : RdC (fun t n a => clauseS false t n a) E E') (hf : tF E = -1) (hf' : tF E' = -1) : tA E + 3 ≤ tA E' := by
  obtain ⟨c, hc⟩ := (h.2.2 hf).f hf'
  exact clauseS_m3 hc
/-! ===== the TEXT ===== -/
theorem lpX : ∀ t n a, textL false t n a = (clauseS false t n a).andThen (opL t n isSem cbC (clauseS false t n)) := fun _ _ _ => rfl
def Flt (E E' : Nat → va_E) : Prop := TS E E' ∧ tF E' = (textS false (tT E) (tN E)).flt
theorem Flt.ks {E E1 E2 : Nat → va_E} (h : Flt E E1) (hk : KS E1 E2) : Flt E E2 := ⟨h.1.tr hk.1, hk.2.1.trans h.2⟩
theorem flt_ok {E E0 E1 E2 : Nat → va_E} {r : Int32} (ht : TS E E0) (h0 : tF E0 = -1) (ha : tA E0 = 0) (h : RdC (fun t n a => textL false t n a) E0 E1) (hN : RdN E1 E2 r) (hr : r.toInt = -1) : Flt E E2 := ⟨(ht.tr h.1).tr hN.1, by
  have h1 : tF E1 = -1 := by
    by_cases q : tF E1 = -1
    · exact q
    · have := (hN.2.2.1 q).1
      omega
  obtain ⟨c, hc⟩ := (h.2.2 h0).f h1
  have hp := (hN.2.2.2 h1).1
  rw [ha, ht.1, ht.2] at hc
  rw [h.1.1, h.1.2, ht.1, ht.2] at hp
  unfold textS
  have hc' : textL false (tT E) (tN E) 0 = .good (tA E1) c := hc
  rw [hc']
  show _ = PR.flt (if pk (tT E) (tN E) (tA E1) = -1 then _ else _)
  rw [if_pos (by rw [← hp]; exact hr), hN.2.1]
  exact h1⟩
theorem flt_no {E E0 E1 E2 E3 : Nat → va_E} {r : Int32} (ht : TS E E0) (h0 : tF E0 = -1) (ha : tA E0 = 0) (h : RdC (fun t n a => textL false t n a) E0 E1) (hN : RdN E1 E2 r) (hr : ¬ r.toInt = -1) (hf : RdF E2 E3) : Flt E E3 := ⟨((ht.tr h.1).tr hN.1).tr hf.1, by
  have h5 := h.2.2 h0
  rw [ha, ht.1, ht.2] at h5
  have h5' : Out (textL false (tT E) (tN E) 0) E1 := h5
  unfold textS
  by_cases h1 : tF E1 = -1
  · obtain ⟨c, hc⟩ := h5'.f h1
    have hp := (hN.2.2.2 h1).1
    rw [h.1.1, h.1.2, ht.1, ht.2] at hp
    rw [hc]
    show _ = PR.flt (if pk (tT E) (tN E) (tA E1) = -1 then _ else _)
    rw [if_neg (by rw [← hp]; exact hr), hf.2.2 (hN.2.1.trans h1), (hN.2.2.2 h1).2, h.1.1, h.1.2, ht.1, ht.2]
    rfl
  · rcases hx : textL false (tT E) (tN E) 0 with i | ⟨a, c⟩
    · skip
      rw [hx] at h5'
      have h6 : tF E1 = (i : Int) := h5'
      rw [hf.2.1 (by rw [hN.2.1]; exact h1), hN.2.1, h6]
      rfl
    · skip
      rw [hx] at h5'
      exact absurd h5'.1 h1⟩
/-! ===== how many CLAUSES ===== -/
def ClO (c : Int32) (E : Nat → va_E) : Prop := tF E = -1 → 4 * c.toInt ≤ (tA E : Int)
def ClI (c : Int32) (E : Nat → va_E) : Prop := tF E = -1 → 4 * c.toInt ≤ (tA E : Int) + 1
def ClP (c c' : Int32) (E : Nat → va_E) : Prop := tF E = -1 → c'.toInt = c.toInt + 1
theorem cl51 {E E1 : Nat → va_E} {r c : Int32} (hN : RdN E E1 r) (h0 : 0 ≤ r.toInt) (hc : ClO c E) (h51 : 51 ≤ c.toInt) (ha : (tA E1 : Int) < 200) : False := by
  have h1 := hN.nf h0
  have h2 := hc h1
  have h3 := (hN.2.2.2 h1).2
  have h4 := sk_ge (tT E) (tN E) (tA E)
  omega
theorem ClI.of {E E1 : Nat → va_E} {c c' : Int32} (hO : ClO c E) (hp : ClP c c' E1) (h : RdC (fun t m a => clauseS false t m a) E E1) : ClI c' E1 := fun q => by
  have h0 : tF E = -1 := by
    by_cases q0 : tF E = -1
    · exact q0
    · exact absurd ((h.2.1 q0).symm.trans q) q0
  have h1 := hO h0
  have h2 := hp q
  have h3 := h.m3 h0 q
  omega
theorem ClO.of {E1 E2 E3 : Nat → va_E} {c r : Int32} (h : ClI c E1) (hN : RdN E1 E2 r) (ha : AtP E2 E3) : ClO c E3 := fun q => by
  have h1 : tF E1 = -1 := (hN.2.1.symm.trans ha.2.1.symm).trans q
  have h2 := h h1
  have h3 := (hN.2.2.2 h1).2
  have h4 := sk_ge (tT E1) (tN E1) (tA E1)
  have h5 := ha.2.2
  omega
theorem rdF_no {E E1 E2 : Nat → va_E} {r : Int32} (hN : RdN E E1 r) (hf : RdF E1 E2) (h : tF E2 = -1) : False := by
  by_cases q : tF E1 = -1
  · have := hf.2.2 q
    omega
  · have := hf.2.1 q
    omega
end
section
/-! ===== the reference's TEXT in a world ===== -/
section RM
variable {k : Nat}
def mT (k : Nat) (E : Nat → va_E) : Nat → Int := fun j => (xi (E k) ((xi (E 0) 19).toNatClampNeg + j)).toInt % 256
def mN (E : Nat → va_E) : Nat := (xi (E 0) 20).toNatClampNeg
def mA (E : Nat → va_E) : Nat := (xi (E 0) 21).toNatClampNeg
def mFa (E : Nat → va_E) : Int := (xi (E 0) 22).toInt
def TM (k : Nat) (E E' : Nat → va_E) : Prop := mT k E' = mT k E ∧ mN E' = mN E
theorem TM.rf {E : Nat → va_E} : TM k E E := ⟨rfl, rfl⟩
theorem TM.tr {E E1 E2 : Nat → va_E} (h : TM k E E1) (h1 : TM k E1 E2) : TM k E E2 := ⟨h1.1.trans h.1, h1.2.trans h.2⟩
theorem mT_k {E E' : Nat → va_E} (h : ∀ j, xi (E' k) j = xi (E k) j) (h1 : xi (E' 0) 19 = xi (E 0) 19) : mT k E' = mT k E := funext (fun j => by
  unfold mT
  rw [h, h1])
theorem TM.kp {w : Nat → Nat → Bool} {E E' : Nat → va_E} (hk : Kp w E E') (h0 : ∀ j, w k j = false) (h1 : w 0 19 = false) (h2 : w 0 20 = false) : TM k E E' := ⟨mT_k (fun j => congrArg vi (hk k j (h0 j))) (congrArg vi (hk 0 19 h1)), congrArg Int32.toNatClampNeg (congrArg vi (hk 0 20 h2))⟩

/-- what a reader comes to -/
def OuM {α : Type} (r : PR α) (E : Nat → va_E) : Prop := match r with
  | Sum.inl i => mFa E = (i : Int)
  | Sum.inr (a, _) => mFa E = -1 ∧ mA E = a
def RdM (k : Nat) {α : Type} (P : (Nat → Int) → Nat → Nat → PR α) (E E' : Nat → va_E) : Prop := TM k E E' ∧ (¬ mFa E = -1 → mFa E' = mFa E) ∧ (mFa E = -1 → OuM (P (mT k E) (mN E) (mA E)) E')
def RdL (k : Nat) (E E' : Nat → va_E) (r : Int32) : Prop := TM k E E' ∧ mFa E' = mFa E ∧ (mFa E = -1 → r.toInt = pk (mT k E) (mN E) (mA E) ∧ mA E' = sk (mT k E) (mN E) (mA E))
def RdS (k : Nat) (E E' : Nat → va_E) : Prop := TM k E E' ∧ (¬ mFa E = -1 → mFa E' = mFa E) ∧ (mFa E = -1 → mFa E' = (mA E : Int))
def AtM (k : Nat) (E E' : Nat → va_E) : Prop := TM k E E' ∧ mFa E' = mFa E ∧ mA E' = mA E + 1
def KM (k : Nat) (E E' : Nat → va_E) : Prop := TM k E E' ∧ mFa E' = mFa E ∧ mA E' = mA E
theorem KM.rf {E : Nat → va_E} : KM k E E := ⟨TM.rf, rfl, rfl⟩
theorem KM.tr {E E1 E2 : Nat → va_E} (h : KM k E E1) (h1 : KM k E1 E2) : KM k E E2 := ⟨h.1.tr h1.1, h1.2.1.trans h.2.1, h1.2.2.trans h.2.2⟩
theorem OuM.andThen {α β : Type} {r : PR α} {f : Nat → α → PR β} {E1 E2 : Nat → va_E} (h1 : OuM r E1) (h2 : ¬ mFa E1 = -1 → mFa E2 = mFa E1) (h3 : mFa E1 = -1 → ∀ c, r = .good (mA E1) c → OuM (f (mA E1) c) E2) : OuM (r.andThen f) E2 := by
  rcases r with i | ⟨a, c⟩
  · 
    have h4 : mFa E1 = (i : Int) := h1
    exact (h2 (by omega)).trans h4
  · 
    obtain ⟨h4, rfl⟩ : mFa E1 = -1 ∧ mA E1 = a := h1
    exact h3 h4 c rfl
theorem OuM.f {α : Type} {r : PR α} {E : Nat → va_E} (h : OuM r E) (hf : mFa E = -1) : ∃ c, r = .good (mA E) c := by
  rcases r with i | ⟨a, c⟩
  · 
    have h4 : mFa E = (i : Int) := h
    exfalso
    omega
  · 
    obtain ⟨_, rfl⟩ : mFa E = -1 ∧ mA E = a := h
    exact ⟨c, rfl⟩
theorem OuM.kf {α : Type} {r : PR α} {E E' : Nat → va_E} (h : OuM r E) (hf : mFa E' = mFa E) (ha : mFa E = -1 → mA E' = mA E) : OuM r E' := by
  rcases r with i | ⟨a, c⟩
  · exact hf.trans h
  · 
    obtain ⟨h4, h5⟩ : mFa E = -1 ∧ mA E = a := h
    exact ⟨hf.trans h4, (ha h4).trans h5⟩
/-- one reader behind another -/
theorem RdM.andThen {α β γ : Type} {P : (Nat → Int) → Nat → Nat → PR α} {Q : (Nat → Int) → Nat → Nat → PR γ} {R : (Nat → Int) → Nat → Nat → PR β} {f : (Nat → Int) → Nat → Nat → α → PR β} {E E1 E2 : Nat → va_E} (h : RdM k P E E1) (h1 : RdM k Q E1 E2) (hR : ∀ t n a, R t n a = (P t n a).andThen (f t n)) (hQ : ∀ t n a c E9, OuM (Q t n a) E9 → OuM (f t n a c) E9) : RdM k R E E2 := ⟨h.1.tr h1.1, fun q => (h1.2.1 (by rw [h.2.1 q]; exact q)).trans (h.2.1 q), fun q => by
  rw [hR]
  refine OuM.andThen (h.2.2 q) h1.2.1 (fun q1 c _ => ?_)
  have h5 := h1.2.2 q1
  rw [h.1.1, h.1.2] at h5
  exact hQ _ _ _ c _ h5⟩
theorem RdM.ks {α : Type} {P : (Nat → Int) → Nat → Nat → PR α} {E E1 E2 : Nat → va_E} (h : RdM k P E E1) (h1 : KM k E1 E2) : RdM k P E E2 := ⟨h.1.tr h1.1, fun q => h1.2.1.trans (h.2.1 q), fun q => (h.2.2 q).kf h1.2.1 (fun _ => h1.2.2)⟩
theorem RdM.sk0 {α : Type} {P : (Nat → Int) → Nat → Nat → PR α} {E E1 E2 : Nat → va_E} (h1 : KM k E E1) (h : RdM k P E1 E2) : RdM k P E E2 := ⟨h1.1.tr h.1, fun q => (h.2.1 (by rw [h1.2.1]; exact q)).trans h1.2.1, fun q => by
  have h5 := h.2.2 (h1.2.1.trans q)
  rw [h1.1.1, h1.1.2, h1.2.2] at h5
  exact h5⟩
theorem RdM.cg {α β : Type} {P : (Nat → Int) → Nat → Nat → PR α} {R : (Nat → Int) → Nat → Nat → PR β} {E E' : Nat → va_E} (h : RdM k P E E') (hR : ∀ E9, OuM (P (mT k E) (mN E) (mA E)) E9 → OuM (R (mT k E) (mN E) (mA E)) E9) : RdM k R E E' := ⟨h.1, h.2.1, fun q => hR _ (h.2.2 q)⟩
/-- what stands behind a look, a place on -/
theorem RdL.rd {α β : Type} {P : (Nat → Int) → Nat → Nat → PR α} {R : (Nat → Int) → Nat → Nat → PR β} {E E1 E2 : Nat → va_E} {r : Int32} (hN : RdL k E E1 r) (h : RdM k P E1 E2) (hR : mFa E = -1 → r.toInt = pk (mT k E) (mN E) (mA E) → ∀ E9, OuM (P (mT k E) (mN E) (sk (mT k E) (mN E) (mA E))) E9 → OuM (R (mT k E) (mN E) (mA E)) E9) : RdM k R E E2 := ⟨hN.1.tr h.1, fun q => (h.2.1 (by rw [hN.2.1]; exact q)).trans hN.2.1, fun q => by
  have h5 := h.2.2 (hN.2.1.trans q)
  rw [hN.1.1, hN.1.2, (hN.2.2 q).2] at h5
  exact hR q (hN.2.2 q).1 _ h5⟩
theorem RdL.at {α β : Type} {P : (Nat → Int) → Nat → Nat → PR α} {R : (Nat → Int) → Nat → Nat → PR β} {E E1 E2 E3 : Nat → va_E} {r : Int32} (hN : RdL k E E1 r) (ha : AtM k E1 E2) (h : RdM k P E2 E3) (hR : mFa E = -1 → r.toInt = pk (mT k E) (mN E) (mA E) → ∀ E9, OuM (P (mT k E) (mN E) (sk (mT k E) (mN E) (mA E) + 1)) E9 → OuM (R (mT k E) (mN E) (mA E)) E9) : RdM k R E E3 := ⟨(hN.1.tr ha.1).tr h.1, fun q => (h.2.1 (by rw [ha.2.1, hN.2.1]; exact q)).trans (ha.2.1.trans hN.2.1), fun q => by
  have h5 := h.2.2 (ha.2.1.trans (hN.2.1.trans q))
  rw [ha.1.1, ha.1.2, hN.1.1, hN.1.2, ha.2.2, (hN.2.2 q).2] at h5
  exact hR q (hN.2.2 q).1 _ h5⟩
/-- a place on alone -/
theorem RdL.at0 {β : Type} {R : (Nat → Int) → Nat → Nat → PR β} {E E1 E2 : Nat → va_E} {r : Int32} (hN : RdL k E E1 r) (ha : AtM k E1 E2) (hR : mFa E = -1 → r.toInt = pk (mT k E) (mN E) (mA E) → ∃ c, R (mT k E) (mN E) (mA E) = .good (sk (mT k E) (mN E) (mA E) + 1) c) : RdM k R E E2 := ⟨hN.1.tr ha.1, fun q => ha.2.1.trans hN.2.1, fun q => by
  obtain ⟨c, hc⟩ := hR q (hN.2.2 q).1
  rw [hc]
  exact ⟨ha.2.1.trans (hN.2.1.trans q), by rw [ha.2.2, (hN.2.2 q).2]⟩⟩
theorem RdL.f {β : Type} {R : (Nat → Int) → Nat → Nat → PR β} {E E1 E2 : Nat → va_E} {r : Int32} (hN : RdL k E E1 r) (hf : RdS k E1 E2) (hR : mFa E = -1 → r.toInt = pk (mT k E) (mN E) (mA E) → R (mT k E) (mN E) (mA E) = .bad (sk (mT k E) (mN E) (mA E))) : RdM k R E E2 := ⟨hN.1.tr hf.1, fun q => (hf.2.1 (by rw [hN.2.1]; exact q)).trans hN.2.1, fun q => by
  rw [hR q (hN.2.2 q).1]
  show mFa E2 = _
  rw [hf.2.2 (hN.2.1.trans q), (hN.2.2 q).2]⟩
/-! ===== loops ===== -/
def LpM (k : Nat) {α : Type} (P : (Nat → Int) → Nat → Nat → PR α) (K : (Nat → Int) → Nat → Nat → α → PR α) (i : Int) (E E1 : Nat → va_E) : Prop := TM k E E1 ∧ (¬ mFa E = -1 → mFa E1 = mFa E) ∧ (mFa E = -1 → (¬ mFa E1 = -1 → OuM (P (mT k E) (mN E) (mA E)) E1) ∧ (mFa E1 = -1 → i ≤ (mA E1 : Int) ∧ ∃ c, P (mT k E) (mN E) (mA E) = K (mT k E) (mN E) (mA E1) c))
theorem LpM.start {α : Type} {P P0 : (Nat → Int) → Nat → Nat → PR α} {K : (Nat → Int) → Nat → Nat → α → PR α} {i : Int} {E E1 : Nat → va_E} (h : RdM k P0 E E1) (hP : ∀ t n a, P t n a = (P0 t n a).andThen (K t n)) (hi : i ≤ 0) : LpM k P K i E E1 := ⟨h.1, h.2.1, fun q => ⟨fun q1 => by
  have h5 := h.2.2 q
  rw [hP]
  exact OuM.andThen h5 (fun _ => rfl) (fun q2 => absurd q2 q1), fun q1 => by
  obtain ⟨c, hc⟩ := (h.2.2 q).f q1
  exact ⟨by omega, c, by rw [hP, hc]; rfl⟩⟩⟩
theorem LpM.step {α : Type} {P P0 : (Nat → Int) → Nat → Nat → PR α} {K : (Nat → Int) → Nat → Nat → α → PR α} {op : Int → Bool} {cb : α → Int → α → α} {i j : Int} {r : Int32} {E E1 E2 E3 E4 E5 : Nat → va_E} (hl : LpM k P K i E E1) (hN : RdL k E1 E2 r) (ho : op r.toInt = true) (f1 : mFa E1 = -1) (ha : AtM k E2 E3) (hr : RdM k P0 E3 E4) (hk : KM k E4 E5) (hij : j ≤ i + 1) (hm : ∀ t n, Mono (P0 t n)) (hK : ∀ t n a c, op (pk t n a) = true → K t n a c = (P0 t n (sk t n a + 1)).andThen (fun a2 c2 => K t n a2 (cb c (pk t n a) c2))) : LpM k P K j E E5 := by
  have f3 : mFa E3 = -1 := ha.2.1.trans (hN.2.1.trans f1)
  obtain ⟨r1, r2⟩ := hN.2.2 f1
  refine ⟨hl.1.tr ((hN.1.tr ha.1).tr (hr.1.tr hk.1)), fun q => absurd ((hl.2.1 q).symm.trans f1) q, fun q => ?_⟩
  obtain ⟨hi, c, hc⟩ := (hl.2.2 q).2 f1
  have h5 := hr.2.2 f3
  rw [ha.1.1, ha.1.2, hN.1.1, hN.1.2, ha.2.2, r2, hl.1.1, hl.1.2] at h5
  rw [r1, hl.1.1, hl.1.2] at ho
  rw [hc, hK _ _ _ _ ho]
  refine ⟨fun q5 => ?_, fun q5 => ?_⟩
  · refine OuM.andThen h5 (fun _ => hk.2.1) (fun q6 => absurd (hk.2.1.trans q6) q5)
  · have f4 : mFa E4 = -1 := hk.2.1.symm.trans q5
    obtain ⟨c2, hc2⟩ := h5.f f4
    have h7 := hm _ _ _ _ _ hc2
    have h8 := sk_ge (mT k E) (mN E) (mA E1)
    refine ⟨by rw [hk.2.2]; omega, cb c (pk (mT k E) (mN E) (mA E1)) c2, ?_⟩
    rw [hc2, hk.2.2]
    rfl
theorem LpM.exit {α : Type} {P : (Nat → Int) → Nat → Nat → PR α} {K : (Nat → Int) → Nat → Nat → α → PR α} {op : Int → Bool} {i : Int} {r : Int32} {E E1 E2 : Nat → va_E} (hl : LpM k P K i E E1) (hN : RdL k E1 E2 r) (ho : ¬ op r.toInt = true) (hK : ∀ t n a c, ¬ op (pk t n a) = true → K t n a c = .good (sk t n a) c) : RdM k P E E2 := ⟨hl.1.tr hN.1, fun q => hN.2.1.trans (hl.2.1 q), fun q => by
  by_cases f1 : mFa E1 = -1
  · obtain ⟨_, c, hc⟩ := (hl.2.2 q).2 f1
    obtain ⟨r1, r2⟩ := hN.2.2 f1
    rw [r1, hl.1.1, hl.1.2] at ho
    rw [hc, hK _ _ _ _ ho]
    exact ⟨hN.2.1.trans f1, by rw [r2, hl.1.1, hl.1.2]⟩
  · exact ((hl.2.2 q).1 f1).kf hN.2.1 (fun q1 => absurd q1 f1)⟩
theorem LpM.fin {α : Type} {P : (Nat → Int) → Nat → Nat → PR α} {K : (Nat → Int) → Nat → Nat → α → PR α} {op : Int → Bool} {i : Int} {E E1 : Nat → va_E} (hl : LpM k P K i E E1) (hn : (mN E : Int) ≤ i) (hop : op (-1) = false) (hK : ∀ t n a c, ¬ op (pk t n a) = true → K t n a c = .good (sk t n a) c) : RdM k P E E1 := ⟨hl.1, hl.2.1, fun q => by
  by_cases f1 : mFa E1 = -1
  · obtain ⟨h8, c, hc⟩ := (hl.2.2 q).2 f1
    have h9 : mN E ≤ mA E1 := by omega
    rw [hc, hK _ _ _ _ (by rw [pk_ge h9, hop]; decide)]
    exact ⟨f1, (sk_0 (by omega)).symm⟩
  · exact (hl.2.2 q).1 f1⟩

theorem KM.kp {w : Nat → Nat → Bool} {E E' : Nat → va_E} (hk : Kp w E E') (h0 : ∀ j, w k j = false) (h1 : w 0 19 = false) (h2 : w 0 20 = false) (h3 : w 0 21 = false) (h4 : w 0 22 = false) : KM k E E' := ⟨TM.kp hk h0 h1 h2, congrArg Int32.toInt (congrArg vi (hk 0 22 h4)), congrArg Int32.toNatClampNeg (congrArg vi (hk 0 21 h3))⟩
theorem KM.pw {j : Nat} {E E' : Nat → va_E} (hk : ∀ o9 j9, ¬ (o9 = 0 ∧ j9 = j) → xv (E' o9) j9 = xv (E o9) j9) (h0 : ¬ k = 0) (h1 : ¬ j = 19 ∧ ¬ j = 20 ∧ ¬ j = 21 ∧ ¬ j = 22) : KM k E E' := ⟨⟨mT_k (fun i => congrArg vi (hk k i (fun q => h0 q.1))) (congrArg vi (hk 0 19 (fun q => h1.1 q.2.symm))), congrArg Int32.toNatClampNeg (congrArg vi (hk 0 20 (fun q => h1.2.1 q.2.symm)))⟩, congrArg Int32.toInt (congrArg vi (hk 0 22 (fun q => h1.2.2.2 q.2.symm))), congrArg Int32.toNatClampNeg (congrArg vi (hk 0 21 (fun q => h1.2.2.1 q.2.symm)))⟩
theorem AtM.pw {E E' : Nat → va_E} {x y : Int32} (hk : ∀ o9 j9, ¬ (o9 = 0 ∧ j9 = 21) → xv (E' o9) j9 = xv (E o9) j9) (k0 : ¬ k = 0) (h0 : xi (E 0) 21 = x) (h1 : xi (E' 0) 21 = y) (t : y.toInt = x.toInt + 1) (hx : 0 ≤ x.toInt) : AtM k E E' := ⟨⟨mT_k (fun i => congrArg vi (hk k i (fun q => k0 q.1))) (congrArg vi (hk 0 19 (by omega))), congrArg Int32.toNatClampNeg (congrArg vi (hk 0 20 (by omega)))⟩, congrArg Int32.toInt (congrArg vi (hk 0 22 (by omega))), by
  unfold mA
  rw [h0, h1, tn_, tn_]
  omega⟩
theorem RdS.of {E E' : Nat → va_E} {x : Int32} (hk : ∀ o9 j9, ¬ (o9 = 0 ∧ j9 = 22) → xv (E' o9) j9 = xv (E o9) j9) (k0 : ¬ k = 0) (h1 : xv (E' 0) 22 = .int x) (h0 : xi (E 0) 21 = x) (hx : 0 ≤ x.toInt) (hf : (xi (E 0) 22).toInt = -1) : RdS k E E' := ⟨⟨mT_k (fun i => congrArg vi (hk k i (fun q => k0 q.1))) (congrArg vi (hk 0 19 (by omega))), congrArg Int32.toNatClampNeg (congrArg vi (hk 0 20 (by omega)))⟩, fun q => absurd hf q, fun _ => by
  show (xi (E' 0) 22).toInt = ((xi (E 0) 21).toNatClampNeg : Int)
  rw [show xi (E' 0) 22 = x from vi_e h1, h0, tn_]
  omega⟩
theorem RdS.no {E : Nat → va_E} (hf : ¬ (xi (E 0) 22).toInt = -1) : RdS k E E := ⟨TM.rf, fun _ => rfl, fun q => absurd q hf⟩
theorem mA_e {E : Nat → va_E} {x : Int32} (h : xv (E 0) 21 = .int x) (h0 : 0 ≤ x.toInt) : (mA E : Int) = x.toInt := by
  unfold mA
  rw [show xi (E 0) 21 = x from vi_e h, tn_]
  omega
theorem mN_e {E : Nat → va_E} (h0 : 0 ≤ (xi (E 0) 20).toInt) : (mN E : Int) = (xi (E 0) 20).toInt := by
  unfold mN
  rw [tn_]
  omega
theorem mT_e {E : Nat → va_E} {x y z : Int32} (h : xv (E 0) 21 = .int x) (hx : 0 ≤ x.toInt) (e : y = xi (E k) z.toNatClampNeg) (h19 : 0 ≤ (xi (E 0) 19).toInt) (tz : z.toInt = (xi (E 0) 19).toInt + x.toInt) : mT k E (mA E) = y.toInt % 256 := by
  unfold mT mA
  rw [show xi (E 0) 21 = x from vi_e h, e, show (xi (E 0) 19).toNatClampNeg + x.toNatClampNeg = z.toNatClampNeg by rw [tn_, tn_, tn_]; omega]

theorem RdL.two {E E1 E2 : Nat → va_E} {r r2 : Int32} (h : RdL k E E1 r) (h2 : RdL k E1 E2 r2) : RdL k E E2 r2 := ⟨h.1.tr h2.1, h2.2.1.trans h.2.1, fun q => by
  obtain ⟨a1, a2⟩ := h.2.2 q
  obtain ⟨b1, b2⟩ := h2.2.2 (h.2.1.trans q)
  rw [h.1.1, h.1.2, a2, pk_sk] at b1
  rw [h.1.1, h.1.2, a2, sk_sk] at b2
  exact ⟨b1, b2⟩⟩
theorem RdL.eq {E E1 E2 : Nat → va_E} {r r2 : Int32} (h : RdL k E E1 r) (h2 : RdL k E1 E2 r2) (q : mFa E = -1) : r2.toInt = r.toInt := ((h.two h2).2.2 q).1.trans (h.2.2 q).1.symm
/-- look -/
def NexM (k : Nat) (E E1 : Nat → va_E) : Prop := TM k E E1 ∧ mFa E1 = mFa E ∧ sk (mT k E) (mN E) (mA E1) = sk (mT k E) (mN E) (mA E)
theorem NexM.rf {E : Nat → va_E} : NexM k E E := ⟨TM.rf, rfl, rfl⟩
theorem NexM.step {E E1 E2 : Nat → va_E} (h : NexM k E E1) (ha : AtM k E1 E2) (h1 : mA E1 < mN E1) (h2 : mT k E1 (mA E1) = 32) : NexM k E E2 := ⟨h.1.tr ha.1, ha.2.1.trans h.2.1, by
  rw [h.1.1] at h2
  rw [h.1.2] at h1
  rw [ha.2.2, ← sk_1 ⟨h1, h2⟩]
  exact h.2.2⟩
theorem NexM.out {E E1 : Nat → va_E} {r : Int32} (h : NexM k E E1) (hx : ¬ (mA E1 < mN E1 ∧ mT k E1 (mA E1) = 32)) (hr : r.toInt = if mA E1 < mN E1 then mT k E1 (mA E1) else -1) : RdL k E E1 r := ⟨h.1, h.2.1, fun _ => by
  rw [h.1.1, h.1.2] at hx hr
  have h1 := sk_0 hx
  have h2 := h.2.2
  rw [h1] at h2
  refine ⟨?_, h2⟩
  rw [hr]
  unfold pk
  rw [← h2]⟩
def NumM (k : Nat) (d : Int32) (E E1 : Nat → va_E) : Prop := TM k E E1 ∧ mFa E1 = mFa E ∧ (numF (mT k E) (mN E) 5 (mA E) 0).1 = (numF (mT k E) (mN E) (5 - d.toNatClampNeg) (mA E1) 0).1
theorem NumM.rf {E : Nat → va_E} : NumM k 0 E E := ⟨TM.rf, rfl, rfl⟩
theorem NumM.step {d d' : Int32} {E E1 E2 : Nat → va_E} (h : NumM k d E E1) (ha : AtM k E1 E2) (h1 : mA E1 < mN E1 ∧ dgt (mT k E1 (mA E1))) (hd : 0 ≤ d.toInt ∧ d.toInt < 5) (t : d'.toInt = d.toInt + 1) : NumM k d' E E2 := ⟨h.1.tr ha.1, ha.2.1.trans h.2.1, by
  rw [h.1.1, h.1.2] at h1
  rw [h.2.2, ha.2.2, show 5 - d.toNatClampNeg = (5 - d'.toNatClampNeg) + 1 by rw [tn_, tn_]; omega]
  rw [show numF (mT k E) (mN E) ((5 - d'.toNatClampNeg) + 1) (mA E1) 0 = numF (mT k E) (mN E) (5 - d'.toNatClampNeg) (mA E1 + 1) (10 * 0 + (mT k E (mA E1) - 48)) from if_pos h1]
  exact numF_p _ _ _ _⟩
theorem NumM.out {d : Int32} {E E1 : Nat → va_E} (h : NumM k d E E1) (hx : ¬ (mA E1 < mN E1 ∧ dgt (mT k E1 (mA E1)))) : RdM k (fun t n a => numS true t n a) E E1 := ⟨h.1, fun _ => h.2.1, fun q => by
  rw [h.1.1, h.1.2] at hx
  have h5 : (numF (mT k E) (mN E) 5 (mA E) 0).1 = mA E1 := h.2.2.trans (numF_0 (Or.inr hx))
  show OuM (numS true (mT k E) (mN E) (mA E)) E1
  rw [show numS true (mT k E) (mN E) (mA E) = .good (numF (mT k E) (mN E) 5 (mA E) 0).1 [(numF (mT k E) (mN E) 5 (mA E) 0).2] from if_neg (fun q9 => hx (by have q8 := q9.2; rw [h5] at q8; exact q8))]
  exact ⟨h.2.1.trans q, h5.symm⟩⟩
theorem NumM.six {d : Int32} {E E1 E2 : Nat → va_E} (h : NumM k d E E1) (hf : RdS k E1 E2) (hd : 5 ≤ d.toInt) (hx : mA E1 < mN E1 ∧ dgt (mT k E1 (mA E1))) : RdM k (fun t n a => numS true t n a) E E2 := ⟨h.1.tr hf.1, fun q => (hf.2.1 (by rw [h.2.1]; exact q)).trans h.2.1, fun q => by
  rw [h.1.1, h.1.2] at hx
  have h5 : (numF (mT k E) (mN E) 5 (mA E) 0).1 = mA E1 := h.2.2.trans (numF_0 (Or.inl (by rw [tn_]; omega)))
  show OuM (numS true (mT k E) (mN E) (mA E)) E2
  rw [show numS true (mT k E) (mN E) (mA E) = .bad (numF (mT k E) (mN E) 5 (mA E) 0).1 from if_pos ⟨rfl, by rw [h5]; exact hx⟩, h5]
  exact hf.2.2 (h.2.1.trans q)⟩
theorem RdM.fk {α : Type} {P : (Nat → Int) → Nat → Nat → PR α} {d : Int32} {E E1 E2 : Nat → va_E} (h : RdM k P E E1) (hf : ¬ mFa E1 = -1) (hk : NumM k d E1 E2) : RdM k P E E2 := ⟨h.1.tr hk.1, fun q => hk.2.1.trans (h.2.1 q), fun q => (h.2.2 q).kf hk.2.1 (fun q1 => absurd q1 hf)⟩
theorem pkM_d {E E1 : Nat → va_E} {r : Int32} (hN : RdL k E E1 r) (hf : mFa E = -1) (h : mA E1 < mN E1 ∧ dgt (mT k E1 (mA E1))) : dgt r.toInt := by
  obtain ⟨a1, a2⟩ := hN.2.2 hf
  rw [hN.1.1, hN.1.2, a2] at h
  rw [a1]
  unfold pk
  rw [if_pos h.1]
  exact h.2
theorem pkM_n {E E1 : Nat → va_E} {r : Int32} (hN : RdL k E E1 r) (hf : mFa E = -1) (h : ¬ (mA E1 < mN E1 ∧ dgt (mT k E1 (mA E1)))) : ¬ dgt r.toInt := fun q => by
  obtain ⟨a1, a2⟩ := hN.2.2 hf
  rw [hN.1.1, hN.1.2, a2] at h
  rw [a1] at q
  have h2 := pkt_lt (t := mT k E) (n := mN E) (a := mA E) (by unfold dgt at q; omega)
  exact h ⟨h2.1, by rw [h2.2]; exact q⟩
theorem LpM.exF {α : Type} {P : (Nat → Int) → Nat → Nat → PR α} {K : (Nat → Int) → Nat → Nat → α → PR α} {i : Int} {E E1 : Nat → va_E} (hl : LpM k P K i E E1) (hf : ¬ mFa E1 = -1) : RdM k P E E1 := ⟨hl.1, hl.2.1, fun q => (hl.2.2 q).1 hf⟩
theorem tkM {s : Int32} {E E1 E2 : Nat → va_E} {r : Int32} (hN : RdL k E E1 r) (h : r.toInt = s.toInt) (ha : AtM k E1 E2) : RdM k (fun t n a => clo t n s.toInt a ()) E E2 := hN.at0 ha (fun _ hr => ⟨(), by
  show clo _ _ _ _ _ = _
  unfold clo
  rw [if_pos (by rw [← hr]; exact h)]⟩)
theorem tkM_no {s : Int32} {E E1 E2 : Nat → va_E} {r : Int32} (hN : RdL k E E1 r) (h : ¬ r.toInt = s.toInt) (hf : RdS k E1 E2) : RdM k (fun t n a => clo t n s.toInt a ()) E E2 := hN.f hf (fun _ hr => by
  show clo _ _ _ _ _ = _
  unfold clo
  rw [if_neg (by rw [← hr]; exact h)])
theorem tkM_f {s : Int32} {E E2 : Nat → va_E} (hf : RdS k E E2) (h : ¬ mFa E = -1) : RdM k (fun t n a => clo t n s.toInt a ()) E E2 := ⟨hf.1, hf.2.1, fun q => absurd q h⟩
end RM

/-- atoms -/
theorem outM_clo {α β : Type} {t : Nat → Int} {n : Nat} {s : Int} {a : Nat} {c : α} {c2 : β} {E : Nat → va_E} (h : OuM (clo t n s a c) E) : OuM (clo t n s a c2) E := by
  unfold clo at h ⊢
  by_cases e : pk t n a = s
  · rw [if_pos e] at h ⊢
    exact h
  · rw [if_neg e] at h ⊢
    exact h
section RDM
variable {k d : Nat} {E E1 E2 E3 E4 E5 E6 E7 : Nat → va_E} {r : Int32}
theorem atM_num (hN : RdL k E E1 r) (h : dgt r.toInt) (hn : RdM k (fun t n a => numS true t n a) E1 E2) : RdM k (fun t n a => atomS true t n d a) E E2 := hN.rd hn (fun _ hr E9 ho => by
  show OuM (atomS true (mT k E) (mN E) d (mA E)) E9
  unfold atomS atomO
  rw [if_pos (by rw [← hr]; exact h)]
  exact ho)
theorem atM_let (hN : RdL k E E1 r) (h : ¬ dgt r.toInt) (h1 : isLet r.toInt = true) (ha : AtM k E1 E2) (hk : KM k E2 E3) : RdM k (fun t n a => atomS true t n d a) E E3 := (hN.at0 ha (fun _ hr => by
  show ∃ c, atomS true (mT k E) (mN E) d (mA E) = _
  unfold atomS atomO
  rw [if_neg (by rw [← hr]; exact h), if_pos (by rw [← hr]; exact h1)]
  exact ⟨_, rfl⟩)).ks hk
theorem in91m : ¬ dgt 91 ∧ ¬ isLet 91 = true := by decide
theorem atM_in0 (hN : RdL k E E1 r) (h : r.toInt = 91) (hf : RdS k E1 E2) (hd : d = 0) : RdM k (fun t n a => atomS true t n d a) E E2 := hN.f hf (fun _ hr => by
  show atomS true (mT k E) (mN E) d (mA E) = _
  unfold atomS atomO
  rw [← hr, h, if_neg in91m.1, if_neg in91m.2, if_pos rfl, hd]
  rfl)
theorem atM_in {k2 : Nat} (hN : RdL k E E1 r) (h : r.toInt = 91) (ha : AtM k E1 E2) (hs : RdM k (fun t n a => sumS true t n k2 a) E2 E3) (ht : RdM k (fun t n a => clo t n 93 a ()) E3 E4) (hd : d = k2 + 1) : RdM k (fun t n a => atomS true t n d a) E E4 := hN.at ha (RdM.andThen hs ht (Q := fun t n a => clo t n 93 a ()) (R := fun t n a => (sumS true t n k2 a).andThen (clo t n 93)) (f := fun t n => clo t n 93) (fun _ _ _ => rfl) (fun _ _ _ _ _ ho => outM_clo ho)) (fun _ hr E9 ho => by
  show OuM (atomS true (mT k E) (mN E) d (mA E)) E9
  unfold atomS atomO
  rw [← hr, h, if_neg in91m.1, if_neg in91m.2, if_pos rfl, hd]
  exact ho)
theorem atM_no (hN : RdL k E E1 r) (h : ¬ dgt r.toInt) (h1 : ¬ isLet r.toInt = true) (h2 : ¬ r.toInt = 91) (hf : RdS k E1 E2) : RdM k (fun t n a => atomS true t n d a) E E2 := hN.f hf (fun _ hr => by
  show atomS true (mT k E) (mN E) d (mA E) = _
  unfold atomS atomO
  rw [← hr, if_neg h, if_neg h1, if_neg h2])
/-- terms, sums -/
theorem lmT : ∀ t n a, termS true t n d a = (atomS true t n d a).andThen (opL t n isMul jb (atomS true t n d)) := fun _ _ _ => rfl
theorem lmS : ∀ t n a, sumS true t n d a = (termS true t n d a).andThen (opL t n isAdd jb (termS true t n d)) := fun t n a => by
  rw [sumS_o]
  rfl
theorem cmM_no (hN : RdL k E E1 r) (h : ¬ isCmp r.toInt = true) (hf : RdS k E1 E2) : RdM k (fun t n a => cmpS true t n d a) E E2 := hN.f hf (fun _ hr => by
  show cmpS true (mT k E) (mN E) d (mA E) = _
  unfold cmpS
  rw [← hr, if_neg h])
theorem cmM (hN : RdL k E E1 r) (h : isCmp r.toInt = true) (ha : AtM k E1 E2) (hs : RdM k (fun t n a => sumS true t n d a) E2 E3) (hk : KM k E3 E4) : RdM k (fun t n a => cmpS true t n d a) E E4 := (hN.at ha hs (fun _ hr E9 ho => by
  show OuM (cmpS true (mT k E) (mN E) d (mA E)) E9
  unfold cmpS
  rw [if_pos (by rw [← hr]; exact h)]
  exact OuM.andThen ho (fun _ => rfl) (fun q c _ => ⟨q, rfl⟩))).ks hk
def unY (w : Int32) (d : Nat) (t : Nat → Int) (n a : Nat) : PR (List Int) := if w.toInt = 0 then unitS true t n d a else cmpS true t n d a
def paY (w : Int32) (d : Nat) (t : Nat → Int) (n a : Nat) : PR (List Int) := (unY w d t n a).andThen (opL t n isAnd jb (unitS true t n d))
def coY (w : Int32) (d : Nat) (t : Nat → Int) (n a : Nat) : PR (List Int) := (paY w d t n a).andThen (opL t n isOr jb (partS true t n d))
theorem unM_n0 {w : Int32} (hw : w.toInt = 0) (hN : RdL k E E1 r) (h : r.toInt = 33) (hf : RdS k E1 E2) (hd : d = 0) : RdM k (unY w d) E E2 := hN.f hf (fun _ hr => by
  unfold unY
  rw [if_pos hw, hd]
  show unitO true _ _ 0 _ _ _ = _
  unfold unitO
  rw [← hr, h, if_pos rfl])
theorem unM_n {w : Int32} {k2 : Nat} (hw : w.toInt = 0) (hN : RdL k E E1 r) (h : r.toInt = 33) (ha : AtM k E1 E2) (hu : RdM k (unY 0 k2) E2 E3) (hk : KM k E3 E4) (hd : d = k2 + 1) : RdM k (unY w d) E E4 := (hN.at ha hu (fun _ hr E9 ho => by
  unfold unY
  rw [if_pos hw, hd]
  show OuM (unitO true _ _ (k2 + 1) _ _ _) E9
  unfold unitO
  rw [← hr, h, if_pos rfl]
  exact OuM.andThen ho (fun _ => rfl) (fun q c _ => ⟨q, rfl⟩))).ks hk
theorem unM_p0 {w : Int32} (hw : w.toInt = 0) (hN : RdL k E E1 r) (h : r.toInt = 40) (hf : RdS k E1 E2) (hd : d = 0) : RdM k (unY w d) E E2 := hN.f hf (fun _ hr => by
  unfold unY
  rw [if_pos hw, hd]
  show unitO true _ _ 0 _ _ _ = _
  unfold unitO
  rw [← hr, h, if_neg (by decide), if_pos rfl])
theorem unM_p {w : Int32} {k2 : Nat} (hw : w.toInt = 0) (hN : RdL k E E1 r) (h : r.toInt = 40) (ha : AtM k E1 E2) (hu : RdM k (coY 0 k2) E2 E3) (ht : RdM k (fun t n a => clo t n 41 a ()) E3 E4) (hd : d = k2 + 1) : RdM k (unY w d) E E4 := hN.at ha (RdM.andThen hu ht (Q := fun t n a => clo t n 41 a ()) (R := fun t n a => (condS true t n k2 a).andThen (clo t n 41)) (f := fun t n => clo t n 41) (fun _ _ _ => rfl) (fun _ _ _ _ _ ho => outM_clo ho)) (fun _ hr E9 ho => by
  unfold unY
  rw [if_pos hw, hd]
  show OuM (unitO true _ _ (k2 + 1) _ _ _) E9
  unfold unitO
  rw [← hr, h, if_neg (by decide), if_pos rfl]
  exact ho)
theorem lmP {w : Int32} : ∀ t n a, paY w d t n a = (unY w d t n a).andThen (opL t n isAnd jb (unY 0 d t n)) := fun _ _ _ => rfl
theorem lmO {w : Int32} : ∀ t n a, coY w d t n a = (paY w d t n a).andThen (opL t n isOr jb (paY 0 d t n)) := fun _ _ _ => rfl
theorem unY_mono (d : Nat) (t : Nat → Int) (n : Nat) : Mono (unY 0 d t n) := unitS_mono true t n d
theorem paY_mono (d : Nat) (t : Nat → Int) (n : Nat) : Mono (paY 0 d t n) := partS_mono true t n d
end RDM

section RCM
variable {k : Nat}
theorem RdM.andThen2 {α β γ : Type} {P : (Nat → Int) → Nat → Nat → PR α} {Q : (Nat → Int) → Nat → Nat → PR γ} {R : (Nat → Int) → Nat → Nat → PR β} {f : (Nat → Int) → Nat → Nat → α → PR β} {E E1 E2 : Nat → va_E} (h : RdM k P E E1) (h1 : RdM k Q E1 E2) (hR : ∀ t n a, R t n a = (P t n a).andThen (f t n)) (hQ : mFa E1 = -1 → ∀ c E9, OuM (Q (mT k E1) (mN E1) (mA E1)) E9 → OuM (f (mT k E1) (mN E1) (mA E1) c) E9) : RdM k R E E2 := ⟨h.1.tr h1.1, fun q => (h1.2.1 (by rw [h.2.1 q]; exact q)).trans (h.2.1 q), fun q => by
  rw [hR]
  refine OuM.andThen (h.2.2 q) h1.2.1 (fun q1 c _ => ?_)
  have h5 := hQ q1 c _ (h1.2.2 q1)
  rw [h.1.1, h.1.2] at h5
  exact h5⟩
theorem OuM.re {α β γ : Type} {x : PR α} {k : Nat → α → PR β} {k' : Nat → α → PR γ} {E : Nat → va_E} (h : OuM (x.andThen k) E) (hk : ∀ a c, OuM (k a c) E → OuM (k' a c) E) : OuM (x.andThen k') E := by
  rcases x with i | ⟨a, c⟩
  · exact h
  · exact hk a c h
theorem OuM.gd {α β : Type} {x : PR α} {k : Nat → α → β} {E : Nat → va_E} (h : OuM x E) : OuM (x.andThen (fun a c => PR.good a (k a c))) E := by
  rcases x with i | ⟨a, c⟩
  · exact h
  · exact h
theorem RdL.c {E E1 : Nat → va_E} {r : Int32} (hN : RdL k E E1 r) : RdM k (fun t n a => PR.good (sk t n a) ()) E E1 := ⟨hN.1, fun _ => hN.2.1, fun q => ⟨hN.2.1.trans q, (hN.2.2 q).2⟩⟩
section CL
variable {E E1 E2 E3 E4 E5 E6 E7 E8 E9 E10 E11 E12 : Nat → va_E} {r r2 r3 : Int32} {lab : Int}
/-- the sign ?, then a SUM -/
def qsM (t : Nat → Int) (n a : Nat) : PR (List Int) := (clo t n 63 a ()).andThen (fun a4 _ => sumS true t n 8 a4)
theorem qmC (ht : RdM k (fun t n a => clo t n 63 a ()) E E1) (hk : KM k E1 E2) (hs : RdM k (fun t n a => sumS true t n 8 a) E2 E3) (hk2 : KM k E3 E4) : RdM k qsM E E4 := RdM.andThen ht ((RdM.sk0 hk hs).ks hk2) (f := fun t n a4 _ => sumS true t n 8 a4) (fun _ _ _ => rfl) (fun _ _ _ _ _ ho => ho)
theorem qm_out {t : Nat → Int} {n a : Nat} {g : Nat → List Int → List (Int × List Int × List Int)} (h : OuM (qsM t n a) E) : OuM ((clo t n 63 a ()).andThen (fun a4 _ => (sumS true t n 8 a4).andThen (fun a5 sc => PR.good a5 (g a5 sc)))) E := OuM.re h (fun _ _ ho => ho.gd)
theorem vM_c (hN : RdL k E E1 r) (h : r.toInt = 33 ∨ r.toInt = 40) (hC : RdM k (coY 0 8) E1 E2) (hq : RdM k qsM E2 E3) : RdM k (fun t n a => clauseV true t n a lab) E E3 := hN.rd (RdM.andThen2 hC hq (R := fun t n a => (condS true t n 8 a).andThen (fun a3 cc => (clo t n 63 a3 ()).andThen (fun a4 _ => (sumS true t n 8 a4).andThen (fun a5 sc => .good a5 [(lab, cc, sc)])))) (f := fun t n a3 cc => (clo t n 63 a3 ()).andThen (fun a4 _ => (sumS true t n 8 a4).andThen (fun a5 sc => .good a5 [(lab, cc, sc)]))) (fun _ _ _ => rfl) (fun _ c _ ho => qm_out (g := fun _ sc => [(lab, c, sc)]) ho)) (fun _ hr E9 ho => by
  show OuM (clauseV true (mT k E) (mN E) (mA E) lab) E9
  unfold clauseV
  rw [if_pos (by rw [← hr]; exact h)]
  exact ho)
def tlM (lab : Int) (t : Nat → Int) (n a3 : Nat) (c1 : List Int) : PR (List (Int × List Int × List Int)) := if isCmp (pk t n a3) = true then (condB true t n 8 (sk t n a3)).andThen (fun a4 c2 => (clo t n 63 a4 ()).andThen (fun a5 _ => (sumS true t n 8 a5).andThen (fun a6 sc => .good a6 [(lab, c1 ++ c2, sc)]))) else .good (sk t n a3) [(lab, [], c1)]
theorem vM_t (hN : RdL k E E1 r) (h : ¬ (r.toInt = 33 ∨ r.toInt = 40)) (hs : RdM k (fun t n a => (sumS true t n 8 a).andThen (tlM lab t n)) E1 E2) : RdM k (fun t n a => clauseV true t n a lab) E E2 := hN.rd hs (fun _ hr E9 ho => by
  show OuM (clauseV true (mT k E) (mN E) (mA E) lab) E9
  unfold clauseV
  rw [if_neg (by rw [← hr]; exact h)]
  exact ho)
theorem vM_b (hN : RdL k E E1 r) (h : ¬ (r.toInt = 33 ∨ r.toInt = 40)) (hs : RdM k (fun t n a => sumS true t n 8 a) E1 E2) (hN2 : RdL k E2 E3 r2) (h2 : isCmp r2.toInt = true) (hC : RdM k (coY 1 8) E3 E4) (hq : RdM k qsM E4 E5) : RdM k (fun t n a => clauseV true t n a lab) E E5 := by
  have hX : RdM k (fun t n a => (condB true t n 8 a).andThen (fun a4 _ => qsM t n a4)) E3 E5 := RdM.andThen2 hC hq (f := fun t n a4 _ => qsM t n a4) (fun _ _ _ => rfl) (fun _ _ _ ho => ho)
  have hY : RdM k (fun t n a => (condB true t n 8 (sk t n a)).andThen (fun a4 _ => qsM t n a4)) E2 E5 := hN2.rd hX (fun _ _ _ ho => ho)
  refine vM_t hN h (RdM.andThen2 hs hY (f := tlM lab) (fun _ _ _ => rfl) (fun hf c E9 ho => ?_))
  have hp := (hN2.2.2 hf).1
  unfold tlM
  rw [if_pos (by rw [← hp]; exact h2)]
  exact OuM.re ho (fun a4 c2 ho => qm_out (g := fun _ sc => [(lab, c ++ c2, sc)]) ho)
theorem vM_s (hN : RdL k E E1 r) (h : ¬ (r.toInt = 33 ∨ r.toInt = 40)) (hs : RdM k (fun t n a => sumS true t n 8 a) E1 E2) (hN2 : RdL k E2 E3 r2) (h2 : ¬ isCmp r2.toInt = true) : RdM k (fun t n a => clauseV true t n a lab) E E3 := by
  refine vM_t hN h (RdM.andThen2 hs hN2.c (f := tlM lab) (fun _ _ _ => rfl) (fun hf c E9 ho => ?_))
  have hp := (hN2.2.2 hf).1
  unfold tlM
  rw [if_neg (by rw [← hp]; exact h2)]
  exact ho
theorem clM_no (hN : RdL k E E1 r) (h : ¬ isLab r.toInt = true) (hf : RdS k E1 E2) : RdM k (fun t n a => clauseS true t n a) E E2 := hN.f hf (fun _ hr => by
  show clauseS true (mT k E) (mN E) (mA E) = _
  unfold clauseS
  rw [← hr, if_neg h])
theorem clM (hN : RdL k E E1 r) (h : isLab r.toInt = true) (ha : AtM k E1 E2) (ht : RdM k (fun t n a => clo t n 58 a ()) E2 E3) (hk : KM k E3 E4) (hv : RdM k (fun t n a => clauseV true t n a r.toInt) E4 E5) (hk2 : KM k E5 E6) : RdM k (fun t n a => clauseS true t n a) E E6 := (hN.at ha (RdM.andThen ht (RdM.sk0 hk hv) (R := fun t n a => (clo t n 58 a ()).andThen (fun a2 _ => clauseV true t n a2 r.toInt)) (f := fun t n a2 _ => clauseV true t n a2 r.toInt) (fun _ _ _ => rfl) (fun _ _ _ _ _ ho => ho)) (fun _ hr E9 ho => by
  show OuM (clauseS true (mT k E) (mN E) (mA E)) E9
  unfold clauseS
  rw [← hr, if_pos h]
  exact ho)).ks hk2
end CL

end RCM

section RFM
variable {k : Nat}
theorem lmX : ∀ t n a, textL true t n a = (clauseS true t n a).andThen (opL t n isSem cbC (clauseS true t n)) := fun _ _ _ => rfl
def FltM (k : Nat) (E E' : Nat → va_E) : Prop := TM k E E' ∧ mFa E' = (textS true (mT k E) (mN E)).flt
theorem FltM.ks {E E1 E2 : Nat → va_E} (h : FltM k E E1) (hk : KM k E1 E2) : FltM k E E2 := ⟨h.1.tr hk.1, hk.2.1.trans h.2⟩
theorem fltM_ok {E E0 E1 E2 : Nat → va_E} {r : Int32} (ht : TM k E E0) (h0 : mFa E0 = -1) (ha : mA E0 = 0) (h : RdM k (fun t n a => textL true t n a) E0 E1) (h1 : mFa E1 = -1) (hN : RdL k E1 E2 r) (hr : r.toInt = -1) : FltM k E E2 := ⟨(ht.tr h.1).tr hN.1, by
  obtain ⟨c, hc⟩ := (h.2.2 h0).f h1
  have hp := (hN.2.2 h1).1
  rw [ha, ht.1, ht.2] at hc
  rw [h.1.1, h.1.2, ht.1, ht.2] at hp
  unfold textS
  have hc' : textL true (mT k E) (mN E) 0 = .good (mA E1) c := hc
  rw [hc']
  show _ = PR.flt (if pk (mT k E) (mN E) (mA E1) = -1 then _ else _)
  rw [if_pos (by rw [← hp]; exact hr), hN.2.1]
  exact h1⟩
theorem fltM_no {E E0 E1 E2 E3 : Nat → va_E} {r : Int32} (ht : TM k E E0) (h0 : mFa E0 = -1) (ha : mA E0 = 0) (h : RdM k (fun t n a => textL true t n a) E0 E1) (hN : RdL k E1 E2 r) (hr : ¬ r.toInt = -1) (hf : RdS k E2 E3) : FltM k E E3 := ⟨((ht.tr h.1).tr hN.1).tr hf.1, by
  have h5 := h.2.2 h0
  rw [ha, ht.1, ht.2] at h5
  have h5' : OuM (textL true (mT k E) (mN E) 0) E1 := h5
  unfold textS
  by_cases h1 : mFa E1 = -1
  · obtain ⟨c, hc⟩ := h5'.f h1
    have hp := (hN.2.2 h1).1
    rw [h.1.1, h.1.2, ht.1, ht.2] at hp
    rw [hc]
    show _ = PR.flt (if pk (mT k E) (mN E) (mA E1) = -1 then _ else _)
    rw [if_neg (by rw [← hp]; exact hr), hf.2.2 (hN.2.1.trans h1), (hN.2.2 h1).2, h.1.1, h.1.2, ht.1, ht.2]
    rfl
  · rcases hx : textL true (mT k E) (mN E) 0 with i | ⟨a, c⟩
    · skip
      rw [hx] at h5'
      have h6 : mFa E1 = (i : Int) := h5'
      rw [hf.2.1 (by rw [hN.2.1]; exact h1), hN.2.1, h6]
      rfl
    · skip
      rw [hx] at h5'
      exact absurd h5'.1 h1⟩
theorem fltM_f {E E0 E1 : Nat → va_E} (ht : TM k E E0) (h0 : mFa E0 = -1) (ha : mA E0 = 0) (h : RdM k (fun t n a => textL true t n a) E0 E1) (h1 : ¬ mFa E1 = -1) : FltM k E E1 := ⟨ht.tr h.1, by
  have h5 := h.2.2 h0
  rw [ha, ht.1, ht.2] at h5
  have h5' : OuM (textL true (mT k E) (mN E) 0) E1 := h5
  unfold textS
  rcases hx : textL true (mT k E) (mN E) 0 with i | ⟨a, c⟩
  · rw [hx] at h5'
    have h6 : mFa E1 = (i : Int) := h5'
    rw [h6]
    rfl
  · rw [hx] at h5'
    exact absurd h5'.1 h1⟩
end RFM

theorem by255_all : ∀ k : Nat, k < 256 → ((nI k - 128) &&& 255).toInt = ((k : Int) - 128) % 256 := by decide +kernel
theorem by255 {x z : Int32} (h : -128 ≤ x.toInt ∧ x.toInt ≤ 127) (e : z = x &&& 255) : z.toInt = x.toInt % 256 := by
  have e0 : x = nI (x.toInt + 128).toNat - 128 := by
    apply Int32.toInt_inj.mp
    obtain ⟨t, -⟩ := ti_sub (x := nI (x.toInt + 128).toNat) (y := 128) (w := nI (x.toInt + 128).toNat - 128) (a := 0) (b := 255) (c := 128) (d := 128) (e := -128) (f := 127) (by rw [nI_toInt (by omega)]; omega) (by decide) rfl (by decide)
    have h6 : (128 : Int32).toInt = 128 := rfl
    rw [t, nI_toInt (by omega), h6]
    omega
  have h1 := by255_all (x.toInt + 128).toNat (by omega)
  rw [← e0] at h1
  rw [e, h1]
  omega
theorem let_nd {x : Int} (h : isLet x = true) : ¬ dgt x := fun q => by
  have h1 := dg_l (l := lets) (by decide) x q
  unfold isLet at h
  rw [h1] at h
  exact absurd h (by decide)
theorem is_mul {x : Int} : isMul x = true ↔ x = 42 ∨ x = 47 := by
  unfold isMul
  simp
theorem is_add {x : Int} : isAdd x = true ↔ x = 43 ∨ x = 45 := by
  unfold isAdd
  simp
theorem is_cmp {x : Int} : isCmp x = true ↔ 60 ≤ x ∧ x ≤ 62 := by
  unfold isCmp
  simp only [List.contains_eq_mem, decide_eq_true_eq, List.mem_cons, List.not_mem_nil, or_false]
  omega
section RTM
variable {k d : Nat} {E E1 E2 E3 E4 : Nat → va_E} {r : Int32} {w : Int32}
theorem RdM.dead {α : Type} {P : (Nat → Int) → Nat → Nat → PR α} (h : ¬ mFa E = -1) : RdM k P E E := ⟨TM.rf, fun _ => rfl, fun q => absurd q h⟩
theorem RdL.dead (h : ¬ mFa E = -1) : RdL k E E r := ⟨TM.rf, rfl, fun q => absurd q h⟩
def cpX (w : Int32) (d : Nat) (t : Nat → Int) (n a : Nat) : PR (List Int) := if w.toInt = 0 then (sumS true t n d a).andThen (fun a1 c1 => (cmpS true t n d a1).andThen (fun a2 c2 => .good a2 (c1 ++ c2))) else cmpS true t n d a
theorem cpM_0 (hw : w.toInt = 0) (hs : RdM k (fun t n a => sumS true t n d a) E E1) (hc : RdM k (fun t n a => cmpS true t n d a) E1 E2) : RdM k (cpX w d) E E2 := (RdM.andThen hs hc (R := fun t n a => (sumS true t n d a).andThen (fun a1 c1 => (cmpS true t n d a1).andThen (fun a2 c2 => .good a2 (c1 ++ c2)))) (f := fun t n a1 c1 => (cmpS true t n d a1).andThen (fun a2 c2 => .good a2 (c1 ++ c2))) (fun _ _ _ => rfl) (fun _ _ _ _ _ ho => OuM.andThen ho (fun _ => rfl) (fun q c _ => ⟨q, rfl⟩))).cg (fun E9 ho => by
  unfold cpX
  rw [if_pos hw]
  exact ho)
theorem cpM_1 (hw : ¬ w.toInt = 0) (hc : RdM k (fun t n a => cmpS true t n d a) E E2) : RdM k (cpX w d) E E2 := hc.cg (fun E9 ho => by
  unfold cpX
  rw [if_neg hw]
  exact ho)
theorem unM_k (hN : RdL k E E1 r) (h : ¬ r.toInt = 33) (h1 : ¬ r.toInt = 40) (hc : RdM k (cpX 0 d) E1 E2) : RdM k (unY 0 d) E E2 := hN.rd hc (fun _ hr E9 ho => by
  have key : unitS true (mT k E) (mN E) d (mA E) = (sumS true (mT k E) (mN E) d (sk (mT k E) (mN E) (mA E))).andThen (fun a1 c1 => (cmpS true (mT k E) (mN E) d a1).andThen (fun a2 c2 => .good a2 (c1 ++ c2))) := by
    cases d with
    | zero =>
      show unitO true _ _ 0 _ _ _ = _
      unfold unitO
      rw [← hr, if_neg h, if_neg h1]
    | succ d =>
      show unitO true _ _ (d + 1) _ _ _ = _
      unfold unitO
      rw [← hr, if_neg h, if_neg h1]
  show OuM (unitS true (mT k E) (mN E) d (mA E)) E9
  rw [key]
  exact ho)
theorem unM_0 (hw : w.toInt = 0) (h : RdM k (unY 0 d) E E1) : RdM k (unY w d) E E1 := h.cg (fun E9 ho => by
  unfold unY at ho ⊢
  rw [if_pos hw]
  exact ho)
theorem unM_1 (hw : ¬ w.toInt = 0) (h : RdM k (cpX 1 d) E E1) : RdM k (unY w d) E E1 := h.cg (fun E9 ho => by
  unfold unY
  rw [if_neg hw]
  exact ho)
theorem AtM.km (h : KM k E E1) (h1 : AtM k E1 E2) : AtM k E E2 := ⟨h.1.tr h1.1, h1.2.1.trans h.2.1, by rw [h1.2.2, h.2.2]⟩
end RTM
end
section
def mB (g : Nat → Int32) (f : Int32) : Nat → Int := fun j => (g (f.toNatClampNeg + j)).toInt % 256
end
section
/-! ===== bytes that are fed ===== -/
theorem and255 (y : Int32) : (y &&& 255).toInt = y.toInt % 256 := by
  have h1 : (y &&& 255).toBitVec.toNat = y.toBitVec.toNat % 256 := by
    rw [Int32.toBitVec_and, BitVec.toNat_and]
    exact Nat.and_two_pow_sub_one_eq_mod _ 8
  show (y &&& 255).toBitVec.toInt = y.toBitVec.toInt % 256
  rw [BitVec.toInt_eq_toNat_cond, BitVec.toInt_eq_toNat_cond, h1]
  have := y.toBitVec.isLt
  split <;> split <;> omega
theorem i8_mod (y : Int32) : (y.toInt8.toInt32).toInt % 256 = y.toInt % 256 := by
  rw [Int8.toInt_toInt32, Int32.toInt_toInt8]
  exact Int.bmod_emod
def bys1 (y : Int32) : List Int := if y = 0 then [] else [y.toInt]
def bysP (a : Int32) : Nat → List Int
  | 0 => []
  | k + 1 => bysP a k ++ bys1 (ub_by a (24 - 8 * k))
def bys (a : Int32) : List Int := bysP a 4
/-- a row with some more behind -/
def Fed (t t' : Nat → Int) (n n' : Nat) (l : List Int) : Prop := n' = n + l.length ∧ (∀ j, (j < n ∨ n + l.length ≤ j) → t' j = t j) ∧ ∀ j, j < l.length → t' (n + j) = l.getD j 0
theorem Fed.rf {t : Nat → Int} {n : Nat} : Fed t t n n [] := ⟨rfl, fun _ _ => rfl, fun j hj => absurd hj (Nat.not_lt_zero _)⟩
theorem Fed.tr {t t1 t2 : Nat → Int} {n n1 n2 : Nat} {l m : List Int} (h : Fed t t1 n n1 l) (h1 : Fed t1 t2 n1 n2 m) : Fed t t2 n n2 (l ++ m) := by
  obtain ⟨a1, a2, a3⟩ := h
  obtain ⟨b1, b2, b3⟩ := h1
  refine ⟨by rw [List.length_append]; omega, fun j hj => ?_, fun j hj => ?_⟩
  · rw [List.length_append] at hj
    exact (b2 j (by omega)).trans (a2 j (by omega))
  · rw [List.length_append] at hj
    by_cases c : j < l.length
    · rw [b2 _ (by omega), a3 j c]
      simp only [List.getD_eq_getElem?_getD, List.getElem?_append_left c]
    · have e : n + j = n1 + (j - l.length) := by omega
      rw [e, b3 _ (by omega)]
      simp only [List.getD_eq_getElem?_getD, List.getElem?_append_right (Nat.le_of_not_lt c)]
theorem Fed.one {t t1 : Nat → Int} {n n1 : Nat} {v : Int} (hn : n1 = n + 1) (h0 : ∀ j, ¬ j = n → t1 j = t j) (h1 : t1 n = v) : Fed t t1 n n1 [v] := ⟨hn, fun j hj => h0 j (by
  simp only [List.length_singleton] at hj
  omega), fun j hj => by
  have : j = 0 := by
    simp only [List.length_singleton] at hj
    omega
  subst this
  exact h1⟩
theorem Fed.al {ta ta' tb tb' : Nat → Int} {na na' nb nb' : Nat} {l : List Int} (ha : Fed ta ta' na na' l) (hb : Fed tb tb' nb nb' l) (hn : na = nb) (ht : ta = tb) : na' = nb' ∧ ta' = tb' := by
  obtain ⟨a1, a2, a3⟩ := ha
  obtain ⟨b1, b2, b3⟩ := hb
  subst hn
  subst ht
  refine ⟨by omega, funext (fun j => ?_)⟩
  by_cases c : j < na ∨ na + l.length ≤ j
  · rw [a2 j c, b2 j c]
  · have e : j = na + (j - na) := by omega
    rw [e, a3 _ (by omega), b3 _ (by omega)]
/-- the class -/
def FedC (l : List Int) (E E' : Nat → va_E) : Prop := Fed (tT E) (tT E') (tN E) (tN E') l
theorem FedC.push {E1 E2 E3 : Nat → va_E} {x y y' : Int32} (p : Pw E1 E2 21 y.toNatClampNeg (.int x)) (q : Pw E2 E3 2 1 (.int y')) (hy : xi (E1 2) 1 = y) (t : y'.toInt = y.toInt + 1) (h0 : 0 ≤ y.toInt) : FedC [x.toInt] E1 E3 := by
  refine Fed.one ?_ (fun j hj => ?_) ?_
  · show (xi (E3 2) 1).toNatClampNeg = (xi (E1 2) 1).toNatClampNeg + 1
    rw [show xi (E3 2) 1 = y' from vi_e q.1, hy, tn_, tn_]
    omega
  · show (xi (E3 21) j).toInt = (xi (E1 21) j).toInt
    have hj' : ¬ j = (xi (E1 2) 1).toNatClampNeg := hj
    rw [hy] at hj'
    rw [show xi (E3 21) j = xi (E2 21) j from congrArg vi (q.2 21 j (by omega)), show xi (E2 21) j = xi (E1 21) j from congrArg vi (p.2 21 j (by omega))]
  · show (xi (E3 21) (xi (E1 2) 1).toNatClampNeg).toInt = x.toInt
    rw [hy, show xi (E3 21) y.toNatClampNeg = xi (E2 21) y.toNatClampNeg from congrArg vi (q.2 21 _ (by omega)), show xi (E2 21) y.toNatClampNeg = x from vi_e p.1]
theorem bysP_0 {a y : Int32} {k : Nat} (e : ub_by a (24 - 8 * k) = y) (h : y = 0) : bysP a (k + 1) = bysP a k := by
  show bysP a k ++ bys1 (ub_by a (24 - 8 * k)) = _
  rw [e, h]
  exact List.append_nil _
theorem bysP_1 {a y : Int32} {k : Nat} (e : ub_by a (24 - 8 * k) = y) (h : ¬ y = 0) : bysP a (k + 1) = bysP a k ++ [y.toInt] := by
  show bysP a k ++ bys1 (ub_by a (24 - 8 * k)) = _
  rw [e, show bys1 y = [y.toInt] from if_neg h]
/-- the reference -/
def lMn (E : Nat → va_E) : Nat := (xi (E 0) 16).toNatClampNeg
def fM (E : Nat → va_E) : Nat → Int := fun j => (xi (E 7) j).toInt % 256
def FedM (l : List Int) (E E' : Nat → va_E) : Prop := Fed (fM E) (fM E') (lMn E) (lMn E') l
theorem FedM.push {E1 E2 E3 : Nat → va_E} {x y y' : Int32} {v : Int} (p : Pw E1 E2 7 y.toNatClampNeg (.int x)) (q : Pw E2 E3 0 16 (.int y')) (hy : xi (E1 0) 16 = y) (t : y'.toInt = y.toInt + 1) (h0 : 0 ≤ y.toInt) (hv : x.toInt % 256 = v) : FedM [v] E1 E3 := by
  refine Fed.one ?_ (fun j hj => ?_) ?_
  · show (xi (E3 0) 16).toNatClampNeg = (xi (E1 0) 16).toNatClampNeg + 1
    rw [show xi (E3 0) 16 = y' from vi_e q.1, hy, tn_, tn_]
    omega
  · show (xi (E3 7) j).toInt % 256 = (xi (E1 7) j).toInt % 256
    have hj' : ¬ j = (xi (E1 0) 16).toNatClampNeg := hj
    rw [hy] at hj'
    rw [show xi (E3 7) j = xi (E2 7) j from congrArg vi (q.2 7 j (by omega)), show xi (E2 7) j = xi (E1 7) j from congrArg vi (p.2 7 j (by omega))]
  · show (xi (E3 7) (xi (E1 0) 16).toNatClampNeg).toInt % 256 = v
    rw [hy, show xi (E3 7) y.toNatClampNeg = xi (E2 7) y.toNatClampNeg from congrArg vi (q.2 7 _ (by omega)), show xi (E2 7) y.toNatClampNeg = x from vi_e p.1]
    exact hv
theorem byt_n {a z1 z2 y1 y2 : Int32} (e2 : z2 = z1.toInt8.toInt32) (e1 : z1 = a) (f1 : y1 = a) (f2 : y2 = y1 &&& 255) : (vp_nar .byte z2).toInt % 256 = y2.toInt := by
  have h1 : (vp_nar .byte z2).toInt % 256 = z2.toInt % 256 := i8_mod z2
  rw [h1, e2, i8_mod, e1, f2, f1, and255]
theorem FedM.pw0 {E E' : Nat → va_E} {j : Nat} {v : Value} (p : Pw E E' 0 j v) (hj : ¬ j = 16) : FedM [] E E' := ⟨by
  show (xi (E' 0) 16).toNatClampNeg = (xi (E 0) 16).toNatClampNeg + 0
  rw [show xi (E' 0) 16 = xi (E 0) 16 from congrArg vi (p.2 0 16 (by omega))]
  rfl, fun i _ => by
  show (xi (E' 7) i).toInt % 256 = (xi (E 7) i).toInt % 256
  rw [show xi (E' 7) i = xi (E 7) i from congrArg vi (p.2 7 i (by omega))], fun i hi => absurd hi (Nat.not_lt_zero _)⟩
end

