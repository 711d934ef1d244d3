

/-! ===== a TEXT hangs on its bytes alone ===== -/
section TCG
variable {t t' : Nat → Int} {n : Nat}
theorem skF_cg (h : ∀ j, j < n → t j = t' j) : ∀ f a, skF t n f a = skF t' n f a := by
  intro f
  induction f with
  | zero => exact fun _ => rfl
  | succ f ih =>
    intro a
    show (if a < n ∧ t a = 32 then skF t n f (a + 1) else a) = (if a < n ∧ t' a = 32 then skF t' n f (a + 1) else a)
    by_cases c : a < n
    · rw [h a c, ih]
    · rw [if_neg (fun q => c q.1), if_neg (fun q => c q.1)]
theorem sk_cg (h : ∀ j, j < n → t j = t' j) : sk t n = sk t' n := funext (fun a => skF_cg h _ _)
theorem pk_cg (h : ∀ j, j < n → t j = t' j) : pk t n = pk t' n := funext (fun a => by
  unfold pk
  rw [sk_cg h]
  by_cases c : sk t' n a < n
  · rw [if_pos c, if_pos c, h _ c]
  · rw [if_neg c, if_neg c])
theorem numF_cg (h : ∀ j, j < n → t j = t' j) : ∀ f a v, numF t n f a v = numF t' n f a v := by
  intro f
  induction f with
  | zero => exact fun _ _ => rfl
  | succ f ih =>
    intro a v
    show (if a < n ∧ dgt (t a) then numF t n f (a + 1) (10 * v + (t a - 48)) else (a, v)) = (if a < n ∧ dgt (t' a) then numF t' n f (a + 1) (10 * v + (t' a - 48)) else (a, v))
    by_cases c : a < n
    · rw [h a c, ih]
    · rw [if_neg (fun q => c q.1), if_neg (fun q => c q.1)]
theorem numS_cg (h : ∀ j, j < n → t j = t' j) (b : Bool) : numS b t n = numS b t' n := funext (fun a => by
  unfold numS
  rw [numF_cg h]
  by_cases c : (numF t' n 5 a 0).1 < n
  · rw [h _ c]
  · rw [if_neg (fun q => c q.2.1), if_neg (fun q => c q.2.1)])
theorem opF_cg {α : Type} (h : ∀ j, j < n → t j = t' j) {op : Int → Bool} {cb : α → Int → α → α} {rd rd' : Nat → PR α} (hr : rd = rd') : ∀ f a c, opF t n op cb rd f a c = opF t' n op cb rd' f a c := by
  subst hr
  intro f
  induction f with
  | zero =>
    intro a c
    show PR.good (sk t n a) c = PR.good (sk t' n a) c
    rw [sk_cg h]
  | succ f ih =>
    intro a c
    show (if op (pk t n a) = true then (rd (sk t n a + 1)).andThen (fun a2 c2 => opF t n op cb rd f a2 (cb c (pk t n a) c2)) else PR.good (sk t n a) c) = (if op (pk t' n a) = true then (rd (sk t' n a + 1)).andThen (fun a2 c2 => opF t' n op cb rd f a2 (cb c (pk t' n a) c2)) else PR.good (sk t' n a) c)
    rw [sk_cg h, pk_cg h, show (fun a2 c2 => opF t n op cb rd f a2 (cb c (pk t' n a) c2)) = (fun a2 c2 => opF t' n op cb rd f a2 (cb c (pk t' n a) c2)) from funext (fun a2 => funext (fun c2 => ih a2 _))]
theorem opL_cg {α : Type} (h : ∀ j, j < n → t j = t' j) {op : Int → Bool} {cb : α → Int → α → α} {rd rd' : Nat → PR α} (hr : rd = rd') : opL t n op cb rd = opL t' n op cb rd' := funext (fun a => funext (fun c => opF_cg h hr _ a c))
theorem clo_cg {α : Type} (h : ∀ j, j < n → t j = t' j) (s : Int) : (clo t n s : Nat → α → PR α) = clo t' n s := funext (fun a => funext (fun c => by
  unfold clo
  rw [sk_cg h, pk_cg h]))
theorem atomO_cg (h : ∀ j, j < n → t j = t' j) (b : Bool) {i i' : Nat → PR (List Int)} (hi : i = i') : atomO b t n i = atomO b t' n i' := funext (fun a => by
  unfold atomO
  rw [sk_cg h, pk_cg h, numS_cg h, hi])
theorem termO_cg (h : ∀ j, j < n → t j = t' j) (b : Bool) {i i' : Nat → PR (List Int)} (hi : i = i') : termO b t n i = termO b t' n i' := funext (fun a => by
  unfold termO
  rw [atomO_cg h b hi, opL_cg h rfl])
theorem sumO_cg (h : ∀ j, j < n → t j = t' j) (b : Bool) {i i' : Nat → PR (List Int)} (hi : i = i') : sumO b t n i = sumO b t' n i' := funext (fun a => by
  unfold sumO
  rw [termO_cg h b hi, opL_cg h rfl])
theorem sumS_cg (h : ∀ j, j < n → t j = t' j) (b : Bool) : ∀ d, sumS b t n d = sumS b t' n d := by
  intro d
  induction d with
  | zero => exact sumO_cg h b rfl
  | succ d ih => exact sumO_cg h b (funext (fun s => by rw [ih, clo_cg h]))
theorem cmpS_cg (h : ∀ j, j < n → t j = t' j) (b : Bool) (d : Nat) : cmpS b t n d = cmpS b t' n d := funext (fun a => by
  unfold cmpS
  rw [sk_cg h, pk_cg h, sumS_cg h])
theorem unitO_cg (h : ∀ j, j < n → t j = t' j) (b : Bool) (d : Nat) {u u' c c' : Nat → PR (List Int)} (hu : u = u') (hc : c = c') : unitO b t n d u c = unitO b t' n d u' c' := funext (fun a => by
  unfold unitO
  rw [sk_cg h, pk_cg h, sumS_cg h, cmpS_cg h, hu, hc])
theorem partO_cg (h : ∀ j, j < n → t j = t' j) {u u' : Nat → PR (List Int)} (hu : u = u') : partO t n u = partO t' n u' := funext (fun a => by
  unfold partO
  rw [hu, opL_cg h rfl])
theorem condO_cg (h : ∀ j, j < n → t j = t' j) {u u' : Nat → PR (List Int)} (hu : u = u') : condO t n u = condO t' n u' := funext (fun a => by
  unfold condO
  rw [partO_cg h hu, opL_cg h rfl])
theorem unitS_cg (h : ∀ j, j < n → t j = t' j) (b : Bool) : ∀ d, unitS b t n d = unitS b t' n d := by
  intro d
  induction d with
  | zero => exact unitO_cg h b 0 rfl rfl
  | succ d ih => exact unitO_cg h b (d + 1) (funext (fun s => by rw [ih])) (funext (fun s => by rw [condO_cg h ih, clo_cg h]))
theorem condS_cg (h : ∀ j, j < n → t j = t' j) (b : Bool) (d : Nat) : condS b t n d = condS b t' n d := condO_cg h (unitS_cg h b d)
theorem partB_cg (h : ∀ j, j < n → t j = t' j) (b : Bool) (d : Nat) : partB b t n d = partB b t' n d := funext (fun a => by
  unfold partB
  rw [cmpS_cg h, opL_cg h (unitS_cg h b d)])
theorem condB_cg (h : ∀ j, j < n → t j = t' j) (b : Bool) (d : Nat) : condB b t n d = condB b t' n d := funext (fun a => by
  unfold condB
  rw [partB_cg h, opL_cg h (show partS b t n d = partS b t' n d from partO_cg h (unitS_cg h b d))])
theorem clauseV_cg (h : ∀ j, j < n → t j = t' j) (b : Bool) (a : Nat) (lab : Int) : clauseV b t n a lab = clauseV b t' n a lab := by
  unfold clauseV
  rw [sk_cg h, pk_cg h, sumS_cg h, condS_cg h, condB_cg h, clo_cg h]
theorem clauseS_cg (h : ∀ j, j < n → t j = t' j) (b : Bool) : clauseS b t n = clauseS b t' n := funext (fun a => by
  unfold clauseS
  rw [sk_cg h, pk_cg h, clo_cg h, show (fun a2 (_ : Unit) => clauseV b t n a2 (pk t' n a)) = (fun a2 _ => clauseV b t' n a2 (pk t' n a)) from funext (fun a2 => funext (fun _ => clauseV_cg h b a2 _))])
theorem textS_cg (h : ∀ j, j < n → t j = t' j) (b : Bool) : textS b t n = textS b t' n := by
  unfold textS textL
  rw [sk_cg h, pk_cg h, clauseS_cg h, opL_cg h rfl]
end TCG
/-! ===== RULES that are told ===== -/
/-- the class's new RULES hold the TEXT of the TAPE -/
def RuNew (E : Nat → va_E) (cf cf' : Nat → Nat) (E' : Nat → va_E) : Prop := ∃ a C, textS false (tT E) (tN E) = .good a C ∧ cf' (8 + 2 * cf 1) = C.length ∧ cf' (9 + 2 * cf 1) = totL C ∧ clE E' (cf 1) C.length = C ∧ RulOk E' (cf 1) C.length (totL C)
theorem RuNew.of {cf : Nat → Nat} {E E5 E9 E10 : Nat → va_E} {nc ns : Nat} {f0 f1 f2 f3 : Nat → Int32} {v : Value} (hT : Txt E E5) (hf : tF E5 = -1) (hns : ns = (xi (E5 2) 5).toNatClampNeg) (hnc : nc = (xi (E5 2) 9).toNatClampNeg) (hf0 : ∀ j, j < (xi (E5 2) 5).toNatClampNeg → f0 j = xi (E5 22) j) (hf1 : ∀ j, j < nc → f1 j = xi (E5 23) j) (hf2 : ∀ j, j < nc + 1 → f2 j = xi (E5 24) j) (hf3 : ∀ j, j < nc → f3 j = xi (E5 25) j) (o0 : ∀ j, xi (E9 (64 * (cf 1 + 1) + 2)) j = f0 j) (o1 : ∀ j, xi (E9 (64 * (cf 1 + 1) + 3)) j = f1 j) (o2 : ∀ j, xi (E9 (64 * (cf 1 + 1) + 4)) j = f2 j) (o3 : ∀ j, xi (E9 (64 * (cf 1 + 1) + 5)) j = f3 j) (p : Pw E9 E10 2 1 v) : RuNew E cf (cfR cf nc ns) E10 := by
  obtain ⟨a, C, h1, h2, h3⟩ := hT hf
  have es : ns = totL C := hns.trans h2.1
  have ec : nc = C.length := hnc.trans h2.2.1
  have k : ∀ o, 64 ≤ o → ∀ j, xi (E10 o) j = xi (E9 o) j := fun o ho j => congrArg vi (p.2 o j (by omega))
  rw [ec] at hf1 hf2 hf3
  rw [← hns, es] at hf0
  have h4 := lay_cls (st := rSt E10 (cf 1)) (la := rLa E10 (cf 1)) (be := rBe E10 (cf 1)) (su := rSu E10 (cf 1)) h2 h3 (fun j hj => congrArg Int32.toInt (((k _ (by omega) j).trans (o0 j)).trans (hf0 j hj))) (fun j hj => congrArg Int32.toInt (((k _ (by omega) j).trans (o1 j)).trans (hf1 j hj))) (fun j hj => congrArg Int32.toInt (((k _ (by omega) j).trans (o2 j)).trans (hf2 j hj))) (fun j hj => congrArg Int32.toInt (((k _ (by omega) j).trans (o3 j)).trans (hf3 j hj)))
  exact ⟨a, C, h1, cfR_c.trans ec, cfR_s.trans es, h4.1, h4.2⟩
/-- the reference copies the TAPE -/
def CpI (n v : Nat) (E E1 : Nat → va_E) : Prop := ∀ j, (xi (E1 8) j).toInt % 256 = if 200 * n ≤ j ∧ j < 200 * n + v then (xi (E 7) (j - 200 * n)).toInt % 256 else (xi (E 8) j).toInt % 256
theorem CpI.rf {n : Nat} {E : Nat → va_E} : CpI n 0 E E := fun j => (if_neg (by omega)).symm
theorem CpI.step {n v v' : Nat} {E E1 E2 : Nat → va_E} {x z : Int32} (h : CpI n v E E1) (p : Pw E1 E2 8 x.toNatClampNeg (.int z)) (hx : x.toNatClampNeg = 200 * n + v) (hz : z.toInt % 256 = (xi (E 7) v).toInt % 256) (hv : v' = v + 1) : CpI n v' E E2 := fun j => by
  rw [hx] at p
  by_cases e : j = 200 * n + v
  · rw [e, show xi (E2 8) (200 * n + v) = z from vi_e p.1, if_pos ⟨by omega, by omega⟩, hz, show 200 * n + v - 200 * n = v by omega]
  · rw [show xi (E2 8) j = xi (E1 8) j from congrArg vi (p.2 8 j (fun r => e r.2)), h j]
    by_cases c : 200 * n ≤ j ∧ j < 200 * n + v
    · rw [if_pos c, if_pos ⟨c.1, by omega⟩]
    · rw [if_neg c, if_neg (by omega)]
theorem CpI.kp {n v : Nat} {E E1 E2 : Nat → va_E} (h : CpI n v E E1) (k : ∀ j, xi (E2 8) j = xi (E1 8) j) : CpI n v E E2 := fun j => by
  rw [k]
  exact h j
/-- the TEXTS behind it -/
theorem CpI.old {n v i : Nat} {E E1 : Nat → va_E} (h : CpI n v E E1) (hi : i < n) (hl : xi (E1 9) i = xi (E 9) i) (hb : (xi (E 9) i).toNatClampNeg ≤ 200) : mTx E1 i = mTx E i := by
  unfold mTx
  rw [hl]
  refine textS_cg (fun j hj => ?_) true
  show (xi (E1 8) (200 * i + j)).toInt % 256 = (xi (E 8) (200 * i + j)).toInt % 256
  rw [h (200 * i + j), if_neg (by omega)]
theorem CpI.new {n v : Nat} {E E1 : Nat → va_E} (h : CpI n v E E1) (hl : (xi (E1 9) n).toNatClampNeg = v) : mTx E1 n = textS true (mB (xi (E 7)) 0) v := by
  unfold mTx
  rw [hl]
  refine textS_cg (fun j hj => ?_) true
  show (xi (E1 8) (200 * n + j)).toInt % 256 = (xi (E 7) (0 + j)).toInt % 256
  rw [h (200 * n + j), if_pos ⟨by omega, by omega⟩, show 200 * n + j - 200 * n = 0 + j by omega]

