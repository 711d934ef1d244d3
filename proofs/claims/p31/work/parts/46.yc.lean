

/-! ===== what the reference's readers say: the worth of what they read ===== -/
def mLt (E : Nat → va_E) : Nat → Int32 := fun p => xi (E 12) (lets.getD p 0).toNat
def MZ (E E' : Nat → va_E) : Prop := mLt E' = mLt E
theorem MZ.rf {E : Nat → va_E} : MZ E E := rfl
theorem MZ.tr {E E1 E2 : Nat → va_E} (h : MZ E E1) (h1 : MZ E1 E2) : MZ E E2 := Eq.trans h1 h
theorem MZ.kp {w : Nat → Nat → Bool} {E E' : Nat → va_E} (hk : Kp w E E') (h1 : ∀ j, w 12 j = false) : MZ E E' := funext (fun p => congrArg vi (hk 12 _ (h1 _)))
/-- code that puts one number in the place of those ahead -/
def Vp (L : Nat → Int32) (pre : List Int32) (c : List Int) (v : Int32) : Prop := ∀ st, X L c (pre ++ st) = v :: st
theorem Vp.bin {L : Nat → Int32} {pre : List Int32} {c c2 : List Int} {v w : Int32} {s : Int} (h : Vp L pre c v) (h2 : Vp L [] c2 w) (hs : 0 ≤ s) (h33 : ¬ s = 33) : Vp L pre (jb c s c2) (jn s v w) := fun st => by
  have e2 : X L c2 (v :: st) = w :: v :: st := h2 (v :: st)
  show X L (c ++ c2 ++ [-100 - s]) (pre ++ st) = _
  rw [X_app, X_app, h, e2]
  show x1 L (-100 - s) (w :: v :: st) = _
  unfold x1
  rw [if_pos (by omega), if_neg (by omega), show -100 - (-100 - s) = s by omega]
theorem Vp.not {L : Nat → Int32} {pre : List Int32} {c : List Int} {v : Int32} (h : Vp L pre c v) : Vp L pre (c ++ [-133]) (if v = 0 then 1 else 0) := fun st => by
  rw [X_app, h]
  show x1 L (-133) (v :: st) = _
  unfold x1
  rw [if_pos (by decide), if_pos (by decide)]
theorem Vp.num {L : Nat → Int32} {v : Int32} (h : 0 ≤ v.toInt) : Vp L [] [v.toInt] v := fun st => by
  have h1 := Vl.num (L := L) h st
  rw [Int32.ofInt_toInt] at h1
  exact h1
theorem let_at {x : Int} (h : isLet x = true) : lets.getD (lets.idxOf x) 0 = x ∧ lets.idxOf x < 99 := by
  have hm : x ∈ lets := by
    unfold isLet at h
    exact List.contains_iff_mem.mp h
  exact (show ∀ y ∈ lets, lets.getD (lets.idxOf y) 0 = y ∧ lets.idxOf y < 99 by decide) x hm
/-- the sign behind two numbers that stand one behind another -/
theorem Vp.cmp {L : Nat → Int32} {a b : Int32} {c : List Int} {s : Int} (h : Vp L [] c b) (hs : 0 ≤ s) (h33 : ¬ s = 33) : Vp L [a] (c ++ [-100 - s]) (jn s a b) := fun st => by
  have e2 : X L c (a :: st) = b :: a :: st := h (a :: st)
  rw [X_app]
  show X L [-100 - s] (X L c (a :: st)) = _
  rw [e2]
  show x1 L (-100 - s) (b :: a :: st) = _
  unfold x1
  rw [if_pos (by omega), if_neg (by omega), show -100 - (-100 - s) = s by omega]
theorem Vp.then {L : Nat → Int32} {pre : List Int32} {c c2 : List Int} {a v : Int32} (h : Vp L pre c a) (h2 : Vp L [a] c2 v) : Vp L pre (c ++ c2) v := fun st => by
  have e2 : X L c2 (a :: st) = v :: st := h2 st
  rw [X_app, h, e2]
def pr (w a : Int32) : List Int32 := if w.toInt = 0 then [] else [a]
theorem pr_0 {w a : Int32} (h : w.toInt = 0) : pr w a = [] := if_pos h
theorem pr_1 {w a : Int32} (h : ¬ w.toInt = 0) : pr w a = [a] := if_neg h
/-- what a reader that came through has said -/
def RdW (k : Nat) (pre : List Int32) (P : (Nat → Int) → Nat → Nat → PR (List Int)) (E E' : Nat → va_E) (r : Int32) : Prop := mFa E = -1 → mFa E' = -1 → ∃ c, P (mT k E) (mN E) (mA E) = .good (mA E') c ∧ Vp (mLt E) pre c r
section RW
variable {k d : Nat} {E E1 E2 E3 E4 E5 : Nat → va_E} {r v v' w w' a b : Int32} {pre : List Int32}
theorem RdW.nf {P : (Nat → Int) → Nat → Nat → PR (List Int)} (h : ¬ mFa E1 = -1) : RdW k pre P E E1 v := fun _ q => absurd q h
theorem RdW.ks {P : (Nat → Int) → Nat → Nat → PR (List Int)} (h : RdW k pre P E E1 v) (h1 : KM k E1 E2) : RdW k pre P E E2 v := fun q q2 => by
  obtain ⟨c, hc, hv⟩ := h q (h1.2.1.symm.trans q2)
  exact ⟨c, by rw [hc, h1.2.2], hv⟩
theorem RdM.f0 {α : Type} {P : (Nat → Int) → Nat → Nat → PR α} (h : RdM k P E E1) (hf : mFa E1 = -1) : mFa E = -1 := by
  by_cases q : mFa E = -1
  · exact q
  · exact absurd ((h.2.1 q).symm.trans hf) q
theorem atW_let (hN : RdL k E E1 r) (h : ¬ dgt r.toInt) (h1 : isLet r.toInt = true) (ha : AtM k E1 E2) (z : MZ E E2) (hv : xi (E2 12) r.toNatClampNeg = v) : RdW k [] (fun t n a => atomS true t n d a) E E2 v := fun q q2 => by
  obtain ⟨r1, r2⟩ := hN.2.2 q
  have l2 := let_at h1
  refine ⟨[-1 - (lets.idxOf r.toInt : Int)], ?_, ?_⟩
  · show atomS true (mT k E) (mN E) d (mA E) = _
    unfold atomS atomO
    rw [if_neg (by rw [← r1]; exact h), if_pos (by rw [← r1]; exact h1), ← r1, ha.2.2, r2]
  · have e : v = mLt E (lets.idxOf r.toInt) := by
      rw [← show mLt E2 = mLt E from z]
      show v = xi (E2 12) (lets.getD (lets.idxOf r.toInt) 0).toNat
      rw [l2.1, ← hv, tn_]
    rw [e]
    exact fun st => Vl.let l2.2 st
theorem atW_num (hN : RdL k E E1 r) (h : dgt r.toInt) (z : MZ E E1) (hn : RdW k [] (fun t n a => numS true t n a) E1 E2 v) : RdW k [] (fun t n a => atomS true t n d a) E E2 v := fun q q2 => by
  obtain ⟨r1, r2⟩ := hN.2.2 q
  obtain ⟨c, hc, hv⟩ := hn (hN.2.1.trans q) q2
  rw [show mLt E1 = mLt E from z] at hv
  refine ⟨c, ?_, hv⟩
  show atomS true (mT k E) (mN E) d (mA E) = _
  unfold atomS atomO
  rw [if_pos (by rw [← r1]; exact h)]
  have hc' : numS true (mT k E1) (mN E1) (mA E1) = .good (mA E2) c := hc
  rw [hN.1.1, hN.1.2, r2] at hc'
  exact hc'
theorem atW_in {k2 : Nat} (hN : RdL k E E1 r) (h : r.toInt = 91) (ha : AtM k E1 E2) (z : MZ E E2) (hs : RdM k (fun t n a => sumS true t n k2 a) E2 E3) (hw : RdW k [] (fun t n a => sumS true t n k2 a) E2 E3 v) (ht : RdM k (fun t n a => clo t n 93 a ()) E3 E4) (hd : d = k2 + 1) : RdW k [] (fun t n a => atomS true t n d a) E E4 v := fun q q4 => by
  have f3 := ht.f0 q4
  have f2 := hs.f0 f3
  obtain ⟨r1, r2⟩ := hN.2.2 q
  obtain ⟨c, hc, hv⟩ := hw f2 f3
  obtain ⟨u, hu⟩ := (ht.2.2 f3).f q4
  obtain ⟨-, u2, u3⟩ := clo_c hu
  have hc' : sumS true (mT k E2) (mN E2) k2 (mA E2) = .good (mA E3) c := hc
  rw [ha.1.1, ha.1.2, hN.1.1, hN.1.2, ha.2.2, r2] at hc'
  rw [hs.1.1, hs.1.2, ha.1.1, ha.1.2, hN.1.1, hN.1.2] at u2 u3
  rw [show mLt E2 = mLt E from z] at hv
  refine ⟨c, ?_, hv⟩
  show atomS true (mT k E) (mN E) d (mA E) = _
  unfold atomS atomO
  rw [← r1, h, if_neg in91m.1, if_neg in91m.2, if_pos rfl, hd]
  show (sumS true (mT k E) (mN E) k2 (sk (mT k E) (mN E) (mA E) + 1)).andThen (clo (mT k E) (mN E) 93) = _
  rw [hc']
  show clo (mT k E) (mN E) 93 (mA E3) c = _
  unfold clo
  rw [if_pos u2, u3]
/-- numbers -/
def NumX (k : Nat) (d v : Int32) (E E1 : Nat → va_E) : Prop := numF (mT k E) (mN E) 5 (mA E) 0 = numF (mT k E) (mN E) (5 - d.toNatClampNeg) (mA E1) v.toInt ∧ 0 ≤ v.toInt ∧ v.toInt < p10 d.toNatClampNeg
theorem NumX.rf : NumX k 0 0 E E := ⟨rfl, by decide, by decide⟩
theorem numx {v b y1 y2 y3 : Int32} (hv : 0 ≤ v.toInt ∧ v.toInt ≤ 9999) (hb : 48 ≤ b.toInt ∧ b.toInt ≤ 57) (e1 : y1 = 10 * v) (e2 : y2 = y1 + b) (e3 : y3 = y2 - 48) : y3.toInt = 10 * v.toInt + (b.toInt - 48) := numv hv hb (e1.trans (Int32.mul_comm 10 v)) e2 e3
theorem NumX.step {d d' v b y1 y2 y3 : Int32} (h : NumX k d v E E1) (hM : NumM k d E E1) (ha : AtM k E1 E2) (h1 : mA E1 < mN E1 ∧ dgt (mT k E1 (mA E1))) (hb : mT k E1 (mA E1) = b.toInt) (hd : 0 ≤ d.toInt ∧ d.toInt < 5) (t : d'.toInt = d.toInt + 1) (e1 : y1 = 10 * v) (e2 : y2 = y1 + b) (e3 : y3 = y2 - 48) : NumX k d' y3 E E2 := by
  obtain ⟨a1, a2, a3⟩ := h
  have hd5 : d.toNatClampNeg < 5 := by
    rw [tn_]
    omega
  have hd' : d'.toNatClampNeg = d.toNatClampNeg + 1 := by
    rw [tn_, tn_]
    omega
  have hp := p10_le hd5
  have hs := p10_s hd5
  obtain ⟨h8, h9⟩ := h1
  have h2 : dgt b.toInt := by
    rw [← hb]
    exact h9
  have hv := numx (v := v) (b := b) ⟨a2, by omega⟩ h2 e1 e2 e3
  rw [hM.1.1] at hb
  rw [hM.1.2] at h8
  unfold dgt at h2
  refine ⟨?_, by omega, by rw [hd', hs]; omega⟩
  rw [a1, ha.2.2, show 5 - d.toNatClampNeg = (5 - d'.toNatClampNeg) + 1 by omega]
  rw [show numF (mT k E) (mN E) ((5 - d'.toNatClampNeg) + 1) (mA E1) v.toInt = numF (mT k E) (mN E) (5 - d'.toNatClampNeg) (mA E1 + 1) (10 * v.toInt + (mT k E (mA E1) - 48)) from if_pos ⟨h8, by rw [hb]; exact h2⟩, hb, hv]
theorem NumX.out {d v : Int32} (h : NumX k d v E E1) (hM : NumM k d E E1) (hx : ¬ (mA E1 < mN E1 ∧ dgt (mT k E1 (mA E1)))) : RdW k [] (fun t n a => numS true t n a) E E1 v := fun _ _ => by
  rw [hM.1.1, hM.1.2] at hx
  have h5 : numF (mT k E) (mN E) 5 (mA E) 0 = (mA E1, v.toInt) := h.1.trans (numF_e (Or.inr hx))
  refine ⟨[v.toInt], ?_, Vp.num h.2.1⟩
  show numS true (mT k E) (mN E) (mA E) = _
  unfold numS
  rw [h5]
  exact if_neg (fun q9 => hx ⟨q9.2.1, q9.2.2⟩)
/-- loops -/
def LpW (k : Nat) (pre : List Int32) (P : (Nat → Int) → Nat → Nat → PR (List Int)) (K : (Nat → Int) → Nat → Nat → List Int → PR (List Int)) (E E1 : Nat → va_E) (v : Int32) : Prop := mFa E = -1 → mFa E1 = -1 → ∃ c, P (mT k E) (mN E) (mA E) = K (mT k E) (mN E) (mA E1) c ∧ Vp (mLt E) pre c v
theorem LpW.start {P P0 : (Nat → Int) → Nat → Nat → PR (List Int)} {K : (Nat → Int) → Nat → Nat → List Int → PR (List Int)} (h : RdW k pre P0 E E1 v) (hP : ∀ t n a, P t n a = (P0 t n a).andThen (K t n)) : LpW k pre P K E E1 v := fun q q1 => by
  obtain ⟨c, hc, hd⟩ := h q q1
  exact ⟨c, by rw [hP, hc]; rfl, hd⟩
theorem LpW.step {P P0 : (Nat → Int) → Nat → Nat → PR (List Int)} {K : (Nat → Int) → Nat → Nat → List Int → PR (List Int)} {op : Int → Bool} {i : Int} (hl : LpM k P K i E E1) (hv : LpW k pre P K E E1 v) (hN : RdL k E1 E2 r) (ho : op r.toInt = true) (ha : AtM k E2 E3) (z : MZ E E3) (hr : RdM k P0 E3 E4) (hw : RdW k [] P0 E3 E4 w) (hj : v' = jn r.toInt v w) (h0 : 0 ≤ r.toInt) (h33 : ¬ r.toInt = 33) (hK : ∀ t n a c, op (pk t n a) = true → K t n a c = (P0 t n (sk t n a + 1)).andThen (fun a2 c2 => K t n a2 (jb c (pk t n a) c2))) : LpW k pre P K E E4 v' := fun q q4 => by
  have f3 := hr.f0 q4
  have f2 : mFa E2 = -1 := ha.2.1.symm.trans f3
  have f1 : mFa E1 = -1 := hN.2.1.symm.trans f2
  obtain ⟨r1, r2⟩ := hN.2.2 f1
  obtain ⟨c, hc, hcd⟩ := hv q f1
  obtain ⟨c2, hc2, hcd2⟩ := hw f3 q4
  rw [ha.1.1, ha.1.2, hN.1.1, hN.1.2, ha.2.2, r2, hl.1.1, hl.1.2] at hc2
  rw [r1, hl.1.1, hl.1.2] at ho hj h0 h33
  rw [show mLt E3 = mLt E from z] at hcd2
  refine ⟨jb c (pk (mT k E) (mN E) (mA E1)) c2, ?_, ?_⟩
  · rw [hc, hK _ _ _ _ ho, hc2]
    rfl
  · rw [hj]
    exact hcd.bin hcd2 h0 h33
theorem LpW.exit {P : (Nat → Int) → Nat → Nat → PR (List Int)} {K : (Nat → Int) → Nat → Nat → List Int → PR (List Int)} {op : Int → Bool} {i : Int} (hl : LpM k P K i E E1) (hv : LpW k pre P K E E1 v) (hN : RdL k E1 E2 r) (ho : ¬ op r.toInt = true) (hK : ∀ t n a c, ¬ op (pk t n a) = true → K t n a c = .good (sk t n a) c) : RdW k pre P E E2 v := fun q q2 => by
  have f1 : mFa E1 = -1 := hN.2.1.symm.trans q2
  obtain ⟨r1, r2⟩ := hN.2.2 f1
  obtain ⟨c, hc, hd⟩ := hv q f1
  rw [r1, hl.1.1, hl.1.2] at ho
  exact ⟨c, by rw [hc, hK _ _ _ _ ho, r2, hl.1.1, hl.1.2], hd⟩
/-- comparisons, units -/
theorem cmW (hN : RdL k E E1 r) (h : isCmp r.toInt = true) (ha : AtM k E1 E2) (z : MZ E E2) (hs : RdM k (fun t n a => sumS true t n d a) E2 E3) (hv : RdW k [] (fun t n a => sumS true t n d a) E2 E3 b) (hj : v = jn r.toInt a b) (h0 : 0 ≤ r.toInt) (h33 : ¬ r.toInt = 33) : RdW k [a] (fun t n a => cmpS true t n d a) E E3 v := fun q q3 => by
  have f2 := hs.f0 q3
  obtain ⟨r1, r2⟩ := hN.2.2 q
  obtain ⟨c, hc, hcd⟩ := hv f2 q3
  have hc' : sumS true (mT k E2) (mN E2) d (mA E2) = .good (mA E3) c := hc
  rw [ha.1.1, ha.1.2, hN.1.1, hN.1.2, ha.2.2, r2] at hc'
  rw [show mLt E2 = mLt E from z] at hcd
  refine ⟨c ++ [-100 - r.toInt], ?_, ?_⟩
  · show cmpS true (mT k E) (mN E) d (mA E) = _
    unfold cmpS
    rw [if_pos (by rw [← r1]; exact h), hc', ← r1]
    rfl
  · rw [hj]
    exact hcd.cmp h0 h33
theorem cpW_0 (hw : w.toInt = 0) (hs : RdM k (fun t n a => sumS true t n d a) E E1) (hv : RdW k [] (fun t n a => sumS true t n d a) E E1 a) (z : MZ E E1) (hc : RdW k [a] (fun t n a => cmpS true t n d a) E1 E2 v) (f1 : mFa E1 = -1) : RdW k (pr w b) (cpX w d) E E2 v := fun q q2 => by
  obtain ⟨c, hc1, hcd⟩ := hv q f1
  obtain ⟨c2, hc2, hcd2⟩ := hc f1 q2
  have h8 : sumS true (mT k E) (mN E) d (mA E) = .good (mA E1) c := hc1
  have h9 : cmpS true (mT k E1) (mN E1) d (mA E1) = .good (mA E2) c2 := hc2
  rw [hs.1.1, hs.1.2] at h9
  rw [show mLt E1 = mLt E from z] at hcd2
  rw [pr_0 hw]
  refine ⟨c ++ c2, ?_, hcd.then hcd2⟩
  unfold cpX
  rw [if_pos hw, h8]
  show (cmpS true (mT k E) (mN E) d (mA E1)).andThen _ = _
  rw [h9]
  rfl
theorem cpW_1 (hw : ¬ w.toInt = 0) (hc : RdW k [a] (fun t n a => cmpS true t n d a) E E2 v) : RdW k (pr w a) (cpX w d) E E2 v := fun q q2 => by
  obtain ⟨c, hc1, hcd⟩ := hc q q2
  rw [pr_1 hw]
  refine ⟨c, ?_, hcd⟩
  unfold cpX
  rw [if_neg hw]
  exact hc1
theorem unW_n {k2 : Nat} (hw : w.toInt = 0) (hN : RdL k E E1 r) (h : r.toInt = 33) (ha : AtM k E1 E2) (z : MZ E E2) (hu : RdW k [] (unY 0 k2) E2 E3 a) (hk : KM k E3 E4) (hd : d = k2 + 1) (hj : v = if a = 0 then 1 else 0) : RdW k [] (unY w d) E E4 v := fun q q4 => by
  have f3 : mFa E3 = -1 := hk.2.1.symm.trans q4
  obtain ⟨r1, r2⟩ := hN.2.2 q
  have f2 : mFa E2 = -1 := ha.2.1.trans (hN.2.1.trans q)
  obtain ⟨c, hc, hcd⟩ := hu f2 f3
  have hc' : unitS true (mT k E2) (mN E2) k2 (mA E2) = .good (mA E3) c := hc
  rw [ha.1.1, ha.1.2, hN.1.1, hN.1.2, ha.2.2, r2] at hc'
  rw [show mLt E2 = mLt E from z] at hcd
  refine ⟨c ++ [-133], ?_, by rw [hj]; exact hcd.not⟩
  unfold unY
  rw [if_pos hw, hd]
  show unitO true _ _ (k2 + 1) _ _ _ = _
  unfold unitO
  rw [← r1, h, if_pos rfl]
  show (unitS true (mT k E) (mN E) k2 (sk (mT k E) (mN E) (mA E) + 1)).andThen _ = _
  rw [hc', hk.2.2]
  rfl
theorem unW_p {k2 : Nat} (hw : w.toInt = 0) (hN : RdL k E E1 r) (h : r.toInt = 40) (ha : AtM k E1 E2) (z : MZ E E2) (hu : RdM k (coY 0 k2) E2 E3) (hv : RdW k [] (coY 0 k2) E2 E3 v) (ht : RdM k (fun t n a => clo t n 41 a ()) E3 E4) (hd : d = k2 + 1) : RdW k [] (unY w d) E E4 v := fun q q4 => by
  have f3 := ht.f0 q4
  have f2 := hu.f0 f3
  obtain ⟨r1, r2⟩ := hN.2.2 q
  obtain ⟨c, hc, hcd⟩ := hv f2 f3
  obtain ⟨u, hu2⟩ := (ht.2.2 f3).f q4
  obtain ⟨-, u2, u3⟩ := clo_c hu2
  have hc' : condS true (mT k E2) (mN E2) k2 (mA E2) = .good (mA E3) c := hc
  rw [ha.1.1, ha.1.2, hN.1.1, hN.1.2, ha.2.2, r2] at hc'
  rw [hu.1.1, hu.1.2, ha.1.1, ha.1.2, hN.1.1, hN.1.2] at u2 u3
  rw [show mLt E2 = mLt E from z] at hcd
  refine ⟨c, ?_, hcd⟩
  unfold unY
  rw [if_pos hw, hd]
  show unitO true _ _ (k2 + 1) _ _ _ = _
  unfold unitO
  rw [← r1, h, if_neg (by decide), if_pos rfl]
  show (condS true (mT k E) (mN E) k2 (sk (mT k E) (mN E) (mA E) + 1)).andThen (clo (mT k E) (mN E) 41) = _
  rw [hc']
  show clo (mT k E) (mN E) 41 (mA E3) c = _
  unfold clo
  rw [if_pos u2, u3]
theorem unW_k (hN : RdL k E E1 r) (h : ¬ r.toInt = 33) (h1 : ¬ r.toInt = 40) (z : MZ E E1) (hc : RdW k (pr 0 a) (cpX 0 d) E1 E2 v) : RdW k [] (unY 0 d) E E2 v := fun q q2 => by
  obtain ⟨r1, r2⟩ := hN.2.2 q
  obtain ⟨c, hc1, hcd⟩ := hc (hN.2.1.trans q) q2
  rw [show mLt E1 = mLt E from z] at hcd
  refine ⟨c, ?_, hcd⟩
  have hc' : (sumS true (mT k E1) (mN E1) d (mA E1)).andThen (fun a1 c1 => (cmpS true (mT k E1) (mN E1) d a1).andThen (fun a2 c2 => .good a2 (c1 ++ c2))) = .good (mA E2) c := hc1
  rw [hN.1.1, hN.1.2, r2] at hc'
  rw [← hc']
  show unitS true (mT k E) (mN E) d (mA E) = _
  cases d with
  | zero =>
    show unitO true _ _ 0 _ _ _ = _
    unfold unitO
    rw [← r1, if_neg h, if_neg h1]
  | succ d =>
    show unitO true _ _ (d + 1) _ _ _ = _
    unfold unitO
    rw [← r1, if_neg h, if_neg h1]
theorem unW_1 (hw : ¬ w.toInt = 0) (hc : RdW k (pr 1 a) (cpX 1 d) E E1 v) : RdW k (pr w a) (unY w d) E E1 v := fun q q1 => by
  obtain ⟨c, hc1, hcd⟩ := hc q q1
  rw [pr_1 hw]
  refine ⟨c, ?_, hcd⟩
  unfold unY
  rw [if_neg hw]
  exact hc1
theorem unW_0 (hw : w.toInt = 0) (hc : RdW k [] (unY 0 d) E E1 v) : RdW k (pr w a) (unY w d) E E1 v := fun q q1 => by
  obtain ⟨c, hc1, hcd⟩ := hc q q1
  rw [pr_0 hw]
  refine ⟨c, ?_, hcd⟩
  unfold unY
  rw [if_pos hw]
  exact hc1
end RW
/-! ===== how two numbers are joined, as the reference does it ===== -/
theorem cl_of {r : Int32} {n : Int} (h : r.toInt = max (-10000000) (min 10000000 n)) : r = cl n := by
  unfold cl
  rw [← h, Int32.ofInt_toInt]
theorem tl_bm {x : Int} (h : -4611686018427387904 ≤ x) (h1 : x ≤ 4611686018427387904) : x.bmod (2 ^ 64) = x := by
  rw [Int.bmod_def]
  omega
theorem l_of (x : Int32) : x.toInt64.toInt = x.toInt := Int32.toInt_toInt64 x
theorem i_in (x : Int32) : -2147483648 ≤ x.toInt ∧ x.toInt ≤ 2147483647 := iv_all x
theorem tl_add {a b : Int32} {x : Int64} (e : x = a.toInt64 + b.toInt64) : x.toInt = a.toInt + b.toInt := by
  have ha := i_in a
  have hb := i_in b
  rw [e, Int64.toInt_add, l_of, l_of]
  exact tl_bm (by omega) (by omega)
theorem tl_sub {a b : Int32} {x : Int64} (e : x = a.toInt64 - b.toInt64) : x.toInt = a.toInt - b.toInt := by
  have ha := i_in a
  have hb := i_in b
  rw [e, Int64.toInt_sub, l_of, l_of]
  exact tl_bm (by omega) (by omega)
theorem tl_mul {a b : Int32} {x : Int64} (e : x = a.toInt64 * b.toInt64) : x.toInt = a.toInt * b.toInt := by
  have h := ti_mulb (e := -4611686018427387904) (f := 4611686018427387904) (i_in a) (i_in b) (by decide)
  rw [e, Int64.toInt_mul, l_of, l_of]
  exact tl_bm h.1 h.2
theorem tl_div {a b : Int32} {x : Int64} (e : x = a.toInt64 / b.toInt64) : x.toInt = a.toInt.tdiv b.toInt := by
  have ha := i_in a
  have hq : (a.toInt.tdiv b.toInt).natAbs ≤ a.toInt.natAbs := Int.natAbs_tdiv_le_natAbs _ _
  rw [e, Int64.toInt_div, l_of, l_of]
  exact tl_bm (by omega) (by omega)
theorem jn_mul {a b r : Int32} {x : Int64} (e : x = a.toInt64 * b.toInt64) (h : r.toInt = max (-10000000) (min 10000000 x.toInt)) : r = jn 42 a b := by
  rw [tl_mul e] at h
  exact cl_of h
theorem jn_add {a b r : Int32} {x : Int64} (e : x = a.toInt64 + b.toInt64) (h : r.toInt = max (-10000000) (min 10000000 x.toInt)) : r = jn 43 a b := by
  rw [tl_add e] at h
  exact cl_of h
theorem jn_sub {a b r : Int32} {x : Int64} (e : x = a.toInt64 - b.toInt64) (h : r.toInt = max (-10000000) (min 10000000 x.toInt)) : r = jn 45 a b := by
  rw [tl_sub e] at h
  exact cl_of h
theorem jn_div {a b r : Int32} {x : Int64} (hb : ¬ b.toInt = 0) (e : x = a.toInt64 / b.toInt64) (h : r.toInt = max (-10000000) (min 10000000 x.toInt)) : r = jn 47 a b := by
  have hb' : ¬ b = 0 := fun q => hb (by rw [q]; rfl)
  rw [tl_div e] at h
  have h1 : jn 47 a b = cl (a.toInt.tdiv b.toInt) := if_neg hb'
  rw [h1]
  exact cl_of h
theorem jn_div0 {a b r : Int32} {x : Int64} (hb : b.toInt = 0) (e : x = 0) (h : r.toInt = max (-10000000) (min 10000000 x.toInt)) : r = jn 47 a b := by
  have hb' : b = 0 := Int32.toInt_inj.mp hb
  have h1 : jn 47 a b = 0 := if_pos hb'
  rw [h1]
  apply Int32.toInt_inj.mp
  rw [h, e]
  decide
theorem jn_eq1 {a b : Int32} (h : a.toInt = b.toInt) : (1 : Int32) = jn 61 a b := (if_pos (Int32.toInt_inj.mp h)).symm
theorem jn_eq0 {a b : Int32} (h : ¬ a.toInt = b.toInt) : (0 : Int32) = jn 61 a b := (if_neg (fun q => h (congrArg Int32.toInt q))).symm
theorem jn_lt1 {a b : Int32} (h : a.toInt < b.toInt) : (1 : Int32) = jn 60 a b := (if_pos h).symm
theorem jn_lt0 {a b : Int32} (h : ¬ a.toInt < b.toInt) : (0 : Int32) = jn 60 a b := (if_neg h).symm
theorem jn_gt1 {a b : Int32} (h : b.toInt < a.toInt) : (1 : Int32) = jn 62 a b := (if_pos h).symm
theorem jn_gt0 {a b : Int32} (h : ¬ b.toInt < a.toInt) : (0 : Int32) = jn 62 a b := (if_neg h).symm
theorem b01 {a : Int32} (h : 0 ≤ a.toInt ∧ a.toInt ≤ 1) : a = 0 ∨ a = 1 := by
  rcases (show a.toInt = 0 ∨ a.toInt = 1 by omega) with q | q
  · exact Or.inl (Int32.toInt_inj.mp q)
  · exact Or.inr (Int32.toInt_inj.mp q)
theorem jn_and {a b v : Int32} (ha : 0 ≤ a.toInt ∧ a.toInt ≤ 1) (hb : 0 ≤ b.toInt ∧ b.toInt ≤ 1) (hv : v.toInt = if a.toInt = 0 ∨ b.toInt = 0 then 0 else 1) : v = jn 38 a b := by
  apply Int32.toInt_inj.mp
  rw [hv]
  rcases b01 ha with rfl | rfl <;> rcases b01 hb with rfl | rfl <;> decide
theorem jn_or {a b v : Int32} (ha : 0 ≤ a.toInt ∧ a.toInt ≤ 1) (hb : 0 ≤ b.toInt ∧ b.toInt ≤ 1) (hv : v.toInt = if a.toInt = 0 ∧ b.toInt = 0 then 0 else 1) : v = jn 124 a b := by
  apply Int32.toInt_inj.mp
  rw [hv]
  rcases b01 ha with rfl | rfl <;> rcases b01 hb with rfl | rfl <;> decide
theorem bnd {b y1 y2 y3 y4 : Int64} {y5 : Int32} (e1 : y1 = -10000000) (e2 : y2 = 10000000) (e3 : y3 = if b < y2 then b else y2) (e4 : y4 = if y3 < y1 then y1 else y3) (e5 : y5 = y4.toInt32) : y5.toInt = max (-10000000) (min 10000000 b.toInt) := by
  have l1 : y1.toInt = -10000000 := by
    rw [e1]
    decide
  have l2 : y2.toInt = 10000000 := by
    rw [e2]
    decide
  have l3 : y3.toInt = min 10000000 b.toInt := by
    rw [e3]
    by_cases h : b < y2
    · have h9 := Int64.lt_iff_toInt_lt.mp h
      rw [if_pos h]
      omega
    · have h9 : ¬ b.toInt < y2.toInt := fun q => h (Int64.lt_iff_toInt_lt.mpr q)
      rw [if_neg h]
      omega
  have l4 : y4.toInt = max (-10000000) (min 10000000 b.toInt) := by
    rw [e4]
    by_cases h : y3 < y1
    · have h9 := Int64.lt_iff_toInt_lt.mp h
      rw [if_pos h]
      omega
    · have h9 : ¬ y3.toInt < y1.toInt := fun q => h (Int64.lt_iff_toInt_lt.mpr q)
      rw [if_neg h]
      omega
  rw [e5, Int64.toInt_toInt32, ti_bm (by omega) (by omega)]
  exact l4
theorem lcz {x z : Int64} {y b : Int32} (ey : y = lg_cmp x z) (ez : z = 0) (ex : x = b.toInt64) (c : ¬ y.toInt = 0) : ¬ b.toInt = 0 := fun h => c (by
  have hb : b = 0 := Int32.toInt_inj.mp h
  rw [ey, ez, ex, hb]
  decide)
theorem nt1 {a : Int32} (h : a.toInt = 0) : (1 : Int32) = if a = 0 then 1 else 0 := (if_pos (Int32.toInt_inj.mp h)).symm
theorem nt0 {a : Int32} (h : ¬ a.toInt = 0) : (0 : Int32) = if a = 0 then 1 else 0 := (if_neg (fun q => h (by rw [q]; rfl))).symm
theorem MZ.of {E E1 E2 : Nat → va_E} (h1 : MZ E E1) (h2 : MZ E E2) : MZ E1 E2 := Eq.trans h2 (Eq.symm h1)
theorem lcy {x z : Int64} {y b : Int32} (ey : y = lg_cmp x z) (ez : z = 0) (ex : x = b.toInt64) (c : y.toInt = 0) : b.toInt = 0 := by
  rw [ey, ez] at c
  unfold lg_cmp at c
  by_cases h : x > 0
  · rw [if_pos h] at c
    exact absurd c (by decide)
  · rw [if_neg h] at c
    by_cases h1 : x = 0
    · have h2 : x.toInt = b.toInt := by rw [ex, Int32.toInt_toInt64]
      rw [h1] at h2
      exact h2.symm
    · rw [if_neg h1] at c
      exact absurd c (by decide)

