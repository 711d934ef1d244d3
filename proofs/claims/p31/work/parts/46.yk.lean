

/-! ===== the reference's CLAUSES with what they say ===== -/
def dfl (lab : Int) : Int32 := if lab = 110 then 1000 else 0
def wf (L : Nat → Int32) (lab : Int) : List Cla → Option Int32
  | [] => none
  | c :: r => if c.1 = lab ∧ (c.2.1 = [] ∨ ¬ rT (X L c.2.1 []) = 0) then some (rT (X L c.2.2 [])) else wf L lab r
theorem wo_wf {L : Nat → Int32} {lab : Int} : ∀ C, wo L lab C = (wf L lab C).getD (dfl lab) := by
  intro C
  induction C with
  | nil => rfl
  | cons c r ih =>
    show (if c.1 = lab ∧ (c.2.1 = [] ∨ ¬ rT (X L c.2.1 []) = 0) then rT (X L c.2.2 []) else wo L lab r) = (if c.1 = lab ∧ (c.2.1 = [] ∨ ¬ rT (X L c.2.1 []) = 0) then some (rT (X L c.2.2 [])) else wf L lab r).getD (dfl lab)
    by_cases h : c.1 = lab ∧ (c.2.1 = [] ∨ ¬ rT (X L c.2.1 []) = 0)
    · rw [if_pos h, if_pos h]
      rfl
    · rw [if_neg h, if_neg h]
      exact ih
theorem wf_app {L : Nat → Int32} {lab : Int} {c : Cla} : ∀ C, wf L lab (C ++ [c]) = match wf L lab C with
    | some v => some v
    | none => if c.1 = lab ∧ (c.2.1 = [] ∨ ¬ rT (X L c.2.1 []) = 0) then some (rT (X L c.2.2 [])) else none := by
  intro C
  induction C with
  | nil => rfl
  | cons d r ih =>
    show (if d.1 = lab ∧ (d.2.1 = [] ∨ ¬ rT (X L d.2.1 []) = 0) then some (rT (X L d.2.2 [])) else wf L lab (r ++ [c])) = match (if d.1 = lab ∧ (d.2.1 = [] ∨ ¬ rT (X L d.2.1 []) = 0) then some (rT (X L d.2.2 [])) else wf L lab r) with
      | some v => some v
      | none => if c.1 = lab ∧ (c.2.1 = [] ∨ ¬ rT (X L c.2.1 []) = 0) then some (rT (X L c.2.2 [])) else none
    by_cases h : d.1 = lab ∧ (d.2.1 = [] ∨ ¬ rT (X L d.2.1 []) = 0)
    · rw [if_pos h, if_pos h]
    · rw [if_neg h, if_neg h]
      exact ih
def WfS (L : Nat → Int32) (lab : Int) (C : List Cla) (h f : Int32) : Prop := (h.toInt = 1 ∧ wf L lab C = some f) ∨ (h.toInt = 0 ∧ wf L lab C = none ∧ f = dfl lab)
/-- what a CLAUSE does to what was found -/
def FndS (L : Nat → Int32) (lab : Int) (c : Cla) (h f h' f' : Int32) : Prop := (¬ h.toInt = 0 → h' = h ∧ f' = f) ∧ (h.toInt = 0 → (c.1 = lab ∧ (c.2.1 = [] ∨ ¬ rT (X L c.2.1 []) = 0)) → h'.toInt = 1 ∧ f' = rT (X L c.2.2 [])) ∧ (h.toInt = 0 → ¬ (c.1 = lab ∧ (c.2.1 = [] ∨ ¬ rT (X L c.2.1 []) = 0)) → h'.toInt = 0 ∧ f' = f)
theorem WfS.step {L : Nat → Int32} {lab : Int} {C : List Cla} {c : Cla} {h f h' f' : Int32} (hw : WfS L lab C h f) (hf : FndS L lab c h f h' f') : WfS L lab (C ++ [c]) h' f' := by
  obtain ⟨a1, a2, a3⟩ := hf
  unfold WfS
  rw [wf_app]
  rcases hw with ⟨b1, b2⟩ | ⟨b1, b2, b3⟩
  · obtain ⟨e1, e2⟩ := a1 (by omega)
    rw [b2, e1, e2]
    exact Or.inl ⟨b1, rfl⟩
  · rw [b2]
    by_cases q : c.1 = lab ∧ (c.2.1 = [] ∨ ¬ rT (X L c.2.1 []) = 0)
    · obtain ⟨e1, e2⟩ := a2 b1 q
      refine Or.inl ⟨e1, ?_⟩
      show (if c.1 = lab ∧ (c.2.1 = [] ∨ ¬ rT (X L c.2.1 []) = 0) then some (rT (X L c.2.2 [])) else none) = some f'
      rw [if_pos q, e2]
    · obtain ⟨e1, e2⟩ := a3 b1 q
      refine Or.inr ⟨e1, ?_, e2.trans b3⟩
      show (if c.1 = lab ∧ (c.2.1 = [] ∨ ¬ rT (X L c.2.1 []) = 0) then some (rT (X L c.2.2 [])) else none) = none
      rw [if_neg q]
theorem WfS.wo {L : Nat → Int32} {lab : Int} {C : List Cla} {h f : Int32} (hw : WfS L lab C h f) : f = wo L lab C := by
  rw [wo_wf]
  rcases hw with ⟨b1, b2⟩ | ⟨b1, b2, b3⟩
  · rw [b2]
    rfl
  · rw [b2]
    exact b3
def ClQ (k : Nat) (E E8 : Nat → va_E) (lab : Int) (is v : Int32) : Prop := mFa E = -1 → mFa E8 = -1 → ∃ cc sc, clauseS true (mT k E) (mN E) (mA E) = .good (mA E8) [(lab, cc, sc)] ∧ ((cc = [] ∧ is.toInt = 1) ∨ Vp (mLt E) [] cc is) ∧ Vp (mLt E) [] sc v
def RdQ (k : Nat) (E E' : Nat → va_E) : Prop := mFa E = -1 → mFa E' = -1 → ∃ c : Cla, clauseS true (mT k E) (mN E) (mA E) = .good (mA E') [c] ∧ FndS (mLt E) (xi (E 0) 24).toInt c (xi (E 0) 26) (xi (E 0) 25) (xi (E' 0) 26) (xi (E' 0) 25)
section CQ
variable {k : Nat} {E E1 E2 E3 E4 E5 E6 E7 E8 E9 E10 : Nat → va_E} {r r2 r3 is v v1 : Int32}
theorem RdQ.nf (h : ¬ mFa E1 = -1) : RdQ k E E1 := fun _ q => absurd q h
theorem clQ_c (hN : RdL k E E1 r) (h : isLab r.toInt = true) (ha : AtM k E1 E2) (ht : RdM k (fun t n a => clo t n 58 a ()) E2 E3) (hN2 : RdL k E3 E4 r2) (h2 : r2.toInt = 33 ∨ r2.toInt = 40) (z4 : MZ E E4) (hC : RdM k (coY 0 8) E4 E5) (hCW : RdW k (pr 0 0) (coY 0 8) E4 E5 is) (hq : RdM k (fun t n a => clo t n 63 a ()) E5 E6) (z6 : MZ E E6) (hs : RdM k (fun t n a => sumS true t n 8 a) E6 E7) (hsW : RdW k [] (fun t n a => sumS true t n 8 a) E6 E7 v) (hk : KM k E7 E8) : ClQ k E E8 r.toInt is v := fun q q8 => by
  have f7 : mFa E7 = -1 := hk.2.1.symm.trans q8
  have f6 := hs.f0 f7
  have f5 := hq.f0 f6
  have f4 := hC.f0 f5
  have f3 : mFa E3 = -1 := hN2.2.1.symm.trans f4
  have f2 := ht.f0 f3
  have T2 := hN.1.tr ha.1
  have T3 := T2.tr ht.1
  have T4 := T3.tr hN2.1
  have T5 := T4.tr hC.1
  have T6 := T5.tr hq.1
  obtain ⟨r1, ra⟩ := hN.2.2 q
  obtain ⟨u, hu⟩ := (ht.2.2 f2).f f3
  obtain ⟨p1, p2⟩ := hN2.2.2 f3
  obtain ⟨cc, hcc, hdc⟩ := hCW f4 f5
  obtain ⟨w, hw⟩ := (hq.2.2 f5).f f6
  obtain ⟨sc, hsc, hds⟩ := hsW f6 f7
  have hu' : clo (mT k E2) (mN E2) 58 (mA E2) () = .good (mA E3) u := hu
  have hw' : clo (mT k E5) (mN E5) 63 (mA E5) () = .good (mA E6) w := hw
  have hcc' : condS true (mT k E4) (mN E4) 8 (mA E4) = .good (mA E5) cc := hcc
  have hsc' : sumS true (mT k E6) (mN E6) 8 (mA E6) = .good (mA E7) sc := hsc
  rw [T2.1, T2.2, ha.2.2, ra] at hu'
  rw [T3.1, T3.2] at p1 p2
  rw [T4.1, T4.2, p2] at hcc'
  rw [T5.1, T5.2] at hw'
  rw [T6.1, T6.2] at hsc'
  rw [show mLt E4 = mLt E from z4, pr_0 (by decide)] at hdc
  rw [show mLt E6 = mLt E from z6] at hds
  refine ⟨cc, sc, ?_, Or.inr hdc, hds⟩
  unfold clauseS
  rw [← r1, if_pos h, hu']
  show clauseV true (mT k E) (mN E) (mA E3) r.toInt = _
  unfold clauseV
  rw [← p1, if_pos h2, hcc']
  show (clo (mT k E) (mN E) 63 (mA E5) ()).andThen _ = _
  rw [hw']
  show (sumS true (mT k E) (mN E) 8 (mA E6)).andThen _ = _
  rw [hsc', hk.2.2]
  rfl
theorem clQ_b (hN : RdL k E E1 r) (h : isLab r.toInt = true) (ha : AtM k E1 E2) (ht : RdM k (fun t n a => clo t n 58 a ()) E2 E3) (hN2 : RdL k E3 E4 r2) (h2 : ¬ (r2.toInt = 33 ∨ r2.toInt = 40)) (z4 : MZ E E4) (hs1 : RdM k (fun t n a => sumS true t n 8 a) E4 E5) (hs1W : RdW k [] (fun t n a => sumS true t n 8 a) E4 E5 v1) (hN3 : RdL k E5 E6 r3) (h3 : isCmp r3.toInt = true) (z6 : MZ E E6) (hC : RdM k (coY 1 8) E6 E7) (hCW : RdW k (pr 1 v1) (coY 1 8) E6 E7 is) (hq : RdM k (fun t n a => clo t n 63 a ()) E7 E8) (z8 : MZ E E8) (hs : RdM k (fun t n a => sumS true t n 8 a) E8 E9) (hsW : RdW k [] (fun t n a => sumS true t n 8 a) E8 E9 v) (hk : KM k E9 E10) : ClQ k E E10 r.toInt is v := fun q q10 => by
  have f9 : mFa E9 = -1 := hk.2.1.symm.trans q10
  have f8 := hs.f0 f9
  have f7 := hq.f0 f8
  have f6 := hC.f0 f7
  have f5 : mFa E5 = -1 := hN3.2.1.symm.trans f6
  have f4 := hs1.f0 f5
  have f3 : mFa E3 = -1 := hN2.2.1.symm.trans f4
  have f2 := ht.f0 f3
  have T2 := hN.1.tr ha.1
  have T3 := T2.tr ht.1
  have T4 := T3.tr hN2.1
  have T5 := T4.tr hs1.1
  have T6 := T5.tr hN3.1
  have T7 := T6.tr hC.1
  have T8 := T7.tr hq.1
  obtain ⟨r1, ra⟩ := hN.2.2 q
  obtain ⟨u, hu⟩ := (ht.2.2 f2).f f3
  obtain ⟨p1, p2⟩ := hN2.2.2 f3
  obtain ⟨c1, hc1, hd1⟩ := hs1W f4 f5
  obtain ⟨g1, g2⟩ := hN3.2.2 f5
  obtain ⟨cc, hcc, hdc⟩ := hCW f6 f7
  obtain ⟨w, hw⟩ := (hq.2.2 f7).f f8
  obtain ⟨sc, hsc, hds⟩ := hsW f8 f9
  have hu' : clo (mT k E2) (mN E2) 58 (mA E2) () = .good (mA E3) u := hu
  have hw' : clo (mT k E7) (mN E7) 63 (mA E7) () = .good (mA E8) w := hw
  have hc1' : sumS true (mT k E4) (mN E4) 8 (mA E4) = .good (mA E5) c1 := hc1
  have hcc' : condB true (mT k E6) (mN E6) 8 (mA E6) = .good (mA E7) cc := hcc
  have hsc' : sumS true (mT k E8) (mN E8) 8 (mA E8) = .good (mA E9) sc := hsc
  rw [T2.1, T2.2, ha.2.2, ra] at hu'
  rw [T3.1, T3.2] at p1 p2
  rw [T4.1, T4.2, p2] at hc1'
  rw [T5.1, T5.2] at g1 g2
  rw [T6.1, T6.2, g2] at hcc'
  rw [T7.1, T7.2] at hw'
  rw [T8.1, T8.2] at hsc'
  rw [show mLt E4 = mLt E from z4] at hd1
  rw [show mLt E6 = mLt E from z6, pr_1 (by decide)] at hdc
  rw [show mLt E8 = mLt E from z8] at hds
  refine ⟨c1 ++ cc, sc, ?_, Or.inr (hd1.then hdc), hds⟩
  unfold clauseS
  rw [← r1, if_pos h, hu']
  show clauseV true (mT k E) (mN E) (mA E3) r.toInt = _
  unfold clauseV
  rw [← p1, if_neg h2, hc1']
  show (if isCmp (pk (mT k E) (mN E) (mA E5)) = true then _ else _) = _
  rw [← g1, if_pos h3, hcc']
  show (clo (mT k E) (mN E) 63 (mA E7) ()).andThen _ = _
  rw [hw']
  show (sumS true (mT k E) (mN E) 8 (mA E8)).andThen _ = _
  rw [hsc', hk.2.2]
  rfl
theorem clQ_s (hN : RdL k E E1 r) (h : isLab r.toInt = true) (ha : AtM k E1 E2) (ht : RdM k (fun t n a => clo t n 58 a ()) E2 E3) (hN2 : RdL k E3 E4 r2) (h2 : ¬ (r2.toInt = 33 ∨ r2.toInt = 40)) (z4 : MZ E E4) (hs1 : RdM k (fun t n a => sumS true t n 8 a) E4 E5) (hs1W : RdW k [] (fun t n a => sumS true t n 8 a) E4 E5 v) (hN3 : RdL k E5 E6 r3) (h3 : ¬ isCmp r3.toInt = true) (hk : KM k E6 E7) : ClQ k E E7 r.toInt 1 v := fun q q7 => by
  have f6 : mFa E6 = -1 := hk.2.1.symm.trans q7
  have f5 : mFa E5 = -1 := hN3.2.1.symm.trans f6
  have f4 := hs1.f0 f5
  have f3 : mFa E3 = -1 := hN2.2.1.symm.trans f4
  have f2 := ht.f0 f3
  have T2 := hN.1.tr ha.1
  have T3 := T2.tr ht.1
  have T4 := T3.tr hN2.1
  have T5 := T4.tr hs1.1
  obtain ⟨r1, ra⟩ := hN.2.2 q
  obtain ⟨u, hu⟩ := (ht.2.2 f2).f f3
  obtain ⟨p1, p2⟩ := hN2.2.2 f3
  obtain ⟨c1, hc1, hd1⟩ := hs1W f4 f5
  obtain ⟨g1, g2⟩ := hN3.2.2 f5
  have hu' : clo (mT k E2) (mN E2) 58 (mA E2) () = .good (mA E3) u := hu
  have hc1' : sumS true (mT k E4) (mN E4) 8 (mA E4) = .good (mA E5) c1 := hc1
  rw [T2.1, T2.2, ha.2.2, ra] at hu'
  rw [T3.1, T3.2] at p1 p2
  rw [T4.1, T4.2, p2] at hc1'
  rw [T5.1, T5.2] at g1 g2
  rw [show mLt E4 = mLt E from z4] at hd1
  refine ⟨[], c1, ?_, Or.inl ⟨rfl, by decide⟩, hd1⟩
  unfold clauseS
  rw [← r1, if_pos h, hu']
  show clauseV true (mT k E) (mN E) (mA E3) r.toInt = _
  unfold clauseV
  rw [← p1, if_neg h2, hc1']
  show (if isCmp (pk (mT k E) (mN E) (mA E5)) = true then _ else _) = _
  rw [← g1, if_neg h3, hk.2.2, g2]
theorem vp_ne {L : Nat → Int32} {c : List Int} {v : Int32} (h : Vp L [] c v) : ¬ c = [] ∧ rT (X L c []) = v := by
  have h1 : X L c [] = [v] := h []
  refine ⟨fun e => ?_, by rw [h1]; rfl⟩
  rw [e] at h1
  exact absurd h1 (by intro q; cases q)
theorem clQ_h {L : Nat → Int32} {cc : List Int} (h : (cc = [] ∧ is.toInt = 1) ∨ Vp L [] cc is) : (cc = [] ∨ ¬ rT (X L cc []) = 0) ↔ ¬ is.toInt = 0 := by
  rcases h with ⟨h1, h2⟩ | h1
  · exact ⟨fun _ => by omega, fun _ => Or.inl h1⟩
  · obtain ⟨h2, h3⟩ := vp_ne h1
    rw [h3]
    constructor
    · intro q q1
      rcases q with q | q
      · exact h2 q
      · exact q (Int32.toInt_inj.mp q1)
    · intro q
      exact Or.inr (fun e => q (by rw [e]; rfl))
theorem RdQ.of {lab : Int} {h0 f0 h1 f1 : Int32} (hV : ClQ k E E1 lab is v) (e1 : xi (E 0) 26 = h0) (e2 : xi (E 0) 25 = f0) (e3 : xi (E1 0) 26 = h1) (e4 : xi (E1 0) 25 = f1) (hd : (¬ h0.toInt = 0 ∧ h1 = h0 ∧ f1 = f0) ∨ (h0.toInt = 0 ∧ ¬ (lab = (xi (E 0) 24).toInt ∧ ¬ is.toInt = 0) ∧ h1 = h0 ∧ f1 = f0) ∨ (h0.toInt = 0 ∧ lab = (xi (E 0) 24).toInt ∧ ¬ is.toInt = 0 ∧ h1.toInt = 1 ∧ f1 = v)) : RdQ k E E1 := fun q q1 => by
  obtain ⟨cc, sc, c1, c2, c3⟩ := hV q q1
  have hh := clQ_h c2
  refine ⟨(lab, cc, sc), c1, ?_⟩
  rw [e1, e2, e3, e4]
  have hh' : ((lab, cc, sc) : Cla).1 = (xi (E 0) 24).toInt ∧ (((lab, cc, sc) : Cla).2.1 = [] ∨ ¬ rT (X (mLt E) ((lab, cc, sc) : Cla).2.1 []) = 0) ↔ lab = (xi (E 0) 24).toInt ∧ ¬ is.toInt = 0 := ⟨fun p => ⟨p.1, hh.mp p.2⟩, fun p => ⟨p.1, hh.mpr p.2⟩⟩
  rcases hd with ⟨d1, d2, d3⟩ | ⟨d1, d2, d3, d4⟩ | ⟨d1, d2, d3, d4, d5⟩
  · exact ⟨fun _ => ⟨d2, d3⟩, fun p => absurd p d1, fun p => absurd p d1⟩
  · exact ⟨fun p => absurd d1 p, fun _ p => absurd (hh'.mp p) d2, fun _ _ => ⟨by rw [d3]; exact d1, d4⟩⟩
  · exact ⟨fun p => absurd d1 p, fun _ _ => ⟨d4, d5.trans (vp_ne c3).2.symm⟩, fun _ p => absurd (hh'.mpr ⟨d2, d3⟩) p⟩
/-- what was found stands -/
def FK (E E' : Nat → va_E) : Prop := xi (E' 0) 26 = xi (E 0) 26 ∧ xi (E' 0) 25 = xi (E 0) 25 ∧ xi (E' 0) 24 = xi (E 0) 24
theorem FK.kp {E' : Nat → va_E} {w : Nat → Nat → Bool} (hk : Kp w E E') (h1 : w 0 26 = false) (h2 : w 0 25 = false) (h3 : w 0 24 = false) : FK E E' := ⟨congrArg vi (hk 0 26 h1), congrArg vi (hk 0 25 h2), congrArg vi (hk 0 24 h3)⟩
theorem FK.pw {E' : Nat → va_E} {j : Nat} {x : Value} (p : Pw E E' 0 j x) (h1 : ¬ j = 26) (h2 : ¬ j = 25) (h3 : ¬ j = 24) : FK E E' := ⟨congrArg vi (p.2 0 26 (by omega)), congrArg vi (p.2 0 25 (by omega)), congrArg vi (p.2 0 24 (by omega))⟩
theorem FK.tr (h : FK E E1) (h1 : FK E1 E2) : FK E E2 := ⟨h1.1.trans h.1, h1.2.1.trans h.2.1, h1.2.2.trans h.2.2⟩
def LpQ (k : Nat) (E0 E1 : Nat → va_E) : Prop := mFa E0 = -1 → mFa E1 = -1 → xi (E1 0) 24 = xi (E0 0) 24 ∧ ∃ C, textL true (mT k E0) (mN E0) (mA E0) = opL (mT k E0) (mN E0) isSem cbC (clauseS true (mT k E0) (mN E0)) (mA E1) C ∧ WfS (mLt E0) (xi (E0 0) 24).toInt C (xi (E1 0) 26) (xi (E1 0) 25)
theorem LpQ.start (hq : RdQ k E E1) (h0 : (xi (E 0) 26).toInt = 0) (hf : xi (E 0) 25 = dfl (xi (E 0) 24).toInt) (hl : xi (E1 0) 24 = xi (E 0) 24) : LpQ k E E1 := fun q q1 => by
  obtain ⟨c, c1, c2⟩ := hq q q1
  have w0 : WfS (mLt E) (xi (E 0) 24).toInt [] (xi (E 0) 26) (xi (E 0) 25) := Or.inr ⟨h0, rfl, hf⟩
  refine ⟨hl, [c], ?_, w0.step c2⟩
  rw [lmX, c1]
  rfl
theorem LpQ.step {i : Int} (hl : LpM k (fun t m a => textL true t m a) (fun t m => opL t m isSem cbC (clauseS true t m)) i E E1) (hv : LpQ k E E1) (hN : RdL k E1 E2 r) (ho : isSem r.toInt = true) (ha : AtM k E2 E3) (fk : FK E1 E3) (z : MZ E E3) (hr : RdM k (fun t m a => clauseS true t m a) E3 E4) (hq : RdQ k E3 E4) (hlb : xi (E4 0) 24 = xi (E3 0) 24) : LpQ k E E4 := fun q q4 => by
  have f3 := hr.f0 q4
  have f2 : mFa E2 = -1 := ha.2.1.symm.trans f3
  have f1 : mFa E1 = -1 := hN.2.1.symm.trans f2
  obtain ⟨r1, ra⟩ := hN.2.2 f1
  obtain ⟨l1, C, c1, c2⟩ := hv q f1
  obtain ⟨c, k1, k2⟩ := hq f3 q4
  rw [ha.1.1, ha.1.2, hN.1.1, hN.1.2, ha.2.2, ra, hl.1.1, hl.1.2] at k1
  rw [r1, hl.1.1, hl.1.2] at ho
  rw [show mLt E3 = mLt E from z, fk.1, fk.2.1, fk.2.2, l1] at k2
  refine ⟨hlb.trans (fk.2.2.trans l1), C ++ [c], ?_, c2.step k2⟩
  rw [c1, opL_1 (clauseS_mono true (mT k E) (mN E)) rfl ho, k1]
  rfl
def TxQ (k : Nat) (E0 E1 : Nat → va_E) : Prop := mFa E0 = -1 → mFa E1 = -1 → ∃ C, textL true (mT k E0) (mN E0) (mA E0) = .good (mA E1) C ∧ WfS (mLt E0) (xi (E0 0) 24).toInt C (xi (E1 0) 26) (xi (E1 0) 25)
theorem LpQ.exit {i : Int} (hl : LpM k (fun t m a => textL true t m a) (fun t m => opL t m isSem cbC (clauseS true t m)) i E E1) (hv : LpQ k E E1) (hN : RdL k E1 E2 r) (fk : FK E1 E2) (ho : ¬ isSem r.toInt = true) : TxQ k E E2 := fun q q2 => by
  have f1 : mFa E1 = -1 := hN.2.1.symm.trans q2
  obtain ⟨r1, ra⟩ := hN.2.2 f1
  obtain ⟨l1, C, c1, c2⟩ := hv q f1
  rw [r1, hl.1.1, hl.1.2] at ho
  rw [← fk.1, ← fk.2.1] at c2
  exact ⟨C, by rw [c1, opL_0 ho, ra, hl.1.1, hl.1.2], c2⟩
theorem TxQ.nf (h : ¬ mFa E1 = -1) : TxQ k E E1 := fun _ q => absurd q h
theorem goQ_nf {a : Nat} {C : List Cla} {P : PR (List Cla)} {x y : Int32} (F : mFa E = P.flt) (h : ¬ mFa E = -1) (hP : P = .good a C) : x = y := by
  rw [hP] at F
  exact absurd F h
theorem goQ_ok {a : Nat} {C : List Cla} (kf : mFa E = -1) (ka : mA E = 0) (h : TxQ k E E1) (f1 : mFa E1 = -1) (hF : xi (E2 0) 25 = xi (E1 0) 25) (hP : textS true (mT k E) (mN E) = .good a C) : xi (E2 0) 25 = wo (mLt E) (xi (E 0) 24).toInt C := by
  obtain ⟨C', c1, c2⟩ := h kf f1
  rw [ka] at c1
  unfold textS at hP
  rw [c1] at hP
  have hP' : (if pk (mT k E) (mN E) (mA E1) = -1 then PR.good (mA E1) C' else .bad (sk (mT k E) (mN E) (mA E1))) = PR.good a C := hP
  by_cases e : pk (mT k E) (mN E) (mA E1) = -1
  · rw [if_pos e] at hP'
    rw [hF, ← good_c hP']
    exact c2.wo
  · rw [if_neg e] at hP'
    exact (bad_no hP').elim
end CQ
/-! ===== WORTH, as the reference reads it ===== -/
def mBn (g : Nat → Int32) (n : Nat) : Nat → Int := fun j => (g (n + j)).toInt % 256
theorem mB_n {g : Nat → Int32} {y : Int32} {n : Nat} (h : y.toNatClampNeg = n) : mB g y = mBn g n := by
  unfold mB mBn
  rw [h]
/-- the TEXT of RULES k -/
def mTx (E : Nat → va_E) (k : Nat) : PR (List Cla) := textS true (mBn (xi (E 8)) (200 * k)) (xi (E 9) k).toNatClampNeg
def wML (L : Nat → Int32) (E : Nat → va_E) (lab : Int) (k : Int32) : Int32 := if k.toInt = -1 then dfl lab else match mTx E k.toNatClampNeg with
  | Sum.inl _ => 0
  | Sum.inr (_, C) => wo L lab C
theorem flt_good {α : Type} {P : PR α} (h : P.flt = -1) : ∃ a C, P = .good a C := by
  rcases P with i | ⟨a, C⟩
  · have h1 : (i : Int) = -1 := h
    exfalso
    omega
  · exact ⟨a, C, rfl⟩
def TXM (E : Nat → va_E) : Prop := ∀ k : Nat, (k : Int) < (xi (E 0) 17).toInt → (mTx E k).flt = -1
theorem wML_0 {L : Nat → Int32} {E : Nat → va_E} {lab : Int} {k v : Int32} (h : k.toInt = -1) (hv : v = dfl lab) : v = wML L E lab k := by
  unfold wML
  rw [if_pos h, hv]
theorem wML_1 {L : Nat → Int32} {E : Nat → va_E} {lab : Int} {k v : Int32} (h : 0 ≤ k.toInt) (hx : TXM E) (hk : k.toInt < (xi (E 0) 17).toInt) (hv : ∀ a C, mTx E k.toNatClampNeg = .good a C → v = wo L lab C) : v = wML L E lab k := by
  obtain ⟨a, C, e⟩ := flt_good (hx k.toNatClampNeg (by rw [tn_]; omega))
  unfold wML
  rw [if_neg (by omega), e]
  exact hv a C e

