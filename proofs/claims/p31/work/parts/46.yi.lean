

/-! ===== the class's CLAUSES with what they say ===== -/
def tC (E : Nat → va_E) : Nat := (xi (E 2) 9).toNatClampNeg
def rI (E : Nat → va_E) (o : Nat) : Nat → Int := fun j => (xi (E o) j).toInt
def RowK (c : Cla) (s k : Nat) (E E' : Nat → va_E) : Prop := (∀ j, j ≠ k → xi (E' 23) j = xi (E 23) j ∧ xi (E' 24) j = xi (E 24) j ∧ xi (E' 25) j = xi (E 25) j) ∧ (xi (E' 23) k).toInt = c.1 ∧ (xi (E' 24) k).toInt = (s : Int) ∧ (xi (E' 25) k).toInt = ((s + c.2.1.length : Nat) : Int) ∧ tC E' = k + 1
def RdK (E E' : Nat → va_E) : Prop := tF E = -1 → tF E' = -1 → ∃ c : Cla, clauseS false (tT E) (tN E) (tA E) = .good (tA E') [c] ∧ (tS E + (c.2.1 ++ c.2.2).length ≤ 200 → Fed (sT E) (sT E') (tS E) (tS E') (c.2.1 ++ c.2.2) ∧ RowK c (tS E) (tC E) E E')
theorem RdK.no {E E1 E2 : Nat → va_E} (h : RdF E1 E2) : RdK E E2 := fun _ q => (h.nf q).elim
def ClV (E E6 E' : Nat → va_E) (lab : Int) : Prop := tF E = -1 → tF E' = -1 → ∃ cc sc, clauseS false (tT E) (tN E) (tA E) = .good (tA E') [(lab, cc, sc)] ∧ CD cc E E6 ∧ CD (cc ++ sc) E E'
section CV
variable {E E1 E2 E3 E4 E5 E6 E7 E8 E9 E10 E11 E12 : Nat → va_E} {r r2 r3 : Int32}
theorem clV_c (hN : RdN E E1 r) (h : isLab r.toInt = true) (ha : AtP E1 E2) (ht : RdC (fun t n a => clo t n 58 a ()) E2 E3) (hk : KS E3 E4) (hN2 : RdN E4 E5 r2) (h2 : r2.toInt = 33 ∨ r2.toInt = 40) (z5 : SZ E E5) (hC : RdC (coX 0 8) E5 E6) (hCV : RdV (coX 0 8) E5 E6) (hq : RdC (fun t n a => clo t n 63 a ()) E6 E7) (hk2 : KS E7 E8) (z8 : SZ E6 E8) (hs : RdC (fun t n a => sumS false t n 8 a) E8 E9) (hsV : RdV (fun t n a => sumS false t n 8 a) E8 E9) (hk3 : KS E9 E10) (z10 : SZ E9 E10) : ClV E E6 E10 r.toInt := fun q q10 => by
  have f9 : tF E9 = -1 := hk3.2.1.symm.trans q10
  have f8 := hs.f0 f9
  have f7 : tF E7 = -1 := hk2.2.1.symm.trans f8
  have f6 := hq.f0 f7
  have f5 := hC.f0 f6
  have f4 : tF E4 = -1 := hN2.2.1.symm.trans f5
  have f3 : tF E3 = -1 := hk.2.1.symm.trans f4
  have f2 := ht.f0 f3
  have T2 := hN.1.tr ha.1
  have T4 := (T2.tr ht.1).tr hk.1
  have T5 := T4.tr hN2.1
  have T6 := T5.tr hC.1
  have T8 := (T6.tr hq.1).tr hk2.1
  obtain ⟨r1, ra⟩ := hN.2.2.2 q
  obtain ⟨u, hu⟩ := (ht.2.2 f2).f f3
  obtain ⟨p1, p2⟩ := hN2.2.2.2 f4
  obtain ⟨cc, hcc, hdc⟩ := hCV f5 f6
  obtain ⟨w, hw⟩ := (hq.2.2 f6).f f7
  obtain ⟨sc, hsc, hds⟩ := hsV f8 f9
  have hu' : clo (tT E2) (tN E2) 58 (tA E2) () = .good (tA E3) u := hu
  have hw' : clo (tT E6) (tN E6) 63 (tA E6) () = .good (tA E7) w := hw
  have hcc' : condS false (tT E5) (tN E5) 8 (tA E5) = .good (tA E6) cc := hcc
  have hsc' : sumS false (tT E8) (tN E8) 8 (tA E8) = .good (tA E9) sc := hsc
  rw [T2.1, T2.2, ha.2.2, ra] at hu'
  rw [T4.1, T4.2, hk.2.2] at p1 p2
  rw [T5.1, T5.2, p2] at hcc'
  rw [T6.1, T6.2] at hw'
  rw [T8.1, T8.2, hk2.2.2] at hsc'
  refine ⟨cc, sc, ?_, CD.sz0 z5 hdc, (CD.sz0 z5 hdc).tr (CD.sz0 z8 (hds.sz z10))⟩
  unfold clauseS
  rw [← r1, if_pos h, hu']
  show clauseV false (tT E) (tN E) (tA E3) r.toInt = _
  unfold clauseV
  rw [← p1, if_pos h2, hcc']
  show (clo (tT E) (tN E) 63 (tA E6) ()).andThen _ = _
  rw [hw']
  show (sumS false (tT E) (tN E) 8 (tA E7)).andThen _ = _
  rw [hsc', hk3.2.2]
  rfl
theorem clV_b (hN : RdN E E1 r) (h : isLab r.toInt = true) (ha : AtP E1 E2) (ht : RdC (fun t n a => clo t n 58 a ()) E2 E3) (hk : KS E3 E4) (hN2 : RdN E4 E5 r2) (h2 : ¬ (r2.toInt = 33 ∨ r2.toInt = 40)) (z5 : SZ E E5) (hs1 : RdC (fun t n a => sumS false t n 8 a) E5 E6) (hs1V : RdV (fun t n a => sumS false t n 8 a) E5 E6) (hN3 : RdN E6 E7 r3) (h3 : isCmp r3.toInt = true) (z7 : SZ E6 E7) (hC : RdC (coX 1 8) E7 E8) (hCV : RdV (coX 1 8) E7 E8) (hq : RdC (fun t n a => clo t n 63 a ()) E8 E9) (hk2 : KS E9 E10) (z10 : SZ E8 E10) (hs : RdC (fun t n a => sumS false t n 8 a) E10 E11) (hsV : RdV (fun t n a => sumS false t n 8 a) E10 E11) (hk3 : KS E11 E12) (z12 : SZ E11 E12) : ClV E E8 E12 r.toInt := fun q q12 => by
  have f11 : tF E11 = -1 := hk3.2.1.symm.trans q12
  have f10 := hs.f0 f11
  have f9 : tF E9 = -1 := hk2.2.1.symm.trans f10
  have f8 := hq.f0 f9
  have f7 := hC.f0 f8
  have f6 : tF E6 = -1 := hN3.2.1.symm.trans f7
  have f5 := hs1.f0 f6
  have f4 : tF E4 = -1 := hN2.2.1.symm.trans f5
  have f3 : tF E3 = -1 := hk.2.1.symm.trans f4
  have f2 := ht.f0 f3
  have T2 := hN.1.tr ha.1
  have T4 := (T2.tr ht.1).tr hk.1
  have T5 := T4.tr hN2.1
  have T6 := T5.tr hs1.1
  have T7 := T6.tr hN3.1
  have T8 := T7.tr hC.1
  have T10 := (T8.tr hq.1).tr hk2.1
  obtain ⟨r1, ra⟩ := hN.2.2.2 q
  obtain ⟨u, hu⟩ := (ht.2.2 f2).f f3
  obtain ⟨p1, p2⟩ := hN2.2.2.2 f4
  obtain ⟨c1, hc1, hd1⟩ := hs1V f5 f6
  obtain ⟨g1, g2⟩ := hN3.2.2.2 f6
  obtain ⟨cc, hcc, hdc⟩ := hCV f7 f8
  obtain ⟨w, hw⟩ := (hq.2.2 f8).f f9
  obtain ⟨sc, hsc, hds⟩ := hsV f10 f11
  have hu' : clo (tT E2) (tN E2) 58 (tA E2) () = .good (tA E3) u := hu
  have hw' : clo (tT E8) (tN E8) 63 (tA E8) () = .good (tA E9) w := hw
  have hc1' : sumS false (tT E5) (tN E5) 8 (tA E5) = .good (tA E6) c1 := hc1
  have hcc' : condB false (tT E7) (tN E7) 8 (tA E7) = .good (tA E8) cc := hcc
  have hsc' : sumS false (tT E10) (tN E10) 8 (tA E10) = .good (tA E11) sc := hsc
  rw [T2.1, T2.2, ha.2.2, ra] at hu'
  rw [T4.1, T4.2, hk.2.2] at p1 p2
  rw [T5.1, T5.2, p2] at hc1'
  rw [T6.1, T6.2] at g1 g2
  rw [T7.1, T7.2, g2] at hcc'
  rw [T8.1, T8.2] at hw'
  rw [T10.1, T10.2, hk2.2.2] at hsc'
  have e1 := (CD.sz0 z5 hd1).tr (CD.sz0 z7 hdc)
  refine ⟨c1 ++ cc, sc, ?_, e1, e1.tr (CD.sz0 z10 (hds.sz z12))⟩
  unfold clauseS
  rw [← r1, if_pos h, hu']
  show clauseV false (tT E) (tN E) (tA E3) r.toInt = _
  unfold clauseV
  rw [← p1, if_neg h2, hc1']
  show (if isCmp (pk (tT E) (tN E) (tA E6)) = true then _ else _) = _
  rw [← g1, if_pos h3, hcc']
  show (clo (tT E) (tN E) 63 (tA E8) ()).andThen _ = _
  rw [hw']
  show (sumS false (tT E) (tN E) 8 (tA E9)).andThen _ = _
  rw [hsc', hk3.2.2]
  rfl
theorem clV_s (hN : RdN E E1 r) (h : isLab r.toInt = true) (ha : AtP E1 E2) (ht : RdC (fun t n a => clo t n 58 a ()) E2 E3) (hk : KS E3 E4) (hN2 : RdN E4 E5 r2) (h2 : ¬ (r2.toInt = 33 ∨ r2.toInt = 40)) (z5 : SZ E E5) (hs1 : RdC (fun t n a => sumS false t n 8 a) E5 E6) (hs1V : RdV (fun t n a => sumS false t n 8 a) E5 E6) (hN3 : RdN E6 E7 r3) (h3 : ¬ isCmp r3.toInt = true) (hk3 : KS E7 E8) (z8 : SZ E6 E8) : ClV E E E8 r.toInt := fun q q8 => by
  have f7 : tF E7 = -1 := hk3.2.1.symm.trans q8
  have f6 : tF E6 = -1 := hN3.2.1.symm.trans f7
  have f5 := hs1.f0 f6
  have f4 : tF E4 = -1 := hN2.2.1.symm.trans f5
  have f3 : tF E3 = -1 := hk.2.1.symm.trans f4
  have f2 := ht.f0 f3
  have T2 := hN.1.tr ha.1
  have T4 := (T2.tr ht.1).tr hk.1
  have T5 := T4.tr hN2.1
  have T6 := T5.tr hs1.1
  obtain ⟨r1, ra⟩ := hN.2.2.2 q
  obtain ⟨u, hu⟩ := (ht.2.2 f2).f f3
  obtain ⟨p1, p2⟩ := hN2.2.2.2 f4
  obtain ⟨c1, hc1, hd1⟩ := hs1V f5 f6
  obtain ⟨g1, g2⟩ := hN3.2.2.2 f6
  have hu' : clo (tT E2) (tN E2) 58 (tA E2) () = .good (tA E3) u := hu
  have hc1' : sumS false (tT E5) (tN E5) 8 (tA E5) = .good (tA E6) c1 := hc1
  rw [T2.1, T2.2, ha.2.2, ra] at hu'
  rw [T4.1, T4.2, hk.2.2] at p1 p2
  rw [T5.1, T5.2, p2] at hc1'
  rw [T6.1, T6.2] at g1 g2
  refine ⟨[], c1, ?_, CD.nil SZ.rf, CD.sz0 z5 (hd1.sz z8)⟩
  unfold clauseS
  rw [← r1, if_pos h, hu']
  show clauseV false (tT E) (tN E) (tA E3) r.toInt = _
  unfold clauseV
  rw [← p1, if_neg h2, hc1']
  show (if isCmp (pk (tT E) (tN E) (tA E6)) = true then _ else _) = _
  rw [← g1, if_neg h3, hk3.2.2, g2]
end CV
theorem tS_i {E : Nat → va_E} (h : 0 ≤ (xi (E 2) 5).toInt) : (xi (E 2) 5).toInt = ((tS E : Nat) : Int) := by
  have e : tS E = (xi (E 2) 5).toInt.toNat := rfl
  omega
theorem RdK.of {E E6 E' : Nat → va_E} {lab : Int32} {k : Nat} (hV : ClV E E6 E' lab.toInt) (hk : k = tC E) (ho : ∀ j, j ≠ k → xi (E' 23) j = xi (E 23) j ∧ xi (E' 24) j = xi (E 24) j ∧ xi (E' 25) j = xi (E 25) j) (h23 : xi (E' 23) k = lab) (h24 : xi (E' 24) k = xi (E 2) 5) (h25 : xi (E' 25) k = xi (E6 2) 5) (hc : tC E' = k + 1) (h0 : 0 ≤ (xi (E 2) 5).toInt) (h6 : 0 ≤ (xi (E6 2) 5).toInt) : RdK E E' := fun q q1 => by
  obtain ⟨cc, sc, h1, h2, h3⟩ := hV q q1
  refine ⟨(lab.toInt, cc, sc), h1, fun hb => ⟨h3 hb, ?_⟩⟩
  have hb2 : tS E + (cc ++ sc).length ≤ 200 := hb
  rw [List.length_append] at hb2
  have h4 := (h2 (by omega)).1
  have i0 := tS_i h0
  have i6 := tS_i h6
  subst hk
  exact ⟨ho, congrArg Int32.toInt h23, by rw [h24]; exact i0, by rw [h25]; show (xi (E6 2) 5).toInt = ((tS E + cc.length : Nat) : Int); omega, hc⟩
/-! ===== how long the code is, how large its numbers are ===== -/
def Gd (rd : Nat → PR (List Int)) : Prop := ∀ x a c, rd x = .good a c → x + c.length ≤ a ∧ ∀ y ∈ c, y ≤ 99999
section GD
variable {b : Bool} {t : Nat → Int} {n : Nat}
theorem gd_app {c d : List Int} (h : ∀ y ∈ c, y ≤ 99999) (h2 : ∀ y ∈ d, y ≤ 99999) : ∀ y ∈ c ++ d, y ≤ (99999 : Int) := fun y hy => (List.mem_append.mp hy).elim (h y) (h2 y)
theorem gd_1 {x : Int} (h : x ≤ 99999) : ∀ y ∈ [x], y ≤ (99999 : Int) := fun y hy => by
  rw [List.mem_singleton.mp hy]
  exact h
theorem gd_0 : ∀ y ∈ ([] : List Int), y ≤ (99999 : Int) := fun y hy => absurd hy List.not_mem_nil
theorem opF_gd {op : Int → Bool} {rd : Nat → PR (List Int)} (hg : Gd rd) (hop : ∀ s, op s = true → 0 ≤ s) : ∀ f a c a2 c2, opF t n op jb rd f a c = .good a2 c2 → ∃ d, c2 = c ++ d ∧ a + d.length ≤ a2 ∧ ∀ y ∈ d, y ≤ 99999 := by
  intro f
  induction f with
  | zero =>
    intro a c a2 c2 h
    have h1 : PR.good (sk t n a) c = PR.good a2 c2 := h
    have h2 := good_inj h1
    have h3 := good_c h1
    have h4 := sk_ge t n a
    exact ⟨[], by rw [← h3, List.append_nil], by rw [List.length_nil]; omega, gd_0⟩
  | succ f ih =>
    intro a c a2 c2 h
    have h4 := sk_ge t n a
    by_cases c1 : op (pk t n a) = true
    · rw [show opF t n op jb rd (f + 1) a c = (rd (sk t n a + 1)).andThen (fun a2 c2 => opF t n op jb rd f a2 (jb c (pk t n a) c2)) from if_pos c1] at h
      rcases hr : rd (sk t n a + 1) with i | ⟨a3, c3⟩
      · rw [hr] at h
        exact (bad_no h).elim
      · rw [hr] at h
        obtain ⟨g1, g2⟩ := hg _ _ _ hr
        obtain ⟨d, d1, d2, d3⟩ := ih _ _ _ _ h
        have h0 := hop _ c1
        refine ⟨c3 ++ [-100 - pk t n a] ++ d, ?_, ?_, gd_app (gd_app g2 (gd_1 (by omega))) d3⟩
        · rw [d1]
          unfold jb
          simp only [List.append_assoc]
        · simp only [List.length_append, List.length_singleton]
          omega
    · rw [show opF t n op jb rd (f + 1) a c = .good (sk t n a) c from if_neg c1] at h
      have h2 := good_inj h
      have h3 := good_c h
      exact ⟨[], by rw [← h3, List.append_nil], by rw [List.length_nil]; omega, gd_0⟩
theorem gd_op {op : Int → Bool} {p rd : Nat → PR (List Int)} (hp : Gd p) (hg : Gd rd) (hop : ∀ s, op s = true → 0 ≤ s) : Gd (fun a => (p a).andThen (opL t n op jb rd)) := fun x a c h => by
  have h' : (p x).andThen (opL t n op jb rd) = .good a c := h
  rcases hr : p x with i | ⟨a3, c3⟩
  · rw [hr] at h'
    exact (bad_no h').elim
  · rw [hr] at h'
    obtain ⟨g1, g2⟩ := hp _ _ _ hr
    have h2 : opF t n op jb rd (n + 1 - a3) a3 c3 = .good a c := h'
    obtain ⟨d, d1, d2, d3⟩ := opF_gd hg hop _ _ _ _ _ h2
    rw [d1]
    exact ⟨by rw [List.length_append]; omega, gd_app g2 d3⟩
theorem gd_clo {p : Nat → PR (List Int)} {s : Int} (hp : Gd p) : Gd (fun x => (p (x + 1)).andThen (clo t n s)) := fun x a c h => by
  have h' : (p (x + 1)).andThen (clo t n s) = .good a c := h
  rcases hr : p (x + 1) with i | ⟨a3, c3⟩
  · rw [hr] at h'
    exact (bad_no h').elim
  · rw [hr] at h'
    obtain ⟨g1, g2⟩ := hp _ _ _ hr
    have h2 : clo t n s a3 c3 = .good a c := h'
    have h3 := clo_mono h2
    rw [← (clo_c h2).1]
    exact ⟨by omega, g2⟩
theorem gd_bad : Gd (fun s => .bad s) := fun _ _ _ h => (bad_no h).elim
def K10 : Nat → Int
  | 0 => 1
  | f + 1 => 10 * K10 f
theorem K10_1 : ∀ f, 1 ≤ K10 f := by
  intro f
  induction f with
  | zero => exact Int.le_refl _
  | succ f ih =>
    show (1 : Int) ≤ 10 * K10 f
    omega
theorem numF_b : ∀ f a v, 0 ≤ v → (v + 1) * K10 f ≤ 100000 → (numF t n f a v).2 ≤ 99999 := by
  intro f
  induction f with
  | zero =>
    intro a v h0 h
    have h1 : (v + 1) * 1 ≤ 100000 := h
    show v ≤ 99999
    omega
  | succ f ih =>
    intro a v h0 h
    have hk := K10_1 f
    have h1 : (v + 1) * (10 * K10 f) ≤ 100000 := h
    by_cases c : a < n ∧ dgt (t a)
    · rw [show numF t n (f + 1) a v = numF t n f (a + 1) (10 * v + (t a - 48)) from if_pos c]
      have c2 := c.2
      unfold dgt at c2
      refine ih _ _ (by omega) (Int.le_trans (Int.mul_le_mul_of_nonneg_right (show 10 * v + (t a - 48) + 1 ≤ (v + 1) * 10 by omega) (by omega)) ?_)
      rw [Int.mul_assoc]
      exact h1
    · rw [show numF t n (f + 1) a v = (a, v) from if_neg c]
      show v ≤ 99999
      have h2 : (v + 1) * 1 ≤ (v + 1) * (10 * K10 f) := Int.mul_le_mul_of_nonneg_left (by omega) (by omega)
      omega
theorem numS_gd {a a2 : Nat} {c : List Int} (h1 : a < n) (h2 : dgt (t a)) (h : numS b t n a = .good a2 c) : a + c.length ≤ a2 ∧ ∀ y ∈ c, y ≤ 99999 := by
  have h3 := numS_m1 h1 h2 h
  unfold numS at h
  by_cases e : b = true ∧ (numF t n 5 a 0).1 < n ∧ dgt (t (numF t n 5 a 0).1)
  · rw [if_pos e] at h
    exact (bad_no h).elim
  · rw [if_neg e] at h
    rw [← good_c h]
    exact ⟨by rw [List.length_singleton]; exact h3, gd_1 (numF_b 5 a 0 (by decide) (by decide))⟩
theorem atomO_gd {i : Nat → PR (List Int)} (hi : Gd i) : Gd (atomO b t n i) := fun x a c h => by
  unfold atomO at h
  have h0 := sk_ge t n x
  by_cases c1 : dgt (pk t n x)
  · rw [if_pos c1] at h
    have h4 := pkt_lt (t := t) (n := n) (a := x) (by unfold dgt at c1; omega)
    obtain ⟨g1, g2⟩ := numS_gd h4.1 (by rw [h4.2]; exact c1) h
    exact ⟨by omega, g2⟩
  · rw [if_neg c1] at h
    by_cases c2 : isLet (pk t n x) = true
    · rw [if_pos c2] at h
      have g1 := good_inj h
      rw [← good_c h]
      exact ⟨by rw [List.length_singleton]; omega, gd_1 (by omega)⟩
    · rw [if_neg c2] at h
      by_cases c3 : pk t n x = 91
      · rw [if_pos c3] at h
        obtain ⟨g1, g2⟩ := hi _ _ _ h
        exact ⟨by omega, g2⟩
      · rw [if_neg c3] at h
        exact (bad_no h).elim
theorem op_mul0 : ∀ s, isMul s = true → 0 ≤ s := fun s h => by
  rcases is_mul.mp h with e | e <;> omega
theorem op_add0 : ∀ s, isAdd s = true → 0 ≤ s := fun s h => by
  rcases is_add.mp h with e | e <;> omega
theorem op_and0 : ∀ s, isAnd s = true → 0 ≤ s := fun s h => by
  have e := is_and.mp h
  omega
theorem op_or0 : ∀ s, isOr s = true → 0 ≤ s := fun s h => by
  have e := is_or.mp h
  omega
theorem termO_gd {i : Nat → PR (List Int)} (hi : Gd i) : Gd (termO b t n i) := gd_op (atomO_gd hi) (atomO_gd hi) op_mul0
theorem sumO_gd {i : Nat → PR (List Int)} (hi : Gd i) : Gd (sumO b t n i) := gd_op (termO_gd hi) (termO_gd hi) op_add0
theorem sumS_gd (b : Bool) (t : Nat → Int) (n : Nat) : ∀ d, Gd (sumS b t n d) := by
  intro d
  induction d with
  | zero => exact sumO_gd gd_bad
  | succ d ih => exact sumO_gd (gd_clo ih)
theorem cmpS_gd (b : Bool) (t : Nat → Int) (n d : Nat) : Gd (cmpS b t n d) := fun x a c h => by
  unfold cmpS at h
  have h0 := sk_ge t n x
  by_cases c1 : isCmp (pk t n x) = true
  · rw [if_pos c1] at h
    have c2 := is_cmp.mp c1
    rcases hr : sumS b t n d (sk t n x + 1) with i | ⟨a3, c3⟩
    · rw [hr] at h
      exact (bad_no h).elim
    · rw [hr] at h
      obtain ⟨g1, g2⟩ := sumS_gd b t n d _ _ _ hr
      have h' : PR.good a3 (c3 ++ [-100 - pk t n x]) = .good a c := h
      have g3 := good_inj h'
      rw [← good_c h']
      exact ⟨by rw [List.length_append, List.length_singleton]; omega, gd_app g2 (gd_1 (by omega))⟩
  · rw [if_neg c1] at h
    exact (bad_no h).elim
theorem unitO_gd {d : Nat} {ui ci : Nat → PR (List Int)} (hu : Gd ui) (hc : Gd ci) : Gd (unitO b t n d ui ci) := fun x a c h => by
  unfold unitO at h
  have h0 := sk_ge t n x
  by_cases c1 : pk t n x = 33
  · rw [if_pos c1] at h
    obtain ⟨g1, g2⟩ := hu _ _ _ h
    exact ⟨by omega, g2⟩
  · rw [if_neg c1] at h
    by_cases c2 : pk t n x = 40
    · rw [if_pos c2] at h
      obtain ⟨g1, g2⟩ := hc _ _ _ h
      exact ⟨by omega, g2⟩
    · rw [if_neg c2] at h
      rcases hr : sumS b t n d (sk t n x) with i | ⟨a3, c3⟩
      · rw [hr] at h
        exact (bad_no h).elim
      · rw [hr] at h
        obtain ⟨g1, g2⟩ := sumS_gd b t n d _ _ _ hr
        have h' : (cmpS b t n d a3).andThen (fun a2 c2 => PR.good a2 (c3 ++ c2)) = .good a c := h
        rcases hr2 : cmpS b t n d a3 with i | ⟨a4, c4⟩
        · rw [hr2] at h'
          exact (bad_no h').elim
        · rw [hr2] at h'
          obtain ⟨g3, g4⟩ := cmpS_gd b t n d _ _ _ hr2
          have h2 : PR.good a4 (c3 ++ c4) = .good a c := h'
          have g5 := good_inj h2
          rw [← good_c h2]
          exact ⟨by rw [List.length_append]; omega, gd_app g2 g4⟩
theorem partO_gd {u : Nat → PR (List Int)} (hu : Gd u) : Gd (partO t n u) := gd_op hu hu op_and0
theorem condO_gd {u : Nat → PR (List Int)} (hu : Gd u) : Gd (condO t n u) := gd_op (partO_gd hu) (partO_gd hu) op_or0
theorem not_gd {u : Nat → PR (List Int)} (hu : Gd u) : Gd (fun s => (u (s + 1)).andThen (fun a c => .good a (c ++ [-133]))) := fun x a c h => by
  have h' : (u (x + 1)).andThen (fun a c => PR.good a (c ++ [-133])) = .good a c := h
  rcases hr : u (x + 1) with i | ⟨a3, c3⟩
  · rw [hr] at h'
    exact (bad_no h').elim
  · rw [hr] at h'
    obtain ⟨g1, g2⟩ := hu _ _ _ hr
    have h2 : PR.good a3 (c3 ++ [-133]) = .good a c := h'
    have g5 := good_inj h2
    rw [← good_c h2]
    exact ⟨by rw [List.length_append, List.length_singleton]; omega, gd_app g2 (gd_1 (by decide))⟩
theorem unitS_gd (b : Bool) (t : Nat → Int) (n : Nat) : ∀ d, Gd (unitS b t n d) := by
  intro d
  induction d with
  | zero => exact unitO_gd gd_bad gd_bad
  | succ d ih => exact unitO_gd (not_gd ih) (gd_clo (condO_gd ih))
theorem condS_gd (b : Bool) (t : Nat → Int) (n d : Nat) : Gd (condS b t n d) := condO_gd (unitS_gd b t n d)
theorem condB_gd (b : Bool) (t : Nat → Int) (n d : Nat) : Gd (condB b t n d) := gd_op (gd_op (cmpS_gd b t n d) (unitS_gd b t n d) op_and0) (partO_gd (unitS_gd b t n d)) op_or0
theorem clauseS_gd {x a : Nat} {C : List Cla} (h : clauseS b t n x = .good a C) : ∃ c, C = [c] ∧ x + (c.2.1 ++ c.2.2).length ≤ a ∧ ∀ y ∈ c.2.1 ++ c.2.2, y ≤ 99999 := by
  unfold clauseS at h
  have h0 := sk_ge t n x
  by_cases c1 : isLab (pk t n x) = true
  · rw [if_pos c1] at h
    rcases hs : clo t n 58 (sk t n x + 1) () with i | ⟨a2, c2⟩
    · rw [hs] at h
      exact (bad_no h).elim
    · rw [hs] at h
      have h1 := clo_mono hs
      have hq : clauseV b t n a2 (pk t n x) = .good a C := h
      unfold clauseV at hq
      have h2 := sk_ge t n a2
      by_cases c3 : pk t n a2 = 33 ∨ pk t n a2 = 40
      · rw [if_pos c3] at hq
        rcases hc : condS b t n 8 (sk t n a2) with i | ⟨a3, cc⟩
        · rw [hc] at hq
          exact (bad_no hq).elim
        · rw [hc] at hq
          obtain ⟨g1, g2⟩ := condS_gd b t n 8 _ _ _ hc
          have hq2 : (clo t n 63 a3 ()).andThen (fun a4 _ => (sumS b t n 8 a4).andThen (fun a5 sc => PR.good a5 [(pk t n x, cc, sc)])) = .good a C := hq
          rcases hc2 : clo t n 63 a3 () with i | ⟨a4, c4⟩
          · rw [hc2] at hq2
            exact (bad_no hq2).elim
          · rw [hc2] at hq2
            have h3 := clo_mono hc2
            have hq3 : (sumS b t n 8 a4).andThen (fun a5 sc => PR.good a5 [(pk t n x, cc, sc)]) = .good a C := hq2
            rcases hc3 : sumS b t n 8 a4 with i | ⟨a5, sc⟩
            · rw [hc3] at hq3
              exact (bad_no hq3).elim
            · rw [hc3] at hq3
              obtain ⟨g3, g4⟩ := sumS_gd b t n 8 _ _ _ hc3
              have hq4 : PR.good a5 [(pk t n x, cc, sc)] = .good a C := hq3
              have g5 := good_inj hq4
              refine ⟨(pk t n x, cc, sc), (good_c hq4).symm, ?_, gd_app g2 g4⟩
              show x + (cc ++ sc).length ≤ a
              rw [List.length_append]
              omega
      · rw [if_neg c3] at hq
        rcases hc : sumS b t n 8 (sk t n a2) with i | ⟨a3, cc⟩
        · rw [hc] at hq
          exact (bad_no hq).elim
        · rw [hc] at hq
          obtain ⟨g1, g2⟩ := sumS_gd b t n 8 _ _ _ hc
          have h9 := sk_ge t n a3
          have hq1 : (if isCmp (pk t n a3) = true then (condB b t n 8 (sk t n a3)).andThen (fun a4 c2 => (clo t n 63 a4 ()).andThen (fun a5 _ => (sumS b t n 8 a5).andThen (fun a6 sc => .good a6 [(pk t n x, cc ++ c2, sc)]))) else .good (sk t n a3) [(pk t n x, [], cc)]) = PR.good a C := hq
          by_cases c5 : isCmp (pk t n a3) = true
          · rw [if_pos c5] at hq1
            rcases hd : condB b t n 8 (sk t n a3) with i | ⟨a4, c2⟩
            · rw [hd] at hq1
              exact (bad_no hq1).elim
            · rw [hd] at hq1
              obtain ⟨g6, g7⟩ := condB_gd b t n 8 _ _ _ hd
              have hq2 : (clo t n 63 a4 ()).andThen (fun a5 _ => (sumS b t n 8 a5).andThen (fun a6 sc => PR.good a6 [(pk t n x, cc ++ c2, sc)])) = .good a C := hq1
              rcases hc2 : clo t n 63 a4 () with i | ⟨a5, c4⟩
              · rw [hc2] at hq2
                exact (bad_no hq2).elim
              · rw [hc2] at hq2
                have h3 := clo_mono hc2
                have hq3 : (sumS b t n 8 a5).andThen (fun a6 sc => PR.good a6 [(pk t n x, cc ++ c2, sc)]) = .good a C := hq2
                rcases hc3 : sumS b t n 8 a5 with i | ⟨a6, sc⟩
                · rw [hc3] at hq3
                  exact (bad_no hq3).elim
                · rw [hc3] at hq3
                  obtain ⟨g3, g4⟩ := sumS_gd b t n 8 _ _ _ hc3
                  have hq4 : PR.good a6 [(pk t n x, cc ++ c2, sc)] = .good a C := hq3
                  have g5 := good_inj hq4
                  refine ⟨(pk t n x, cc ++ c2, sc), (good_c hq4).symm, ?_, gd_app (gd_app g2 g7) g4⟩
                  show x + ((cc ++ c2) ++ sc).length ≤ a
                  rw [List.length_append, List.length_append]
                  omega
          · rw [if_neg c5] at hq1
            have g5 := good_inj hq1
            refine ⟨(pk t n x, [], cc), (good_c hq1).symm, ?_, g2⟩
            show x + ([] ++ cc).length ≤ a
            rw [List.nil_append]
            omega
  · rw [if_neg c1] at h
    exact (bad_no h).elim
end GD
/-! ===== where the CLAUSES lie in the rows ===== -/
def totL : List Cla → Nat
  | [] => 0
  | c :: r => (c.2.1 ++ c.2.2).length + totL r
def LayF (st la be su : Nat → Int) : List Cla → Nat → Nat → Prop
  | [], _, _ => True
  | c :: r, k, o => la k = c.1 ∧ be k = (o : Int) ∧ su k = ((o + c.2.1.length : Nat) : Int) ∧ sg st o (o + (c.2.1 ++ c.2.2).length) = c.2.1 ++ c.2.2 ∧ LayF st la be su r (k + 1) (o + (c.2.1 ++ c.2.2).length)
theorem sg_cg {f g : Nat → Int} {a b : Nat} (h : ∀ j, a ≤ j → j < b → g j = f j) : sg g a b = sg f a b := by
  unfold sg
  refine List.map_congr_left (fun j hj => ?_)
  have h1 := List.mem_range'_1.mp hj
  exact h j h1.1 (by omega)
theorem sg_app {f : Nat → Int} {a b c : Nat} (h : a ≤ b) (h2 : b ≤ c) : sg f a c = sg f a b ++ sg f b c := by
  unfold sg
  rw [← List.map_append]
  congr 1
  rw [show c - a = (b - a) + (c - b) by omega, ← List.range'_append_1, show a + (b - a) = b by omega]
theorem sg_len {f : Nat → Int} {a b : Nat} : (sg f a b).length = b - a := by
  unfold sg
  rw [List.length_map, List.length_range']
theorem sg_of {f : Nat → Int} : ∀ (l : List Int) (o : Nat), (∀ j, j < l.length → f (o + j) = l.getD j 0) → sg f o (o + l.length) = l := by
  intro l
  induction l with
  | nil => exact fun o _ => sg_nil (Nat.le_refl _)
  | cons x l ih =>
    intro o h
    have h0 : f o = x := h 0 (by rw [List.length_cons]; omega)
    have h1 := ih (o + 1) (fun j hj => by
      have h2 := h (j + 1) (by rw [List.length_cons]; omega)
      rw [show o + 1 + j = o + (j + 1) by omega, h2]
      rfl)
    rw [List.length_cons, sg_app (f := f) (a := o) (b := o + 1) (c := o + (l.length + 1)) (by omega) (by omega), show o + (l.length + 1) = o + 1 + l.length by omega, h1, sg_s (Nat.le_refl o), sg_nil (Nat.le_refl o), h0]
    rfl
theorem sg_mem {f : Nat → Int} {a b j : Nat} (h1 : a ≤ j) (h2 : j < b) : f j ∈ sg f a b := by
  unfold sg
  exact List.mem_map.mpr ⟨j, List.mem_range'_1.mpr ⟨h1, by omega⟩, rfl⟩
section LAY
variable {st la be su st' la' be' su' : Nat → Int}
theorem LayF.cg : ∀ (C : List Cla) (k o : Nat), LayF st la be su C k o → (∀ j, j < k + C.length → la' j = la j ∧ be' j = be j ∧ su' j = su j) → (∀ j, j < o + totL C → st' j = st j) → LayF st' la' be' su' C k o := by
  intro C
  induction C with
  | nil => exact fun _ _ _ _ _ => trivial
  | cons c r ih =>
    intro k o h h1 h2
    obtain ⟨a1, a2, a3, a4, a5⟩ := h
    simp only [List.length_cons] at h1
    have e : totL (c :: r) = (c.2.1 ++ c.2.2).length + totL r := rfl
    rw [e] at h2
    obtain ⟨b1, b2, b3⟩ := h1 k (by omega)
    refine ⟨b1.trans a1, b2.trans a2, b3.trans a3, (sg_cg (fun j _ hj => h2 j (by omega))).trans a4, ih (k + 1) _ a5 (fun j hj => h1 j (by omega)) (fun j hj => h2 j (by omega))⟩
theorem totL_app : ∀ (C D : List Cla), totL (C ++ D) = totL C + totL D := by
  intro C D
  induction C with
  | nil => exact (Nat.zero_add _).symm
  | cons c r ih =>
    show (c.2.1 ++ c.2.2).length + totL (r ++ D) = (c.2.1 ++ c.2.2).length + totL r + totL D
    rw [ih]
    omega
theorem totL_1 (c : Cla) : totL [c] = (c.2.1 ++ c.2.2).length := rfl
theorem LayF.app : ∀ (C D : List Cla) (k o : Nat), LayF st la be su C k o → LayF st la be su D (k + C.length) (o + totL C) → LayF st la be su (C ++ D) k o := by
  intro C D
  induction C with
  | nil => exact fun k o _ h => h
  | cons c r ih =>
    intro k o h h2
    obtain ⟨a1, a2, a3, a4, a5⟩ := h
    refine ⟨a1, a2, a3, a4, ih (k + 1) _ a5 ?_⟩
    have e : totL (c :: r) = (c.2.1 ++ c.2.2).length + totL r := rfl
    rw [List.length_cons, e] at h2
    rw [show k + 1 + r.length = k + (r.length + 1) by omega, show o + (c.2.1 ++ c.2.2).length + totL r = o + ((c.2.1 ++ c.2.2).length + totL r) by omega]
    exact h2
theorem LayF.be0 : ∀ (C : List Cla) (k o : Nat), LayF st la be su C k o → be (k + C.length) = ((o + totL C : Nat) : Int) → be k = (o : Int) := by
  intro C k o h h1
  cases C with
  | nil => exact h1
  | cons c r => exact h.2.1
theorem LayF.cls : ∀ (C : List Cla) (k o : Nat), LayF st la be su C k o → be (k + C.length) = ((o + totL C : Nat) : Int) → (List.range' k C.length).map (clA st la be su) = C := by
  intro C
  induction C with
  | nil => exact fun _ _ _ _ => rfl
  | cons c r ih =>
    intro k o h h1
    obtain ⟨a1, a2, a3, a4, a5⟩ := h
    have e : totL (c :: r) = (c.2.1 ++ c.2.2).length + totL r := rfl
    rw [List.length_cons, e] at h1
    have h2 : be (k + 1 + r.length) = ((o + (c.2.1 ++ c.2.2).length + totL r : Nat) : Int) := by
      rw [show k + 1 + r.length = k + (r.length + 1) by omega, h1]
      omega
    have h3 := LayF.be0 r (k + 1) _ a5 h2
    rw [List.length_cons, List.range'_succ, List.map_cons, ih (k + 1) _ a5 h2]
    congr 1
    have l1 := List.length_append (as := c.2.1) (bs := c.2.2)
    rw [sg_app (f := st) (a := o) (b := o + c.2.1.length) (by omega) (by omega)] at a4
    have l2 : (sg st o (o + c.2.1.length)).length = c.2.1.length := by
      rw [sg_len]
      omega
    obtain ⟨i1, i2⟩ := List.append_inj a4 l2
    unfold clA
    rw [a1, a2, a3, h3]
    show (c.1, sg st ((o : Nat) : Int).toNat ((o + c.2.1.length : Nat) : Int).toNat, sg st ((o + c.2.1.length : Nat) : Int).toNat ((o + (c.2.1 ++ c.2.2).length : Nat) : Int).toNat) = c
    rw [Int.toNat_natCast, Int.toNat_natCast, Int.toNat_natCast, i1, i2]
theorem LayF.le : ∀ (C : List Cla) (k o : Nat), LayF st la be su C k o → be (k + C.length) = ((o + totL C : Nat) : Int) → ∀ j, k ≤ j → j < k + C.length → 0 ≤ be j ∧ be j ≤ su j ∧ su j ≤ be (j + 1) ∧ be (j + 1) ≤ ((o + totL C : Nat) : Int) := by
  intro C
  induction C with
  | nil =>
    intro k o _ _ j h1 h2
    rw [List.length_nil] at h2
    omega
  | cons c r ih =>
    intro k o h h1 j hj hj2
    obtain ⟨a1, a2, a3, a4, a5⟩ := h
    have e : totL (c :: r) = (c.2.1 ++ c.2.2).length + totL r := rfl
    rw [List.length_cons, e] at h1
    have h2 : be (k + 1 + r.length) = ((o + (c.2.1 ++ c.2.2).length + totL r : Nat) : Int) := by
      rw [show k + 1 + r.length = k + (r.length + 1) by omega, h1]
      omega
    have h3 := LayF.be0 r (k + 1) _ a5 h2
    have l1 := List.length_append (as := c.2.1) (bs := c.2.2)
    by_cases ej : j = k
    · subst ej
      rw [a2, a3, h3, e]
      omega
    · have h4 := ih (k + 1) _ a5 h2 j (by omega) (by rw [List.length_cons] at hj2; omega)
      rw [e]
      omega
theorem LayF.stp : ∀ (C : List Cla) (k o : Nat), LayF st la be su C k o → (∀ c ∈ C, ∀ y ∈ c.2.1 ++ c.2.2, y ≤ 99999) → ∀ j, o ≤ j → j < o + totL C → st j ≤ 99999 := by
  intro C
  induction C with
  | nil =>
    intro k o _ _ j h1 h2
    have e : totL [] = 0 := rfl
    rw [e] at h2
    omega
  | cons c r ih =>
    intro k o h hc j hj hj2
    obtain ⟨a1, a2, a3, a4, a5⟩ := h
    have e : totL (c :: r) = (c.2.1 ++ c.2.2).length + totL r := rfl
    rw [e] at hj2
    by_cases q : j < o + (c.2.1 ++ c.2.2).length
    · have h1 := sg_mem (f := st) hj q
      rw [a4] at h1
      exact hc c List.mem_cons_self _ h1
    · exact ih _ _ a5 (fun c' hc' => hc c' (List.mem_cons_of_mem _ hc')) j (by omega) (by omega)
end LAY
/-- the rows of the TAPE hold the CLAUSES C -/
def LayT (E : Nat → va_E) (C : List Cla) : Prop := tS E = totL C ∧ tC E = C.length ∧ LayF (sT E) (rI E 23) (rI E 24) (rI E 25) C 0 0 ∧ ∀ c ∈ C, ∀ y ∈ c.2.1 ++ c.2.2, y ≤ 99999
/-- steps, rows and counts stand -/
def SR (E E' : Nat → va_E) : Prop := SZ E E' ∧ (∀ j, xi (E' 23) j = xi (E 23) j ∧ xi (E' 24) j = xi (E 24) j ∧ xi (E' 25) j = xi (E 25) j) ∧ xi (E' 2) 9 = xi (E 2) 9
theorem SR.kp {w : Nat → Nat → Bool} {E E' : Nat → va_E} (hk : Kp w E E') (h22 : ∀ j, w 22 j = false) (h23 : ∀ j, w 23 j = false) (h24 : ∀ j, w 24 j = false) (h25 : ∀ j, w 25 j = false) (h5 : w 2 5 = false) (h9 : w 2 9 = false) : SR E E' := ⟨SZ.kp hk h22 h5, fun j => ⟨congrArg vi (hk 23 j (h23 j)), congrArg vi (hk 24 j (h24 j)), congrArg vi (hk 25 j (h25 j))⟩, congrArg vi (hk 2 9 h9)⟩
theorem SR.pw {j : Nat} {v : Value} {E E' : Nat → va_E} (p : Pw E E' 2 j v) (h5 : ¬ j = 5) (h9 : ¬ j = 9) : SR E E' := ⟨SZ.pw p (by decide) (fun _ => h5), fun i => ⟨congrArg vi (p.2 23 i (by omega)), congrArg vi (p.2 24 i (by omega)), congrArg vi (p.2 25 i (by omega))⟩, congrArg vi (p.2 2 9 (by omega))⟩
theorem SR.tr {E E1 E2 : Nat → va_E} (h : SR E E1) (h1 : SR E1 E2) : SR E E2 := ⟨h.1.tr h1.1, fun j => ⟨(h1.2.1 j).1.trans (h.2.1 j).1, (h1.2.1 j).2.1.trans (h.2.1 j).2.1, (h1.2.1 j).2.2.trans (h.2.1 j).2.2⟩, h1.2.2.trans h.2.2⟩
theorem LayT.sr {E E' : Nat → va_E} {C : List Cla} (h : LayT E C) (z : SR E E') : LayT E' C := by
  obtain ⟨a1, a2, a3, a4⟩ := h
  refine ⟨z.1.1.trans a1, ?_, ?_, a4⟩
  · show (xi (E' 2) 9).toNatClampNeg = _
    rw [z.2.2]
    exact a2
  · exact LayF.cg C 0 0 a3 (fun j _ => ⟨congrArg Int32.toInt (z.2.1 j).1, congrArg Int32.toInt (z.2.1 j).2.1, congrArg Int32.toInt (z.2.1 j).2.2⟩) (fun j _ => congrFun z.1.2 j)
/-- one CLAUSE more -/
theorem LayT.push {E E' : Nat → va_E} {C : List Cla} {c : Cla} (h : LayT E C) (hf : Fed (sT E) (sT E') (tS E) (tS E') (c.2.1 ++ c.2.2)) (hr : RowK c (tS E) (tC E) E E') (hc : ∀ y ∈ c.2.1 ++ c.2.2, y ≤ 99999) : LayT E' (C ++ [c]) := by
  obtain ⟨a1, a2, a3, a4⟩ := h
  obtain ⟨f1, f2, f3⟩ := hf
  obtain ⟨r1, r2, r3, r4, r5⟩ := hr
  rw [a1] at f1 f2 f3 r3 r4
  rw [a2] at r1 r2 r3 r4 r5
  refine ⟨by rw [totL_app, totL_1]; exact f1, by rw [List.length_append, List.length_singleton]; exact r5, ?_, fun c' hc' => ?_⟩
  · refine LayF.app C [c] 0 0 (LayF.cg C 0 0 a3 (fun j hj => ?_) (fun j hj => f2 j (by omega))) ?_
    · obtain ⟨b1, b2, b3⟩ := r1 j (by omega)
      exact ⟨congrArg Int32.toInt b1, congrArg Int32.toInt b2, congrArg Int32.toInt b3⟩
    · rw [Nat.zero_add, Nat.zero_add]
      exact ⟨r2, r3, r4, sg_of _ _ f3, trivial⟩
  · rcases List.mem_append.mp hc' with q | q
    · exact a4 c' q
    · rw [List.mem_singleton.mp q]
      exact hc
/-- the loop over the CLAUSES -/
def LpK (E0 E1 : Nat → va_E) : Prop := tF E0 = -1 → tF E1 = -1 → ∃ C, textL false (tT E0) (tN E0) (tA E0) = opL (tT E0) (tN E0) isSem cbC (clauseS false (tT E0) (tN E0)) (tA E1) C ∧ totL C ≤ tA E1 ∧ LayT E1 C
theorem LpK.start {E0 E1 : Nat → va_E} (hk : RdK E0 E1) (h5 : tS E0 = 0) (h9 : tC E0 = 0) (ha : tA E1 ≤ 200) : LpK E0 E1 := fun q q1 => by
  obtain ⟨c, h1, h2⟩ := hk q q1
  obtain ⟨c', e, g1, g2⟩ := clauseS_gd h1
  have e2 : c = c' := List.head_eq_of_cons_eq e
  subst e2
  obtain ⟨f, r⟩ := h2 (by omega)
  have h0 : LayT E0 [] := ⟨h5, h9, trivial, fun c hc => absurd hc List.not_mem_nil⟩
  refine ⟨[c], ?_, by rw [totL_1]; omega, h0.push f r g2⟩
  rw [lpX, h1]
  rfl
theorem LpK.step {E0 E1 E2 E3 E4 : Nat → va_E} {i : Int} {r : Int32} (hl : Lp (fun t m a => textL false t m a) (fun t m => opL t m isSem cbC (clauseS false t m)) i E0 E1) (hv : LpK E0 E1) (hN : RdN E1 E2 r) (z : SR E1 E2) (ho : isSem r.toInt = true) (ha : AtP E2 E3) (z3 : SR E2 E3) (hr : RdC (fun t m a => clauseS false t m a) E3 E4) (hk : RdK E3 E4) (hb : tA E4 ≤ 200) : LpK E0 E4 := fun q q4 => by
  have f3 := hr.f0 q4
  have f2 := ha.f0 f3
  have f1 : tF E1 = -1 := hN.2.1.symm.trans f2
  obtain ⟨r1, ra⟩ := hN.2.2.2 f1
  obtain ⟨C, h1, h2, h3⟩ := hv q f1
  obtain ⟨c, k1, k2⟩ := hk f3 q4
  rw [ha.1.1, ha.1.2, hN.1.1, hN.1.2, ha.2.2, ra, hl.1.1, hl.1.2] at k1
  rw [r1, hl.1.1, hl.1.2] at ho
  obtain ⟨c', e, g1, g2⟩ := clauseS_gd k1
  have e2 : c = c' := List.head_eq_of_cons_eq e
  subst e2
  have h4 := h3.sr (z.tr z3)
  have h5 := sk_ge (tT E0) (tN E0) (tA E1)
  have e5 := h4.1
  obtain ⟨f, rr⟩ := k2 (by omega)
  refine ⟨C ++ [c], ?_, by rw [totL_app, totL_1]; omega, h4.push f rr g2⟩
  rw [h1, opL_1 (clauseS_mono false (tT E0) (tN E0)) rfl ho, k1]
  rfl
def TxK (E0 E' : Nat → va_E) : Prop := tF E0 = -1 → tF E' = -1 → ∃ C, textL false (tT E0) (tN E0) (tA E0) = .good (tA E') C ∧ LayT E' C
theorem LpK.exit {E0 E1 E2 : Nat → va_E} {i : Int} {r : Int32} (hl : Lp (fun t m a => textL false t m a) (fun t m => opL t m isSem cbC (clauseS false t m)) i E0 E1) (hv : LpK E0 E1) (hN : RdN E1 E2 r) (z : SR E1 E2) (ho : ¬ isSem r.toInt = true) : TxK E0 E2 := fun q q2 => by
  have f1 : tF E1 = -1 := hN.2.1.symm.trans q2
  obtain ⟨r1, ra⟩ := hN.2.2.2 f1
  obtain ⟨C, h1, h2, h3⟩ := hv q f1
  rw [r1, hl.1.1, hl.1.2] at ho
  exact ⟨C, by rw [h1, opL_0 ho, ra, hl.1.1, hl.1.2], h3.sr z⟩
theorem LpK.fin {E0 E1 : Nat → va_E} {i : Int} (hl : Lp (fun t m a => textL false t m a) (fun t m => opL t m isSem cbC (clauseS false t m)) i E0 E1) (hv : LpK E0 E1) (hn : (tN E0 : Int) ≤ i) : TxK E0 E1 := fun q q1 => by
  obtain ⟨h8, _⟩ := (hl.2.2 q).2 q1
  obtain ⟨C, h1, h2, h3⟩ := hv q q1
  have h9 : tN E0 ≤ tA E1 := by omega
  exact ⟨C, by rw [h1, opL_0 (by rw [pk_ge h9]; decide), sk_0 (by omega)], h3⟩
/-- what read leaves of a TEXT without FAULT -/
def Txt (E u : Nat → va_E) : Prop := tF u = -1 → ∃ a C, textS false (tT E) (tN E) = .good a C ∧ LayT u C ∧ (xi (u 24) C.length).toInt = ((totL C : Nat) : Int)
theorem Txt.ok {E E0 E1 E2 E3 : Nat → va_E} {r : Int32} {v : Int32} (ht : TS E E0) (h0 : tF E0 = -1) (ha : tA E0 = 0) (hr : RdC (fun t n a => textL false t n a) E0 E1) (h : TxK E0 E1) (hN : RdN E1 E2 r) (z : SR E1 E2) (h1 : r.toInt = -1) {y : Int32} (p : Pw E2 E3 24 y.toNatClampNeg (.int v)) (hy : xi (E2 2) 9 = y) (hv : xi (E2 2) 5 = v) (hv0 : 0 ≤ v.toInt) : Txt E E3 := fun q => by
  have q2 : tF E2 = -1 := (congrArg Int32.toInt (congrArg vi (p.2 2 3 (by omega)))).symm.trans q
  have q1 : tF E1 = -1 := hN.2.1.symm.trans q2
  obtain ⟨C, c1, c2⟩ := h h0 q1
  obtain ⟨n1, n2⟩ := hN.2.2.2 q1
  have L2 := c2.sr z
  have e9 : y.toNatClampNeg = C.length := by
    rw [← hy]
    exact L2.2.1
  rw [e9] at p
  rw [hr.1.1, hr.1.2, ht.1, ht.2] at n1 n2
  rw [ha, ht.1, ht.2] at c1
  refine ⟨tA E1, C, ?_, ?_, ?_⟩
  · unfold textS
    rw [c1]
    show (if pk (tT E) (tN E) (tA E1) = -1 then _ else _) = _
    rw [if_pos (by rw [← n1]; exact h1)]
  · obtain ⟨a1, a2, a3, a4⟩ := L2
    refine ⟨?_, ?_, LayF.cg C 0 0 a3 (fun j hj => ⟨congrArg Int32.toInt (congrArg vi (p.2 23 j (by omega))), congrArg Int32.toInt (congrArg vi (p.2 24 j (by omega))), congrArg Int32.toInt (congrArg vi (p.2 25 j (by omega)))⟩) (fun j _ => congrArg Int32.toInt (congrArg vi (p.2 22 j (by omega)))), a4⟩
    · exact (congrArg Int32.toNatClampNeg (congrArg vi (p.2 2 5 (by omega)))).trans a1
    · exact (congrArg Int32.toNatClampNeg (congrArg vi (p.2 2 9 (by omega)))).trans a2
  · have h7 := L2.1
    have h8 : tS E2 = (xi (E2 2) 5).toInt.toNat := rfl
    rw [hv] at h8
    rw [show xi (E3 24) C.length = v from vi_e p.1]
    omega
theorem Txt.no {E E1 E2 E3 : Nat → va_E} (hf : RdF E1 E2) (e : tF E3 = tF E2) : Txt E E3 := fun q => (hf.nf (e.symm.trans q)).elim
/-- RULES made of it -/
theorem lay_cls {E : Nat → va_E} {C : List Cla} {st la be su : Nat → Int} (h : LayT E C) (he : (xi (E 24) C.length).toInt = ((totL C : Nat) : Int)) (h0 : ∀ j, j < totL C → st j = sT E j) (h1 : ∀ j, j < C.length → la j = rI E 23 j) (h2 : ∀ j, j < C.length + 1 → be j = rI E 24 j) (h3 : ∀ j, j < C.length → su j = rI E 25 j) : clsA st la be su C.length = C ∧ RuOk st be su C.length (totL C) := by
  obtain ⟨a1, a2, a3, a4⟩ := h
  have L := LayF.cg (st' := st) (la' := la) (be' := be) (su' := su) C 0 0 a3 (fun j hj => ⟨h1 j (by omega), h2 j (by omega), h3 j (by omega)⟩) (fun j hj => h0 j (by omega))
  have hb : be (0 + C.length) = ((0 + totL C : Nat) : Int) := by
    rw [Nat.zero_add, Nat.zero_add, h2 C.length (by omega)]
    exact he
  refine ⟨?_, fun k hk => ?_, fun j hj => ?_⟩
  · unfold clsA
    rw [List.range_eq_range']
    exact LayF.cls C 0 0 L hb
  · have h5 := LayF.le C 0 0 L hb k (Nat.zero_le _) (by omega)
    rw [Nat.zero_add] at h5
    exact h5
  · have h5 := LayF.stp C 0 0 L a4 j (Nat.zero_le _) (by omega)
    omega

