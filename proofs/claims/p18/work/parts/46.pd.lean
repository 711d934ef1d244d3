

/-! ===== CLAUSES, the TEXT (class) ===== -/
theorem RdC.andThen2 {α β γ : Type} {P : (Nat → Int) → Nat → Nat → PR α} {Q : (Nat → Int) → Nat → Nat → PR γ} {R : (Nat → Int) → Nat → Nat → PR β} {f : (Nat → Int) → Nat → Nat → α → PR β} {E E1 E2 : Nat → va_E} (h : RdC P E E1) (h1 : RdC Q E1 E2) (hR : ∀ t n a, R t n a = (P t n a).andThen (f t n)) (hQ : tF E1 = -1 → ∀ c E9, Out (Q (tT E1) (tN E1) (tA E1)) E9 → Out (f (tT E1) (tN E1) (tA E1) c) E9) : RdC R E E2 := ⟨h.1.tr h1.1, fun q => (h1.2.1 (by rw [h.2.1 q]; exact q)).trans (h.2.1 q), fun q => by
  rw [hR]
  refine Out.andThen (h.2.2 q) h1.2.1 (fun q1 c _ => ?_)
  have h5 := hQ q1 c _ (h1.2.2 q1)
  rw [h.1.1, h.1.2] at h5
  exact h5⟩
theorem Out.re {α β γ : Type} {x : PR α} {k : Nat → α → PR β} {k' : Nat → α → PR γ} {E : Nat → va_E} (h : Out (x.andThen k) E) (hk : ∀ a c, Out (k a c) E → Out (k' a c) E) : Out (x.andThen k') E := by
  rcases x with i | ⟨a, c⟩
  · exact h
  · exact hk a c h
theorem Out.gd {α β : Type} {x : PR α} {k : Nat → α → β} {E : Nat → va_E} (h : Out x E) : Out (x.andThen (fun a c => PR.good a (k a c))) E := by
  rcases x with i | ⟨a, c⟩
  · exact h
  · exact h
theorem RdN.c {E E1 : Nat → va_E} {r : Int32} (hN : RdN E E1 r) : RdC (fun t n a => PR.good (sk t n a) ()) E E1 := ⟨hN.1, fun _ => hN.2.1, fun q => ⟨hN.2.1.trans q, (hN.2.2.2 q).2⟩⟩
section CL
variable {E E1 E2 E3 E4 E5 E6 E7 E8 E9 E10 E11 E12 : Nat → va_E} {r r2 r3 : Int32} {lab : Int}
/-- the sign ?, then a SUM -/
def qsS (t : Nat → Int) (n a : Nat) : PR (List Int) := (clo t n 63 a ()).andThen (fun a4 _ => sumS false t n 8 a4)
theorem qsC (ht : RdC (fun t n a => clo t n 63 a ()) E E1) (hk : KS E1 E2) (hs : RdC (fun t n a => sumS false t n 8 a) E2 E3) (hk2 : KS E3 E4) : RdC qsS E E4 := RdC.andThen ht ((RdC.sk0 hk hs).ks hk2) (f := fun t n a4 _ => sumS false t n 8 a4) (fun _ _ _ => rfl) (fun _ _ _ _ _ ho => ho)
theorem qs_out {t : Nat → Int} {n a : Nat} {g : Nat → List Int → List (Int × List Int × List Int)} (h : Out (qsS t n a) E) : Out ((clo t n 63 a ()).andThen (fun a4 _ => (sumS false t n 8 a4).andThen (fun a5 sc => PR.good a5 (g a5 sc)))) E := Out.re h (fun _ _ ho => ho.gd)
theorem vC_c (hN : RdN E E1 r) (h : r.toInt = 33 ∨ r.toInt = 40) (hC : RdC (coX 0 8) E1 E2) (hq : RdC qsS E2 E3) : RdC (fun t n a => clauseV false t n a lab) E E3 := hN.rd (RdC.andThen2 hC hq (R := fun t n a => (condS false t n 8 a).andThen (fun a3 cc => (clo t n 63 a3 ()).andThen (fun a4 _ => (sumS false t n 8 a4).andThen (fun a5 sc => .good a5 [(lab, cc, sc)])))) (f := fun t n a3 cc => (clo t n 63 a3 ()).andThen (fun a4 _ => (sumS false t n 8 a4).andThen (fun a5 sc => .good a5 [(lab, cc, sc)]))) (fun _ _ _ => rfl) (fun _ c _ ho => qs_out (g := fun _ sc => [(lab, c, sc)]) ho)) (fun _ hr E9 ho => by
  show Out (clauseV false (tT E) (tN E) (tA E) lab) E9
  unfold clauseV
  rw [if_pos (by rw [← hr]; exact h)]
  exact ho)
def tlV (lab : Int) (t : Nat → Int) (n a3 : Nat) (c1 : List Int) : PR (List (Int × List Int × List Int)) := if isCmp (pk t n a3) = true then (condB false t n 8 (sk t n a3)).andThen (fun a4 c2 => (clo t n 63 a4 ()).andThen (fun a5 _ => (sumS false t n 8 a5).andThen (fun a6 sc => .good a6 [(lab, c1 ++ c2, sc)]))) else .good (sk t n a3) [(lab, [], c1)]
theorem vC_t (hN : RdN E E1 r) (h : ¬ (r.toInt = 33 ∨ r.toInt = 40)) (hs : RdC (fun t n a => (sumS false t n 8 a).andThen (tlV lab t n)) E1 E2) : RdC (fun t n a => clauseV false t n a lab) E E2 := hN.rd hs (fun _ hr E9 ho => by
  show Out (clauseV false (tT E) (tN E) (tA E) lab) E9
  unfold clauseV
  rw [if_neg (by rw [← hr]; exact h)]
  exact ho)
theorem vC_b (hN : RdN E E1 r) (h : ¬ (r.toInt = 33 ∨ r.toInt = 40)) (hs : RdC (fun t n a => sumS false t n 8 a) E1 E2) (hN2 : RdN E2 E3 r2) (h2 : isCmp r2.toInt = true) (hC : RdC (coX 1 8) E3 E4) (hq : RdC qsS E4 E5) : RdC (fun t n a => clauseV false t n a lab) E E5 := by
  have hX : RdC (fun t n a => (condB false t n 8 a).andThen (fun a4 _ => qsS t n a4)) E3 E5 := RdC.andThen2 hC hq (f := fun t n a4 _ => qsS t n a4) (fun _ _ _ => rfl) (fun _ _ _ ho => ho)
  have hY : RdC (fun t n a => (condB false t n 8 (sk t n a)).andThen (fun a4 _ => qsS t n a4)) E2 E5 := hN2.rd hX (fun _ _ _ ho => ho)
  refine vC_t hN h (RdC.andThen2 hs hY (f := tlV lab) (fun _ _ _ => rfl) (fun hf c E9 ho => ?_))
  have hp := (hN2.2.2.2 hf).1
  unfold tlV
  rw [if_pos (by rw [← hp]; exact h2)]
  exact Out.re ho (fun a4 c2 ho => qs_out (g := fun _ sc => [(lab, c ++ c2, sc)]) ho)
theorem vC_s (hN : RdN E E1 r) (h : ¬ (r.toInt = 33 ∨ r.toInt = 40)) (hs : RdC (fun t n a => sumS false t n 8 a) E1 E2) (hN2 : RdN E2 E3 r2) (h2 : ¬ isCmp r2.toInt = true) : RdC (fun t n a => clauseV false t n a lab) E E3 := by
  refine vC_t hN h (RdC.andThen2 hs hN2.c (f := tlV lab) (fun _ _ _ => rfl) (fun hf c E9 ho => ?_))
  have hp := (hN2.2.2.2 hf).1
  unfold tlV
  rw [if_neg (by rw [← hp]; exact h2)]
  exact ho
theorem clC_no (hN : RdN E E1 r) (h : ¬ isLab r.toInt = true) (hf : RdF E1 E2) : RdC (fun t n a => clauseS false t n a) E E2 := hN.f hf (fun _ hr => by
  show clauseS false (tT E) (tN E) (tA E) = _
  unfold clauseS
  rw [← hr, if_neg h])
theorem clC (hN : RdN E E1 r) (h : isLab r.toInt = true) (ha : AtP E1 E2) (ht : RdC (fun t n a => clo t n 58 a ()) E2 E3) (hk : KS E3 E4) (hv : RdC (fun t n a => clauseV false t n a r.toInt) E4 E5) (hk2 : KS E5 E6) : RdC (fun t n a => clauseS false t n a) E E6 := (hN.at ha (RdC.andThen ht (RdC.sk0 hk hv) (R := fun t n a => (clo t n 58 a ()).andThen (fun a2 _ => clauseV false t n a2 r.toInt)) (f := fun t n a2 _ => clauseV false t n a2 r.toInt) (fun _ _ _ => rfl) (fun _ _ _ _ _ ho => ho)) (fun _ hr E9 ho => by
  show Out (clauseS false (tT E) (tN E) (tA E)) E9
  unfold clauseS
  rw [← hr, if_pos h]
  exact ho)).ks hk2
end CL
/-! ===== a CLAUSE takes three places at least ===== -/
theorem numS_m1 {b : Bool} {t : Nat → Int} {n a a2 : Nat} {c : List Int} (h1 : a < n) (h2 : dgt (t a)) (h : numS b t n a = .good a2 c) : a + 1 ≤ a2 := by
  unfold numS at h
  by_cases e : b = true ∧ (numF t n 5 a 0).1 < n ∧ dgt (t (numF t n 5 a 0).1)
  · rw [if_pos e] at h
    exact (bad_no h).elim
  · rw [if_neg e] at h
    have h3 := good_inj h
    rw [← h3, show numF t n 5 a 0 = numF t n 4 (a + 1) (10 * 0 + (t a - 48)) from if_pos ⟨h1, h2⟩]
    exact numF_ge _ _ _
theorem pkt_lt {t : Nat → Int} {n a : Nat} (h : 0 ≤ pk t n a) : sk t n a < n ∧ t (sk t n a) = pk t n a := by
  unfold pk at h ⊢
  by_cases c : sk t n a < n
  · rw [if_pos c]
    exact ⟨c, rfl⟩
  · rw [if_neg c] at h
    exact absurd h (by decide)
theorem sumS_m1 (b : Bool) (t : Nat → Int) (n : Nat) : ∀ d x a c, sumS b t n d x = .good a c → x + 1 ≤ a := by
  have key : ∀ (i : Nat → PR (List Int)), Mono i → (∀ x a c, i x = .good a c → x + 1 ≤ a) → ∀ x a c, sumO b t n i x = .good a c → x + 1 ≤ a := by
    intro i hi hi1 x a c h
    have hat : ∀ x a c, atomO b t n i x = .good a c → x + 1 ≤ a := by
      intro x a c h
      unfold atomO at h
      have h0 := sk_ge t n x
      by_cases c1 : dgt (pk t n x)
      · rw [if_pos c1] at h
        have h4 := pkt_lt (t := t) (n := n) (a := x) (by unfold dgt at c1; omega)
        have := numS_m1 h4.1 (by rw [h4.2]; exact c1) h
        omega
      · rw [if_neg c1] at h
        by_cases c2 : isLet (pk t n x) = true
        · rw [if_pos c2] at h
          have := good_inj h
          omega
        · rw [if_neg c2] at h
          by_cases c3 : pk t n x = 91
          · rw [if_pos c3] at h
            have := hi1 _ _ _ h
            omega
          · rw [if_neg c3] at h
            exact (bad_no h).elim
    refine andThen_mono (x := x + 1) (fun a c h => andThen_mono (x := x + 1) (fun a c h => hat _ _ _ h) (fun _ _ _ _ _ h => opL_mono (atomO_mono hi) h) a c h) (fun _ _ _ _ _ h => opL_mono (termO_mono hi) h) a c h
  intro d
  induction d with
  | zero => exact key _ bad_mono (fun _ _ _ h => (bad_no h).elim)
  | succ d ih => exact key _ (in_mono (sumS_mono b t n d)) (fun x a c h => andThen_mono (x := x + 1) (fun a c h => by have := ih _ _ _ h; omega) (fun _ _ _ _ _ h => clo_mono h) a c h)
theorem clauseV_m1 (b : Bool) (t : Nat → Int) (n : Nat) (lab : Int) (x : Nat) : ∀ a c, clauseV b t n x lab = .good a c → x + 1 ≤ a := by
  intro a c h
  unfold clauseV at h
  have h0 := sk_ge t n x
  by_cases c1 : pk t n x = 33 ∨ pk t n x = 40
  · rw [if_pos c1] at h
    exact andThen_m (x := x) (k := 1) (fun a c h => by have := condS_mono b t n 8 _ _ _ h; omega) (fun a3 c3 a4 c4 hx h => by
      have := andThen_m (x := a3) (k := 1) (fun a c h => clo_mono h) (fun a5 c5 a6 c6 _ h => by
        have := andThen_m (x := a5) (k := 0) (fun a c h => sumS_mono b t n 8 _ _ _ h) (fun a7 c7 a8 c8 _ h => by have := good_inj h; omega) a6 c6 h
        have h9 := sumS_m1 b t n 8
        rcases hs : sumS b t n 8 a5 with i | ⟨a7, c7⟩
        · 
          rw [hs] at h
          exact (bad_no h).elim
        · 
          rw [hs] at h
          have h8 := h9 _ _ _ hs
          have := good_inj h
          omega) a4 c4 h
      omega) a c h
  · rw [if_neg c1] at h
    rcases hs : sumS b t n 8 (sk t n x) with i | ⟨a3, c3⟩
    · 
      rw [hs] at h
      exact (bad_no h).elim
    · 
      rw [hs] at h
      have h8 := sumS_m1 b t n 8 _ _ _ hs
      have h3 := sk_ge t n a3
      have h' : (if isCmp (pk t n a3) = true then (condB b t n 8 (sk t n a3)).andThen (fun a4 c2 => (clo t n 63 a4 ()).andThen (fun a5 _ => (sumS b t n 8 a5).andThen (fun a6 sc => .good a6 [(lab, c3 ++ c2, sc)]))) else .good (sk t n a3) [(lab, [], c3)]) = PR.good a c := h
      by_cases c2 : isCmp (pk t n a3) = true
      · rw [if_pos c2] at h'
        have := andThen_mono (x := a3) (fun a c h => by have := condB_mono b t n 8 _ _ _ h; omega) (fun a5 c5 a6 c6 _ h => andThen_mono (x := a5) (fun a c h => clo_mono h) (fun a7 c7 a8 c8 _ h => andThen_mono (x := a7) (fun a c h => sumS_mono b t n 8 _ _ _ h) (fun a9 c9 a10 c10 _ h => by have := good_inj h; omega) a8 c8 h) a6 c6 h) a c h'
        omega
      · rw [if_neg c2] at h'
        have := good_inj h'
        omega
theorem clauseS_m3 {b : Bool} {t : Nat → Int} {n x a : Nat} {c : List (Int × List Int × List Int)} (h : clauseS b t n x = .good a c) : x + 3 ≤ a := by
  unfold clauseS at h
  have h0 := sk_ge t n x
  by_cases c1 : isLab (pk t n x) = true
  · rw [if_pos c1] at h
    rcases hs : clo t n 58 (sk t n x + 1) () with i | ⟨a2, c2⟩
    · 
      rw [hs] at h
      exact (bad_no h).elim
    · 
      rw [hs] at h
      have h1 := clo_m1 hs
      have h2 := clauseV_m1 b t n _ _ _ _ h
      omega
  · rw [if_neg c1] at h
    exact (bad_no h).elim
theorem RdC.m3 {E E' : Nat → va_E} (h : RdC (fun t n a => clauseS false t n a) E E') (hf : tF E = -1) (hf' : tF E' = -1) : tA E + 3 ≤ tA E' := by
  obtain ⟨c, hc⟩ := (h.2.2 hf).f hf'
  exact clauseS_m3 hc
/-! ===== the TEXT ===== -/
theorem lpX : ∀ t n a, textL false t n a = (clauseS false t n a).andThen (opL t n isSem cbC (clauseS false t n)) := fun _ _ _ => rfl
def Flt (E E' : Nat → va_E) : Prop := TS E E' ∧ tF E' = (textS false (tT E) (tN E)).flt
theorem Flt.ks {E E1 E2 : Nat → va_E} (h : Flt E E1) (hk : KS E1 E2) : Flt E E2 := ⟨h.1.tr hk.1, hk.2.1.trans h.2⟩
theorem flt_ok {E E0 E1 E2 : Nat → va_E} {r : Int32} (ht : TS E E0) (h0 : tF E0 = -1) (ha : tA E0 = 0) (h : RdC (fun t n a => textL false t n a) E0 E1) (hN : RdN E1 E2 r) (hr : r.toInt = -1) : Flt E E2 := ⟨(ht.tr h.1).tr hN.1, by
  have h1 : tF E1 = -1 := by
    by_cases q : tF E1 = -1
    · exact q
    · have := (hN.2.2.1 q).1
      omega
  obtain ⟨c, hc⟩ := (h.2.2 h0).f h1
  have hp := (hN.2.2.2 h1).1
  rw [ha, ht.1, ht.2] at hc
  rw [h.1.1, h.1.2, ht.1, ht.2] at hp
  unfold textS
  have hc' : textL false (tT E) (tN E) 0 = .good (tA E1) c := hc
  rw [hc']
  show _ = PR.flt (if pk (tT E) (tN E) (tA E1) = -1 then _ else _)
  rw [if_pos (by rw [← hp]; exact hr), hN.2.1]
  exact h1⟩
theorem flt_no {E E0 E1 E2 E3 : Nat → va_E} {r : Int32} (ht : TS E E0) (h0 : tF E0 = -1) (ha : tA E0 = 0) (h : RdC (fun t n a => textL false t n a) E0 E1) (hN : RdN E1 E2 r) (hr : ¬ r.toInt = -1) (hf : RdF E2 E3) : Flt E E3 := ⟨((ht.tr h.1).tr hN.1).tr hf.1, by
  have h5 := h.2.2 h0
  rw [ha, ht.1, ht.2] at h5
  have h5' : Out (textL false (tT E) (tN E) 0) E1 := h5
  unfold textS
  by_cases h1 : tF E1 = -1
  · obtain ⟨c, hc⟩ := h5'.f h1
    have hp := (hN.2.2.2 h1).1
    rw [h.1.1, h.1.2, ht.1, ht.2] at hp
    rw [hc]
    show _ = PR.flt (if pk (tT E) (tN E) (tA E1) = -1 then _ else _)
    rw [if_neg (by rw [← hp]; exact hr), hf.2.2 (hN.2.1.trans h1), (hN.2.2.2 h1).2, h.1.1, h.1.2, ht.1, ht.2]
    rfl
  · rcases hx : textL false (tT E) (tN E) 0 with i | ⟨a, c⟩
    · skip
      rw [hx] at h5'
      have h6 : tF E1 = (i : Int) := h5'
      rw [hf.2.1 (by rw [hN.2.1]; exact h1), hN.2.1, h6]
      rfl
    · skip
      rw [hx] at h5'
      exact absurd h5'.1 h1⟩
/-! ===== how many CLAUSES ===== -/
def ClO (c : Int32) (E : Nat → va_E) : Prop := tF E = -1 → 4 * c.toInt ≤ (tA E : Int)
def ClI (c : Int32) (E : Nat → va_E) : Prop := tF E = -1 → 4 * c.toInt ≤ (tA E : Int) + 1
def ClP (c c' : Int32) (E : Nat → va_E) : Prop := tF E = -1 → c'.toInt = c.toInt + 1
theorem cl51 {E E1 : Nat → va_E} {r c : Int32} (hN : RdN E E1 r) (h0 : 0 ≤ r.toInt) (hc : ClO c E) (h51 : 51 ≤ c.toInt) (ha : (tA E1 : Int) < 200) : False := by
  have h1 := hN.nf h0
  have h2 := hc h1
  have h3 := (hN.2.2.2 h1).2
  have h4 := sk_ge (tT E) (tN E) (tA E)
  omega
theorem ClI.of {E E1 : Nat → va_E} {c c' : Int32} (hO : ClO c E) (hp : ClP c c' E1) (h : RdC (fun t m a => clauseS false t m a) E E1) : ClI c' E1 := fun q => by
  have h0 : tF E = -1 := by
    by_cases q0 : tF E = -1
    · exact q0
    · exact absurd ((h.2.1 q0).symm.trans q) q0
  have h1 := hO h0
  have h2 := hp q
  have h3 := h.m3 h0 q
  omega
theorem ClO.of {E1 E2 E3 : Nat → va_E} {c r : Int32} (h : ClI c E1) (hN : RdN E1 E2 r) (ha : AtP E2 E3) : ClO c E3 := fun q => by
  have h1 : tF E1 = -1 := (hN.2.1.symm.trans ha.2.1.symm).trans q
  have h2 := h h1
  have h3 := (hN.2.2.2 h1).2
  have h4 := sk_ge (tT E1) (tN E1) (tA E1)
  have h5 := ha.2.2
  omega
theorem rdF_no {E E1 E2 : Nat → va_E} {r : Int32} (hN : RdN E E1 r) (hf : RdF E1 E2) (h : tF E2 = -1) : False := by
  by_cases q : tF E1 = -1
  · have := hf.2.2 q
    omega
  · have := hf.2.1 q
    omega

