

/-! ===== the steps that are written (class) ===== -/
def tS (E : Nat → va_E) : Nat := (xi (E 2) 5).toNatClampNeg
def sT (E : Nat → va_E) : Nat → Int := fun j => (xi (E 22) j).toInt
def SZ (E E' : Nat → va_E) : Prop := tS E' = tS E ∧ sT E' = sT E
theorem SZ.rf {E : Nat → va_E} : SZ E E := ⟨rfl, rfl⟩
theorem SZ.tr {E E1 E2 : Nat → va_E} (h : SZ E E1) (h1 : SZ E1 E2) : SZ E E2 := ⟨h1.1.trans h.1, h1.2.trans h.2⟩
theorem SZ.kp {w : Nat → Nat → Bool} {E E' : Nat → va_E} (hk : Kp w E E') (h1 : ∀ j, w 22 j = false) (h2 : w 2 5 = false) : SZ E E' := ⟨congrArg Int32.toNatClampNeg (congrArg vi (hk 2 5 h2)), funext (fun j => congrArg Int32.toInt (congrArg vi (hk 22 j (h1 j))))⟩
theorem SZ.pw {o j : Nat} {v : Value} {E E' : Nat → va_E} (p : Pw E E' o j v) (h1 : ¬ o = 22) (h2 : o = 2 → ¬ j = 5) : SZ E E' := ⟨congrArg Int32.toNatClampNeg (congrArg vi (p.2 2 5 (fun q => h2 q.1.symm q.2.symm))), funext (fun i => congrArg Int32.toInt (congrArg vi (p.2 22 i (fun q => h1 q.1.symm))))⟩
/-- code written behind, where there is room -/
def CD (c : List Int) (E E' : Nat → va_E) : Prop := tS E + c.length ≤ 200 → Fed (sT E) (sT E') (tS E) (tS E') c
theorem CD.tr {c1 c2 : List Int} {E E1 E2 : Nat → va_E} (h : CD c1 E E1) (h2 : CD c2 E1 E2) : CD (c1 ++ c2) E E2 := fun hb => by
  rw [List.length_append] at hb
  have a := h (by omega)
  have e := a.1
  exact a.tr (h2 (by omega))
theorem CD.sz {c : List Int} {E E1 E2 : Nat → va_E} (h : CD c E E1) (h2 : SZ E1 E2) : CD c E E2 := fun hb => by
  rw [h2.1, h2.2]
  exact h hb
theorem CD.sz0 {c : List Int} {E E1 E2 : Nat → va_E} (h : SZ E E1) (h2 : CD c E1 E2) : CD c E E2 := fun hb => by
  have a := h2 (by rw [h.1]; exact hb)
  rw [h.1, h.2] at a
  exact a
theorem CD.nil {E E' : Nat → va_E} (h : SZ E E') : CD [] E E' := fun _ => by
  rw [h.1, h.2]
  exact Fed.rf
/-- what a reader that comes through has written -/
def RdV (P : (Nat → Int) → Nat → Nat → PR (List Int)) (E E' : Nat → va_E) : Prop := tF E = -1 → tF E' = -1 → ∃ c, P (tT E) (tN E) (tA E) = .good (tA E') c ∧ CD c E E'
theorem RdC.f0 {α : Type} {P : (Nat → Int) → Nat → Nat → PR α} {E E' : Nat → va_E} (h : RdC P E E') (hf : tF E' = -1) : tF E = -1 := by
  by_cases q : tF E = -1
  · exact q
  · exact absurd ((h.2.1 q).symm.trans hf) q
theorem AtP.f0 {E E' : Nat → va_E} (h : AtP E E') (hf : tF E' = -1) : tF E = -1 := h.2.1.symm.trans hf
theorem RdF.nf {E E' : Nat → va_E} (h : RdF E E') (hf : tF E' = -1) : False := by
  by_cases q : tF E = -1
  · have := h.2.2 q
    omega
  · exact q ((h.2.1 q).symm.trans hf)
theorem good_c {α : Type} {a a2 : Nat} {c c2 : α} (h : PR.good a c = PR.good a2 c2) : c = c2 := congrArg Prod.snd (Sum.inr.inj h)
theorem clo_c {α : Type} {t : Nat → Int} {n : Nat} {s : Int} {a a2 : Nat} {c c2 : α} (h : clo t n s a c = .good a2 c2) : c = c2 ∧ pk t n a = s ∧ a2 = sk t n a + 1 := by
  unfold clo at h
  by_cases e : pk t n a = s
  · rw [if_pos e] at h
    exact ⟨good_c h, e, (good_inj h).symm⟩
  · rw [if_neg e] at h
    exact (bad_no h).elim
section RV
variable {d : Nat} {E E1 E2 E3 E4 E5 : Nat → va_E} {r : Int32}
theorem atV_num (hN : RdN E E1 r) (z : SZ E E1) (h : dgt r.toInt) (hn : RdC (fun t n a => numS false t n a) E1 E2) (hv : RdV (fun t n a => numS false t n a) E1 E2) : RdV (fun t n a => atomS false t n d a) E E2 := fun q q2 => by
  have f1 := hn.f0 q2
  obtain ⟨r1, r2⟩ := hN.2.2.2 q
  obtain ⟨c, hc, hd⟩ := hv f1 q2
  refine ⟨c, ?_, CD.sz0 z hd⟩
  show atomS false (tT E) (tN E) d (tA E) = _
  unfold atomS atomO
  rw [if_pos (by rw [← r1]; exact h)]
  have hc' : numS false (tT E1) (tN E1) (tA E1) = .good (tA E2) c := hc
  rw [hN.1.1, hN.1.2, r2] at hc'
  exact hc'
theorem atV_let (hN : RdN E E1 r) (z : SZ E E1) (h : ¬ dgt r.toInt) (h1 : isLet r.toInt = true) (ha : AtP E1 E2) (z2 : SZ E1 E2) (hk : KS E2 E3) {x : Int} (hx : x = -1 - (lets.idxOf r.toInt : Int)) (hd : CD [x] E2 E3) : RdV (fun t n a => atomS false t n d a) E E3 := fun q q2 => by
  obtain ⟨r1, r2⟩ := hN.2.2.2 q
  refine ⟨[x], ?_, CD.sz0 (z.tr z2) hd⟩
  show atomS false (tT E) (tN E) d (tA E) = _
  unfold atomS atomO
  rw [if_neg (by rw [← r1]; exact h), if_pos (by rw [← r1]; exact h1), ← r1, ← hx, hk.2.2, ha.2.2, r2]
theorem atV_in {k : Nat} (hN : RdN E E1 r) (z : SZ E E1) (h : r.toInt = 91) (ha : AtP E1 E2) (z2 : SZ E1 E2) (hs : RdC (fun t n a => sumS false t n k a) E2 E3) (hv : RdV (fun t n a => sumS false t n k a) E2 E3) (ht : RdC (fun t n a => clo t n 93 a ()) E3 E4) (z4 : SZ E3 E4) (hd : d = k + 1) : RdV (fun t n a => atomS false t n d a) E E4 := fun q q2 => by
  have f3 := ht.f0 q2
  have f2 := hs.f0 f3
  obtain ⟨r1, r2⟩ := hN.2.2.2 q
  obtain ⟨c, hc, hc2⟩ := hv f2 f3
  refine ⟨c, ?_, CD.sz0 (z.tr z2) (hc2.sz z4)⟩
  obtain ⟨u, hu⟩ := (ht.2.2 f3).f q2
  obtain ⟨-, u2, u3⟩ := clo_c hu
  have hc' : sumS false (tT E2) (tN E2) k (tA E2) = .good (tA E3) c := hc
  rw [ha.1.1, ha.1.2, hN.1.1, hN.1.2, ha.2.2, r2] at hc'
  rw [hs.1.1, hs.1.2, ha.1.1, ha.1.2, hN.1.1, hN.1.2] at u2 u3
  show atomS false (tT E) (tN E) d (tA E) = _
  unfold atomS atomO
  rw [← r1, h, if_neg in91.1, if_neg in91.2, if_pos rfl, hd]
  show (sumS false (tT E) (tN E) k (sk (tT E) (tN E) (tA E) + 1)).andThen (clo (tT E) (tN E) 93) = _
  rw [hc']
  show clo (tT E) (tN E) 93 (tA E3) c = _
  unfold clo
  rw [if_pos u2, u3]
theorem RdV.no {P : (Nat → Int) → Nat → Nat → PR (List Int)} (hf : RdF E1 E2) : RdV P E E2 := fun _ q2 => (hf.nf q2).elim
/-- loops -/
def LpV (P : (Nat → Int) → Nat → Nat → PR (List Int)) (K : (Nat → Int) → Nat → Nat → List Int → PR (List Int)) (E E1 : Nat → va_E) : Prop := tF E = -1 → tF E1 = -1 → ∃ c, P (tT E) (tN E) (tA E) = K (tT E) (tN E) (tA E1) c ∧ CD c E E1
theorem LpV.start {P P0 : (Nat → Int) → Nat → Nat → PR (List Int)} {K : (Nat → Int) → Nat → Nat → List Int → PR (List Int)} (h : RdV P0 E E1) (hP : ∀ t n a, P t n a = (P0 t n a).andThen (K t n)) : LpV P K E E1 := fun q q1 => by
  obtain ⟨c, hc, hd⟩ := h q q1
  exact ⟨c, by rw [hP, hc]; rfl, hd⟩
theorem LpV.step {P P0 : (Nat → Int) → Nat → Nat → PR (List Int)} {K : (Nat → Int) → Nat → Nat → List Int → PR (List Int)} {op : Int → Bool} {i : Int} {x : Int} (hl : Lp P K i E E1) (hv : LpV P K E E1) (hN : RdN E1 E2 r) (z : SZ E1 E2) (ho : op r.toInt = true) (ha : AtP E2 E3) (z3 : SZ E2 E3) (hr : RdC P0 E3 E4) (hw : RdV P0 E3 E4) (hk : KS E4 E5) (hx : x = -100 - r.toInt) (hd : CD [x] E4 E5) (hK : ∀ t n a c, op (pk t n a) = true → K t n a c = (P0 t n (sk t n a + 1)).andThen (fun a2 c2 => K t n a2 (jb c (pk t n a) c2))) : LpV P K E E5 := fun q q5 => by
  have f4 : tF E4 = -1 := hk.2.1.symm.trans q5
  have f3 := hr.f0 f4
  have f2 := ha.f0 f3
  have f1 : tF E1 = -1 := hN.2.1.symm.trans f2
  obtain ⟨r1, r2⟩ := hN.2.2.2 f1
  obtain ⟨c, hc, hcd⟩ := hv q f1
  obtain ⟨c2, hc2, hcd2⟩ := hw f3 f4
  rw [ha.1.1, ha.1.2, hN.1.1, hN.1.2, ha.2.2, r2, hl.1.1, hl.1.2] at hc2
  rw [r1, hl.1.1, hl.1.2] at ho
  refine ⟨jb c (pk (tT E) (tN E) (tA E1)) c2, ?_, ?_⟩
  · rw [hc, hK _ _ _ _ ho, hc2, hk.2.2]
    rfl
  · have e : x = -100 - pk (tT E) (tN E) (tA E1) := by rw [hx, r1, hl.1.1, hl.1.2]
    show CD (c ++ c2 ++ [-100 - pk (tT E) (tN E) (tA E1)]) E E5
    rw [← e]
    exact (hcd.tr (CD.sz0 (z.tr z3) hcd2)).tr hd
theorem LpV.exit {P : (Nat → Int) → Nat → Nat → PR (List Int)} {K : (Nat → Int) → Nat → Nat → List Int → PR (List Int)} {op : Int → Bool} {i : Int} (hl : Lp P K i E E1) (hv : LpV P K E E1) (hN : RdN E1 E2 r) (z : SZ E1 E2) (ho : ¬ op r.toInt = true) (hK : ∀ t n a c, ¬ op (pk t n a) = true → K t n a c = .good (sk t n a) c) : RdV P E E2 := fun q q2 => by
  have f1 : tF E1 = -1 := hN.2.1.symm.trans q2
  obtain ⟨r1, r2⟩ := hN.2.2.2 f1
  obtain ⟨c, hc, hd⟩ := hv q f1
  rw [r1, hl.1.1, hl.1.2] at ho
  exact ⟨c, by rw [hc, hK _ _ _ _ ho, r2, hl.1.1, hl.1.2], hd.sz z⟩
theorem LpV.fin {P : (Nat → Int) → Nat → Nat → PR (List Int)} {K : (Nat → Int) → Nat → Nat → List Int → PR (List Int)} {op : Int → Bool} {i : Int} (hl : Lp P K i E E1) (hv : LpV P K E E1) (hn : (tN E : Int) ≤ i) (hop : op (-1) = false) (hK : ∀ t n a c, ¬ op (pk t n a) = true → K t n a c = .good (sk t n a) c) : RdV P E E1 := fun q q1 => by
  obtain ⟨h8, _⟩ := (hl.2.2 q).2 q1
  obtain ⟨c, hc, hd⟩ := hv q q1
  have h9 : tN E ≤ tA E1 := by omega
  exact ⟨c, by rw [hc, hK _ _ _ _ (by rw [pk_ge h9, hop]; decide), sk_0 (by omega)], hd⟩
theorem cmV (hN : RdN E E1 r) (z : SZ E E1) (h : isCmp r.toInt = true) (ha : AtP E1 E2) (z2 : SZ E1 E2) (hs : RdC (fun t n a => sumS false t n d a) E2 E3) (hv : RdV (fun t n a => sumS false t n d a) E2 E3) (hk : KS E3 E4) {x : Int} (hx : x = -100 - r.toInt) (hd : CD [x] E3 E4) : RdV (fun t n a => cmpS false t n d a) E E4 := fun q q4 => by
  have f3 : tF E3 = -1 := hk.2.1.symm.trans q4
  have f2 := hs.f0 f3
  obtain ⟨r1, r2⟩ := hN.2.2.2 q
  obtain ⟨c, hc, hcd⟩ := hv f2 f3
  have hc' : sumS false (tT E2) (tN E2) d (tA E2) = .good (tA E3) c := hc
  rw [ha.1.1, ha.1.2, hN.1.1, hN.1.2, ha.2.2, r2] at hc'
  refine ⟨c ++ [x], ?_, (CD.sz0 (z.tr z2) hcd).tr hd⟩
  show cmpS false (tT E) (tN E) d (tA E) = _
  unfold cmpS
  rw [if_pos (by rw [← r1]; exact h), hc', ← r1, ← hx, hk.2.2]
  rfl
end RV
/-! ===== the stack that runs the code ===== -/
def cl (n : Int) : Int32 := Int32.ofInt (max (-10000000) (min 10000000 n))
def jn (s : Int) (a b : Int32) : Int32 := if s = 43 then cl (a.toInt + b.toInt) else if s = 45 then cl (a.toInt - b.toInt) else if s = 42 then cl (a.toInt * b.toInt) else if s = 47 then (if b = 0 then 0 else cl (a.toInt.tdiv b.toInt)) else if s = 61 then (if a = b then 1 else 0) else if s = 60 then (if a.toInt < b.toInt then 1 else 0) else if s = 62 then (if b.toInt < a.toInt then 1 else 0) else if s = 38 then a &&& b else a ||| b
def x1 (L : Nat → Int32) (c : Int) (st : List Int32) : List Int32 := if c ≤ -100 then (if -100 - c = 33 then (match st with
  | a :: r => (if a = 0 then 1 else 0) :: r
  | [] => []) else (match st with
  | b :: a :: r => jn (-100 - c) a b :: r
  | r => r)) else (if 0 ≤ c then Int32.ofInt c else L (-1 - c).toNat) :: st
def X (L : Nat → Int32) : List Int → List Int32 → List Int32
  | [], st => st
  | c :: cs, st => X L cs (x1 L c st)
theorem X_app (L : Nat → Int32) (c2 : List Int) : ∀ (c1 : List Int) (st : List Int32), X L (c1 ++ c2) st = X L c2 (X L c1 st) := by
  intro c1
  induction c1 with
  | nil => exact fun st => rfl
  | cons c cs ih => exact fun st => ih _
/-- code of one number more -/
def Vl (L : Nat → Int32) (c : List Int) (v : Int32) : Prop := ∀ st, X L c st = v :: st
theorem Vl.bin {L : Nat → Int32} {c c2 : List Int} {v w : Int32} {s : Int} (h : Vl L c v) (h2 : Vl L c2 w) (hs : 0 ≤ s) (h33 : ¬ s = 33) : Vl L (jb c s c2) (jn s v w) := fun st => by
  show X L (c ++ c2 ++ [-100 - s]) st = _
  rw [X_app, X_app, h, h2]
  show x1 L (-100 - s) (w :: v :: st) = _
  unfold x1
  rw [if_pos (by omega), if_neg (by omega), show -100 - (-100 - s) = s by omega]
theorem Vl.not {L : Nat → Int32} {c : List Int} {v : Int32} (h : Vl L c v) : Vl L (c ++ [-133]) (if v = 0 then 1 else 0) := fun st => by
  rw [X_app, h]
  show x1 L (-133) (v :: st) = _
  unfold x1
  rw [if_pos (by decide), if_pos (by decide)]
theorem Vl.num {L : Nat → Int32} {n : Int} (h : 0 ≤ n) : Vl L [n] (Int32.ofInt n) := fun st => by
  show x1 L n st = _
  unfold x1
  rw [if_neg (by omega), if_pos h]
theorem Vl.let {L : Nat → Int32} {p : Nat} (h : p < 99) : Vl L [-1 - (p : Int)] (L p) := fun st => by
  show x1 L (-1 - (p : Int)) st = _
  unfold x1
  rw [if_neg (by omega), if_neg (by omega), show (-1 - (-1 - (p : Int))).toNat = p by omega]
theorem letx {r y z x : Int32} (h : 0 ≤ (ixF r tLET 0).toInt) (f : z = ixF y tLET 0) (e : y = (r.toUInt32 % 65536).toInt32) (hr : 0 ≤ r.toInt ∧ r.toInt ≤ 255) (hx : x.toInt = -1 - z.toInt) : x.toInt = -1 - (lets.idxOf r.toInt : Int) := by
  have hm := ixF_mem tLET 0 (by decide) h
  have h1 := (show ∀ b ∈ tLET, (ixF b tLET 0).toInt = (lets.idxOf b.toInt : Int) by decide) r hm
  rw [hx, f, e, i2c_s hr, h1]
theorem cd_e {E E' : Nat → va_E} {x y : Int} (h : CD [x] E E') (e : x = y) : CD [y] E E' := by
  rw [← e]
  exact h
theorem sgn_e {α : Type} {P : (Nat → Int) → Nat → Nat → PR α} {K : (Nat → Int) → Nat → Nat → α → PR α} {i : Int} {E E1 E2 : Nat → va_E} {r y : Int32} {x : Int} (hN : RdN E1 E2 r) (h0 : 0 ≤ r.toInt) (hl : Lp P K i E E1) (hb : tT E (tA E2) = y.toInt) (hx : x = -100 - y.toInt) : x = -100 - r.toInt := by
  obtain ⟨r1, r2⟩ := hN.2.2.2 (hN.nf h0)
  have h2 := pkt_lt (t := tT E1) (n := tN E1) (a := tA E1) (by omega)
  have h3 : tT E (tA E2) = r.toInt := by
    rw [r2, r1, ← h2.2, hl.1.1]
  omega
section RV2
variable {d : Nat} {E E1 E2 E3 E4 E5 : Nat → va_E} {r : Int32} {w : Int32}
theorem unV_b (h : ¬ w.toInt = 0) (hc : RdV (fun t n a => cmpS false t n d a) E E1) : RdV (unX w d) E E1 := fun q q1 => by
  obtain ⟨c, hc1, hd⟩ := hc q q1
  refine ⟨c, ?_, hd⟩
  unfold unX
  rw [if_neg h]
  exact hc1
theorem unV_n {k : Nat} (hw : w.toInt = 0) (hN : RdN E E1 r) (z : SZ E E1) (h : r.toInt = 33) (ha : AtP E1 E2) (z2 : SZ E1 E2) (hu : RdC (unX 0 k) E2 E3) (hv : RdV (unX 0 k) E2 E3) (hk : KS E3 E4) (hcd : CD [-133] E3 E4) (hd : d = k + 1) : RdV (unX w d) E E4 := fun q q4 => by
  have f3 : tF E3 = -1 := hk.2.1.symm.trans q4
  have f2 := hu.f0 f3
  obtain ⟨r1, r2⟩ := hN.2.2.2 q
  obtain ⟨c, hc, hc2⟩ := hv f2 f3
  have hc' : unitS false (tT E2) (tN E2) k (tA E2) = .good (tA E3) c := hc
  rw [ha.1.1, ha.1.2, hN.1.1, hN.1.2, ha.2.2, r2] at hc'
  refine ⟨c ++ [-133], ?_, (CD.sz0 (z.tr z2) hc2).tr hcd⟩
  unfold unX
  rw [if_pos hw, hd]
  show unitO false _ _ (k + 1) _ _ _ = _
  unfold unitO
  rw [← r1, h, if_pos rfl]
  show (unitS false (tT E) (tN E) k (sk (tT E) (tN E) (tA E) + 1)).andThen _ = _
  rw [hc', hk.2.2]
  rfl
theorem unV_p {k : Nat} (hw : w.toInt = 0) (hN : RdN E E1 r) (z : SZ E E1) (h : r.toInt = 40) (ha : AtP E1 E2) (z2 : SZ E1 E2) (hu : RdC (coX 0 k) E2 E3) (hv : RdV (coX 0 k) E2 E3) (ht : RdC (fun t n a => clo t n 41 a ()) E3 E4) (z4 : SZ E3 E4) (hd : d = k + 1) : RdV (unX w d) E E4 := fun q q4 => by
  have f3 := ht.f0 q4
  have f2 := hu.f0 f3
  obtain ⟨r1, r2⟩ := hN.2.2.2 q
  obtain ⟨c, hc, hc2⟩ := hv f2 f3
  obtain ⟨u, hu2⟩ := (ht.2.2 f3).f q4
  obtain ⟨-, u2, u3⟩ := clo_c hu2
  have hc' : condS false (tT E2) (tN E2) k (tA E2) = .good (tA E3) c := hc
  rw [ha.1.1, ha.1.2, hN.1.1, hN.1.2, ha.2.2, r2] at hc'
  rw [hu.1.1, hu.1.2, ha.1.1, ha.1.2, hN.1.1, hN.1.2] at u2 u3
  refine ⟨c, ?_, CD.sz0 (z.tr z2) (hc2.sz z4)⟩
  unfold unX
  rw [if_pos hw, hd]
  show unitO false _ _ (k + 1) _ _ _ = _
  unfold unitO
  rw [← r1, h, if_neg (by decide), if_pos rfl]
  show (condS false (tT E) (tN E) k (sk (tT E) (tN E) (tA E) + 1)).andThen (clo (tT E) (tN E) 41) = _
  rw [hc']
  show clo (tT E) (tN E) 41 (tA E3) c = _
  unfold clo
  rw [if_pos u2, u3]
theorem unV_c (hw : w.toInt = 0) (hN : RdN E E1 r) (z : SZ E E1) (h : ¬ r.toInt = 33) (h1 : ¬ r.toInt = 40) (hs : RdC (fun t n a => sumS false t n d a) E1 E2) (hv : RdV (fun t n a => sumS false t n d a) E1 E2) (hc : RdC (fun t n a => cmpS false t n d a) E2 E3) (hcv : RdV (fun t n a => cmpS false t n d a) E2 E3) : RdV (unX w d) E E3 := fun q q3 => by
  have f2 := hc.f0 q3
  have f1 := hs.f0 f2
  obtain ⟨r1, r2⟩ := hN.2.2.2 q
  obtain ⟨c, hc1, hd1⟩ := hv f1 f2
  obtain ⟨c2, hc2, hd2⟩ := hcv f2 q3
  have h8 : sumS false (tT E1) (tN E1) d (tA E1) = .good (tA E2) c := hc1
  have h9 : cmpS false (tT E2) (tN E2) d (tA E2) = .good (tA E3) c2 := hc2
  rw [hN.1.1, hN.1.2, r2] at h8
  rw [hs.1.1, hs.1.2, hN.1.1, hN.1.2] at h9
  refine ⟨c ++ c2, ?_, (CD.sz0 z hd1).tr hd2⟩
  unfold unX
  rw [if_pos hw]
  have key : unitS false (tT E) (tN E) d (tA E) = (sumS false (tT E) (tN E) d (sk (tT E) (tN E) (tA E))).andThen (fun a1 c1 => (cmpS false (tT E) (tN E) d a1).andThen (fun a2 c2 => .good a2 (c1 ++ c2))) := by
    cases d with
    | zero =>
      show unitO false _ _ 0 _ _ _ = _
      unfold unitO
      rw [← r1, if_neg h, if_neg h1]
    | succ d =>
      show unitO false _ _ (d + 1) _ _ _ = _
      unfold unitO
      rw [← r1, if_neg h, if_neg h1]
  rw [key, h8]
  show (cmpS false (tT E) (tN E) d (tA E2)).andThen _ = _
  rw [h9]
  rfl
end RV2
theorem CD.push {E E1 E2 : Nat → va_E} {x y y' : Int32} (p : Pw E E1 22 y.toNatClampNeg (.int x)) (q : Pw E1 E2 2 5 (.int y')) (hy : xi (E 2) 5 = y) (t : y'.toInt = y.toInt + 1) (h0 : 0 ≤ y.toInt) : CD [x.toInt] E E2 := fun _ => by
  refine Fed.one ?_ (fun j hj => ?_) ?_
  · show (xi (E2 2) 5).toNatClampNeg = (xi (E 2) 5).toNatClampNeg + 1
    rw [show xi (E2 2) 5 = y' from vi_e q.1, hy, tn_, tn_]
    omega
  · show (xi (E2 22) j).toInt = (xi (E 22) j).toInt
    have hj' : ¬ j = (xi (E 2) 5).toNatClampNeg := hj
    rw [hy] at hj'
    rw [show xi (E2 22) j = xi (E1 22) j from congrArg vi (q.2 22 j (by omega)), show xi (E1 22) j = xi (E 22) j from congrArg vi (p.2 22 j (by omega))]
  · show (xi (E2 22) (xi (E 2) 5).toNatClampNeg).toInt = x.toInt
    rw [hy, show xi (E2 22) y.toNatClampNeg = xi (E1 22) y.toNatClampNeg from congrArg vi (q.2 22 _ (by omega)), show xi (E1 22) y.toNatClampNeg = x from vi_e p.1]
theorem CD.full {E : Nat → va_E} {x : Int} (h : 200 ≤ (xi (E 2) 5).toInt) : CD [x] E E := fun hb => by
  have h1 : tS E = (xi (E 2) 5).toInt.toNat := rfl
  simp only [List.length_singleton] at hb
  omega
/-- numbers with their worth -/
def p10 (d : Nat) : Int := [1, 10, 100, 1000, 10000, 100000].getD d 0
def NumW (d v : Int32) (E E1 : Nat → va_E) : Prop := numF (tT E) (tN E) 5 (tA E) 0 = numF (tT E) (tN E) (5 - d.toNatClampNeg) (tA E1) v.toInt ∧ 0 ≤ v.toInt ∧ v.toInt < p10 d.toNatClampNeg
theorem NumW.rf {E : Nat → va_E} : NumW 0 0 E E := ⟨rfl, by decide, by decide⟩
theorem p10_s {d : Nat} (h : d < 5) : p10 (d + 1) = 10 * p10 d := by
  rcases (show d = 0 ∨ d = 1 ∨ d = 2 ∨ d = 3 ∨ d = 4 by omega) with rfl | rfl | rfl | rfl | rfl <;> rfl
theorem p10_le {d : Nat} (h : d < 5) : p10 d ≤ 10000 := by
  rcases (show d = 0 ∨ d = 1 ∨ d = 2 ∨ d = 3 ∨ d = 4 by omega) with rfl | rfl | rfl | rfl | rfl <;> decide
theorem numv {v b y1 y2 y3 : Int32} (hv : 0 ≤ v.toInt ∧ v.toInt ≤ 9999) (hb : 48 ≤ b.toInt ∧ b.toInt ≤ 57) (e1 : y1 = v * 10) (e2 : y2 = y1 + b) (e3 : y3 = y2 - 48) : y3.toInt = 10 * v.toInt + (b.toInt - 48) := by
  have l10 : (10 : Int32).toInt = 10 := rfl
  have l48 : (48 : Int32).toInt = 48 := rfl
  obtain ⟨t1, i1⟩ := ti_mul (a := 0) (b := 9999) (c := 10) (d := 10) (e := 0) (f := 99990) hv (by decide) e1 (by decide)
  obtain ⟨t2, i2⟩ := ti_add (a := 0) (b := 99990) (c := 48) (d := 57) (e := 48) (f := 100047) i1 hb e2 (by decide)
  obtain ⟨t3, i3⟩ := ti_sub (a := 48) (b := 100047) (c := 48) (d := 48) (e := 0) (f := 99999) i2 (by decide) e3 (by decide)
  rw [l10] at t1
  rw [l48] at t3
  omega
theorem NumW.step {d d' v b y1 y2 y3 : Int32} {E E1 E2 : Nat → va_E} (h : NumW d v E E1) (ha : AtP E1 E2) (h1 : tA E1 < tN E) (hb : tT E (tA E1) = b.toInt) (h2 : dgt b.toInt) (hd : 0 ≤ d.toInt ∧ d.toInt < 5) (t : d'.toInt = d.toInt + 1) (e1 : y1 = v * 10) (e2 : y2 = y1 + b) (e3 : y3 = y2 - 48) : NumW d' y3 E E2 := by
  obtain ⟨a1, a2, a3⟩ := h
  have hd5 : d.toNatClampNeg < 5 := by
    rw [tn_]
    omega
  have hd' : d'.toNatClampNeg = d.toNatClampNeg + 1 := by
    rw [tn_, tn_]
    omega
  have hp := p10_le hd5
  have hs := p10_s hd5
  have hv := numv (v := v) (b := b) ⟨a2, by omega⟩ h2 e1 e2 e3
  unfold dgt at h2
  refine ⟨?_, by omega, by rw [hd', hs]; omega⟩
  rw [a1, ha.2.2, show 5 - d.toNatClampNeg = (5 - d'.toNatClampNeg) + 1 by omega]
  rw [show numF (tT E) (tN E) ((5 - d'.toNatClampNeg) + 1) (tA E1) v.toInt = numF (tT E) (tN E) (5 - d'.toNatClampNeg) (tA E1 + 1) (10 * v.toInt + (tT E (tA E1) - 48)) from if_pos ⟨h1, by rw [hb]; exact h2⟩, hb, hv]
theorem numF_e {t : Nat → Int} {n f a : Nat} {v : Int} (h : f = 0 ∨ ¬ (a < n ∧ dgt (t a))) : numF t n f a v = (a, v) := by
  cases f with
  | zero => rfl
  | succ f => exact if_neg (h.elim (fun q => absurd q (by omega)) id)
theorem NumW.out {d v : Int32} {E E1 E2 : Nat → va_E} (h : NumW d v E E1) (z : SZ E E1) (hk : KS E1 E2) (hd : CD [v.toInt] E1 E2) (hx : 5 ≤ d.toInt ∨ ¬ (tA E1 < tN E ∧ dgt (tT E (tA E1)))) : RdV (fun t n a => numS false t n a) E E2 := fun _ _ => by
  refine ⟨[v.toInt], ?_, CD.sz0 z hd⟩
  show numS false (tT E) (tN E) (tA E) = _
  rw [show numS false (tT E) (tN E) (tA E) = .good (numF (tT E) (tN E) 5 (tA E) 0).1 [(numF (tT E) (tN E) 5 (tA E) 0).2] from if_neg (fun q9 => absurd q9.1 (by decide)), h.1, numF_e (hx.imp (fun q9 => by rw [tn_]; omega) id), hk.2.2]

