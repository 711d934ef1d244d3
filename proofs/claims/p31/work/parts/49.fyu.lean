

/-! ===== FAULTS of pairs of STATES (pure) ===== -/
def fI (n : Int) : Int32 := Int32.ofInt n
theorem fI_of {r : Int32} {n : Int} (h : r.toInt = n) : r = fI n := by
  unfold fI
  rw [← h, Int32.ofInt_toInt]
def SnP (s : Int) (Z N : Prop) : Prop := (0 ≤ s ∧ s ≤ 3) ∧ (s % 2 = 1 ↔ Z) ∧ (s / 2 = 1 ↔ N)
theorem i03 {s : Int32} (h : 0 ≤ s.toInt ∧ s.toInt ≤ 3) : s = 0 ∨ s = 1 ∨ s = 2 ∨ s = 3 := by
  rcases (show s.toInt = 0 ∨ s.toInt = 1 ∨ s.toInt = 2 ∨ s.toInt = 3 by omega) with q | q | q | q
  · exact Or.inl (Int32.toInt_inj.mp q)
  · exact Or.inr (Or.inl (Int32.toInt_inj.mp q))
  · exact Or.inr (Or.inr (Or.inl (Int32.toInt_inj.mp q)))
  · exact Or.inr (Or.inr (Or.inr (Int32.toInt_inj.mp q)))
theorem or_03 {s r : Int32} (h : 0 ≤ s.toInt ∧ s.toInt ≤ 3) (h2 : 0 ≤ r.toInt ∧ r.toInt ≤ 3) : (0 ≤ (s ||| r).toInt ∧ (s ||| r).toInt ≤ 3) ∧ ((s ||| r).toInt % 2 = 1 ↔ (s.toInt % 2 = 1 ∨ r.toInt % 2 = 1)) ∧ ((s ||| r).toInt / 2 = 1 ↔ (s.toInt / 2 = 1 ∨ r.toInt / 2 = 1)) := by
  rcases i03 h with rfl | rfl | rfl | rfl <;> rcases i03 h2 with rfl | rfl | rfl | rfl <;> decide
theorem SnP.or {s r v : Int32} {Z N Z2 N2 Z' N' : Prop} (h : SnP s.toInt Z N) (h2 : SnP r.toInt Z2 N2) (e : v = s ||| r) (hz : Z' ↔ (Z ∨ Z2)) (hn : N' ↔ (N ∨ N2)) : SnP v.toInt Z' N' := by
  obtain ⟨a1, a2, a3⟩ := or_03 h.1 h2.1
  rw [e]
  refine ⟨a1, ?_, ?_⟩
  · rw [a2, hz, h.2.1, h2.2.1]
  · rw [a3, hn, h.2.2, h2.2.2]
theorem SnP.start {Z N : Prop} (hz : ¬ Z) (hn : ¬ N) : SnP (0 : Int32).toInt Z N := ⟨⟨by decide, by decide⟩, ⟨fun q => absurd q (by decide), fun q => absurd q hz⟩, ⟨fun q => absurd q (by decide), fun q => absurd q hn⟩⟩
theorem SnP.cg {s : Int} {Z N Z' N' : Prop} (h : SnP s Z N) (hz : Z ↔ Z') (hn : N ↔ N') : SnP s Z' N' := ⟨h.1, h.2.1.trans hz, h.2.2.trans hn⟩
theorem SnP.m3 {s : Int} {Z N Z' N' : Prop} (h : SnP s Z N) (h3 : s = 3) (hz : Z → Z') (hn : N → N') : SnP s Z' N' := ⟨h.1, ⟨fun _ => hz (h.2.1.mp (by omega)), fun _ => by omega⟩, ⟨fun _ => hn (h.2.2.mp (by omega)), fun _ => by omega⟩⟩
theorem SnP.one {v : Int32} {Z N : Prop} (h0 : v.toInt = 0) (hz : Z) (hn : ¬ N) : SnP (1 : Int32).toInt Z N := ⟨⟨by decide, by decide⟩, ⟨fun _ => hz, fun _ => by decide⟩, ⟨fun q => absurd q (by decide), fun q => absurd q hn⟩⟩
theorem SnP.two {Z N : Prop} (hz : ¬ Z) (hn : N) : SnP (2 : Int32).toInt Z N := ⟨⟨by decide, by decide⟩, ⟨fun q => absurd q (by decide), fun q => absurd q hz⟩, ⟨fun _ => hn, fun _ => by decide⟩⟩
/-- among the first ones -/
def exF (P : Nat → Prop) (n : Nat) : Prop := ∃ i, i < n ∧ P i
theorem exF_0 {P : Nat → Prop} : ¬ exF P 0 := fun ⟨i, hi, _⟩ => absurd hi (Nat.not_lt_zero i)
theorem exF_s {P : Nat → Prop} {n n' : Nat} (e : n' = n + 1) : exF P n' ↔ (exF P n ∨ P n) := by
  subst e
  constructor
  · rintro ⟨i, hi, h⟩
    by_cases e : i = n
    · subst e
      exact Or.inr h
    · exact Or.inl ⟨i, by omega, h⟩
  · rintro (⟨i, hi, h⟩ | h)
    · exact ⟨i, by omega, h⟩
    · exact ⟨n, by omega, h⟩
/-- places that were gone through: columns ahead of x, and in it those ahead of y -/
def exR (S P : Int → Int → Prop) (x y : Int) : Prop := ∃ u v, S u v ∧ (u < x ∨ (u = x ∧ v < y)) ∧ P u v
section EXR
variable {lx hx ly hy x y x' y' : Int} {P : Int → Int → Prop}
def rng (lx hx ly hy : Int) (u v : Int) : Prop := lx ≤ u ∧ u ≤ hx ∧ ly ≤ v ∧ v ≤ hy
theorem exR_0 (h : x ≤ lx) (h1 : y ≤ ly) : ¬ exR (rng lx hx ly hy) P x y := fun ⟨u, v, h2, h3, _⟩ => by
  unfold rng at h2
  omega
theorem exR_in (e : y' = y + 1) (h : rng lx hx ly hy x y) : exR (rng lx hx ly hy) P x y' ↔ (exR (rng lx hx ly hy) P x y ∨ P x y) := by
  constructor
  · rintro ⟨u, v, h2, h3, h4⟩
    by_cases q : u = x ∧ v = y
    · obtain ⟨rfl, rfl⟩ := q
      exact Or.inr h4
    · exact Or.inl ⟨u, v, h2, by omega, h4⟩
  · rintro (⟨u, v, h2, h3, h4⟩ | h4)
    · exact ⟨u, v, h2, by omega, h4⟩
    · exact ⟨x, y, h, by omega, h4⟩
theorem exR_out (e : x' = x + 1) (h : hy < y) (h1 : y' ≤ ly) : exR (rng lx hx ly hy) P x y ↔ exR (rng lx hx ly hy) P x' y' := by
  constructor
  · rintro ⟨u, v, h2, h3, h4⟩
    exact ⟨u, v, h2, by omega, h4⟩
  · rintro ⟨u, v, h2, h3, h4⟩
    refine ⟨u, v, h2, ?_, h4⟩
    unfold rng at h2
    omega
theorem exR_up (e : x' = x + 1) : exR (rng lx hx ly hy) P x y → exR (rng lx hx ly hy) P x' y' := fun ⟨u, v, h2, h3, h4⟩ => ⟨u, v, h2, by omega, h4⟩
theorem exR_all (h : hx < x) : exR (rng lx hx ly hy) P x y ↔ ∃ u v, rng lx hx ly hy u v ∧ P u v := by
  constructor
  · rintro ⟨u, v, h2, h3, h4⟩
    exact ⟨u, v, h2, h4⟩
  · rintro ⟨u, v, h2, h4⟩
    refine ⟨u, v, h2, ?_, h4⟩
    unfold rng at h2
    omega
theorem exR_w : exR (rng lx hx ly hy) P x y → ∃ u v, rng lx hx ly hy u v ∧ P u v := fun ⟨u, v, h2, _, h4⟩ => ⟨u, v, h2, h4⟩
end EXR
/-! ===== tacks ===== -/
def sb (d wnd : Int) : Int := if 5 ≤ (d - wnd + 8) % 8 then 1 else 0
theorem sb_in (d wnd : Int) : 0 ≤ sb d wnd ∧ sb d wnd ≤ 1 := by
  unfold sb
  by_cases h : 5 ≤ (d - wnd + 8) % 8
  · rw [if_pos h]
    omega
  · rw [if_neg h]
    omega
def eqI (a b : Int) : Int := if a = b then 1 else 0
theorem eqI_in (a b : Int) : 0 ≤ eqI a b ∧ eqI a b ≤ 1 := by
  unfold eqI
  by_cases h : a = b
  · rw [if_pos h]
    omega
  · rw [if_neg h]
    omega
def TkS (w0 w1 : Int32) (wnd : Int) (pos : Nat) (T : Int32) : Prop := ∀ k : Nat, k < 8 → (bt T k = true ↔ ∃ a b : Nat, a < 8 ∧ b < 8 ∧ 8 * a + b < pos ∧ bt w0 a = true ∧ bt w1 b = true ∧ (k : Int) = 4 * sb a wnd + 2 * sb b wnd + eqI a b)
theorem bt_0 (k : Nat) : bt 0 k = false := by
  unfold bt
  exact BitVec.getLsbD_zero
theorem TkS.start {w0 w1 : Int32} {wnd : Int} {pos : Nat} (h : pos = 0) : TkS w0 w1 wnd pos 0 := fun k hk => by
  rw [bt_0]
  exact ⟨fun q => absurd q (by decide), fun ⟨a, b, _, _, h3, _⟩ => by omega⟩
theorem bt_sh : ∀ k0 : Nat, k0 < 8 → ∀ k : Nat, k < 8 → (bt ((1 : Int32) <<< (nI k0 &&& 31)) k = true ↔ k = k0) := by decide
theorem TkS.skip {w0 w1 T : Int32} {wnd : Int} {pos pos' a b : Nat} (h : TkS w0 w1 wnd pos T) (ha : a < 8) (hb : b < 8) (hp : pos = 8 * a + b) (hp' : pos' = pos + 1) (hn : ¬ (bt w0 a = true ∧ bt w1 b = true)) : TkS w0 w1 wnd pos' T := fun k hk => by
  rw [h k hk]
  constructor
  · rintro ⟨a', b', g1, g2, g3, g4⟩
    exact ⟨a', b', g1, g2, by omega, g4⟩
  · rintro ⟨a', b', g1, g2, g3, g4, g5, g6⟩
    refine ⟨a', b', g1, g2, ?_, g4, g5, g6⟩
    by_cases q : a' = a ∧ b' = b
    · obtain ⟨rfl, rfl⟩ := q
      exact absurd ⟨g4, g5⟩ hn
    · omega
theorem TkS.take {w0 w1 T T' k0 z : Int32} {wnd : Int} {pos pos' a b : Nat} (h : TkS w0 w1 wnd pos T) (ha : a < 8) (hb : b < 8) (hp : pos = 8 * a + b) (hp' : pos' = pos + 1) (h0 : bt w0 a = true) (h1 : bt w1 b = true) (hk : k0.toInt = 4 * sb a wnd + 2 * sb b wnd + eqI a b) (ez : z = (1 : Int32) <<< (k0 &&& 31)) (e : T' = T ||| z) : TkS w0 w1 wnd pos' T' := fun k hk8 => by
  have i1 := sb_in a wnd
  have i2 := sb_in b wnd
  have i3 := eqI_in a b
  have hk0 : k0 = nI k0.toNatClampNeg := (nI_tn (by omega)).symm
  have hk1 : k0.toNatClampNeg < 8 := by
    rw [tn_]
    omega
  rw [e, bt_or, Bool.or_eq_true, h k hk8, ez, hk0, bt_sh _ hk1 k hk8, tn_]
  constructor
  · rintro (⟨a', b', g1, g2, g3, g4⟩ | g)
    · exact ⟨a', b', g1, g2, by omega, g4⟩
    · exact ⟨a, b, ha, hb, by omega, h0, h1, by omega⟩
  · rintro ⟨a', b', g1, g2, g3, g4, g5, g6⟩
    by_cases q : a' = a ∧ b' = b
    · obtain ⟨rfl, rfl⟩ := q
      exact Or.inr (by omega)
    · exact Or.inl ⟨a', b', g1, g2, by omega, g4, g5, g6⟩
theorem bit_t {a v y1 y2 : Int32} (h0 : 0 ≤ a.toInt) (hv : 0 ≤ v.toInt ∧ v.toInt ≤ 31) (e1 : y1 = a >>> (v &&& 31)) (e2 : y2 = y1 &&& 1) : y2.toInt = 0 ↔ ¬ bt a v.toNatClampNeg = true := by
  have h2 : a.toNatClampNeg / 2 ^ v.toNatClampNeg % 2 < 2 := Nat.mod_lt _ (by decide)
  rw [bit_at h0 hv e1 e2, nI_toInt (by omega), bt_nat h0]
  omega
/-! ===== letters of a pair ===== -/
def wV (cf : Nat → Nat) (E : Nat → va_E) (lab : Int) (k : Int32) (L : Nat → Int32) : Int32 := if k.toInt = -1 then 0 else wC cf E lab k.toNatClampNeg L
def far4 (x y u v : Int) : Int := max (ab (x - u)) (ab (y - v))
def upw (sx sy x y u v : Int) : Int := if 0 < (x - u) * sx + (y - v) * sy then 1 else 0
def stX (w : Nat) : Int := (tSX.getD w 0).toInt
def stY (w : Nat) : Int := (tSY.getD w 0).toInt
/-- d, u, m, k -/
def bL (wnd : Nat) (mx my x y u v : Int) : Nat → Int32 := lset (lset (lset (lset lz 8 (fI (far4 x y u v))) 11 (fI (upw (stX wnd) (stY wnd) x y u v))) 12 (fI (far4 x y mx my))) 3 (fI (far4 u v mx my))
/-- g, h, o -/
def gL (L : Nat → Int32) (g h o : Int) : Nat → Int32 := lset (lset (lset L 9 (fI g)) 10 (fI h)) 13 (fI o)
def pL (wnd : Nat) (mx my x y d u v d2 : Int) : Nat → Int32 := gL (bL wnd mx my x y u v) (sb d wnd) (sb d2 wnd) (eqI d d2)
theorem gL_gL {L : Nat → Int32} {a b c g h o : Int} : gL (gL L a b c) g h o = gL L g h o := funext (fun q => by
  unfold gL lset
  by_cases h1 : q = 13
  · simp only [if_pos h1]
  · simp only [if_neg h1]
    by_cases h2 : q = 10
    · simp only [if_pos h2]
    · simp only [if_neg h2]
      by_cases h3 : q = 9
      · simp only [if_pos h3]
      · simp only [if_neg h3])
def Sure (w : Nat → Nat → Int) (wd : Nat → Int32) (n : Nat) (r a b q t s : Int) (wnd : Nat) (mx my : Int) (W : (Nat → Int32) → Int32) : Prop := Sts w wd n r a q t s ∧ Sts w wd n r b q t s ∧ ∀ (x y : Int) (d : Nat) (u v : Int) (d2 : Nat), plc w n r a q t s x y → d < 8 → drs w wd n r a q t d → plc w n r b q t s u v → d2 < 8 → drs w wd n r b q t d2 → ¬ W (pL wnd mx my x y d u v d2) = 0
/-- what the class finds out by spans and tacks -/
def zT (W : (Nat → Int32) → Int32) (T : Int32) (L : Nat → Int32) (i : Nat) : Prop := bt T i = true ∧ W (gL L ((i : Int) / 4) ((i : Int) / 2 % 2) ((i : Int) % 2)) = 0
def nT (W : (Nat → Int32) → Int32) (T : Int32) (L : Nat → Int32) (i : Nat) : Prop := bt T i = true ∧ ¬ W (gL L ((i : Int) / 4) ((i : Int) / 2 % 2) ((i : Int) % 2)) = 0
theorem sure_of {w : Nat → Nat → Int} {wd : Nat → Int32} {n : Nat} {r a b q t s : Int} {wnd : Nat} {mx my : Int} {W : (Nat → Int32) → Int32} {E : Nat → va_E} {T : Int32} {Z N : Prop} {k : Int} (hS : SnP k Z N) (h0 : StC w wd n r a q t s E 0) (h1 : StC w wd n r b q t s E 1) (g0 : Sts w wd n r a q t s) (g1 : Sts w wd n r b q t s) (hT : TkS (xi (E 42) 0) (xi (E 42) 1) wnd 64 T) (hZ : Z ↔ ∃ x y, spn E 0 x y ∧ ∃ u v, spn E 1 u v ∧ exF (zT W T (bL wnd mx my x y u v)) 8) (hN : N ↔ ∃ x y, spn E 0 x y ∧ ∃ u v, spn E 1 u v ∧ exF (nT W T (bL wnd mx my x y u v)) 8) : k = 2 ↔ Sure w wd n r a b q t s wnd mx my W := by
  have hk : k = 2 ↔ (¬ Z ∧ N) := by
    obtain ⟨s1, s2, s3⟩ := hS
    rw [← s2, ← s3]
    omega
  -- a tack is that of some pair of ways
  have tk : ∀ (L : Nat → Int32) (Q : Int32 → Prop), (∃ i, i < 8 ∧ bt T i = true ∧ Q (W (gL L ((i : Int) / 4) ((i : Int) / 2 % 2) ((i : Int) % 2)))) ↔ ∃ d d2 : Nat, d < 8 ∧ d2 < 8 ∧ drs w wd n r a q t d ∧ drs w wd n r b q t d2 ∧ Q (W (gL L (sb d wnd) (sb d2 wnd) (eqI d d2))) := by
    intro L Q
    constructor
    · rintro ⟨i, hi, h2, h3⟩
      obtain ⟨d, d2, e1, e2, -, e4, e5, e6⟩ := (hT i hi).mp h2
      have i1 := sb_in d wnd
      have i2 := sb_in d2 wnd
      have i3 := eqI_in d d2
      refine ⟨d, d2, e1, e2, (h0.2 d e1).mp e4, (h1.2 d2 e2).mp e5, ?_⟩
      rw [show (i : Int) / 4 = sb d wnd by omega, show (i : Int) / 2 % 2 = sb d2 wnd by omega, show (i : Int) % 2 = eqI d d2 by omega] at h3
      exact h3
    · rintro ⟨d, d2, e1, e2, e3, e4, e5⟩
      have i1 := sb_in d wnd
      have i2 := sb_in d2 wnd
      have i3 := eqI_in d d2
      obtain ⟨i, hi⟩ : ∃ i : Nat, (i : Int) = 4 * sb d wnd + 2 * sb d2 wnd + eqI d d2 := ⟨(4 * sb d wnd + 2 * sb d2 wnd + eqI d d2).toNat, by omega⟩
      refine ⟨i, by omega, (hT i (by omega)).mpr ⟨d, d2, e1, e2, by omega, (h0.2 d e1).mpr e3, (h1.2 d2 e2).mpr e4, hi⟩, ?_⟩
      rw [show (i : Int) / 4 = sb d wnd by omega, show (i : Int) / 2 % 2 = sb d2 wnd by omega, show (i : Int) % 2 = eqI d d2 by omega]
      exact e5
  have hz : Z ↔ ∃ (x y : Int) (d : Nat) (u v : Int) (d2 : Nat), plc w n r a q t s x y ∧ d < 8 ∧ drs w wd n r a q t d ∧ plc w n r b q t s u v ∧ d2 < 8 ∧ drs w wd n r b q t d2 ∧ W (pL wnd mx my x y d u v d2) = 0 := by
    rw [hZ]
    constructor
    · rintro ⟨x, y, p1, u, v, p2, p3⟩
      obtain ⟨d, d2, e1, e2, e3, e4, e5⟩ := (tk _ (fun z => z = 0)).mp p3
      exact ⟨x, y, d, u, v, d2, (h0.1 x y).mp p1, e1, e3, (h1.1 u v).mp p2, e2, e4, e5⟩
    · rintro ⟨x, y, d, u, v, d2, p1, e1, e3, p2, e2, e4, e5⟩
      exact ⟨x, y, (h0.1 x y).mpr p1, u, v, (h1.1 u v).mpr p2, (tk _ (fun z => z = 0)).mpr ⟨d, d2, e1, e2, e3, e4, e5⟩⟩
  have hn : N ↔ ∃ (x y : Int) (d : Nat) (u v : Int) (d2 : Nat), plc w n r a q t s x y ∧ d < 8 ∧ drs w wd n r a q t d ∧ plc w n r b q t s u v ∧ d2 < 8 ∧ drs w wd n r b q t d2 ∧ ¬ W (pL wnd mx my x y d u v d2) = 0 := by
    rw [hN]
    constructor
    · rintro ⟨x, y, p1, u, v, p2, p3⟩
      obtain ⟨d, d2, e1, e2, e3, e4, e5⟩ := (tk _ (fun z => ¬ z = 0)).mp p3
      exact ⟨x, y, d, u, v, d2, (h0.1 x y).mp p1, e1, e3, (h1.1 u v).mp p2, e2, e4, e5⟩
    · rintro ⟨x, y, d, u, v, d2, p1, e1, e3, p2, e2, e4, e5⟩
      exact ⟨x, y, (h0.1 x y).mpr p1, u, v, (h1.1 u v).mpr p2, (tk _ (fun z => ¬ z = 0)).mpr ⟨d, d2, e1, e2, e3, e4, e5⟩⟩
  rw [hk, hz, hn]
  constructor
  · rintro ⟨p1, -⟩
    exact ⟨g0, g1, fun x y d u v d2 e1 e2 e3 e4 e5 e6 e7 => p1 ⟨x, y, d, u, v, d2, e1, e2, e3, e4, e5, e6, e7⟩⟩
  · rintro ⟨-, -, p1⟩
    obtain ⟨-, ⟨x, y, a1⟩, d, a2, a3⟩ := g0
    obtain ⟨-, ⟨u, v, b1⟩, d2, b2, b3⟩ := g1
    exact ⟨fun ⟨x, y, d, u, v, d2, e1, e2, e3, e4, e5, e6, e7⟩ => p1 x y d u v d2 e1 e2 e3 e4 e5 e6 e7, x, y, d, u, v, d2, a1, a2, a3, b1, b2, b3, p1 x y d u v d2 a1 a2 a3 b1 b2 b3⟩
section
/-! ===== finding: more of loops, letters and tacks (pure) ===== -/
theorem TkS.cg {w0 w1 T : Int32} {wnd : Int} {pos pos' : Nat} (h : TkS w0 w1 wnd pos T) (e : pos' = pos) : TkS w0 w1 wnd pos' T := by
  subst e
  exact h
theorem bit_f {a v y1 y2 : Int32} (h0 : 0 ≤ a.toInt) (hv : 0 ≤ v.toInt ∧ v.toInt ≤ 31) (e1 : y1 = a >>> (v &&& 31)) (e2 : y2 = y1 &&& 1) (hn : ¬ y2.toInt = 0) : bt a v.toNatClampNeg = true := Decidable.byContradiction (fun q => hn ((bit_t h0 hv e1 e2).mpr q))
theorem exF_mono {P : Nat → Prop} {n m : Nat} (h : n ≤ m) : exF P n → exF P m := fun ⟨i, hi, hp⟩ => ⟨i, by omega, hp⟩
theorem SnP.skip {s : Int} {Z N : Nat → Prop} {n n' : Nat} (h : SnP s (exF Z n) (exF N n)) (e : n' = n + 1) (hz : ¬ Z n) (hn : ¬ N n) : SnP s (exF Z n') (exF N n') := h.cg ⟨fun q => (exF_s e).mpr (Or.inl q), fun q => ((exF_s e).mp q).elim id (fun q1 => absurd q1 hz)⟩ ⟨fun q => (exF_s e).mpr (Or.inl q), fun q => ((exF_s e).mp q).elim id (fun q1 => absurd q1 hn)⟩
theorem SnP.next {s r v : Int32} {Z N : Nat → Prop} {n n' : Nat} (h : SnP s.toInt (exF Z n) (exF N n)) (h2 : SnP r.toInt (Z n) (N n)) (ev : v = s ||| r) (e : n' = n + 1) : SnP v.toInt (exF Z n') (exF N n') := h.or h2 ev (exF_s e) (exF_s e)
/-- letters g, h, o of a tack's number -/
theorem gho : ∀ i : Nat, i < 8 → nI i >>> ((2 : Int32) &&& 31) = fI ((i : Int) / 4) ∧ (nI i >>> ((1 : Int32) &&& 31)) &&& 1 = fI ((i : Int) / 2 % 2) ∧ nI i &&& 1 = fI ((i : Int) % 2) ∧ (0 ≤ (nI i >>> ((2 : Int32) &&& 31)).toInt ∧ (nI i >>> ((2 : Int32) &&& 31)).toInt ≤ 1) := by decide
theorem gho_ {v a b b1 c : Int32} (h : 0 ≤ v.toInt ∧ v.toInt < 8) (ea : a = v >>> ((2 : Int32) &&& 31)) (eb : b1 = v >>> ((1 : Int32) &&& 31)) (eb2 : b = b1 &&& 1) (ec : c = v &&& 1) : a = fI ((v.toNatClampNeg : Int) / 4) ∧ b = fI ((v.toNatClampNeg : Int) / 2 % 2) ∧ c = fI ((v.toNatClampNeg : Int) % 2) ∧ (0 ≤ a.toInt ∧ a.toInt ≤ 1) := by
  have h1 : v.toNatClampNeg < 8 := by
    rw [tn_]
    omega
  obtain ⟨g1, g2, g3, g4⟩ := gho v.toNatClampNeg h1
  rw [nI_tn h.1] at g1 g2 g3 g4
  refine ⟨ea.trans g1, ?_, ec.trans g3, ?_⟩
  · rw [eb2, eb]
    exact g2
  · rw [ea]
    exact g4
theorem wV_cg {cf : Nat → Nat} {E E' : Nat → va_E} {lab : Int} {k : Int32} {L : Nat → Int32} (hc : ∀ i t, 2 ≤ t → t < 6 → ∀ j, xi (E' (64 * (i + 1) + t)) j = xi (E (64 * (i + 1) + t)) j) : wV cf E' lab k L = wV cf E lab k L := by
  unfold wV wC
  rw [clE_cg (hc k.toNatClampNeg)]
/-- what the Hearing asks of WORTH -/
def hWo (cf : Nat → Nat) (E : Nat → va_E) : (Nat → Int32) → Int32 := fun L => wV cf E (xi (E 5) 8).toInt (xi (E 5) 7) L
theorem hW_cg {cf : Nat → Nat} {E E' : Nat → va_E} (h8 : xi (E' 5) 8 = xi (E 5) 8) (h7 : xi (E' 5) 7 = xi (E 5) 7) (hc : ∀ i t, 2 ≤ t → t < 6 → ∀ j, xi (E' (64 * (i + 1) + t)) j = xi (E (64 * (i + 1) + t)) j) : hWo cf E' = hWo cf E := funext (fun L => by
  unfold hWo
  rw [h8, h7]
  exact wV_cg hc)
/-- all the letters' ways at one pair of places -/
def hZr (cf : Nat → Nat) (E : Nat → va_E) (L : Nat → Int32) : Prop := exF (zT (hWo cf E) (xi (E 5) 9) L) 8
def hNz (cf : Nat → Nat) (E : Nat → va_E) (L : Nat → Int32) : Prop := exF (nT (hWo cf E) (xi (E 5) 9) L) 8
def hLe (E : Nat → va_E) (ri : Nat) (x y u v : Int) : Nat → Int32 := bL (xi (E (64 * (ri + 1) + 6)) 4).toNatClampNeg (xi (E (64 * (ri + 1) + 6)) 5).toInt (xi (E (64 * (ri + 1) + 6)) 6).toInt x y u v
theorem hL_e {E : Nat → va_E} {ri : Nat} {x y u v : Int} {c1 c2 c3 c4 : Int32} (h1 : c1.toInt = far4 x y u v) (h2 : c2.toInt = upw (stX (xi (E (64 * (ri + 1) + 6)) 4).toNatClampNeg) (stY (xi (E (64 * (ri + 1) + 6)) 4).toNatClampNeg) x y u v) (h3 : c3.toInt = far4 x y (xi (E (64 * (ri + 1) + 6)) 5).toInt (xi (E (64 * (ri + 1) + 6)) 6).toInt) (h4 : c4.toInt = far4 u v (xi (E (64 * (ri + 1) + 6)) 5).toInt (xi (E (64 * (ri + 1) + 6)) 6).toInt) : lset (lset (lset (lset lz 8 c1) 11 c2) 12 c3) 3 c4 = hLe E ri x y u v := by
  unfold hLe bL
  rw [fI_of h1, fI_of h2, fI_of h3, fI_of h4]
theorem up1 {A B C D p q u : Int} (hu : u = (A - C) * p + (B - D) * q) (h : 0 < u) : (1 : Int32).toInt = upw p q A B C D := Eq.trans (b := (1 : Int)) rfl (by unfold upw; rw [← hu, if_pos h])
theorem up0 {A B C D p q u : Int} (hu : u = (A - C) * p + (B - D) * q) (h : ¬ 0 < u) : (0 : Int32).toInt = upw p q A B C D := Eq.trans (b := (0 : Int)) rfl (by unfold upw; rw [← hu, if_neg h])
theorem gL3 {L L' : Nat → Int32} {a b c : Int} {v1 v2 v3 : Int32} (h : L' = lset (lset (lset L 9 v1) 10 v2) 13 v3) (e1 : v1 = fI a) (e2 : v2 = fI b) (e3 : v3 = fI c) : L' = gL L a b c := by
  rw [h, e1, e2, e3]
  rfl
/-! ===== the class's find ===== -/
theorem lawC_cg {cf : Nat → Nat} {E E' : Nat → va_E} {day q : Int32} (h : K64 E E') : lawC cf E' day q = lawC cf E day q := by
  unfold lawC
  rw [show (fun k9 => xi (E' (64 * (k9 + 1) + 1)) 0) = (fun k9 => xi (E (64 * (k9 + 1) + 1)) 0) from funext (fun k9 => h (64 * (k9 + 1) + 1) (by omega) 0), show (fun k9 => xi (E' (64 * (k9 + 1) + 1)) 1) = (fun k9 => xi (E (64 * (k9 + 1) + 1)) 1) from funext (fun k9 => h (64 * (k9 + 1) + 1) (by omega) 1)]
theorem hW_to {cf : Nat → Nat} {E E' : Nat → va_E} {lab : Int} {k : Int32} (h : K64 E E') (h8 : (xi (E' 5) 8).toInt = lab) (h7 : xi (E' 5) 7 = k) : hWo cf E' = fun L => wV cf E lab k L := funext (fun L => by
  unfold hWo
  rw [h8, h7]
  exact wV_cg (fun i t _ _ j => h (64 * (i + 1) + t) (by omega) j))
theorem hL_cg {E E' : Nat → va_E} {ri : Nat} (h : K64 E E') : hLe E' ri = hLe E ri := funext (fun x => funext (fun y => funext (fun u => funext (fun v => by
  unfold hLe
  rw [h (64 * (ri + 1) + 6) (by omega), h (64 * (ri + 1) + 6) (by omega), h (64 * (ri + 1) + 6) (by omega)]))))
def ri14 (E : Nat → va_E) (i : Nat) : Nat := (xi (E (64 * (i + 1) + 14)) 0).toNatClampNeg
def FndC (cf : Nat → Nat) (E : Nat → va_E) (i : Nat) (who q : Int32) (s : Int) : Prop := Sure (wcE E) (wdE E) (cf 4) (pA E i 0) (pA E i 1) (pA E i 2) q.toInt (pA E i 3) s (xi (E (64 * (ri14 E i + 1) + 6)) 4).toNatClampNeg (xi (E (64 * (ri14 E i + 1) + 6)) 5).toInt (xi (E (64 * (ri14 E i + 1) + 6)) 6).toInt (fun L => wV cf E (if who.toInt = 0 then 97 else 98) (lawC cf E (xi (E (64 * (ri14 E i + 1) + 6)) 1) q) L)
/-- places of A that were gone through -/
def fZ (cf : Nat → Nat) (E : Nat → va_E) (ri : Nat) (x y : Int) : Prop := ∃ u8 v8 : Int, spn E 1 u8 v8 ∧ hZr cf E (hLe E ri x y u8 v8)
def fN (cf : Nat → Nat) (E : Nat → va_E) (ri : Nat) (x y : Int) : Prop := ∃ u8 v8 : Int, spn E 1 u8 v8 ∧ hNz cf E (hLe E ri x y u8 v8)
theorem ffC {cf : Nat → Nat} {E E' : Nat → va_E} {ri : Nat} {x y r : Int} (h : SnP r (∃ x8 y8 : Int, spn E' 1 x8 y8 ∧ hZr cf E' (hLe E' ri x y x8 y8)) (∃ x8 y8 : Int, spn E' 1 x8 y8 ∧ hNz cf E' (hLe E' ri x y x8 y8))) (k : K64 E E') (k0 : xi (E' 38) 1 = xi (E 38) 1 ∧ xi (E' 39) 1 = xi (E 39) 1 ∧ xi (E' 40) 1 = xi (E 40) 1 ∧ xi (E' 41) 1 = xi (E 41) 1) (k5 : xi (E' 5) 7 = xi (E 5) 7 ∧ xi (E' 5) 8 = xi (E 5) 8 ∧ xi (E' 5) 9 = xi (E 5) 9) : SnP r (fZ cf E ri x y) (fN cf E ri x y) := by
  obtain ⟨a1, a2, a3, a4⟩ := k0
  obtain ⟨b1, b2, b3⟩ := k5
  have es : spn E' 1 = spn E 1 := funext (fun x9 => funext (fun y9 => by
    unfold spn
    rw [a1, a2, a3, a4]))
  have ew : hWo cf E' = hWo cf E := hW_cg b2 b1 (fun i t _ _ j => k (64 * (i + 1) + t) (by omega) j)
  have ez : hZr cf E' = hZr cf E := funext (fun L => by
    unfold hZr
    rw [ew, b3])
  have en : hNz cf E' = hNz cf E := funext (fun L => by
    unfold hNz
    rw [ew, b3])
  rw [es, ez, en, hL_cg k] at h
  exact h
theorem find_e {cf : Nat → Nat} {E E' : Nat → va_E} {i : Nat} {who q : Int32} {s k : Int} (hS : SnP k (∃ x y, rng (xi (E' 38) 0).toInt (xi (E' 39) 0).toInt (xi (E' 40) 0).toInt (xi (E' 41) 0).toInt x y ∧ fZ cf E' (ri14 E i) x y) (∃ x y, rng (xi (E' 38) 0).toInt (xi (E' 39) 0).toInt (xi (E' 40) 0).toInt (xi (E' 41) 0).toInt x y ∧ fN cf E' (ri14 E i) x y)) (h64 : K64 E E') (hA : StC (wcE E) (wdE E) (cf 4) (pA E i 0) (pA E i 1) q.toInt (pA E i 3) s E' 0) (hB : StC (wcE E) (wdE E) (cf 4) (pA E i 0) (pA E i 2) q.toInt (pA E i 3) s E' 1) (g0 : Sts (wcE E) (wdE E) (cf 4) (pA E i 0) (pA E i 1) q.toInt (pA E i 3) s) (g1 : Sts (wcE E) (wdE E) (cf 4) (pA E i 0) (pA E i 2) q.toInt (pA E i 3) s) (hw : 0 ≤ (xi (E (64 * (ri14 E i + 1) + 6)) 4).toInt) (hT : TkS (xi (E' 42) 0) (xi (E' 42) 1) (xi (E (64 * (ri14 E i + 1) + 6)) 4).toInt 64 (xi (E' 5) 9)) (h8 : (xi (E' 5) 8).toInt = if who.toInt = 0 then 97 else 98) (h7 : xi (E' 5) 7 = lawC cf E (xi (E (64 * (ri14 E i + 1) + 6)) 1) q) : k = 2 ↔ FndC cf E i who q s := by
  have ew : hWo cf E' = fun L => wV cf E (if who.toInt = 0 then 97 else 98) (lawC cf E (xi (E (64 * (ri14 E i + 1) + 6)) 1) q) L := hW_to h64 h8 h7
  have el : hLe E' (ri14 E i) = hLe E (ri14 E i) := hL_cg h64
  have hT' : TkS (xi (E' 42) 0) (xi (E' 42) 1) (((xi (E (64 * (ri14 E i + 1) + 6)) 4).toNatClampNeg : Nat) : Int) 64 (xi (E' 5) 9) := by
    rw [show (((xi (E (64 * (ri14 E i + 1) + 6)) 4).toNatClampNeg : Nat) : Int) = (xi (E (64 * (ri14 E i + 1) + 6)) 4).toInt by rw [tn_]; omega]
    exact hT
  refine sure_of hS hA hB g0 g1 hT' ?_ ?_
  · unfold fZ hZr
    rw [ew, el]
    exact Iff.rfl
  · unfold fN hNz
    rw [ew, el]
    exact Iff.rfl
theorem find_y {P : Prop} {k : Int} (h : k = 2 ↔ P) (e : k = 2) : (1 : Int32).toInt = 1 ↔ P := ⟨fun _ => h.mp e, fun _ => rfl⟩
theorem find_n {P : Prop} {k : Int} {r : Int32} (h : k = 2 ↔ P) (e : ¬ k = 2) (hr : ¬ r.toInt = 1) : r.toInt = 1 ↔ P := ⟨fun q => absurd q hr, fun q => absurd (h.mpr q) e⟩
theorem find_0 {cf : Nat → Nat} {E : Nat → va_E} {i : Nat} {who q : Int32} {s : Int} (h : ¬ (Sts (wcE E) (wdE E) (cf 4) (pA E i 0) (pA E i 1) q.toInt (pA E i 3) s ∧ Sts (wcE E) (wdE E) (cf 4) (pA E i 0) (pA E i 2) q.toInt (pA E i 3) s)) : (-1 : Int32).toInt = 1 ↔ FndC cf E i who q s := ⟨fun q => absurd q (by decide), fun q => absurd ⟨q.1, q.2.1⟩ h⟩
end

