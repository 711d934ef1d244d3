

/-! ===== SCORES of the reference (pure) ===== -/
theorem PpM.b {E : Nat → va_E} {race boat q : Int32} {p : Int} (h : PpM E race boat q p) : 0 ≤ p ∧ p ≤ 10000 := by
  obtain ⟨c, pl, e, f, -, -, -, -, -, e9⟩ := h
  rw [e9]
  exact clamp_b _
theorem PtM.b {E : Nat → va_E} {race boat q : Int32} {p : Int} (h : PtM E race boat q p) : 0 ≤ p ∧ p ≤ 10000 := by
  by_cases r : redM E race.toInt boat.toInt q.toInt
  · obtain ⟨s, m, h2, h3, h4⟩ := h.2 r
    obtain ⟨a1, a2, a3⟩ := sm_cn (fun _ _ hv => PpM.b hv) _ _ _ h2 h3
    rw [h4]
    exact meanI_b a1 a2 a3
  · exact (h.1 r).b
theorem WsI.low2 {p : Nat → Int} {t : Nat → Int32} {k k' : Nat} {w m : Int} (h : WsI p t k w m) (hw : ¬ w = -1) (hl : p k < p w.toNat) (ek : k' = k + 1) : WsI p t k' w m := by
  have e := h.get hw
  subst ek
  rcases h with ⟨h1, h2, h3⟩ | ⟨j, h1, h2, h3, h4, h5⟩
  · exact absurd h1 hw
  · refine Or.inr ⟨j, h1, by omega, h3, h4, fun r hr z => ?_⟩
    by_cases q : r = k
    · rw [q]
      omega
    · exact h5 r (by omega) z
/-- what stands of a BOAT before anything is thrown out -/
def ScI (Pt : Nat → Nat → Int → Prop) (Sc : Nat → Prop) (K : Nat) (P T S : Nat → Int32) (b : Nat) : Prop := (∀ r, r < K → Pt r b (P (16 * r + b)).toInt) ∧ ((S b).toInt = 1 ↔ Sc b) ∧ ∀ r, r < K → T (16 * r + b) = 0
theorem ScI.next {Pt : Nat → Nat → Int → Prop} {Sc : Nat → Prop} {K : Nat} {P T S P' T' S' : Nat → Int32} {k k' : Int32} (h : ∀ b, b < k.toNatClampNeg → ScI Pt Sc K P T S b) (fp : Frm P P' k.toNatClampNeg) (ft : Frm T T' k.toNatClampNeg) (es : ∀ b, ¬ b = k.toNatClampNeg → S' b = S b) (hp : ∀ r, r < K → Pt r k.toNatClampNeg (P' (16 * r + k.toNatClampNeg)).toInt) (hs : (S' k.toNatClampNeg).toInt = 1 ↔ Sc k.toNatClampNeg) (ht : ∀ r, r < K → T' (16 * r + k.toNatClampNeg) = 0) (ek : k'.toInt = k.toInt + 1) (h0 : 0 ≤ k.toInt ∧ k.toInt < 16) : ∀ b, b < k'.toNatClampNeg → ScI Pt Sc K P' T' S' b := fun b hb => by
  have e1 : k'.toNatClampNeg = k.toNatClampNeg + 1 := by
    rw [tn_, tn_]
    omega
  have e2 : k.toNatClampNeg < 16 := by
    rw [tn_]
    omega
  by_cases q : b = k.toNatClampNeg
  · subst q
    exact ⟨hp, hs, ht⟩
  · obtain ⟨a1, a2, a3⟩ := h b (by omega)
    refine ⟨fun r hr => ?_, ?_, fun r hr => ?_⟩
    · rw [fp r b (by omega) q]
      exact a1 r hr
    · rw [es b q]
      exact a2
    · rw [ft r b (by omega) q]
      exact a3 r hr
/-- one more RACE in which it may be entered -/
def EnK (E : Nat → va_E) (q : Int) (k b : Nat) : Prop := ∃ r, r < k ∧ entMd E ((r : Nat) : Int) ((b : Nat) : Int) q
theorem EnK.y {E : Nat → va_E} {q : Int} {k k' b : Nat} {v : Int} (h : EnK E q k b) (e : v = 1) (ek : k' = k + 1) : v = 1 ↔ EnK E q k' b := by
  subst ek
  obtain ⟨r, h1, h2⟩ := h
  exact ⟨fun _ => ⟨r, by omega, h2⟩, fun _ => e⟩
theorem EnK.new {E : Nat → va_E} {q : Int} {k k' b : Nat} {v : Int} (h : entMd E ((k : Nat) : Int) ((b : Nat) : Int) q) (e : v = 1) (ek : k' = k + 1) : v = 1 ↔ EnK E q k' b := by
  subst ek
  exact ⟨fun _ => ⟨k, by omega, h⟩, fun _ => e⟩
theorem EnK.no {E : Nat → va_E} {q : Int} {k k' b : Nat} {v : Int} (h : ¬ EnK E q k b) (h' : ¬ entMd E ((k : Nat) : Int) ((b : Nat) : Int) q) (e : v = 0) (ek : k' = k + 1) : v = 1 ↔ EnK E q k' b := by
  subst ek
  refine ⟨fun z => by omega, fun ⟨r, h1, h2⟩ => ?_⟩
  exfalso
  by_cases c : r = k
  · rw [c] at h2
    exact h' h2
  · exact h ⟨r, by omega, h2⟩
theorem tt_s {p : Nat → Int} {t : Nat → Int32} {k k' : Nat} {s s' v : Int} {y : Int32} (h : s = sumF (ttF p t) k) (ey : y = t k) (hv : (y.toInt = 0 ∧ v = p k) ∨ (¬ y.toInt = 0 ∧ v = 0)) (e : s' = s + v) (ek : k' = k + 1) : s' = sumF (ttF p t) k' := by
  subst ek
  show s' = sumF (ttF p t) k + ttF p t k
  have e2 : ttF p t k = v := by
    unfold ttF
    rw [← ey]
    rcases hv with ⟨h1, h2⟩ | ⟨h1, h2⟩
    · rw [if_pos (Int32.toInt_inj.mp h1), h2]
    · rw [if_neg (fun z => h1 (by rw [z]; rfl)), h2]
  rw [e2, e, h]
def TaM (E : Nat → va_E) (q K o : Int32) (P T S O : Nat → Int32) : Prop := ((0 ≤ K.toInt ∧ K.toInt ≤ (xi (E 0) 46).toInt) ∧ (∀ r9 : Nat, (r9 : Int) < K.toInt → (xi (E 20) r9).toInt ≤ q.toInt) ∧ (K.toInt = (xi (E 0) 46).toInt ∨ ¬ (xi (E 20) K.toNatClampNeg).toInt ≤ q.toInt)) ∧ o.toInt = max 0 (min (K.toInt - 1) (wML (lset lz 7 K) E 116 (lawM E q q)).toInt) ∧ ScA (fun r9 b9 p9 => PtM E (nI r9) (nI b9) q p9) (EnK E q.toInt K.toNatClampNeg) (xi (E 0) 8).toNatClampNeg K.toNatClampNeg o.toNatClampNeg P T S O
theorem TaM.ke {E : Nat → va_E} {q K o : Int32} {P T S O : Nat → Int32} (h : TaM E q K o P T S O) (h20 : (xi (E 0) 46).toInt ≤ 20) : ∀ x y : Nat, x < (xi (E 0) 8).toNatClampNeg → y < (xi (E 0) 8).toNatClampNeg → KeQ P T K.toNatClampNeg x y := fun x y hx hy n n' g g' k1 k2 => by
  obtain ⟨⟨hK, -, -⟩, -, hs⟩ := h
  have hK20 : K.toNatClampNeg ≤ 20 := by
    rw [tn_]
    omega
  have a1 := KpR.num k1 (hs x hx).2.2.1 hK20
  have a2 := KpR.num k2 (hs y hy).2.2.1 hK20
  omega

