

/-! ===== the TAPE, and when RULES are told and from when ===== -/
def TP (cf : Nat → Nat) (E EM : Nat → va_E) : Prop := tN E = lMn EM ∧ tT E = fM EM ∧ (xi (EM 0) 17).toInt = ((cf 1 : Nat) : Int) ∧ ∀ i, i < cf 1 → xi (E (64 * (i + 1) + 1)) 0 = xi (EM 10) i ∧ xi (E (64 * (i + 1) + 1)) 1 = xi (EM 11) i
def REL4 (cf : Nat → Nat) (E EM : Nat → va_E) : Prop := REL cf E EM ∧ TP cf E EM
theorem TP.keep {cf cf' : Nat → Nat} {E E' EM EM' : Nat → va_E} (h : TP cf E EM) (hc : cf' 1 = cf 1) (h1 : xi (E' 2) 1 = xi (E 2) 1) (h21 : ∀ j, xi (E' 21) j = xi (E 21) j) (hp : ∀ i j, i < cf 1 → xi (E' (64 * (i + 1) + 1)) j = xi (E (64 * (i + 1) + 1)) j) (m16 : xi (EM' 0) 16 = xi (EM 0) 16) (m17 : xi (EM' 0) 17 = xi (EM 0) 17) (m7 : ∀ j, xi (EM' 7) j = xi (EM 7) j) (mf : ∀ j, xi (EM' 10) j = xi (EM 10) j) (mt : ∀ j, xi (EM' 11) j = xi (EM 11) j) : TP cf' E' EM' := by
  obtain ⟨a1, a2, a3, a4⟩ := h
  have e1 : tN E' = tN E := congrArg Int32.toNatClampNeg h1
  have e2 : tT E' = tT E := funext (fun j => congrArg Int32.toInt (h21 j))
  have e3 : lMn EM' = lMn EM := congrArg Int32.toNatClampNeg m16
  have e4 : fM EM' = fM EM := funext (fun j => by unfold fM; rw [m7])
  refine ⟨by rw [e1, e3]; exact a1, by rw [e2, e4]; exact a2, by rw [m17, hc]; exact a3, fun i hi => ?_⟩
  rw [hc] at hi
  rw [hp i 0 hi, hp i 1 hi, mf, mt]
  exact a4 i hi
theorem TP.text {cf : Nat → Nat} {E EM : Nat → va_E} (h : TP cf E EM) : textS false (tT E) (tN E) = textS true (mB (xi (EM 7)) 0) (xi (EM 0) 16).toNatClampNeg := by
  obtain ⟨a1, a2, -, -⟩ := h
  rw [text_eq, a1, a2]
  have e : fM EM = mB (xi (EM 7)) 0 := funext (fun j => by
    show (xi (EM 7) j).toInt % 256 = (xi (EM 7) (0 + j)).toInt % 256
    rw [Nat.zero_add])
  rw [e]
  rfl
theorem made_f {J : Nat} {cT : Nat → ClassId} {cf ad : Nat → Nat} {w : Nat → Nat → Bool} {E : Nat → va_E} {u : (Nat → Nat) × (Nat → Nat) × (Nat → va_E)} {No : Prop} {Yes : va_E → Prop} (h : Made J cT cf ad w E u No Yes) {o j : Nat} (ho : o ≠ 7 + J ∧ o ≠ 13 + J ∧ o < 64) (hw : w o j = false) : xi (u.2.2 o) j = xi (E o) j := by
  obtain ⟨h1, h2, ⟨h3, h4, h5, -⟩ | ⟨h3, h4, h5, -⟩⟩ := h
  · exact congrArg vi (h5 o j hw)
  · exact congrArg vi (h5 o j ho.1 ho.2.1 (fun t _ _ => by omega) hw)
theorem madeX_f {J : Nat} {cT : Nat → ClassId} {cf ad : Nat → Nat} {w : Nat → Nat → Bool} {E : Nat → va_E} {u : (Nat → Nat) × (Nat → Nat) × (Nat → va_E)} {No : Prop} {Yes : (Nat → Nat) × (Nat → Nat) × (Nat → va_E) → Prop} (h : MadeX J cT cf ad w E u No Yes) {o j : Nat} (ho : o ≠ 7 + J ∧ o ≠ 13 + J ∧ o < 64) (hw : w o j = false) : xi (u.2.2 o) j = xi (E o) j := by
  obtain ⟨h1, h2, ⟨h3, h4, h5, -⟩ | ⟨h3, h4, h5, -⟩⟩ := h
  · exact congrArg vi (h5 o j hw)
  · exact congrArg vi (h5 o j ho.1 ho.2.1 (fun t _ _ => by omega) hw)
theorem TP.feed {cf : Nat → Nat} {E E' EM EM' : Nat → va_E} {l : List Int} (h : TP cf E EM) (hc : FedC l E E') (hm : FedM l EM EM') (hp : ∀ i j, i < cf 1 → xi (E' (64 * (i + 1) + 1)) j = xi (E (64 * (i + 1) + 1)) j) (m17 : xi (EM' 0) 17 = xi (EM 0) 17) (mf : ∀ j, xi (EM' 10) j = xi (EM 10) j) (mt : ∀ j, xi (EM' 11) j = xi (EM 11) j) : TP cf E' EM' := by
  obtain ⟨a1, a2, a3, a4⟩ := h
  obtain ⟨b1, b2⟩ := Fed.al hc hm a1 a2
  refine ⟨b1, b2, by rw [m17]; exact a3, fun i hi => ?_⟩
  rw [hp i 0 hi, hp i 1 hi, mf, mt]
  exact a4 i hi
theorem TP.set {cf : Nat → Nat} {E E' EM EM' : Nat → va_E} (h : TP cf E EM) (h1 : tN E' = lMn EM') (h21 : ∀ j, xi (E' 21) j = xi (E 21) j) (hp : ∀ i j, i < cf 1 → xi (E' (64 * (i + 1) + 1)) j = xi (E (64 * (i + 1) + 1)) j) (m17 : xi (EM' 0) 17 = xi (EM 0) 17) (m7 : ∀ j, xi (EM' 7) j = xi (EM 7) j) (mf : ∀ j, xi (EM' 10) j = xi (EM 10) j) (mt : ∀ j, xi (EM' 11) j = xi (EM 11) j) : TP cf E' EM' := by
  obtain ⟨a1, a2, a3, a4⟩ := h
  have e2 : tT E' = tT E := funext (fun j => congrArg Int32.toInt (h21 j))
  have e4 : fM EM' = fM EM := funext (fun j => by unfold fM; rw [m7])
  refine ⟨h1, by rw [e2, e4]; exact a2, by rw [m17]; exact a3, fun i hi => ?_⟩
  rw [hp i 0 hi, hp i 1 hi, mf, mt]
  exact a4 i hi
theorem TP.push {cf cf' : Nat → Nat} {E E' EM EM' : Nat → va_E} {a t n : Int32} (h : TP cf E EM) (hc : cf' 1 = cf 1 + 1) (h1 : tN E' = lMn EM') (h21 : ∀ j, xi (E' 21) j = xi (E 21) j) (hp : ∀ i j, i < cf 1 → xi (E' (64 * (i + 1) + 1)) j = xi (E (64 * (i + 1) + 1)) j) (hn : n = xi (EM 0) 17) (m17 : (xi (EM' 0) 17).toInt = n.toInt + 1) (m7 : ∀ j, xi (EM' 7) j = xi (EM 7) j) (c0 : xi (E' (64 * (cf 1 + 1) + 1)) 0 = a) (c1 : xi (E' (64 * (cf 1 + 1) + 1)) 1 = t) (mf : xi (EM' 10) = upd (xi (EM 10)) n.toNatClampNeg a) (mt : xi (EM' 11) = upd (xi (EM 11)) n.toNatClampNeg t) : TP cf' E' EM' := by
  obtain ⟨a1, a2, a3, a4⟩ := h
  have e2 : tT E' = tT E := funext (fun j => congrArg Int32.toInt (h21 j))
  have e4 : fM EM' = fM EM := funext (fun j => by unfold fM; rw [m7])
  have hN : n.toNatClampNeg = cf 1 := by
    rw [tn_, hn]
    omega
  refine ⟨h1, by rw [e2, e4]; exact a2, by rw [m17, hc, hn]; omega, fun i hi => ?_⟩
  rw [hc] at hi
  rw [mf, mt, hN]
  by_cases e : i = cf 1
  · subst e
    rw [pk_us, pk_us]
    exact ⟨c0, c1⟩
  · rw [hp i 0 (by omega), hp i 1 (by omega), upd_n e, upd_n e]
    exact a4 i (by omega)

