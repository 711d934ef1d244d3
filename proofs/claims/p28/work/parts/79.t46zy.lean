

/-! ===== FIT (pure) ===== -/
def FtR (P : Nat → Prop) (F : Int → Nat → Int → Prop) (R : Nat) (fit : Int) : Prop := ((∀ r, r < R → ¬ P r) → fit = -1) ∧ ((∃ r, r < R ∧ P r) → ∃ S : Int → Int, (∀ v, 500 ≤ v → v ≤ 2000 → SmR P (F v) R (S v)) ∧ (500 ≤ fit ∧ fit ≤ 2000) ∧ (∀ v, 500 ≤ v → v < fit → S fit < S v) ∧ ∀ v, fit ≤ v → v ≤ 2000 → S fit ≤ S v)
theorem FtR.un {P P' : Nat → Prop} {F F' : Int → Nat → Int → Prop} {R : Nat} {f f' : Int} (h : FtR P F R f) (h' : FtR P' F' R f') (e : ∀ r, r < R → (P r ↔ P' r)) (t : ∀ v, 500 ≤ v → v ≤ 2000 → ∀ r, r < R → P r → ∀ x x', F v r x → F' v r x' → x = x') : f = f' := by
  by_cases o : ∃ r, r < R ∧ P r
  · have o' : ∃ r, r < R ∧ P' r := by
      obtain ⟨r, h1, h2⟩ := o
      exact ⟨r, h1, (e r h1).mp h2⟩
    obtain ⟨S, s1, s2, s3, s4⟩ := h.2 o
    obtain ⟨S', q1, q2, q3, q4⟩ := h'.2 o'
    have es : ∀ v, 500 ≤ v → v ≤ 2000 → S v = S' v := fun v h1 h2 => SmR.un R _ _ (s1 v h1 h2) (q1 v h1 h2) e (t v h1 h2)
    by_cases c : f < f'
    · have a1 := q3 f s2.1 c
      have a2 := s4 f' (by omega) q2.2
      rw [es f' q2.1 q2.2, es f s2.1 s2.2] at a2
      omega
    · by_cases c2 : f' < f
      · have a1 := s3 f' q2.1 c2
        have a2 := q4 f (by omega) s2.2
        rw [es f' q2.1 q2.2, es f s2.1 s2.2] at a1
        omega
      · omega
  · rw [h.1 (fun r h1 h2 => o ⟨r, h1, h2⟩), h'.1 (fun r h1 h2 => o ⟨r, h1, (e r h1).mpr h2⟩)]
/-- the least so far -/
def FtI (S : Int → Int) (v least fit : Int) : Prop := (v = 500 ∧ fit = -1) ∨ ((500 ≤ fit ∧ fit < v) ∧ least = S fit ∧ (∀ w, 500 ≤ w → w < fit → S fit < S w) ∧ ∀ w, fit ≤ w → w < v → S fit ≤ S w)
theorem FtI.start {S : Int → Int} {v least fit : Int} (h : v = 500) (h2 : fit = -1) : FtI S v least fit := Or.inl ⟨h, h2⟩
theorem FtI.no {S : Int → Int} {v v' least fit : Int} (h : FtI S v least fit) (hv : 500 ≤ v) (hn : ¬ v = 500) (hs : least ≤ S v) (e : v' = v + 1) : FtI S v' least fit := by
  subst e
  rcases h with ⟨h1, -⟩ | ⟨h1, h2, h3, h4⟩
  · exact absurd h1 hn
  · refine Or.inr ⟨⟨h1.1, by omega⟩, h2, h3, fun w q1 q2 => ?_⟩
    by_cases q : w = v
    · subst q
      omega
    · exact h4 w q1 (by omega)
theorem FtI.yes {S : Int → Int} {v v' least fit least' : Int} (h : FtI S v least fit) (hv : 500 ≤ v) (hs : ¬ v = 500 → S v < least) (el : least' = S v) (e : v' = v + 1) : FtI S v' least' v := by
  subst e
  refine Or.inr ⟨⟨hv, by omega⟩, el, fun w q1 q2 => ?_, fun w q1 q2 => ?_⟩
  · rcases h with ⟨h1, -⟩ | ⟨h1, h2, h3, h4⟩
    · omega
    · have h9 := hs (by omega)
      by_cases q : w < fit
      · have := h3 w q1 q
        omega
      · have := h4 w (by omega) q2
        omega
  · have e : w = v := by omega
    subst e
    exact Int.le_refl _
theorem FtI.fin {S : Int → Int} {v least fit : Int} (h : FtI S v least fit) (hv : v = 2001) : (500 ≤ fit ∧ fit ≤ 2000) ∧ (∀ w, 500 ≤ w → w < fit → S fit < S w) ∧ ∀ w, fit ≤ w → w ≤ 2000 → S fit ≤ S w := by
  rcases h with ⟨h1, -⟩ | ⟨h1, h2, h3, h4⟩
  · omega
  · exact ⟨by omega, h3, fun w q1 q2 => h4 w q1 (by omega)⟩
/-- how far a number is from the MIDDLE of a RACE -/
def tFt (s m : Int32) (v : Int) : Int := ab (s.toInt * v / 1000 - m.toInt)
theorem tFt_nn {s m : Int32} {v : Int} : 0 ≤ tFt s m v := ab_0 _
theorem GaG.fit {E : Nat → va_E} {b R n : Nat} {c m o : Nat → Int32} {v least fit : Int} (h : GaG E b R n c m) (ho : ∀ i, i < n → o i = xi (E 44) (16 * (c i).toNatClampNeg + b)) (hn : 0 < n) (hf : FtI (fun v9 : Int => sumF (fun i9 => tFt (o i9) (m i9) v9) n) v least fit) (hv : v = 2001) : FtR (ctO E b) (fun v9 r9 x9 => ∃ m9 : Int32, MdO E r9 b m9 ∧ x9 = tFt (xi (E 44) (16 * r9 + b)) m9 v9) R fit := by
  obtain ⟨h1, h2, h3⟩ := h
  refine ⟨fun z => absurd (h1.1 0 hn).2 (z _ (h1.1 0 hn).1), fun _ => ?_⟩
  obtain ⟨f1, f2, f3⟩ := hf.fin hv
  refine ⟨fun v9 : Int => sumF (fun i9 => tFt (o i9) (m i9) v9) n, fun w _ _ => ?_, f1, f2, f3⟩
  -- the terms by RACE
  have pick : ∀ r, ∃ x : Int, (∀ i, i < n → (c i).toNatClampNeg = r → x = tFt (o i) (m i) w) := fun r => by
    by_cases q : ∃ i, i < n ∧ (c i).toNatClampNeg = r
    · obtain ⟨i, hi, ei⟩ := q
      refine ⟨tFt (o i) (m i) w, fun j hj ej => ?_⟩
      by_cases e : i = j
      · subst e
        rfl
      · exfalso
        rcases Nat.lt_or_gt_of_ne e with g | g
        · exact h1.2.2 i j g hj (ei.trans ej.symm)
        · exact h1.2.2 j i g hi (ej.trans ei.symm)
    · exact ⟨0, fun i hi ei => absurd ⟨i, hi, ei⟩ q⟩
  obtain ⟨f, hfx⟩ := Classical.axiomOfChoice pick
  have e : sumF (fun i9 => tFt (o i9) (m i9) w) n = sumF (fun i9 => f ((fun i => (c i).toNatClampNeg) i9)) n := sumF_cg n (fun i hi => (hfx _ i hi rfl).symm)
  show SmR _ _ R (sumF (fun i9 => tFt (o i9) (m i9) w) n)
  rw [e]
  refine (h1.sum f).cg R _ (fun _ _ => Iff.rfl) (fun r hr hp x hx => ?_)
  obtain ⟨i, hi, ei⟩ := h1.2.1 r hr hp
  have ei' : (c i).toNatClampNeg = r := ei
  refine ⟨m i, ?_, ?_⟩
  · have h9 := h3 i hi
    rw [ei'] at h9
    exact h9
  · rw [hx, hfx r i hi ei', ho i hi, ei']

