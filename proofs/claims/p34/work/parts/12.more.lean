
theorem Pw.ef {E E' : Nat → va_E} {o j : Nat} {v : Value} (p : Pw E E' o j v) (c : Nat) (h : c ≠ o) : xi (E' c) = xi (E c) := funext (fun k => p.ei c k (fun q => h q.1))
theorem Pw.eu {E E' : Nat → va_E} {o j : Nat} {x : Int32} (p : Pw E E' o j (.int x)) : xi (E' o) = upd (xi (E o)) j x := funext (fun k => by
  by_cases h : k = j
  · subst h
    rw [pk_us]
    exact p.es
  · rw [pk_un h]
    exact p.ei o k (fun q => h q.2))
/-! ===== counts over rows ===== -/
theorem upd0 {g : Nat → Int32} {k j : Nat} (h : j = k ∨ g j = 0) : upd g k 0 j = 0 := by
  by_cases e : j = k
  · subst e
    exact pk_us
  · rw [pk_un e]
    exact h.resolve_left e
def thr (g : Nat → Int32) (b : Nat) : Nat → Nat
  | 0 => 0
  | n + 1 => thr g b n + (if g (16 * n + b) = 0 then 0 else 1)
theorem thr_0 {g : Nat → Int32} {b : Nat} : ∀ n, (∀ r, r < n → g (16 * r + b) = 0) → thr g b n = 0 := by
  intro n
  induction n with
  | zero => intro _; rfl
  | succ n ih =>
    intro h
    simp only [thr, ih (fun r hr => h r (by omega)), if_pos (h n (by omega))]
theorem thr_all {g : Nat → Int32} {b : Nat} : ∀ n, (∀ r, r < n → ¬ g (16 * r + b) = 0) → thr g b n = n := by
  intro n
  induction n with
  | zero => intro _; rfl
  | succ n ih =>
    intro h
    simp only [thr, ih (fun r hr => h r (by omega)), if_neg (h n (by omega))]
theorem thr_same {g : Nat → Int32} {b k : Nat} {x : Int32} : ∀ n, (∀ r, r < n → ¬ 16 * r + b = k) → thr (upd g k x) b n = thr g b n := by
  intro n
  induction n with
  | zero => intro _; rfl
  | succ n ih =>
    intro h
    simp only [thr, ih (fun r hr => h r (by omega)), pk_un (h n (by omega))]
theorem thr_upd {g : Nat → Int32} {b k : Nat} {x : Int32} : ∀ n, thr (upd g k x) b n ≤ thr g b n + 1 := by
  intro n
  induction n with
  | zero => exact Nat.zero_le _
  | succ n ih =>
    by_cases e : 16 * n + b = k
    · have h := thr_same (g := g) (b := b) (k := k) (x := x) n (fun r hr q => by omega)
      simp only [thr, h]
      split <;> split <;> omega
    · simp only [thr, pk_un e]
      omega
/-- the sum of the first ones, and how many of them are above 0 -/
def sumI (g : Nat → Int32) : Nat → Int
  | 0 => 0
  | n + 1 => sumI g n + (g n).toInt
def posI (g : Nat → Int32) : Nat → Nat
  | 0 => 0
  | n + 1 => posI g n + (if 0 < (g n).toInt then 1 else 0)
theorem sumI_pos {g : Nat → Int32} : ∀ n, (∀ j, j < n → 0 ≤ (g j).toInt) → (posI g n : Int) ≤ sumI g n := by
  intro n
  induction n with
  | zero => intro _; exact Int.le_refl 0
  | succ n ih =>
    intro h
    have h1 := ih (fun j hj => h j (by omega))
    have h2 := h n (by omega)
    simp only [sumI, posI]
    split <;> omega
theorem sumI_out {g : Nat → Int32} {k : Nat} {x : Int32} : ∀ n, n ≤ k → sumI (upd g k x) n = sumI g n ∧ posI (upd g k x) n = posI g n := by
  intro n
  induction n with
  | zero => intro _; exact ⟨rfl, rfl⟩
  | succ n ih =>
    intro h
    have h1 := ih (by omega)
    simp only [sumI, posI, h1.1, h1.2, pk_un (show n ≠ k by omega)]
    exact ⟨trivial, trivial⟩
theorem sumI_upd {g : Nat → Int32} {k : Nat} {x : Int32} : ∀ n, k < n → sumI (upd g k x) n = sumI g n - (g k).toInt + x.toInt ∧ (posI (upd g k x) n : Int) = posI g n - (if 0 < (g k).toInt then 1 else 0) + (if 0 < x.toInt then 1 else 0) := by
  intro n
  induction n with
  | zero => intro h; omega
  | succ n ih =>
    intro h
    by_cases e : k = n
    · subst e
      have h1 := sumI_out (g := g) (k := k) (x := x) k (Nat.le_refl _)
      simp only [sumI, posI, h1.1, h1.2, pk_us]
      constructor
      · omega
      · split <;> split <;> omega
    · have h1 := ih (by omega)
      have e2 : n ≠ k := fun q => e q.symm
      simp only [sumI, posI, h1.1, pk_un e2]
      have h2 := h1.2
      constructor
      · omega
      · split <;> omega
