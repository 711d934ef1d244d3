


/-! ===== what a TEXT says: readers over bytes ===== -/
def PR (α : Type) : Type := Sum Nat (Nat × α)
def PR.bad {α : Type} (i : Nat) : PR α := Sum.inl i
def PR.good {α : Type} (a : Nat) (c : α) : PR α := Sum.inr (a, c)
def PR.andThen {α β : Type} : PR α → (Nat → α → PR β) → PR β
  | Sum.inl i, _ => .bad i
  | Sum.inr (a, c), f => f a c
theorem good_inj {α : Type} {a a2 : Nat} {c c2 : α} (h : PR.good a c = PR.good a2 c2) : a = a2 := congrArg Prod.fst (Sum.inr.inj h)
theorem bad_no {α : Type} {i a : Nat} {c : α} (h : PR.bad i = PR.good a c) : False := Sum.inl_ne_inr h
/-- the next place that is no blank -/
def skF (t : Nat → Int) (n : Nat) : Nat → Nat → Nat
  | 0, a => a
  | f + 1, a => if a < n ∧ t a = 32 then skF t n f (a + 1) else a
def sk (t : Nat → Int) (n a : Nat) : Nat := skF t n (n - a) a
def pk (t : Nat → Int) (n a : Nat) : Int := if sk t n a < n then t (sk t n a) else -1
theorem sk_1 {t : Nat → Int} {n a : Nat} (h : a < n ∧ t a = 32) : sk t n a = sk t n (a + 1) := by
  unfold sk
  rw [show n - a = (n - (a + 1)) + 1 by omega]
  exact if_pos h
theorem sk_0 {t : Nat → Int} {n a : Nat} (h : ¬ (a < n ∧ t a = 32)) : sk t n a = a := by
  unfold sk
  cases n - a with
  | zero => rfl
  | succ f => exact if_neg h
theorem skF_ge {t : Nat → Int} {n : Nat} : ∀ f a, a ≤ skF t n f a := by
  intro f
  induction f with
  | zero => exact fun a => Nat.le_refl _
  | succ f ih =>
    intro a
    by_cases h : a < n ∧ t a = 32
    · rw [show skF t n (f + 1) a = skF t n f (a + 1) from if_pos h]
      exact Nat.le_trans (Nat.le_succ _) (ih (a + 1))
    · rw [show skF t n (f + 1) a = a from if_neg h]
      exact Nat.le_refl _
theorem sk_ge (t : Nat → Int) (n a : Nat) : a ≤ sk t n a := skF_ge _ _
theorem skF_st {t : Nat → Int} {n : Nat} : ∀ f a, n - a ≤ f → ¬ (skF t n f a < n ∧ t (skF t n f a) = 32) := by
  intro f
  induction f with
  | zero =>
    intro a h9 h
    have h8 : skF t n 0 a = a := rfl
    rw [h8] at h
    omega
  | succ f ih =>
    intro a h9
    by_cases h : a < n ∧ t a = 32
    · rw [show skF t n (f + 1) a = skF t n f (a + 1) from if_pos h]
      exact ih (a + 1) (by omega)
    · rw [show skF t n (f + 1) a = a from if_neg h]
      exact h
theorem sk_st (t : Nat → Int) (n a : Nat) : ¬ (sk t n a < n ∧ t (sk t n a) = 32) := skF_st _ _ (Nat.le_refl _)
theorem sk_sk (t : Nat → Int) (n a : Nat) : sk t n (sk t n a) = sk t n a := sk_0 (sk_st t n a)
theorem pk_sk (t : Nat → Int) (n a : Nat) : pk t n (sk t n a) = pk t n a := by
  unfold pk
  rw [sk_sk]
theorem pk_ge {t : Nat → Int} {n a : Nat} (h : n ≤ a) : pk t n a = -1 := if_neg (by have := sk_ge t n a; omega)
theorem pk_dg {t : Nat → Int} {n a : Nat} (h : a < n) (h1 : ¬ t a = 32) : pk t n a = t a := by
  unfold pk
  rw [sk_0 (fun q => h1 q.2), if_pos h]
/-- what stands behind signs of a kind, one behind another -/
def opF {α : Type} (t : Nat → Int) (n : Nat) (op : Int → Bool) (cb : α → Int → α → α) (rd : Nat → PR α) : Nat → Nat → α → PR α
  | 0, a, c => .good (sk t n a) c
  | f + 1, a, c => if op (pk t n a) = true then (rd (sk t n a + 1)).andThen (fun a2 c2 => opF t n op cb rd f a2 (cb c (pk t n a) c2)) else .good (sk t n a) c
def opL {α : Type} (t : Nat → Int) (n : Nat) (op : Int → Bool) (cb : α → Int → α → α) (rd : Nat → PR α) (a : Nat) (c : α) : PR α := opF t n op cb rd (n + 1 - a) a c
def Mono {α : Type} (rd : Nat → PR α) : Prop := ∀ x a c, rd x = .good a c → x ≤ a
theorem opF_ind {α : Type} {t : Nat → Int} {n : Nat} {op : Int → Bool} {cb : α → Int → α → α} {rd : Nat → PR α} (hm : Mono rd) (hop : op (-1) = false) : ∀ m f g a c, f ≤ m → g ≤ m → n + 1 - a ≤ f → n + 1 - a ≤ g → opF t n op cb rd f a c = opF t n op cb rd g a c := by
  intro m
  induction m with
  | zero =>
    intro f g a c hf hg _ _
    rw [show f = 0 by omega, show g = 0 by omega]
  | succ m ih =>
    intro f g a c hf hg h1 h2
    have z : n + 1 - a = 0 → ∀ k, opF t n op cb rd k a c = .good (sk t n a) c := by
      intro h k
      cases k with
      | zero => rfl
      | succ k => exact if_neg (by rw [pk_ge (by omega), hop]; decide)
    cases f with
    | zero => rw [z (by omega) 0, z (by omega) g]
    | succ f =>
      cases g with
      | zero => rw [z (by omega) 0, z (by omega) (f + 1)]
      | succ g =>
        by_cases c1 : op (pk t n a) = true
        · rw [show opF t n op cb rd (f + 1) a c = (rd (sk t n a + 1)).andThen (fun a2 c2 => opF t n op cb rd f a2 (cb c (pk t n a) c2)) from if_pos c1, show opF t n op cb rd (g + 1) a c = (rd (sk t n a + 1)).andThen (fun a2 c2 => opF t n op cb rd g a2 (cb c (pk t n a) c2)) from if_pos c1]
          rcases hr : rd (sk t n a + 1) with i | ⟨a2, c2⟩
          · rfl
          · 
            have h5 := hm _ _ _ hr
            have h6 := sk_ge t n a
            exact ih f g a2 _ (by omega) (by omega) (by omega) (by omega)
        · rw [show opF t n op cb rd (f + 1) a c = .good (sk t n a) c from if_neg c1, show opF t n op cb rd (g + 1) a c = .good (sk t n a) c from if_neg c1]
theorem opL_1 {α : Type} {t : Nat → Int} {n : Nat} {op : Int → Bool} {cb : α → Int → α → α} {rd : Nat → PR α} (hm : Mono rd) (hop : op (-1) = false) {a : Nat} {c : α} (h : op (pk t n a) = true) : opL t n op cb rd a c = (rd (sk t n a + 1)).andThen (fun a2 c2 => opL t n op cb rd a2 (cb c (pk t n a) c2)) := by
  have h1 : a < n + 1 := by
    by_cases q : a < n + 1
    · exact q
    · rw [pk_ge (by omega), hop] at h
      exact absurd h (by decide)
  unfold opL
  rw [show n + 1 - a = (n - a) + 1 by omega]
  refine (if_pos h).trans ?_
  rcases hr : rd (sk t n a + 1) with i | ⟨a2, c2⟩
  · rfl
  · 
    have h5 := hm _ _ _ hr
    have h6 := sk_ge t n a
    exact opF_ind hm hop (n - a) _ _ a2 _ (by omega) (by omega) (by omega) (by omega)
theorem opL_0 {α : Type} {t : Nat → Int} {n : Nat} {op : Int → Bool} {cb : α → Int → α → α} {rd : Nat → PR α} {a : Nat} {c : α} (h : ¬ op (pk t n a) = true) : opL t n op cb rd a c = .good (sk t n a) c := by
  unfold opL
  cases n + 1 - a with
  | zero => rfl
  | succ k => exact if_neg h
theorem opF_mono {α : Type} {t : Nat → Int} {n : Nat} {op : Int → Bool} {cb : α → Int → α → α} {rd : Nat → PR α} (hm : Mono rd) : ∀ f a c a2 c2, opF t n op cb rd f a c = .good a2 c2 → a ≤ a2 := by
  intro f
  induction f with
  | zero =>
    intro a c a2 c2 h
    have h1 : PR.good (sk t n a) c = PR.good a2 c2 := h
    have h2 := good_inj h1
    rw [← h2]
    exact sk_ge t n a
  | succ f ih =>
    intro a c a2 c2 h
    by_cases c1 : op (pk t n a) = true
    · rw [show opF t n op cb rd (f + 1) a c = (rd (sk t n a + 1)).andThen (fun a2 c2 => opF t n op cb rd f a2 (cb c (pk t n a) c2)) from if_pos c1] at h
      rcases hr : rd (sk t n a + 1) with i | ⟨a3, c3⟩
      · 
        rw [hr] at h
        exact (bad_no h).elim
      · 
        rw [hr] at h
        have h5 := hm _ _ _ hr
        have h6 := sk_ge t n a
        have h7 := ih _ _ _ _ h
        omega
    · rw [show opF t n op cb rd (f + 1) a c = .good (sk t n a) c from if_neg c1] at h
      have h2 := good_inj h
      rw [← h2]
      exact sk_ge t n a
theorem opL_mono {α : Type} {t : Nat → Int} {n : Nat} {op : Int → Bool} {cb : α → Int → α → α} {rd : Nat → PR α} (hm : Mono rd) {a : Nat} {c : α} {a2 : Nat} {c2 : α} (h : opL t n op cb rd a c = .good a2 c2) : a ≤ a2 := opF_mono hm _ _ _ _ _ h
theorem andThen_mono {α β : Type} {x : Nat} {r : PR α} {f : Nat → α → PR β} (h1 : ∀ a c, r = .good a c → x ≤ a) (h2 : ∀ a c a2 c2, r = .good a c → f a c = .good a2 c2 → a ≤ a2) : ∀ a c, r.andThen f = .good a c → x ≤ a := by
  intro a c h
  rcases hr : r with i | ⟨a1, c1⟩
  · 
    rw [hr] at h
    exact (bad_no h).elim
  · 
    rw [hr] at h
    exact Nat.le_trans (h1 a1 c1 hr) (h2 a1 c1 a c hr h)
/-- a sign that must stand there -/
def clo {α : Type} (t : Nat → Int) (n : Nat) (s : Int) (a : Nat) (c : α) : PR α := if pk t n a = s then .good (sk t n a + 1) c else .bad (sk t n a)
theorem clo_mono {α : Type} {t : Nat → Int} {n : Nat} {s : Int} {a : Nat} {c : α} {a2 : Nat} {c2 : α} (h : clo t n s a c = .good a2 c2) : a ≤ a2 := by
  unfold clo at h
  by_cases e : pk t n a = s
  · rw [if_pos e] at h
    have h2 := good_inj h
    have := sk_ge t n a
    omega
  · rw [if_neg e] at h
    exact (bad_no h).elim
/-- a number: at most five signs; b: a sixth is amiss at once -/
abbrev dgt (c : Int) : Prop := 48 ≤ c ∧ c ≤ 57
def numF (t : Nat → Int) (n : Nat) : Nat → Nat → Int → Nat × Int
  | 0, a, v => (a, v)
  | f + 1, a, v => if a < n ∧ dgt (t a) then numF t n f (a + 1) (10 * v + (t a - 48)) else (a, v)
theorem numF_ge {t : Nat → Int} {n : Nat} : ∀ f a v, a ≤ (numF t n f a v).1 := by
  intro f
  induction f with
  | zero => exact fun a v => Nat.le_refl _
  | succ f ih =>
    intro a v
    by_cases h : a < n ∧ dgt (t a)
    · rw [show numF t n (f + 1) a v = numF t n f (a + 1) (10 * v + (t a - 48)) from if_pos h]
      exact Nat.le_trans (Nat.le_succ _) (ih (a + 1) _)
    · rw [show numF t n (f + 1) a v = (a, v) from if_neg h]
      exact Nat.le_refl _
def numS (b : Bool) (t : Nat → Int) (n a : Nat) : PR (List Int) := if b = true ∧ (numF t n 5 a 0).1 < n ∧ dgt (t (numF t n 5 a 0).1) then .bad (numF t n 5 a 0).1 else .good (numF t n 5 a 0).1 [(numF t n 5 a 0).2]
theorem numS_mono {b : Bool} {t : Nat → Int} {n : Nat} : Mono (numS b t n) := by
  intro x a c h
  unfold numS at h
  by_cases e : b = true ∧ (numF t n 5 x 0).1 < n ∧ dgt (t (numF t n 5 x 0).1)
  · rw [if_pos e] at h
    exact (bad_no h).elim
  · rw [if_neg e] at h
    have h2 := good_inj h
    rw [← h2]
    exact numF_ge _ _ _
def lets : List Int := [108, 115, 119, 107, 114, 101, 102, 99, 100, 103, 104, 117, 109, 111]
def isLet (c : Int) : Bool := lets.contains c
def isMul (c : Int) : Bool := ([42, 47] : List Int).contains c
def isAdd (c : Int) : Bool := ([43, 45] : List Int).contains c
def isCmp (c : Int) : Bool := ([61, 60, 62] : List Int).contains c
def isAnd (c : Int) : Bool := ([38] : List Int).contains c
def isOr (c : Int) : Bool := ([124] : List Int).contains c
def isSem (c : Int) : Bool := ([59] : List Int).contains c
def isLab (c : Int) : Bool := ([110, 112, 116, 97, 98] : List Int).contains c
/-- what is joined comes ahead of its sign -/
def jb (c : List Int) (s : Int) (c2 : List Int) : List Int := c ++ c2 ++ [-100 - s]
def atomO (b : Bool) (t : Nat → Int) (n : Nat) (inn : Nat → PR (List Int)) (a : Nat) : PR (List Int) := if dgt (pk t n a) then numS b t n (sk t n a) else if isLet (pk t n a) = true then .good (sk t n a + 1) [-1 - (lets.idxOf (pk t n a) : Int)] else if pk t n a = 91 then inn (sk t n a) else .bad (sk t n a)
def termO (b : Bool) (t : Nat → Int) (n : Nat) (inn : Nat → PR (List Int)) (a : Nat) : PR (List Int) := (atomO b t n inn a).andThen (opL t n isMul jb (atomO b t n inn))
def sumO (b : Bool) (t : Nat → Int) (n : Nat) (inn : Nat → PR (List Int)) (a : Nat) : PR (List Int) := (termO b t n inn a).andThen (opL t n isAdd jb (termO b t n inn))
/-- by how many more may stand within one another -/
def sumS (b : Bool) (t : Nat → Int) (n : Nat) : Nat → Nat → PR (List Int)
  | 0 => sumO b t n (fun s => .bad s)
  | d + 1 => sumO b t n (fun s => (sumS b t n d (s + 1)).andThen (clo t n 93))
def inn (b : Bool) (t : Nat → Int) (n : Nat) : Nat → Nat → PR (List Int)
  | 0 => fun s => .bad s
  | d + 1 => fun s => (sumS b t n d (s + 1)).andThen (clo t n 93)
def atomS (b : Bool) (t : Nat → Int) (n d : Nat) : Nat → PR (List Int) := atomO b t n (inn b t n d)
def termS (b : Bool) (t : Nat → Int) (n d : Nat) : Nat → PR (List Int) := termO b t n (inn b t n d)
theorem sumS_o (b : Bool) (t : Nat → Int) (n d : Nat) : sumS b t n d = sumO b t n (inn b t n d) := by
  cases d with
  | zero => rfl
  | succ d => rfl
def cmpS (b : Bool) (t : Nat → Int) (n d a : Nat) : PR (List Int) := if isCmp (pk t n a) = true then (sumS b t n d (sk t n a + 1)).andThen (fun a2 c2 => .good a2 (c2 ++ [-100 - pk t n a])) else .bad (sk t n a)
def unitO (b : Bool) (t : Nat → Int) (n d : Nat) (ui ci : Nat → PR (List Int)) (a : Nat) : PR (List Int) := if pk t n a = 33 then ui (sk t n a) else if pk t n a = 40 then ci (sk t n a) else (sumS b t n d (sk t n a)).andThen (fun a1 c1 => (cmpS b t n d a1).andThen (fun a2 c2 => .good a2 (c1 ++ c2)))
def partO (t : Nat → Int) (n : Nat) (u : Nat → PR (List Int)) (a : Nat) : PR (List Int) := (u a).andThen (opL t n isAnd jb u)
def condO (t : Nat → Int) (n : Nat) (u : Nat → PR (List Int)) (a : Nat) : PR (List Int) := (partO t n u a).andThen (opL t n isOr jb (partO t n u))
def unitS (b : Bool) (t : Nat → Int) (n : Nat) : Nat → Nat → PR (List Int)
  | 0 => unitO b t n 0 (fun s => .bad s) (fun s => .bad s)
  | d + 1 => unitO b t n (d + 1) (fun s => (unitS b t n d (s + 1)).andThen (fun a c => .good a (c ++ [-133]))) (fun s => (condO t n (unitS b t n d) (s + 1)).andThen (clo t n 41))
def partS (b : Bool) (t : Nat → Int) (n d : Nat) : Nat → PR (List Int) := partO t n (unitS b t n d)
def condS (b : Bool) (t : Nat → Int) (n d : Nat) : Nat → PR (List Int) := condO t n (unitS b t n d)
/-- the first SUM was read already -/
def partB (b : Bool) (t : Nat → Int) (n d a : Nat) : PR (List Int) := (cmpS b t n d a).andThen (opL t n isAnd jb (unitS b t n d))
def condB (b : Bool) (t : Nat → Int) (n d a : Nat) : PR (List Int) := (partB b t n d a).andThen (opL t n isOr jb (partS b t n d))
/-- a CLAUSE: its label, its CONDITION, its SUM -/
def clauseV (b : Bool) (t : Nat → Int) (n a : Nat) (lab : Int) : PR (List (Int × List Int × List Int)) := if pk t n a = 33 ∨ pk t n a = 40 then (condS b t n 8 (sk t n a)).andThen (fun a3 cc => (clo t n 63 a3 ()).andThen (fun a4 _ => (sumS b t n 8 a4).andThen (fun a5 sc => .good a5 [(lab, cc, sc)]))) else (sumS b t n 8 (sk t n a)).andThen (fun a3 c1 => if isCmp (pk t n a3) = true then (condB b t n 8 (sk t n a3)).andThen (fun a4 c2 => (clo t n 63 a4 ()).andThen (fun a5 _ => (sumS b t n 8 a5).andThen (fun a6 sc => .good a6 [(lab, c1 ++ c2, sc)]))) else .good (sk t n a3) [(lab, [], c1)])
def clauseS (b : Bool) (t : Nat → Int) (n a : Nat) : PR (List (Int × List Int × List Int)) := if isLab (pk t n a) = true then (clo t n 58 (sk t n a + 1) ()).andThen (fun a2 _ => clauseV b t n a2 (pk t n a)) else .bad (sk t n a)
def cbC (c : List (Int × List Int × List Int)) (_ : Int) (c2 : List (Int × List Int × List Int)) : List (Int × List Int × List Int) := c ++ c2
def textL (b : Bool) (t : Nat → Int) (n a : Nat) : PR (List (Int × List Int × List Int)) := (clauseS b t n a).andThen (opL t n isSem cbC (clauseS b t n))
def textS (b : Bool) (t : Nat → Int) (n : Nat) : PR (List (Int × List Int × List Int)) := (textL b t n 0).andThen (fun a c => if pk t n a = -1 then .good a c else .bad (sk t n a))
def PR.flt {α : Type} : PR α → Int
  | Sum.inl i => (i : Int)
  | Sum.inr _ => -1
/-! ===== readers go on ===== -/
theorem atomO_mono {b : Bool} {t : Nat → Int} {n : Nat} {i : Nat → PR (List Int)} (hi : Mono i) : Mono (atomO b t n i) := by
  intro x a c h
  unfold atomO at h
  have h0 := sk_ge t n x
  by_cases c1 : dgt (pk t n x)
  · rw [if_pos c1] at h
    have := numS_mono _ _ _ h
    omega
  · rw [if_neg c1] at h
    by_cases c2 : isLet (pk t n x) = true
    · rw [if_pos c2] at h
      have := good_inj h
      omega
    · rw [if_neg c2] at h
      by_cases c3 : pk t n x = 91
      · rw [if_pos c3] at h
        have := hi _ _ _ h
        omega
      · rw [if_neg c3] at h
        exact (bad_no h).elim
theorem termO_mono {b : Bool} {t : Nat → Int} {n : Nat} {i : Nat → PR (List Int)} (hi : Mono i) : Mono (termO b t n i) := fun _ => andThen_mono (fun a c h => atomO_mono hi _ _ _ h) (fun _ _ _ _ _ h => opL_mono (atomO_mono hi) h)
theorem sumO_mono {b : Bool} {t : Nat → Int} {n : Nat} {i : Nat → PR (List Int)} (hi : Mono i) : Mono (sumO b t n i) := fun _ => andThen_mono (fun a c h => termO_mono hi _ _ _ h) (fun _ _ _ _ _ h => opL_mono (termO_mono hi) h)
theorem bad_mono {α : Type} : Mono (fun s => (PR.bad s : PR α)) := fun _ _ _ h => (bad_no h).elim
theorem in_mono {t : Nat → Int} {n : Nat} {s : Int} {r : Nat → PR (List Int)} (hr : Mono r) : Mono (fun x => (r (x + 1)).andThen (clo t n s)) := fun x => andThen_mono (fun a c h => Nat.le_trans (Nat.le_succ _) (hr _ _ _ h)) (fun _ _ _ _ _ h => clo_mono h)
theorem sumS_mono (b : Bool) (t : Nat → Int) (n : Nat) : ∀ d, Mono (sumS b t n d) := by
  intro d
  induction d with
  | zero => exact sumO_mono bad_mono
  | succ d ih => exact sumO_mono (in_mono ih)
theorem inn_mono (b : Bool) (t : Nat → Int) (n d : Nat) : Mono (inn b t n d) := by
  cases d with
  | zero => exact bad_mono
  | succ d => exact in_mono (sumS_mono b t n d)
theorem atomS_mono (b : Bool) (t : Nat → Int) (n d : Nat) : Mono (atomS b t n d) := atomO_mono (inn_mono b t n d)
theorem termS_mono (b : Bool) (t : Nat → Int) (n d : Nat) : Mono (termS b t n d) := termO_mono (inn_mono b t n d)
theorem cmpS_mono (b : Bool) (t : Nat → Int) (n d : Nat) : Mono (cmpS b t n d) := by
  intro x a c h
  unfold cmpS at h
  have h0 := sk_ge t n x
  by_cases c1 : isCmp (pk t n x) = true
  · rw [if_pos c1] at h
    exact andThen_mono (x := x) (fun a c h => by have := sumS_mono b t n d _ _ _ h; omega) (fun a c a2 c2 _ h => by have := good_inj h; omega) a c h
  · rw [if_neg c1] at h
    exact (bad_no h).elim
theorem unitO_mono {b : Bool} {t : Nat → Int} {n d : Nat} {u c : Nat → PR (List Int)} (hu : Mono u) (hc : Mono c) : Mono (unitO b t n d u c) := by
  intro x a v h
  unfold unitO at h
  have h0 := sk_ge t n x
  by_cases c1 : pk t n x = 33
  · rw [if_pos c1] at h
    have := hu _ _ _ h
    omega
  · rw [if_neg c1] at h
    by_cases c2 : pk t n x = 40
    · rw [if_pos c2] at h
      have := hc _ _ _ h
      omega
    · rw [if_neg c2] at h
      exact andThen_mono (x := x) (fun a c h => by have := sumS_mono b t n d _ _ _ h; omega) (fun a c a2 c2 _ h => andThen_mono (x := a) (fun a c h => cmpS_mono b t n d _ _ _ h) (fun a c a2 c2 _ h => by have := good_inj h; omega) a2 c2 h) a v h
theorem partO_mono {t : Nat → Int} {n : Nat} {u : Nat → PR (List Int)} (hu : Mono u) : Mono (partO t n u) := fun _ => andThen_mono (fun a c h => hu _ _ _ h) (fun _ _ _ _ _ h => opL_mono hu h)
theorem condO_mono {t : Nat → Int} {n : Nat} {u : Nat → PR (List Int)} (hu : Mono u) : Mono (condO t n u) := fun _ => andThen_mono (fun a c h => partO_mono hu _ _ _ h) (fun _ _ _ _ _ h => opL_mono (partO_mono hu) h)
theorem unitS_mono (b : Bool) (t : Nat → Int) (n : Nat) : ∀ d, Mono (unitS b t n d) := by
  intro d
  induction d with
  | zero => exact unitO_mono bad_mono bad_mono
  | succ d ih => exact unitO_mono (fun x => andThen_mono (fun a c h => Nat.le_trans (Nat.le_succ _) (ih _ _ _ h)) (fun a c a2 c2 _ h => by have := good_inj h; omega)) (in_mono (condO_mono ih))
theorem partS_mono (b : Bool) (t : Nat → Int) (n d : Nat) : Mono (partS b t n d) := partO_mono (unitS_mono b t n d)
theorem condS_mono (b : Bool) (t : Nat → Int) (n d : Nat) : Mono (condS b t n d) := condO_mono (unitS_mono b t n d)
theorem partB_mono (b : Bool) (t : Nat → Int) (n d : Nat) : Mono (partB b t n d) := fun _ => andThen_mono (fun a c h => cmpS_mono b t n d _ _ _ h) (fun _ _ _ _ _ h => opL_mono (unitS_mono b t n d) h)
theorem condB_mono (b : Bool) (t : Nat → Int) (n d : Nat) : Mono (condB b t n d) := fun _ => andThen_mono (fun a c h => partB_mono b t n d _ _ _ h) (fun _ _ _ _ _ h => opL_mono (partS_mono b t n d) h)
theorem andThen_m {α β : Type} {x k : Nat} {r : PR α} {f : Nat → α → PR β} (h1 : ∀ a c, r = .good a c → x ≤ a) (h2 : ∀ a c a2 c2, x ≤ a → f a c = .good a2 c2 → a + k ≤ a2) : ∀ a c, r.andThen f = .good a c → x + k ≤ a := by
  intro a c h
  rcases hr : r with i | ⟨a1, c1⟩
  · 
    rw [hr] at h
    exact (bad_no h).elim
  · 
    rw [hr] at h
    have h5 := h1 a1 c1 hr
    have h6 := h2 a1 c1 a c h5 h
    omega
theorem clo_m1 {α : Type} {t : Nat → Int} {n : Nat} {s : Int} {a : Nat} {c : α} {a2 : Nat} {c2 : α} (h : clo t n s a c = .good a2 c2) : a + 1 ≤ a2 := by
  unfold clo at h
  by_cases e : pk t n a = s
  · rw [if_pos e] at h
    have := good_inj h
    have := sk_ge t n a
    omega
  · rw [if_neg e] at h
    exact (bad_no h).elim
theorem clauseV_mono (b : Bool) (t : Nat → Int) (n : Nat) (lab : Int) (x : Nat) : ∀ a c, clauseV b t n x lab = .good a c → x ≤ a := by
  intro a c h
  unfold clauseV at h
  have h0 := sk_ge t n x
  by_cases c1 : pk t n x = 33 ∨ pk t n x = 40
  · rw [if_pos c1] at h
    exact andThen_mono (x := x) (fun a c h => by have := condS_mono b t n 8 _ _ _ h; omega) (fun a3 c3 a4 c4 _ h => andThen_mono (x := a3) (fun a c h => clo_mono h) (fun a5 c5 a6 c6 _ h => andThen_mono (x := a5) (fun a c h => sumS_mono b t n 8 _ _ _ h) (fun a7 c7 a8 c8 _ h => by have := good_inj h; omega) a6 c6 h) a4 c4 h) a c h
  · rw [if_neg c1] at h
    refine andThen_mono (x := x) (fun a c h => by have := sumS_mono b t n 8 _ _ _ h; omega) (fun a3 c3 a4 c4 _ h => ?_) a c h
    have h3 := sk_ge t n a3
    by_cases c2 : isCmp (pk t n a3) = true
    · rw [if_pos c2] at h
      exact andThen_mono (x := a3) (fun a c h => by have := condB_mono b t n 8 _ _ _ h; omega) (fun a5 c5 a6 c6 _ h => andThen_mono (x := a5) (fun a c h => clo_mono h) (fun a7 c7 a8 c8 _ h => andThen_mono (x := a7) (fun a c h => sumS_mono b t n 8 _ _ _ h) (fun a9 c9 a10 c10 _ h => by have := good_inj h; omega) a8 c8 h) a6 c6 h) a4 c4 h
    · rw [if_neg c2] at h
      have := good_inj h
      omega
theorem clauseS_mono (b : Bool) (t : Nat → Int) (n : Nat) : Mono (clauseS b t n) := by
  intro x a c h
  unfold clauseS at h
  have h0 := sk_ge t n x
  by_cases c1 : isLab (pk t n x) = true
  · rw [if_pos c1] at h
    exact andThen_mono (x := x) (fun a c h => by have := clo_mono h; omega) (fun a1 c1 a2 c2 _ h => clauseV_mono b t n _ _ _ _ h) a c h
  · rw [if_neg c1] at h
    exact (bad_no h).elim
/-! ===== a sixth sign of a number: amiss at once, or behind it ===== -/
def Ql {α : Type} (t : Nat → Int) (n : Nat) (x y : PR α) : Prop := x = y ∨ ∃ a c, x = .good a c ∧ a < n ∧ dgt (t a) ∧ y = .bad a
/-- nothing takes such a sign -/
def Pn {α β : Type} (t : Nat → Int) (n : Nat) (k : Nat → α → PR β) : Prop := ∀ a c, a < n → dgt (t a) → k a c = .bad a ∨ ∃ c', k a c = .good a c'
theorem ql_andThen {α β : Type} {t : Nat → Int} {n : Nat} {x y : PR α} {k k' : Nat → α → PR β} (h : Ql t n x y) (hp : Pn t n k) (hk : ∀ a c, Ql t n (k a c) (k' a c)) : Ql t n (x.andThen k) (y.andThen k') := by
  rcases h with rfl | ⟨a, c, rfl, h1, h2, rfl⟩
  · rcases x with i | ⟨a, c⟩
    · exact Or.inl rfl
    · exact hk a c
  · rcases hp a c h1 h2 with h3 | ⟨c', h3⟩
    · exact Or.inl h3
    · exact Or.inr ⟨a, c', h3, h1, h2, rfl⟩
theorem pk_d {t : Nat → Int} {n a : Nat} (h : a < n) (h1 : dgt (t a)) : pk t n a = t a ∧ sk t n a = a := by
  have h2 : ¬ t a = 32 := fun e => by
    unfold dgt at h1
    omega
  exact ⟨pk_dg h h2, sk_0 (fun q => h2 q.2)⟩
theorem pn_opL {α : Type} {t : Nat → Int} {n : Nat} {op : Int → Bool} {cb : α → Int → α → α} {rd : Nat → PR α} (hd : ∀ c, dgt c → op c = false) : Pn t n (opL t n op cb rd) := fun a c h1 h2 => by
  obtain ⟨h3, h4⟩ := pk_d h1 h2
  exact Or.inr ⟨c, by rw [opL_0 (by rw [h3, hd _ h2]; decide), h4]⟩
theorem pn_clo {α : Type} {t : Nat → Int} {n : Nat} {s : Int} (hs : ¬ dgt s) : Pn t n (clo (α := α) t n s) := fun a c h1 h2 => by
  obtain ⟨h3, h4⟩ := pk_d h1 h2
  refine Or.inl ?_
  unfold clo
  rw [if_neg (fun e => hs (by rw [← e, h3]; exact h2)), h4]
theorem pn_andThen {α β γ : Type} {t : Nat → Int} {n : Nat} {k : Nat → α → PR β} {m : Nat → α → Nat → β → PR γ} (hk : Pn t n k) (hm : ∀ a c, Pn t n (m a c)) : Pn t n (fun a c => (k a c).andThen (m a c)) := fun a c h1 h2 => by
  rcases hk a c h1 h2 with h3 | ⟨c', h3⟩
  · exact Or.inl (by show (k a c).andThen _ = _; rw [h3]; rfl)
  · show (k a c).andThen _ = _ ∨ ∃ c', (k a c).andThen _ = _
    rw [h3]
    exact hm a c a c' h1 h2
theorem ql_opF {α : Type} {t : Nat → Int} {n : Nat} {op : Int → Bool} {cb : α → Int → α → α} {rd rd' : Nat → PR α} (hd : ∀ c, dgt c → op c = false) (hr : ∀ a, Ql t n (rd a) (rd' a)) : ∀ f a c, Ql t n (opF t n op cb rd f a c) (opF t n op cb rd' f a c) := by
  intro f
  induction f with
  | zero => exact fun a c => Or.inl rfl
  | succ f ih =>
    intro a c
    by_cases c1 : op (pk t n a) = true
    · rw [show opF t n op cb rd (f + 1) a c = (rd (sk t n a + 1)).andThen (fun a2 c2 => opF t n op cb rd f a2 (cb c (pk t n a) c2)) from if_pos c1, show opF t n op cb rd' (f + 1) a c = (rd' (sk t n a + 1)).andThen (fun a2 c2 => opF t n op cb rd' f a2 (cb c (pk t n a) c2)) from if_pos c1]
      refine ql_andThen (hr _) (fun a3 c3 h1 h2 => ?_) (fun a3 c3 => ih a3 _)
      obtain ⟨h3, h4⟩ := pk_d h1 h2
      refine Or.inr ⟨cb c (pk t n a) c3, ?_⟩
      cases f with
      | zero =>
        show PR.good (sk t n a3) _ = _
        rw [h4]
      | succ f => exact (if_neg (by rw [h3, hd _ h2]; decide)).trans (by rw [h4])
    · rw [show opF t n op cb rd (f + 1) a c = .good (sk t n a) c from if_neg c1, show opF t n op cb rd' (f + 1) a c = .good (sk t n a) c from if_neg c1]
      exact Or.inl rfl
theorem ql_opL {α : Type} {t : Nat → Int} {n : Nat} {op : Int → Bool} {cb : α → Int → α → α} {rd rd' : Nat → PR α} (hd : ∀ c, dgt c → op c = false) (hr : ∀ a, Ql t n (rd a) (rd' a)) (a : Nat) (c : α) : Ql t n (opL t n op cb rd a c) (opL t n op cb rd' a c) := ql_opF hd hr _ a c
theorem dg_l {l : List Int} (hl : ∀ x ∈ l, ¬ dgt x) (c : Int) (h : dgt c) : l.contains c = false := by
  cases q : l.contains c with
  | false => rfl
  | true => exact absurd h (hl c (by simpa using q))
theorem dg_mul (c : Int) (h : dgt c) : isMul c = false := dg_l (by decide) c h
theorem dg_add (c : Int) (h : dgt c) : isAdd c = false := dg_l (by decide) c h
theorem dg_cmp (c : Int) (h : dgt c) : isCmp c = false := dg_l (by decide) c h
theorem dg_and (c : Int) (h : dgt c) : isAnd c = false := dg_l (by decide) c h
theorem dg_or (c : Int) (h : dgt c) : isOr c = false := dg_l (by decide) c h
theorem dg_sem (c : Int) (h : dgt c) : isSem c = false := dg_l (by decide) c h
section QL
variable {t : Nat → Int} {n : Nat}
theorem ql_num (a : Nat) : Ql t n (numS false t n a) (numS true t n a) := by
  have h0 : numS false t n a = .good (numF t n 5 a 0).1 [(numF t n 5 a 0).2] := if_neg (fun q => absurd q.1 (by decide))
  by_cases h : (numF t n 5 a 0).1 < n ∧ dgt (t (numF t n 5 a 0).1)
  · exact Or.inr ⟨_, _, h0, h.1, h.2, if_pos ⟨rfl, h.1, h.2⟩⟩
  · exact Or.inl (h0.trans (if_neg (fun q => h q.2)).symm)
theorem ql_atomO {i i' : Nat → PR (List Int)} (hi : ∀ a, Ql t n (i a) (i' a)) (a : Nat) : Ql t n (atomO false t n i a) (atomO true t n i' a) := by
  unfold atomO
  by_cases c1 : dgt (pk t n a)
  · rw [if_pos c1, if_pos c1]
    exact ql_num _
  · rw [if_neg c1, if_neg c1]
    by_cases c2 : isLet (pk t n a) = true
    · rw [if_pos c2, if_pos c2]
      exact Or.inl rfl
    · rw [if_neg c2, if_neg c2]
      by_cases c3 : pk t n a = 91
      · rw [if_pos c3, if_pos c3]
        exact hi _
      · rw [if_neg c3, if_neg c3]
        exact Or.inl rfl
theorem ql_termO {i i' : Nat → PR (List Int)} (hi : ∀ a, Ql t n (i a) (i' a)) (a : Nat) : Ql t n (termO false t n i a) (termO true t n i' a) := ql_andThen (ql_atomO hi a) (pn_opL dg_mul) (fun a c => ql_opL dg_mul (ql_atomO hi) a c)
theorem ql_sumO {i i' : Nat → PR (List Int)} (hi : ∀ a, Ql t n (i a) (i' a)) (a : Nat) : Ql t n (sumO false t n i a) (sumO true t n i' a) := ql_andThen (ql_termO hi a) (pn_opL dg_add) (fun a c => ql_opL dg_add (ql_termO hi) a c)
theorem ql_inn {r r' : Nat → PR (List Int)} (h : ∀ a, Ql t n (r a) (r' a)) {s : Int} (hs : ¬ dgt s) (a : Nat) : Ql t n ((r (a + 1)).andThen (clo t n s)) ((r' (a + 1)).andThen (clo t n s)) := ql_andThen (h _) (pn_clo hs) (fun _ _ => Or.inl rfl)
theorem ql_sumS : ∀ d a, Ql t n (sumS false t n d a) (sumS true t n d a) := by
  intro d
  induction d with
  | zero => exact ql_sumO (fun a => Or.inl rfl)
  | succ d ih => exact ql_sumO (ql_inn ih (by decide))
theorem ql_cmpS (d a : Nat) : Ql t n (cmpS false t n d a) (cmpS true t n d a) := by
  unfold cmpS
  by_cases c1 : isCmp (pk t n a) = true
  · rw [if_pos c1, if_pos c1]
    exact ql_andThen (ql_sumS d _) (fun a2 c2 _ _ => Or.inr ⟨_, rfl⟩) (fun _ _ => Or.inl rfl)
  · rw [if_neg c1, if_neg c1]
    exact Or.inl rfl
theorem pn_cmpS (b : Bool) (d : Nat) : Pn t n (fun a (_ : List Int) => cmpS b t n d a) := fun a c h1 h2 => by
  obtain ⟨h3, h4⟩ := pk_d h1 h2
  refine Or.inl ?_
  show cmpS b t n d a = _
  unfold cmpS
  rw [if_neg (by rw [h3, dg_cmp _ h2]; decide), h4]
theorem ql_unitO {d : Nat} {u u' c c' : Nat → PR (List Int)} (hu : ∀ a, Ql t n (u a) (u' a)) (hc : ∀ a, Ql t n (c a) (c' a)) (a : Nat) : Ql t n (unitO false t n d u c a) (unitO true t n d u' c' a) := by
  unfold unitO
  by_cases c1 : pk t n a = 33
  · rw [if_pos c1, if_pos c1]
    exact hu _
  · rw [if_neg c1, if_neg c1]
    by_cases c2 : pk t n a = 40
    · rw [if_pos c2, if_pos c2]
      exact hc _
    · rw [if_neg c2, if_neg c2]
      exact ql_andThen (ql_sumS d _) (pn_andThen (m := fun _ c1 a2 c2 => PR.good a2 (c1 ++ c2)) (pn_cmpS false d) (fun a c a2 c2 _ _ => Or.inr ⟨_, rfl⟩)) (fun a c => ql_andThen (ql_cmpS d a) (fun a2 c2 _ _ => Or.inr ⟨_, rfl⟩) (fun _ _ => Or.inl rfl))
theorem ql_partO {u u' : Nat → PR (List Int)} (hu : ∀ a, Ql t n (u a) (u' a)) (a : Nat) : Ql t n (partO t n u a) (partO t n u' a) := ql_andThen (hu a) (pn_opL dg_and) (fun a c => ql_opL dg_and hu a c)
theorem ql_condO {u u' : Nat → PR (List Int)} (hu : ∀ a, Ql t n (u a) (u' a)) (a : Nat) : Ql t n (condO t n u a) (condO t n u' a) := ql_andThen (ql_partO hu a) (pn_opL dg_or) (fun a c => ql_opL dg_or (ql_partO hu) a c)
theorem ql_unitS : ∀ d a, Ql t n (unitS false t n d a) (unitS true t n d a) := by
  intro d
  induction d with
  | zero => exact ql_unitO (fun a => Or.inl rfl) (fun a => Or.inl rfl)
  | succ d ih => exact ql_unitO (fun a => ql_andThen (ih _) (fun a2 c2 _ _ => Or.inr ⟨_, rfl⟩) (fun _ _ => Or.inl rfl)) (ql_inn (ql_condO ih) (by decide))
theorem ql_partS (d a : Nat) : Ql t n (partS false t n d a) (partS true t n d a) := ql_partO (ql_unitS d) a
theorem ql_condS (d a : Nat) : Ql t n (condS false t n d a) (condS true t n d a) := ql_condO (ql_unitS d) a
theorem ql_partB (d a : Nat) : Ql t n (partB false t n d a) (partB true t n d a) := ql_andThen (ql_cmpS d a) (pn_opL dg_and) (fun a c => ql_opL dg_and (ql_unitS d) a c)
theorem ql_condB (d a : Nat) : Ql t n (condB false t n d a) (condB true t n d a) := ql_andThen (ql_partB d a) (pn_opL dg_or) (fun a c => ql_opL dg_or (ql_partS d) a c)
/-- such a sign is amiss there -/
def Pb {α β : Type} (t : Nat → Int) (n : Nat) (k : Nat → α → PR β) : Prop := ∀ a c, a < n → dgt (t a) → k a c = .bad a
theorem pb_pn {α β : Type} {k : Nat → α → PR β} (h : Pb t n k) : Pn t n k := fun a c h1 h2 => Or.inl (h a c h1 h2)
theorem pb_andThen {α β γ : Type} {k : Nat → α → PR β} {m : Nat → α → Nat → β → PR γ} (h : Pb t n k) : Pb t n (fun a c => (k a c).andThen (m a c)) := fun a c h1 h2 => by
  show (k a c).andThen _ = _
  rw [h a c h1 h2]
  rfl
theorem pb_clo {α β : Type} {s : Int} (hs : ¬ dgt s) {f : α → β} : Pb t n (fun a (c : α) => clo t n s a (f c)) := fun a c h1 h2 => by
  obtain ⟨h3, h4⟩ := pk_d h1 h2
  show clo t n s a (f c) = _
  unfold clo
  rw [if_neg (fun e => hs (by rw [← e, h3]; exact h2)), h4]
theorem ql_same {α β : Type} {x : PR α} {k k' : Nat → α → PR β} (hk : ∀ a c, Ql t n (k a c) (k' a c)) : Ql t n (x.andThen k) (x.andThen k') := by
  rcases x with i | ⟨a, c⟩
  · exact Or.inl rfl
  · exact hk a c
theorem ql_clauseV (a : Nat) (lab : Int) : Ql t n (clauseV false t n a lab) (clauseV true t n a lab) := by
  unfold clauseV
  by_cases c1 : pk t n a = 33 ∨ pk t n a = 40
  · rw [if_pos c1, if_pos c1]
    exact ql_andThen (ql_condS 8 _) (pb_pn (pb_andThen (pb_clo (s := 63) (by decide) (f := fun _ => ())))) (fun a c => ql_same (fun a4 _ => ql_andThen (ql_sumS 8 a4) (fun a2 c2 _ _ => Or.inr ⟨_, rfl⟩) (fun _ _ => Or.inl rfl)))
  · rw [if_neg c1, if_neg c1]
    refine ql_andThen (ql_sumS 8 _) (fun a2 c2 h1 h2 => ?_) (fun a2 c2 => ?_)
    · obtain ⟨h3, h4⟩ := pk_d h1 h2
      rw [if_neg (by rw [h3, dg_cmp _ h2]; decide), h4]
      exact Or.inr ⟨_, rfl⟩
    · by_cases c2 : isCmp (pk t n a2) = true
      · rw [if_pos c2, if_pos c2]
        exact ql_andThen (ql_condB 8 _) (pb_pn (pb_andThen (pb_clo (s := 63) (by decide) (f := fun _ => ())))) (fun a c => ql_same (fun a4 _ => ql_andThen (ql_sumS 8 a4) (fun a2 c2 _ _ => Or.inr ⟨_, rfl⟩) (fun _ _ => Or.inl rfl)))
      · rw [if_neg c2, if_neg c2]
        exact Or.inl rfl
theorem ql_clauseS (a : Nat) : Ql t n (clauseS false t n a) (clauseS true t n a) := by
  unfold clauseS
  by_cases c1 : isLab (pk t n a) = true
  · rw [if_pos c1, if_pos c1]
    exact ql_same (fun a2 _ => ql_clauseV a2 _)
  · rw [if_neg c1, if_neg c1]
    exact Or.inl rfl
theorem ql_textL (a : Nat) : Ql t n (textL false t n a) (textL true t n a) := ql_andThen (ql_clauseS a) (pn_opL dg_sem) (fun a c => ql_opL dg_sem ql_clauseS a c)
/-- both ways the same FAULT, the same CLAUSES -/
theorem text_eq : textS false t n = textS true t n := by
  unfold textS
  rcases ql_textL (t := t) (n := n) 0 with h | ⟨a, c, h, h1, h2, h3⟩
  · rw [h]
  · rw [h, h3]
    obtain ⟨h4, h5⟩ := pk_d h1 h2
    show (if pk t n a = -1 then PR.good a c else PR.bad (sk t n a)) = _
    rw [if_neg (by rw [h4]; unfold dgt at h2; omega), h5]
    rfl
end QL

