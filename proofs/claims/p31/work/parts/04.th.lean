
/-! ===== worlds of n cells by number: cell k at address ad k holds E k ===== -/
def WX (n : Nat) (ad : Nat → Nat) (E : Nat → va_E) : va_W := (List.range n).map (fun k => (ad k, E k))
theorem WX_at {n : Nat} {ad : Nat → Nat} {E : Nat → va_E} {k : Nat} (h : k < n) : (WX n ad E)[k]? = some (ad k, E k) := by
  simp [WX, h]
theorem WX_no {n : Nat} {ad : Nat → Nat} {E : Nat → va_E} {k : Nat} (h : ¬ k < n) : (WX n ad E)[k]? = none := by
  simp [WX]; omega
theorem WX_set {n : Nat} {ad : Nat → Nat} {E : Nat → va_E} {k : Nat} {e : va_E} (h : k < n) : (WX n ad E).set k (ad k, e) = WX n ad (va_up E k e) := by
  apply List.ext_getElem?
  intro i
  rw [List.getElem?_set]
  by_cases hi : k = i
  · subst hi
    rw [WX_at h, if_pos rfl, if_pos (by simp [WX, h]), WX_at h, va_up_self]
  · rw [if_neg hi]
    by_cases hn : i < n
    · rw [WX_at hn, WX_at hn, va_up_ne _ _ (Ne.symm hi)]
    · rw [WX_no hn, WX_no hn]
theorem WX_D {n : Nat} {ad : Nat → Nat} {E E' : Nat → va_E} {A : Nat → Prop} (h : va_D A (WX n ad E)) : va_D A (WX n ad E') := by
  have key : ∀ (k : Nat) (q : Nat × va_E), (WX n ad E')[k]? = some q → k < n ∧ q.1 = ad k := by
    intro k q hq
    by_cases hn : k < n
    · rw [WX_at hn] at hq
      cases hq
      exact ⟨hn, rfl⟩
    · rw [WX_no hn] at hq
      cases hq
  refine ⟨fun i j p q hp hq e => ?_, fun k q hq => ?_⟩
  · obtain ⟨h1, h2⟩ := key i p hp
    obtain ⟨h3, h4⟩ := key j q hq
    exact h.1 i j _ _ (WX_at h1) (WX_at h3) (by rw [← h2, ← h4]; exact e)
  · obtain ⟨h1, h2⟩ := key k q hq
    rw [h2]
    exact h.2 k _ (WX_at h1)
theorem WX_A {n : Nat} {ad : Nat → Nat} {E : Nat → va_E} {sz q : Nat} : va_A (WX n ad E) sz q ↔ (∃ k, k < n ∧ q = ad k) ∨ sz ≤ q := by
  constructor
  · rintro (⟨k, e, hk⟩ | h)
    · by_cases hn : k < n
      · rw [WX_at hn] at hk
        cases hk
        exact Or.inl ⟨k, hn, rfl⟩
      · rw [WX_no hn] at hk
        cases hk
    · exact Or.inr h
  · rintro (⟨k, hk, rfl⟩ | h)
    · exact Or.inl ⟨k, E k, WX_at hk⟩
    · exact Or.inr h
theorem WX_free {n : Nat} {ad : Nat → Nat} {E E' : Nat → va_E} {A : Nat → Prop} {H0 H : Heap} {locs : List Loc} (hD : va_D A (WX n ad E)) (hS : va_S A H0 H locs) (hA : ∀ q, H0.size ≤ q → A q) : ∀ q, va_A (WX n ad E') H.size q → A q := by
  intro q hq
  rcases WX_A.mp hq with ⟨k, hk, rfl⟩ | h
  · exact hD.2 k _ (WX_at hk)
  · exact hA q (Nat.le_trans hS.1 h)
/-- what a slot holds -/
def xv (e : va_E) (j : Nat) : Value := match e with
  | .inr (_, fs) => fs.getD j .null
  | .inl (_, _, .inl g) => .int (g j)
  | .inl (_, _, .inr (.inr (.inr (.inr f)))) => va_rf (f j)
  | _ => .null
def vi (v : Value) : Int32 := match v with
  | .int x => x
  | _ => 0
def xi (e : va_E) (j : Nat) : Int32 := vi (xv e j)
/-- a cell of a kind: an object (0, class, slots), a row of ints or narrower (1, kind, length) -/
def okS (cT : Nat → ClassId) (t : Nat × Nat × Nat) (e : va_E) : Prop := match t with
  | (0, c, n) => e = .inr (c, (List.range n).map (xv e))
  | (1, k, n) => e = .inl (cT k, n, .inl (xi e))
  | (2, k, n) => ∃ (cap : Nat) (f : Nat → Option Nat), n ≤ cap ∧ cap ≤ 2 * n + 10 ∧ e = .inl (cT k, cap, .inr (.inr (.inr (.inr f))))
  | _ => True
/-- a slot of a kind: an int within (0, lo, hi), a reference to a cell (1, k, _), to one of two (2, k, j) -/
def okV (ad : Nat → Nat) (t : Nat × Int × Int) (v : Value) : Prop := match t with
  | (0, lo, hi) => v = .int (vi v) ∧ lo ≤ (vi v).toInt ∧ (vi v).toInt ≤ hi
  | (1, k, _) => v = .ref (ad k.toNat)
  | (2, k, j) => v = .ref (ad k.toNat) ∨ v = .ref (ad j.toNat)
  | (4, k, _) => v = .ref k.toNat
  | _ => True
def IX (cT : Nat → ClassId) (sh : Nat → Nat × Nat × Nat) (sp : Nat → Nat → Nat × Int × Int) (n : Nat) (ad : Nat → Nat) (E : Nat → va_E) : Prop := ∀ o : Nat, o < n → okS cT (sh o) (E o) ∧ ∀ j : Nat, j < (sh o).2.2 → okV ad (sp o j) (xv (E o) j)
section IXS
variable {cT : Nat → ClassId} {sh : Nat → Nat × Nat × Nat} {sp : Nat → Nat → Nat × Int × Int} {n : Nat} {ad : Nat → Nat} {E : Nat → va_E}
theorem IX.ob (h : IX cT sh sp n ad E) (o : Nat) (ho : o < n) {c nf : Nat} (hs : sh o = (0, c, nf)) : (WX n ad E)[o]? = some (ad o, .inr (c, (List.range nf).map (xv (E o)))) := by
  have h1 := (h o ho).1
  rw [hs] at h1
  rw [WX_at ho]
  exact congrArg (fun z => some (ad o, z)) h1
theorem IX.ar (h : IX cT sh sp n ad E) (o : Nat) (ho : o < n) {k nl : Nat} (hs : sh o = (1, k, nl)) : (WX n ad E)[o]? = some (ad o, .inl (cT k, nl, .inl (xi (E o)))) := by
  have h1 := (h o ho).1
  rw [hs] at h1
  rw [WX_at ho]
  exact congrArg (fun z => some (ad o, z)) h1
theorem IX.fi (h : IX cT sh sp n ad E) (o : Nat) (ho : o < n) {c nf j : Nat} (hs : sh o = (0, c, nf)) (hj : j < nf) {lo hi : Int} (hp : sp o j = (0, lo, hi)) : xv (E o) j = .int (xi (E o) j) := by
  have h1 := (h o ho).2 j (by rw [hs]; exact hj)
  rw [hp] at h1
  exact h1.1
theorem IX.fr (h : IX cT sh sp n ad E) (o : Nat) (ho : o < n) {c nf j : Nat} (hs : sh o = (0, c, nf)) (hj : j < nf) (k : Nat) {u : Int} (hp : sp o j = (1, (k : Int), u)) : xv (E o) j = .ref (ad k) := by
  have h1 := (h o ho).2 j (by rw [hs]; exact hj)
  rw [hp] at h1
  exact h1
/-- the bounds of a slot of ints -/
theorem IX.iv (h : IX cT sh sp n ad E) (o : Nat) (ho : o < n) {t c nf j : Nat} (hs : sh o = (t, c, nf)) (hj : j < nf) {lo hi : Int} (hp : sp o j = (0, lo, hi)) : lo ≤ (xi (E o) j).toInt ∧ (xi (E o) j).toInt ≤ hi := by
  have h1 := (h o ho).2 j (by rw [hs]; exact hj)
  rw [hp] at h1
  exact h1.2
end IXS
/-- one slot is written, all else is kept -/
def Pw (E E' : Nat → va_E) (o j : Nat) (v : Value) : Prop := xv (E' o) j = v ∧ ∀ o' j' : Nat, ¬ (o' = o ∧ j' = j) → xv (E' o') j' = xv (E o') j'
/-- what is not in w is kept -/
def Kp (w : Nat → Nat → Bool) (E E' : Nat → va_E) : Prop := ∀ o j : Nat, w o j = false → xv (E' o) j = xv (E o) j
def wl (a : List Nat) (b : List (Nat × Nat)) : Nat → Nat → Bool := fun o j => a.contains o || b.contains (o, j)
theorem Kp.rf {w : Nat → Nat → Bool} {E : Nat → va_E} : Kp w E E := fun _ _ _ => rfl
theorem Kp.pw {w : Nat → Nat → Bool} {E E1 E2 : Nat → va_E} {o j : Nat} {v : Value} (h : Kp w E E1) (p : Pw E1 E2 o j v) (hw : w o j = true) : Kp w E E2 := by
  intro o' j' h'
  rw [p.2 o' j' (fun e => by rw [e.1, e.2, hw] at h'; cases h'), h o' j' h']
theorem Kp.tr {w w1 : Nat → Nat → Bool} {E E1 E2 : Nat → va_E} (h : Kp w E E1) (h1 : Kp w1 E1 E2) (hw : ∀ o j, w o j = false → w1 o j = false) : Kp w E E2 := fun o j h' => (h1 o j (hw o j h')).trans (h o j h')
theorem wl_sub {a a1 : List Nat} {b b1 : List (Nat × Nat)} (h1 : a1.all (fun o => a.contains o) = true) (h2 : b1.all (fun q => a.contains q.1 || b.contains q) = true) : ∀ o j, wl a b o j = false → wl a1 b1 o j = false := by
  intro o j h
  cases h3 : wl a1 b1 o j with
  | false => rfl
  | true =>
    exfalso
    have h5 : wl a b o j = true := by
      unfold wl at h3 ⊢
      rw [Bool.or_eq_true] at h3 ⊢
      rcases h3 with h3 | h3
      · left
        exact List.all_eq_true.mp h1 o (by simpa using h3)
      · have h4 := List.all_eq_true.mp h2 (o, j) (by simpa using h3)
        rw [Bool.or_eq_true] at h4
        exact h4
    rw [h] at h5
    cases h5
theorem Kp.ei {w : Nat → Nat → Bool} {E E' : Nat → va_E} (h : Kp w E E') (o j : Nat) (hw : w o j = false) : xi (E' o) j = xi (E o) j := congrArg vi (h o j hw)
theorem Pw.ei {E E' : Nat → va_E} {o j : Nat} {v : Value} (p : Pw E E' o j v) (o' j' : Nat) (h : ¬ (o' = o ∧ j' = j)) : xi (E' o') j' = xi (E o') j' := congrArg vi (p.2 o' j' h)
theorem Pw.es {E E' : Nat → va_E} {o j : Nat} {x : Int32} (p : Pw E E' o j (.int x)) : xi (E' o) j = x := congrArg vi p.1
theorem xv_ob {c : Nat} {nf j : Nat} {f : Nat → Value} (h : j < nf) : xv (.inr (c, (List.range nf).map f)) j = f j := by
  show ((List.range nf).map f).getD j .null = f j
  simp [List.getD, h]
theorem xv_ob' {c : Nat} {nf j : Nat} {f : Nat → Value} (h : ¬ j < nf) : xv (.inr (c, (List.range nf).map f)) j = .null := by
  show ((List.range nf).map f).getD j .null = .null
  simp [List.getD]
  rw [List.getElem?_eq_none (by simp; omega)]
  rfl
section IXW
variable {cT : Nat → ClassId} {sh : Nat → Nat × Nat × Nat} {sp : Nat → Nat → Nat × Int × Int} {n : Nat} {ad : Nat → Nat} {E : Nat → va_E}
/-- a field is written -/
theorem IX.put (h : IX cT sh sp n ad E) (o : Nat) (ho : o < n) {c nf : Nat} (hs : sh o = (0, c, nf)) (j : Nat) (hj : j < nf) (v : Value) (hv : okV ad (sp o j) v) : Pw E (va_up E o (.inr (c, (List.range nf).map (va_up (xv (E o)) j v)))) o j v ∧ IX cT sh sp n ad (va_up E o (.inr (c, (List.range nf).map (va_up (xv (E o)) j v)))) := by
  have e0 : E o = .inr (c, (List.range nf).map (xv (E o))) := by
    have h1 := (h o ho).1
    rw [hs] at h1
    exact h1
  have key : ∀ j', ¬ j' = j → xv (.inr (c, (List.range nf).map (va_up (xv (E o)) j v))) j' = xv (E o) j' := by
    intro j' hne
    by_cases hlt : j' < nf
    · rw [xv_ob hlt, va_up_ne _ _ hne]
    · rw [xv_ob' hlt, e0, xv_ob' hlt]
  refine ⟨⟨by rw [va_up_self, xv_ob hj, va_up_self], fun o' j' hne => ?_⟩, fun o' ho' => ?_⟩
  · by_cases ho2 : o' = o
    · subst ho2
      rw [va_up_self, key j' (fun e => hne ⟨rfl, e⟩)]
    · rw [va_up_ne _ _ ho2]
  · by_cases ho2 : o' = o
    · subst ho2
      rw [va_up_self]
      refine ⟨?_, fun j' hj' => ?_⟩
      · rw [hs]
        refine congrArg (fun l => (Sum.inr (c, l) : va_E)) ?_
        apply List.map_congr_left
        intro a ha
        exact (xv_ob (List.mem_range.mp ha)).symm
      · by_cases hje : j' = j
        · subst hje
          rw [xv_ob hj, va_up_self]
          exact hv
        · rw [key j' hje]
          exact (h o' ho').2 j' hj'
    · rw [va_up_ne _ _ ho2]
      exact h o' ho'
/-- an element is written -/
theorem IX.ast (h : IX cT sh sp n ad E) (o : Nat) (ho : o < n) {k nl : Nat} (hs : sh o = (1, k, nl)) (j : Nat) (x : Int32) (hv : j < nl → okV ad (sp o j) (.int x)) : Pw E (va_up E o (.inl (cT k, nl, .inl (upd (xi (E o)) j x)))) o j (.int x) ∧ IX cT sh sp n ad (va_up E o (.inl (cT k, nl, .inl (upd (xi (E o)) j x)))) := by
  have e0 : E o = .inl (cT k, nl, .inl (xi (E o))) := by
    have h1 := (h o ho).1
    rw [hs] at h1
    exact h1
  have e1 : ∀ j', xv (E o) j' = .int (xi (E o) j') := by
    intro j'
    rw [e0]
    rfl
  have key : ∀ j', ¬ j' = j → xv (.inl (cT k, nl, .inl (upd (xi (E o)) j x))) j' = xv (E o) j' := by
    intro j' hne
    rw [e1]
    show Value.int (upd (xi (E o)) j x j') = _
    rw [pk_un hne]
  have key0 : xv (.inl (cT k, nl, .inl (upd (xi (E o)) j x))) j = .int x := by
    show Value.int (upd (xi (E o)) j x j) = _
    rw [pk_us]
  refine ⟨⟨by rw [va_up_self]; exact key0, fun o' j' hne => ?_⟩, fun o' ho' => ?_⟩
  · by_cases ho2 : o' = o
    · subst ho2
      rw [va_up_self, key j' (fun e => hne ⟨rfl, e⟩)]
    · rw [va_up_ne _ _ ho2]
  · by_cases ho2 : o' = o
    · subst ho2
      rw [va_up_self]
      refine ⟨?_, fun j' hj' => ?_⟩
      · rw [hs]
        exact rfl
      · by_cases hje : j' = j
        · subst hje
          rw [key0]
          exact hv (by rw [hs] at hj'; exact hj')
        · rw [key j' hje]
          exact (h o' ho').2 j' hj'
    · rw [va_up_ne _ _ ho2]
      exact h o' ho'
end IXW
/-- a String constant of known bytes -/
def SS (qs vs : Nat) (bs : List Int32) (A : Nat → Prop) (U : State) (H : Heap) : Prop := va_O "java/lang/String" qs A U H ∧ va_OF "java/lang/String" "coder" "B" (.int 0) qs A U H ∧ va_OF "java/lang/String" "value" "[B" (.ref vs) qs A U H ∧ va_T .byte vs bs.length (fun j => .int (bs.getD j 0)) A U H ∧ va_Z "java/lang/String" "COMPACT_STRINGS" "Z" (.int 1) A U H
theorem SS_c {qs vs : Nat} {bs : List Int32} {A : Nat → Prop} {U : State} {a : Array Value} {g : JFrame} {mk : MethodId} (h : SS qs vs bs A U U.heap) : SS qs vs bs A (U.calling g mk a) (U.calling g mk a).heap :=
  ⟨va_O.moved (U := U.calling g mk a) (Vm.Alike.refl U.vm) h.1, va_OF.moved (U := U.calling g mk a) (Vm.Alike.refl U.vm) h.2.1, va_OF.moved (U := U.calling g mk a) (Vm.Alike.refl U.vm) h.2.2.1, va_T.moved (U := U.calling g mk a) (Vm.Alike.refl U.vm) h.2.2.2.1, va_Z.moved (U := U.calling g mk a) (Vm.Alike.refl U.vm) h.2.2.2.2⟩
theorem SS_w {qs vs : Nat} {bs : List Int32} {s U : State} {H : Heap} {locs : List Loc} {A A1 : Nat → Prop} (hU : U.heap = H) (hW : s.WarmedH U.vm) (hS : va_S A s.heap H locs) (hF : ∀ q, A1 q → A q) (h : SS qs vs bs A s s.heap) : SS qs vs bs A1 U U.heap := by
  rw [hU]
  exact ⟨va_O.moved hW.alike ((h.1.kept hS.2.1).narrow hF), va_OF.moved hW.alike ((h.2.1.kept hS.2.1).narrow hF), va_OF.moved hW.alike ((h.2.2.1.kept hS.2.1).narrow hF), va_T.moved hW.alike ((h.2.2.2.1.kept hS.2.1).narrow hF), va_Z.moved hW.alike ((h.2.2.2.2.kept hS.2.1).narrow hF)⟩
/-- the constant text of an entry -/
def SK (own : String) (k : Nat) (tx : String) (bs : List Int32) (A : Nat → Prop) (U : State) (H : Heap) : Prop := ∃ qs vs : Nat, vk_R own k tx qs U ∧ SS qs vs bs A U H
theorem SK_c {own tx : String} {k : Nat} {bs : List Int32} {A : Nat → Prop} {U : State} {a : Array Value} {g : JFrame} {mk : MethodId} (h : SK own k tx bs A U U.heap) : SK own k tx bs A (U.calling g mk a) (U.calling g mk a).heap := by
  obtain ⟨qs, vs, h1, h2⟩ := h
  exact ⟨qs, vs, vk_R.same rfl h1, SS_c h2⟩
theorem SK_w {own tx : String} {k : Nat} {bs : List Int32} {s U : State} {H : Heap} {locs : List Loc} {A A1 : Nat → Prop} (hU : U.heap = H) (hW : s.WarmedH U.vm) (hS : va_S A s.heap H locs) (hF : ∀ q, A1 q → A q) (h : SK own k tx bs A s s.heap) : SK own k tx bs A1 U U.heap := by
  obtain ⟨qs, vs, h1, h2⟩ := h
  exact ⟨qs, vs, vk_R.warm hW h1, SS_w hU hW hS hF h2⟩
def tLET : List Int32 := [108, 115, 119, 107, 114, 101, 102, 99, 100, 103, 104, 117, 109, 111]
def tLAB : List Int32 := [110, 112, 116, 97, 98]
def tCON : List Int32 := [33, 40]
def tCMP : List Int32 := [61, 60, 62]
def tADD : List Int32 := [43, 45]
def tMUL : List Int32 := [42, 47]
/-- where a sign stands in a text, from place k on -/
def ixF (c : Int32) : List Int32 → Nat → Int32
  | [], _ => -1
  | b :: l, k => if b = c then nI k else ixF c l (k + 1)
theorem gd_ {bs : List Int32} {k : Nat} (h : k < bs.length) : bs.getD k 0 = bs[k] := by simp [List.getD, List.getElem?_eq_getElem h]
theorem ixF_hit {a0 x : Int32} {bs : List Int32} (h0 : 0 ≤ x.toInt) (hx : x.toInt < (bs.length : Int)) (inv : ixF a0 bs 0 = ixF a0 (bs.drop x.toNatClampNeg) x.toNatClampNeg) (e : bs.getD x.toNatClampNeg 0 = a0) : x = ixF a0 bs 0 := by
  have hk : x.toNatClampNeg < bs.length := by show x.toInt.toNat < _; omega
  rw [inv, List.drop_eq_getElem_cons hk]
  rw [gd_ hk] at e
  show x = if bs[x.toNatClampNeg] = a0 then nI x.toNatClampNeg else _
  rw [if_pos e]
  apply Int32.toInt_inj.mp
  rw [nI_toInt (by have := Int32.toInt_lt x; show x.toInt.toNat < _; omega)]
  show x.toInt = (x.toInt.toNat : Int)
  omega
theorem ixF_next {a0 x y : Int32} {bs : List Int32} (h0 : 0 ≤ x.toInt) (hx : x.toInt < (bs.length : Int)) (t : y.toInt = x.toInt + 1) (inv : ixF a0 bs 0 = ixF a0 (bs.drop x.toNatClampNeg) x.toNatClampNeg) (e : ¬ bs.getD x.toNatClampNeg 0 = a0) : ixF a0 bs 0 = ixF a0 (bs.drop y.toNatClampNeg) y.toNatClampNeg := by
  have hk : x.toNatClampNeg < bs.length := by show x.toInt.toNat < _; omega
  have hy : y.toNatClampNeg = x.toNatClampNeg + 1 := by show y.toInt.toNat = x.toInt.toNat + 1; omega
  rw [inv, List.drop_eq_getElem_cons hk, hy]
  rw [gd_ hk] at e
  show (if bs[x.toNatClampNeg] = a0 then nI x.toNatClampNeg else _) = _
  rw [if_neg e]
theorem ixF_end {a0 x : Int32} {bs : List Int32} (hx : (bs.length : Int) ≤ x.toInt) (inv : ixF a0 bs 0 = ixF a0 (bs.drop x.toNatClampNeg) x.toNatClampNeg) : -1 = ixF a0 bs 0 := by
  rw [inv, List.drop_eq_nil_of_le (by show _ ≤ x.toInt.toNat; omega)]
  rfl
theorem i2b_small {a b z : Int32} (ha : 0 ≤ a.toInt ∧ a.toInt ≤ 255) (hb : 0 ≤ b.toInt ∧ b.toInt < 128) (ez : z = a.toInt8.toInt32) : z = b ↔ b = a := by
  have e1 : z.toInt = a.toInt.bmod (2 ^ 8) := by rw [ez, Int8.toInt_toInt32, Int32.toInt_toInt8]
  rw [Int.bmod_def] at e1
  constructor
  · intro h
    apply Int32.toInt_inj.mp
    rw [h] at e1
    split at e1 <;> omega
  · intro h
    apply Int32.toInt_inj.mp
    rw [← h] at e1
    split at e1 <;> omega
theorem ixF_mem {c : Int32} : ∀ (l : List Int32) (k : Nat), k + l.length < 2 ^ 31 → 0 ≤ (ixF c l k).toInt → c ∈ l := by
  intro l
  induction l with
  | nil =>
    intro k _ h
    exact absurd h (show ¬ 0 ≤ (ixF c [] k).toInt from (show ¬ 0 ≤ (-1 : Int32).toInt by decide))
  | cons b l ih =>
    intro k hk h
    by_cases e : b = c
    · subst e
      exact List.mem_cons_self
    · rw [ixF, if_neg e] at h
      exact List.mem_cons_of_mem _ (ih (k + 1) (by simp at hk; omega) h)
theorem ixF_none {c : Int32} (h : c.toInt < 0 ∨ 255 < c.toInt) : ∀ (l : List Int32) (k : Nat), (∀ b ∈ l, 0 ≤ b.toInt ∧ b.toInt < 128) → ixF c l k = -1 := by
  intro l
  induction l with
  | nil => intro k _; rfl
  | cons b l ih =>
    intro k hb
    have h1 := hb b List.mem_cons_self
    rw [ixF, if_neg (fun e => by rw [e] at h1; omega)]
    exact ih (k + 1) (fun b hb' => hb b (List.mem_cons_of_mem _ hb'))
theorem tLET_in : ∀ b ∈ tLET, 97 ≤ b.toInt ∧ b.toInt ≤ 122 := by decide
section LDW
variable {p : Program} {l : Launch} {e : Env} {R : Room} {s : State} {m : MethodId} {args : Array Value} {below : List Frame} {meth : Method} {c : Code} {H : Heap} {locs : List Loc} {cells slots : Nat} {Q : State → Prop} {pc : Nat} {ls : Array Slot} {rest : List Value} {cc : ByteArray}
theorem th_ldcwS (hexec : p.tables.exec = Jvm.exec) (hb : c.code = cc) {own tx : String} {index q : Nat} (hown : s.vm.findClass own = some m.cls) (hZ : vk_R own index tx q s) (hdg : decode cc pc = .ok (.ldc_w index, 3))
    (k : W p l e R s m args below meth c H locs cells slots Q (F0 m (pc + 3) ls (.ref q :: rest))) : W p l e R s m args below meth c H locs cells slots Q (F0 m pc ls rest) := by
  intro T hT X
  obtain ⟨t, a1, b1⟩ := k T hT X
  exact ⟨t, X.ldcStringW hexec hown (text := tx) (a := q) hZ.1 hZ.2 (g := F0 m pc ls rest) rfl (by rw [hb]; exact hdg) t a1, b1⟩
end LDW
/-! ===== what the machine holds beside the worlds ===== -/
def EV (A : Nat → Prop) (U : State) (H : Heap) : Prop := ub_NX U ∧ SK RX13 306 "lswkrefcdghumo" tLET A U H ∧ SK RX13 351 "nptab" tLAB A U H
theorem EV_c {A : Nat → Prop} {U : State} {a : Array Value} {g : JFrame} {mk : MethodId} (h : EV A U U.heap) : EV A (U.calling g mk a) (U.calling g mk a).heap := ⟨ub_NX_c h.1, SK_c h.2.1, SK_c h.2.2⟩
theorem EV_w {s U : State} {H : Heap} {locs : List Loc} {A A1 : Nat → Prop} (hU : U.heap = H) (hW : s.WarmedH U.vm) (hS : va_S A s.heap H locs) (hF : ∀ q, A1 q → A q) (h : EV A s s.heap) : EV A1 U U.heap := ⟨ub_NX_w hW h.1, SK_w hU hW hS hF h.2.1, SK_w hU hW hS hF h.2.2⟩
def TYM (cT : Nat → ClassId) : List (ClassId × FieldType) := [(cT 0, .int), (cT 1, .byte), (cT 2, .boolean)]
/-! ===== bounds of ints ===== -/
theorem iv_w {x a b c d : Int} (h : a ≤ x ∧ x ≤ b) (q : c ≤ a ∧ b ≤ d) : c ≤ x ∧ x ≤ d := ⟨Int.le_trans q.1 h.1, Int.le_trans h.2 q.2⟩
theorem iv_lt_l {x y a b c d f : Int} (t : x < y) (h : a ≤ x ∧ x ≤ b) (k : c ≤ y ∧ y ≤ d) (q : d - 1 ≤ f) : a ≤ x ∧ x ≤ f := ⟨h.1, by omega⟩
theorem iv_lt_r {x y a b c d f : Int} (t : x < y) (h : a ≤ x ∧ x ≤ b) (k : c ≤ y ∧ y ≤ d) (q : f ≤ a + 1) : f ≤ y ∧ y ≤ d := ⟨by omega, k.2⟩
theorem iv_le_l {x y a b c d f : Int} (t : x ≤ y) (h : a ≤ x ∧ x ≤ b) (k : c ≤ y ∧ y ≤ d) (q : d ≤ f) : a ≤ x ∧ x ≤ f := ⟨h.1, by omega⟩
theorem iv_le_r {x y a b c d f : Int} (t : x ≤ y) (h : a ≤ x ∧ x ≤ b) (k : c ≤ y ∧ y ≤ d) (q : f ≤ a) : f ≤ y ∧ y ≤ d := ⟨by omega, k.2⟩
theorem iv_ne_l {x y a b : Int} (t : ¬ x = y) (h : a ≤ x ∧ x ≤ b) (k : a ≤ y ∧ y ≤ a) : a + 1 ≤ x ∧ x ≤ b := ⟨by omega, h.2⟩
theorem iv_ne_r {x y a b : Int} (t : ¬ x = y) (h : a ≤ x ∧ x ≤ b) (k : b ≤ y ∧ y ≤ b) : a ≤ x ∧ x ≤ b - 1 := ⟨h.1, by omega⟩
theorem ti_lt {x y : Int32} (h : x < y) : x.toInt < y.toInt := Int32.lt_iff_toInt_lt.mp h
theorem ti_le {x y : Int32} (h : x ≤ y) : x.toInt ≤ y.toInt := Int32.le_iff_toInt_le.mp h
theorem ti_nlt {x y : Int32} (h : ¬ x < y) : y.toInt ≤ x.toInt := Int32.le_iff_toInt_le.mp (Int32.not_lt.mp h)
theorem ti_nle {x y : Int32} (h : ¬ x ≤ y) : y.toInt < x.toInt := Int32.lt_iff_toInt_lt.mp (Int32.not_le.mp h)
theorem ti_eq {x y : Int32} (h : x = y) : x.toInt = y.toInt := congrArg Int32.toInt h
theorem ti_ne {x y : Int32} (h : ¬ x = y) : ¬ x.toInt = y.toInt := fun q => h (Int32.toInt_inj.mp q)
theorem tr_lt {x y : Int32} (h : x.toInt < y.toInt) : x < y := Int32.lt_iff_toInt_lt.mpr h
theorem tr_le {x y : Int32} (h : x.toInt ≤ y.toInt) : x ≤ y := Int32.le_iff_toInt_le.mpr h
theorem tr_eq {x y : Int32} (h : x.toInt = y.toInt) : x = y := Int32.toInt_inj.mp h
theorem ti_bm {z : Int} (h1 : -2147483648 ≤ z) (h2 : z ≤ 2147483647) : z.bmod (2 ^ 32) = z := by
  rw [Int.bmod_def]
  split <;> omega
theorem ti_add {x y w : Int32} {a b c d e f : Int} (hx : a ≤ x.toInt ∧ x.toInt ≤ b) (hy : c ≤ y.toInt ∧ y.toInt ≤ d) (ew : w = x + y) (h : -2147483648 ≤ e ∧ e ≤ a + c ∧ b + d ≤ f ∧ f ≤ 2147483647) : w.toInt = x.toInt + y.toInt ∧ (e ≤ w.toInt ∧ w.toInt ≤ f) := by
  have h1 : w.toInt = x.toInt + y.toInt := by
    rw [ew, Int32.toInt_add]
    exact ti_bm (by omega) (by omega)
  exact ⟨h1, by omega, by omega⟩
theorem ti_sub {x y w : Int32} {a b c d e f : Int} (hx : a ≤ x.toInt ∧ x.toInt ≤ b) (hy : c ≤ y.toInt ∧ y.toInt ≤ d) (ew : w = x - y) (h : -2147483648 ≤ e ∧ e ≤ a - d ∧ b - c ≤ f ∧ f ≤ 2147483647) : w.toInt = x.toInt - y.toInt ∧ (e ≤ w.toInt ∧ w.toInt ≤ f) := by
  have h1 : w.toInt = x.toInt - y.toInt := by
    rw [ew, Int32.toInt_sub]
    exact ti_bm (by omega) (by omega)
  exact ⟨h1, by omega, by omega⟩
theorem ti_mulb {x y a b c d e f : Int} (hx : a ≤ x ∧ x ≤ b) (hy : c ≤ y ∧ y ≤ d) (h : e ≤ a * c ∧ e ≤ a * d ∧ e ≤ b * c ∧ e ≤ b * d ∧ a * c ≤ f ∧ a * d ≤ f ∧ b * c ≤ f ∧ b * d ≤ f) : e ≤ x * y ∧ x * y ≤ f := by
  have lin : ∀ (p q z w lo hi : Int), p ≤ z → z ≤ q → lo ≤ p * w → lo ≤ q * w → p * w ≤ hi → q * w ≤ hi → lo ≤ z * w ∧ z * w ≤ hi := by
    intro p q z w lo hi h1 h2 h3 h4 h5 h6
    rcases Int.le_total 0 w with hw | hw
    · have e1 := Int.mul_le_mul_of_nonneg_right h1 hw
      have e2 := Int.mul_le_mul_of_nonneg_right h2 hw
      omega
    · have e1 := Int.mul_le_mul_of_nonpos_right h1 hw
      have e2 := Int.mul_le_mul_of_nonpos_right h2 hw
      omega
  have h1 := lin c d y a e f hy.1 hy.2 (by rw [Int.mul_comm]; omega) (by rw [Int.mul_comm]; omega) (by rw [Int.mul_comm]; omega) (by rw [Int.mul_comm]; omega)
  have h2 := lin c d y b e f hy.1 hy.2 (by rw [Int.mul_comm]; omega) (by rw [Int.mul_comm]; omega) (by rw [Int.mul_comm]; omega) (by rw [Int.mul_comm]; omega)
  rw [Int.mul_comm] at h1 h2
  exact lin a b x y e f hx.1 hx.2 h1.1 h2.1 h1.2 h2.2
theorem ti_mul {x y w : Int32} {a b c d e f : Int} (hx : a ≤ x.toInt ∧ x.toInt ≤ b) (hy : c ≤ y.toInt ∧ y.toInt ≤ d) (ew : w = x * y) (h : (e ≤ a * c ∧ e ≤ a * d ∧ e ≤ b * c ∧ e ≤ b * d ∧ a * c ≤ f ∧ a * d ≤ f ∧ b * c ≤ f ∧ b * d ≤ f) ∧ -2147483648 ≤ e ∧ f ≤ 2147483647) : w.toInt = x.toInt * y.toInt ∧ (e ≤ w.toInt ∧ w.toInt ≤ f) := by
  have h2 := ti_mulb hx hy h.1
  have h1 : w.toInt = x.toInt * y.toInt := by
    rw [ew, Int32.toInt_mul]
    exact ti_bm (by omega) (by omega)
  rw [h1]
  exact ⟨rfl, h2⟩
theorem iv_in {i : Int32} {lo hi : Int} {n : Nat} (h : lo ≤ i.toInt ∧ i.toInt ≤ hi) (q : 0 ≤ lo ∧ hi < n) : vp_in i n := vp_in_iff.mpr ⟨by omega, by omega⟩
theorem iv_no {x a b : Int} {P : Prop} (h : a ≤ x ∧ x ≤ b) (q : b < a) : P := absurd h.1 (by omega)
/-! ===== the rows over a world by number ===== -/
theorem vp_in_lt {i : Int32} {n : Nat} (h : vp_in i n) : i.toNatClampNeg < n := Nat.not_le.mp fun q => h (Or.inr q)
theorem okI {ad : Nat → Nat} {t : Nat × Int × Int} {x : Int32} {lo hi : Int} (ht : t = (0, lo, hi)) (h : lo ≤ x.toInt ∧ x.toInt ≤ hi) : okV ad t (.int x) := by
  rw [ht]
  exact ⟨rfl, h⟩
theorem IX.el {cT : Nat → ClassId} {sh : Nat → Nat × Nat × Nat} {sp : Nat → Nat → Nat × Int × Int} {n : Nat} {ad : Nat → Nat} {E : Nat → va_E} (h : IX cT sh sp n ad E) (o : Nat) (ho : o < n) {k nl : Nat} (hs : sh o = (1, k, nl)) {i x : Int32} (hin : vp_in i nl) {lo hi : Int} (hp : ∀ j, sp o j = (0, lo, hi)) (ex : x = xi (E o) i.toNatClampNeg) : lo ≤ x.toInt ∧ x.toInt ≤ hi := by
  rw [ex]
  exact h.iv o ho hs (vp_in_lt hin) (hp _)
theorem th_v0 {cT : Nat → ClassId} {sh : Nat → Nat × Nat × Nat} {sp : Nat → Nat → Nat × Int × Int} {n : Nat} {ad : Nat → Nat} {w : Nat → Nat → Bool} {E E' : Nat → va_E} (hKp : Kp w E E') (h : IX cT sh sp n ad E) (o : Nat) (ho : o < n) {c nf j : Nat} (hs : sh o = (0, c, nf)) (hj : j < nf) {lo hi : Int} (hp : sp o j = (0, lo, hi)) (hw : w o j = false) : xv (E' o) j = .int (xi (E o) j) := (hKp o j hw).trans (h.fi o ho hs hj hp)
theorem nar_bool {x : Int32} (h : 0 ≤ x.toInt ∧ x.toInt ≤ 1) : vp_nar .boolean x = x := by
  have h1 : x.toInt = 0 ∨ x.toInt = 1 := by omega
  rcases h1 with h1 | h1
  · have : x = 0 := Int32.toInt_inj.mp h1
    subst this
    decide
  · have : x = 1 := Int32.toInt_inj.mp h1
    subst this
    decide
section TH
variable {p : Program} {l : Launch} {e : Env} {R : Room} {s : State} {m : MethodId} {args : Array Value} {below : List Frame} {meth : Method} {c : Code} {H : Heap} {locs : List Loc} {cells slots : Nat} {Q : State → Prop}
variable {pc : Nat} {ls : Array Slot} {rest : List Value} {cc : ByteArray} {dC : Nat → ClassId} {dI : Nat → Nat → Nat} {cT : Nat → ClassId} {sh : Nat → Nat × Nat × Nat} {sp : Nat → Nat → Nat × Int × Int} {n : Nat} {ad : Nat → Nat} {E : Nat → va_E} {tys : List (ClassId × FieldType)} {A : Nat → Prop} {H0 : Heap}
theorem th_get (hx : p.tables.exec = Jvm.exec) (hb : c.code = cc) {own ref C : String} {T : u_T} {N ci index : Nat} {Ts : List Cond} (hts : ∀ w ∈ Ts, w.before args s = true) (hin : ∀ w ∈ u_ws C T N, w ∈ Ts) (hown : s.vm.findClass own = some m.cls) (hK : va_K (dC, dI) vwCl tys s) (hP : va_P (dC, dI) vwCl (WX n ad E) H) (hI : IX cT sh sp n ad E) (o : Nat) (ho : o < n) (hs : sh o = (0, ci, N)) (hc : vwCl[ci]? = some (C, T, N)) (k : Nat) (hk : k < N) (hlink : (Cond.fieldLink own index ref (T k).2.1 (T k).2.2.1).before args s = true) (hsame : ∀ x, s.fieldFound? (T k).1 (T k).2.1 (T k).2.2.1 = some x → s.fieldFound? ref (T k).2.1 (T k).2.2.1 = some x) {v : Value} (hv : xv (E o) k = v) (hdg : decode cc pc = .ok (.getfield index, 3))
    (kk : W p l e R s m args below meth c H locs cells slots Q (F0 m (pc + 3) ls (v :: rest))) : W p l e R s m args below meth c H locs cells slots Q (F0 m pc ls (.ref (ad o) :: rest)) :=
  va_get hx hb hts hin hown hK hP o (hI.ob o ho hs) hc k hk hlink hsame (by simp [hk, hv]) hdg kk
theorem th_put (hx : p.tables.exec = Jvm.exec) (hb : c.code = cc) {own ref C : String} {T : u_T} {N ci index : Nat} {Ts : List Cond} (hts : ∀ w ∈ Ts, w.before args s = true) (hin : ∀ w ∈ u_ws C T N, w ∈ Ts) (ty0 : Nat → FieldType) (hty : ∀ k, k < N → parseFieldDescriptor (T k).2.2.1 = some (ty0 k)) (hnm : ∀ a, a < N → ∀ b, b < N → a ≠ b → (T a).2.1 ≠ (T b).2.1) (hown : s.vm.findClass own = some m.cls) (hK : va_K (dC, dI) vwCl tys s) (hP : va_P (dC, dI) vwCl (WX n ad E) H) (hD : va_D A (WX n ad E)) (hS : va_S A H0 H locs) (hI : IX cT sh sp n ad E) (o : Nat) (ho : o < n) (hs : sh o = (0, ci, N)) (hc : vwCl[ci]? = some (C, T, N)) (k : Nat) (hk : k < N) (hlink : (Cond.fieldLink own index ref (T k).2.1 (T k).2.2.1).before args s = true) (hsame : ∀ x, s.fieldFound? (T k).1 (T k).2.1 (T k).2.2.1 = some x → s.fieldFound? ref (T k).2.1 (T k).2.2.1 = some x) (hfin : (T k).2.2.2 = false) {ty : FieldType} {v : Value} (hd : parseFieldDescriptor (T k).2.2.1 = some ty) (hn : narrow ty v = v) (hfit : fits ty v = true) (hv : okV ad (sp o k) v)
    (hdg : decode cc pc = .ok (.putfield index, 3)) (kk : ∀ (H1 : Heap) (locs1 : List Loc) (E1 : Nat → va_E), Pw E E1 o k v → IX cT sh sp n ad E1 → va_P (dC, dI) vwCl (WX n ad E1) H1 → va_S A H0 H1 locs1 → W p l e R s m args below meth c H1 locs1 cells slots Q (F0 m (pc + 3) ls rest)) : W p l e R s m args below meth c H locs cells slots Q (F0 m pc ls (v :: .ref (ad o) :: rest)) := by
  obtain ⟨h1, h2⟩ := hI.put o ho hs k hk v hv
  refine va_put hx hb hts hin ty0 hty hnm hown hK hP hD hS o (hI.ob o ho hs) hc k hk hlink hsame hfin hd hn hfit (by simp [hk]) hdg (fun H1 locs1 q1 _ q3 => ?_)
  rw [show ((List.range N).map (xv (E o))).set k v = (List.range N).map (va_up (xv (E o)) k v) by
    apply List.ext_getElem?
    intro i
    rw [List.getElem?_set]
    by_cases hi : k = i
    · subst hi
      simp [hk, va_up_self]
    · by_cases hN : i < N
      · simp [hN, va_up_ne _ _ (Ne.symm hi), if_neg hi]
      · rw [if_neg hi, List.getElem?_eq_none (by simp; omega), List.getElem?_eq_none (by simp; omega)], WX_set ho] at q1
  exact kk H1 locs1 _ h1 h2 q1 q3
theorem th_iald (hx : p.tables.exec = Jvm.exec) (hb : c.code = cc) (hK : va_K (dC, dI) vwCl tys s) (hP : va_P (dC, dI) vwCl (WX n ad E) H) (hI : IX cT sh sp n ad E) (o : Nat) (ho : o < n) {k nl : Nat} (hs : sh o = (1, k, nl)) (ht : tys[k]? = some (cT k, .int)) {i : Int32} (hin : vp_in i nl) (hdg : decode cc pc = .ok (.iaload, 1))
    (kk : ∀ y : Int32, y = xi (E o) i.toNatClampNeg → W p l e R s m args below meth c H locs cells slots Q (F0 m (pc + 1) ls (.int y :: rest))) : W p l e R s m args below meth c H locs cells slots Q (F0 m pc ls (.int i :: .ref (ad o) :: rest)) :=
  va_iald hx hb hK hP o k (hI.ar o ho hs) ht hin hdg (kk _ rfl)
theorem th_bald (hx : p.tables.exec = Jvm.exec) (hb : c.code = cc) (hK : va_K (dC, dI) vwCl tys s) (hP : va_P (dC, dI) vwCl (WX n ad E) H) (hI : IX cT sh sp n ad E) (o : Nat) (ho : o < n) {k nl : Nat} (hs : sh o = (1, k, nl)) (ht : tys[k]? = some (cT k, .byte)) {i : Int32} (hin : vp_in i nl) (hdg : decode cc pc = .ok (.baload, 1))
    (kk : ∀ y : Int32, y = xi (E o) i.toNatClampNeg → W p l e R s m args below meth c H locs cells slots Q (F0 m (pc + 1) ls (.int y :: rest))) : W p l e R s m args below meth c H locs cells slots Q (F0 m pc ls (.int i :: .ref (ad o) :: rest)) :=
  va_bald hx hb hK hP o k (hI.ar o ho hs) ht hin hdg (kk _ rfl)
theorem th_zald (hx : p.tables.exec = Jvm.exec) (hb : c.code = cc) (hK : va_K (dC, dI) vwCl tys s) (hP : va_P (dC, dI) vwCl (WX n ad E) H) (hI : IX cT sh sp n ad E) (o : Nat) (ho : o < n) {k nl : Nat} (hs : sh o = (1, k, nl)) (ht : tys[k]? = some (cT k, .boolean)) {i : Int32} (hin : vp_in i nl) (hdg : decode cc pc = .ok (.baload, 1))
    (kk : ∀ y : Int32, y = xi (E o) i.toNatClampNeg → W p l e R s m args below meth c H locs cells slots Q (F0 m (pc + 1) ls (.int y :: rest))) : W p l e R s m args below meth c H locs cells slots Q (F0 m pc ls (.int i :: .ref (ad o) :: rest)) :=
  va_zald hx hb hK hP o k (hI.ar o ho hs) ht hin hdg (kk _ rfl)
theorem th_iast (hx : p.tables.exec = Jvm.exec) (hb : c.code = cc) (hK : va_K (dC, dI) vwCl tys s) (hP : va_P (dC, dI) vwCl (WX n ad E) H) (hD : va_D A (WX n ad E)) (hS : va_S A H0 H locs) (hI : IX cT sh sp n ad E) (o : Nat) (ho : o < n) {k nl : Nat} (hs : sh o = (1, k, nl)) (ht : tys[k]? = some (cT k, .int)) {i x : Int32} (hin : vp_in i nl) (hv : okV ad (sp o i.toNatClampNeg) (.int x)) (hdg : decode cc pc = .ok (.iastore, 1))
    (kk : ∀ (H1 : Heap) (locs1 : List Loc) (E1 : Nat → va_E), Pw E E1 o i.toNatClampNeg (.int x) → IX cT sh sp n ad E1 → va_P (dC, dI) vwCl (WX n ad E1) H1 → va_S A H0 H1 locs1 → W p l e R s m args below meth c H1 locs1 cells slots Q (F0 m (pc + 1) ls rest)) : W p l e R s m args below meth c H locs cells slots Q (F0 m pc ls (.int x :: .int i :: .ref (ad o) :: rest)) := by
  obtain ⟨h1, h2⟩ := hI.ast o ho hs i.toNatClampNeg x (fun _ => hv)
  refine va_iast hx hb hK hP hD hS o k (hI.ar o ho hs) ht hin hdg (fun H1 locs1 q1 _ q3 => ?_)
  rw [WX_set ho] at q1
  exact kk H1 locs1 _ h1 h2 q1 q3
theorem th_bast (hx : p.tables.exec = Jvm.exec) (hb : c.code = cc) (hK : va_K (dC, dI) vwCl tys s) (hP : va_P (dC, dI) vwCl (WX n ad E) H) (hD : va_D A (WX n ad E)) (hS : va_S A H0 H locs) (hI : IX cT sh sp n ad E) (o : Nat) (ho : o < n) {k nl : Nat} (hs : sh o = (1, k, nl)) (ht : tys[k]? = some (cT k, .byte)) {i x : Int32} (hin : vp_in i nl) (hv : okV ad (sp o i.toNatClampNeg) (.int (vp_nar .byte x))) (hdg : decode cc pc = .ok (.bastore, 1))
    (kk : ∀ (H1 : Heap) (locs1 : List Loc) (E1 : Nat → va_E), Pw E E1 o i.toNatClampNeg (.int (vp_nar .byte x)) → IX cT sh sp n ad E1 → va_P (dC, dI) vwCl (WX n ad E1) H1 → va_S A H0 H1 locs1 → W p l e R s m args below meth c H1 locs1 cells slots Q (F0 m (pc + 1) ls rest)) : W p l e R s m args below meth c H locs cells slots Q (F0 m pc ls (.int x :: .int i :: .ref (ad o) :: rest)) := by
  obtain ⟨h1, h2⟩ := hI.ast o ho hs i.toNatClampNeg (vp_nar .byte x) (fun _ => hv)
  refine va_bast hx hb hK hP hD hS o k (hI.ar o ho hs) ht hin hdg (fun H1 locs1 q1 _ q3 => ?_)
  rw [WX_set ho] at q1
  exact kk H1 locs1 _ h1 h2 q1 q3
theorem th_zast (hx : p.tables.exec = Jvm.exec) (hb : c.code = cc) (hK : va_K (dC, dI) vwCl tys s) (hP : va_P (dC, dI) vwCl (WX n ad E) H) (hD : va_D A (WX n ad E)) (hS : va_S A H0 H locs) (hI : IX cT sh sp n ad E) (o : Nat) (ho : o < n) {k nl : Nat} (hs : sh o = (1, k, nl)) (ht : tys[k]? = some (cT k, .boolean)) {i x : Int32} (hin : vp_in i nl) (hx01 : 0 ≤ x.toInt ∧ x.toInt ≤ 1) (hv : okV ad (sp o i.toNatClampNeg) (.int x)) (hdg : decode cc pc = .ok (.bastore, 1))
    (kk : ∀ (H1 : Heap) (locs1 : List Loc) (E1 : Nat → va_E), Pw E E1 o i.toNatClampNeg (.int x) → IX cT sh sp n ad E1 → va_P (dC, dI) vwCl (WX n ad E1) H1 → va_S A H0 H1 locs1 → W p l e R s m args below meth c H1 locs1 cells slots Q (F0 m (pc + 1) ls rest)) : W p l e R s m args below meth c H locs cells slots Q (F0 m pc ls (.int x :: .int i :: .ref (ad o) :: rest)) := by
  obtain ⟨h1, h2⟩ := hI.ast o ho hs i.toNatClampNeg x (fun _ => hv)
  refine va_zast hx hb hK hP hD hS o k (hI.ar o ho hs) ht hin hdg (fun H1 locs1 q1 _ q3 => ?_)
  rw [nar_bool hx01, WX_set ho] at q1
  exact kk H1 locs1 _ h1 h2 q1 q3
end TH
/-! ===== contracts over a world by number, and their calls ===== -/
/-- what a method's start asks: the world of n cells, the tables, what the machine holds beside -/
def HW (dC : Nat → ClassId) (dI : Nat → Nat → Nat) (tys : List (ClassId × FieldType)) (n : Nat) (ad : Nat → Nat) (E : Nat → va_E) (sz : Nat) : State → Prop := fun U => U.heap.size = sz ∧ va_P (dC, dI) vwCl (WX n ad E) U.heap ∧ va_K (dC, dI) vwCl tys U ∧ va_D (fun _ => True) (WX n ad E) ∧ EV (va_A (WX n ad E) sz) U U.heap
def HB (dC : Nat → ClassId) (dI : Nat → Nat → Nat) (n : Nat) (ad : Nat → Nat) : (Nat → va_E) → State → Prop := fun u t => va_P (dC, dI) vwCl (WX n ad u) t.heap
section THC
variable {p : Program} {l : Launch} {e : Env} {R : Room} {s : State} {m : MethodId} {args : Array Value} {below : List Frame} {meth : Method} {c : Code} {H : Heap} {locs : List Loc} {cells slots : Nat} {Q : State → Prop}
variable {pc : Nat} {ls : Array Slot} {rest st0 : List Value} {cc : ByteArray} {dC : Nat → ClassId} {dI : Nat → Nat → Nat} {tys : List (ClassId × FieldType)} {n : Nat} {ad : Nat → Nat} {E : Nat → va_E} {A : Nat → Prop}
theorem HW_bl {sz : Nat} {av : List Value} (a : Array Value) (U : State) (g : JFrame) (mk : MethodId) (q : va_Pc av (HW dC dI tys n ad E sz) a U) : va_Pc av (HW dC dI tys n ad E sz) a (U.calling g mk a) := by
  obtain ⟨e0, e1, qP, qK, qD, qE⟩ := q
  exact ⟨e0, e1, qP, va_K.moved (u := U) (U := U.calling g mk a) (Vm.Alike.refl U.vm) qK, qD, EV_c qE⟩
theorem HW_wi {av : List Value} (hP : va_P (dC, dI) vwCl (WX n ad E) H) (hK : va_K (dC, dI) vwCl tys s) (hD : va_D A (WX n ad E)) (hS : va_S A s.heap H locs) (hA : ∀ q, s.heap.size ≤ q → A q) (hE : EV A s s.heap) (U : State) (hU : U.heap = H) (hW : s.WarmedH U.vm) : va_Pc av (HW dC dI tys n ad E H.size) av.toArray U :=
  ⟨rfl, by rw [hU], by rw [hU]; exact hP, va_K.moved hW.alike hK, hD.weaken (fun _ _ _ _ => trivial), EV_w hU hW hS (WX_free hD hS hA) hE⟩
theorem th_i {post : Int32 → (Nat → va_E) → Prop} {a : Array Value} (hr : va_Run p l e R s m args below meth c H locs cells slots 0 0 (F0 m pc ls st0) rest (va_Qi (S := Nat → va_E) post (HB dC dI n ad) (va_A (WX n ad E) H.size) a) (va_A (WX n ad E) H.size)) (hD : va_D A (WX n ad E)) (hS : va_S A s.heap H locs) (hA : ∀ q, s.heap.size ≤ q → A q)
    (kk : ∀ (r : Int32) (u : Nat → va_E) (H1 : Heap) (locs1 : List Loc), post r u → va_P (dC, dI) vwCl (WX n ad u) H1 → va_S A s.heap H1 locs1 → W p l e R s m args below meth c H1 locs1 cells slots Q (F0 m (pc + 3) ls (.int r :: rest))) : W p l e R s m args below meth c H locs cells slots Q (F0 m pc ls st0) :=
  va_calli hr hS (fun q _ h => WX_free hD hS hA q h) (WX_free hD hS hA) (fun r u t H1 locs1 ht _ hw hB _ _ hS1 => kk r u H1 locs1 hw (by rw [← ht]; exact hB) hS1)
theorem th_v {post : (Nat → va_E) → Prop} {a : Array Value} (hr : va_Run p l e R s m args below meth c H locs cells slots 0 0 (F0 m pc ls st0) rest (va_Qv (S := Nat → va_E) post (HB dC dI n ad) (va_A (WX n ad E) H.size) a) (va_A (WX n ad E) H.size)) (hD : va_D A (WX n ad E)) (hS : va_S A s.heap H locs) (hA : ∀ q, s.heap.size ≤ q → A q)
    (kk : ∀ (u : Nat → va_E) (H1 : Heap) (locs1 : List Loc), post u → va_P (dC, dI) vwCl (WX n ad u) H1 → va_S A s.heap H1 locs1 → W p l e R s m args below meth c H1 locs1 cells slots Q (F0 m (pc + 3) ls rest)) : W p l e R s m args below meth c H locs cells slots Q (F0 m pc ls st0) :=
  va_callv hr hS (fun q _ h => WX_free hD hS hA q h) (WX_free hD hS hA) (fun u t H1 locs1 ht _ hw hB _ _ hS1 => kk u H1 locs1 hw (by rw [← ht]; exact hB) hS1)
end THC
theorem il_ (n : Int) : n ≤ n ∧ n ≤ n := ⟨Int.le_refl n, Int.le_refl n⟩
theorem iv_all (x : Int32) : -2147483648 ≤ x.toInt ∧ x.toInt ≤ 2147483647 := by
  have h1 := Int32.le_toInt x
  have h2 := Int32.toInt_lt x
  omega
theorem iv_eqi {x y a b c d e f : Int} (t : x = y) (h : a ≤ x ∧ x ≤ b) (k : c ≤ y ∧ y ≤ d) (q : (e ≤ a ∨ e ≤ c) ∧ (b ≤ f ∨ d ≤ f)) : e ≤ x ∧ x ≤ f := ⟨by omega, by omega⟩
theorem iv_n0 {y : Int32} {c d : Int} (h : c ≤ y.toInt ∧ y.toInt ≤ d) (q : 0 < c ∨ d < 0) : ¬ y = 0 := fun e => by
  rw [e] at h
  have e0 : (0 : Int32).toInt = 0 := rfl
  omega
theorem ti_div {x y w : Int32} {a b c d e f : Int} (hx : a ≤ x.toInt ∧ x.toInt ≤ b) (hy : c ≤ y.toInt ∧ y.toInt ≤ d) (ew : w = x / y) (h : 0 ≤ a ∧ 0 < c ∧ e ≤ a / d ∧ b / c ≤ f) : w.toInt = x.toInt / y.toInt ∧ (e ≤ w.toInt ∧ w.toInt ≤ f) := by
  have h1 : w.toInt = x.toInt / y.toInt := by
    rw [ew, Int32.toInt_div, Int.tdiv_eq_ediv_of_nonneg (by omega)]
    have h2 := Int.ediv_le_self y.toInt (show 0 ≤ x.toInt by omega)
    have h3 : 0 ≤ x.toInt / y.toInt := Int.ediv_nonneg (by omega) (by omega)
    have h4 := (iv_all x).2
    exact ti_bm (by omega) (by omega)
  refine ⟨h1, ?_, ?_⟩
  · rw [h1]
    have h2 : a / d ≤ x.toInt / d := Int.ediv_le_ediv (by omega) (by omega)
    have h3 : x.toInt / d ≤ x.toInt / y.toInt := by
      have h4 : x.toInt / d * y.toInt ≤ x.toInt := by
        have h5 : x.toInt / d * y.toInt ≤ x.toInt / d * d := Int.mul_le_mul_of_nonneg_left (by omega) (Int.ediv_nonneg (by omega) (by omega))
        have h6 := Int.ediv_mul_le x.toInt (show d ≠ 0 by omega)
        omega
      exact (Int.le_ediv_iff_mul_le (by omega)).mpr h4
    omega
  · rw [h1]
    have h2 : x.toInt / y.toInt ≤ x.toInt / c := by
      have h4 : x.toInt / y.toInt * c ≤ x.toInt := by
        have h5 : x.toInt / y.toInt * c ≤ x.toInt / y.toInt * y.toInt := Int.mul_le_mul_of_nonneg_left (by omega) (Int.ediv_nonneg (by omega) (by omega))
        have h6 := Int.ediv_mul_le x.toInt (show y.toInt ≠ 0 by omega)
        omega
      exact (Int.le_ediv_iff_mul_le (by omega)).mpr h4
    have h3 : x.toInt / c ≤ b / c := Int.ediv_le_ediv (by omega) (by omega)
    omega
theorem ti_max {x y w : Int32} {a b c d e f : Int} (hx : a ≤ x.toInt ∧ x.toInt ≤ b) (hy : c ≤ y.toInt ∧ y.toInt ≤ d) (ew : w = if x < y then y else x) (h : (e ≤ a ∨ e ≤ c) ∧ b ≤ f ∧ d ≤ f) : w.toInt = max x.toInt y.toInt ∧ (e ≤ w.toInt ∧ w.toInt ≤ f) := by
  rw [ew]
  by_cases q : x < y
  · rw [if_pos q]
    have := ti_lt q
    exact ⟨by omega, by omega, by omega⟩
  · rw [if_neg q]
    have := ti_nlt q
    exact ⟨by omega, by omega, by omega⟩
theorem ti_min {x y w : Int32} {a b c d e f : Int} (hx : a ≤ x.toInt ∧ x.toInt ≤ b) (hy : c ≤ y.toInt ∧ y.toInt ≤ d) (ew : w = if y < x then y else x) (h : e ≤ a ∧ e ≤ c ∧ (b ≤ f ∨ d ≤ f)) : w.toInt = min x.toInt y.toInt ∧ (e ≤ w.toInt ∧ w.toInt ≤ f) := by
  rw [ew]
  by_cases q : y < x
  · rw [if_pos q]
    have := ti_lt q
    exact ⟨by omega, by omega, by omega⟩
  · rw [if_neg q]
    have := ti_nlt q
    exact ⟨by omega, by omega, by omega⟩
theorem nI_of_nonneg {m : Int32} (h : 0 ≤ m.toInt) : m = nI m.toInt.toNat := by
  apply Int32.toInt_inj.mp
  have := (iv_all m).2
  rw [nI_toInt (by omega)]
  omega
theorem ti_and {x m w : Int32} (h : 0 ≤ m.toInt) (ew : w = x &&& m) : 0 ≤ w.toInt ∧ w.toInt ≤ m.toInt := by
  have hm : m.toBitVec.msb = false := by
    rw [BitVec.msb_eq_false_iff_two_mul_lt]
    have h1 : m.toInt = m.toBitVec.toInt := rfl
    rw [h1, BitVec.toInt_eq_toNat_cond] at h
    split at h
    · assumption
    · have := m.toBitVec.isLt
      omega
  have hw : w.toBitVec.toNat ≤ m.toBitVec.toNat := by
    rw [ew, Int32.toBitVec_and, BitVec.toNat_and]
    exact Nat.and_le_right
  have hm2 : 2 * m.toBitVec.toNat < 2 ^ 32 := by
    rw [BitVec.msb_eq_false_iff_two_mul_lt] at hm
    exact hm
  have e1 : w.toInt = (w.toBitVec.toNat : Int) := by
    show w.toBitVec.toInt = _
    rw [BitVec.toInt_eq_toNat_cond, if_pos (by omega)]
  have e2 : m.toInt = (m.toBitVec.toNat : Int) := by
    show m.toBitVec.toInt = _
    rw [BitVec.toInt_eq_toNat_cond, if_pos (by omega)]
  rw [e1, e2]
  omega
theorem iv_i2b {x w : Int32} (ew : w = x.toInt8.toInt32) : -128 ≤ w.toInt ∧ w.toInt ≤ 127 := by
  rw [ew, Int8.toInt_toInt32]
  have h1 := Int8.le_toInt x.toInt8
  have h2 := Int8.toInt_lt x.toInt8
  omega
theorem iv_nb (x : Int32) : -128 ≤ (vp_nar .byte x).toInt ∧ (vp_nar .byte x).toInt ≤ 127 := by
  rw [vp_nar_byte]
  exact iv_i2b rfl
theorem bool01 {x : Int32} (h : 0 ≤ x.toInt ∧ x.toInt ≤ 1) : x = 0 ∨ x = 1 := by
  rcases (show x.toInt = 0 ∨ x.toInt = 1 by omega) with q | q
  · exact Or.inl (Int32.toInt_inj.mp q)
  · exact Or.inr (Int32.toInt_inj.mp q)
theorem nar_b1 {x : Int32} (h : 0 ≤ x.toInt ∧ x.toInt ≤ 1) : narrow .boolean (.int x) = .int x := by
  rcases bool01 h with rfl | rfl <;> rfl
theorem va_S.up {A : Nat → Prop} {H0 H : Heap} {locs : List Loc} (h : va_S (fun _ => False) H0 H locs) : va_S A H0 H locs := ⟨h.1, fun q h1 _ => h.2.1 q h1 id, fun l hl => (h.2.2 l hl).elim⟩
section THD
variable {p : Program} {l : Launch} {e : Env} {R : Room} {s : State} {m : MethodId} {args : Array Value} {below : List Frame} {meth : Method} {c : Code} {H : Heap} {locs : List Loc} {cells slots : Nat} {Q : State → Prop}
variable {pc : Nat} {ls : Array Slot} {rest st0 : List Value} {cc : ByteArray} {dC : Nat → ClassId} {dI : Nat → Nat → Nat} {tys : List (ClassId × FieldType)} {n : Nat} {ad : Nat → Nat} {E : Nat → va_E} {A A0 : Nat → Prop} {H0 : Heap}
theorem HW_wiR {av : List Value} (hP : va_P (dC, dI) vwCl (WX n ad E) H) (hK : va_K (dC, dI) vwCl tys s) (hD : va_D A (WX n ad E)) (hS : va_S (fun _ => False) s.heap H locs) (hE : EV (va_A (WX n ad E) s.heap.size) s s.heap) (U : State) (hU : U.heap = H) (hW : s.WarmedH U.vm) : va_Pc av (HW dC dI tys n ad E H.size) av.toArray U :=
  HW_wi (A := va_A (WX n ad E) s.heap.size) hP hK hD.self hS.up (fun _ h => Or.inr h) hE U hU hW
theorem th_ri {post : Int32 → Unit → Prop} {a : Array Value} (hr : va_Run p l e R s m args below meth c H locs cells slots 0 0 (F0 m pc ls st0) rest (va_Qi (S := Unit) post (fun _ _ => True) (fun _ => False) a) (fun _ => False)) (hS : va_S A0 H0 H locs) (hP : va_P (dC, dI) vwCl (WX n ad E) H)
    (kk : ∀ (r : Int32) (H1 : Heap) (locs1 : List Loc), post r () → va_P (dC, dI) vwCl (WX n ad E) H1 → va_S A0 H0 H1 locs1 → W p l e R s m args below meth c H1 locs1 cells slots Q (F0 m (pc + 3) ls (.int r :: rest))) : W p l e R s m args below meth c H locs cells slots Q (F0 m pc ls st0) :=
  va_calli hr hS (fun _ _ h => h.elim) (fun _ h => h.elim) (fun r _ _ H1 locs1 _ _ hw _ _ hk hS1 => kk r H1 locs1 hw (ub_keep hP hk) hS1)
theorem th_pi {post : Int32 → Unit → Prop} {a : Array Value} (hr : va_Run p l e R s m args below meth c H locs cells slots 0 0 (F0 m pc ls st0) rest (va_Qi (S := Unit) post (fun _ _ => True) (fun _ => False) a) (fun _ => False)) (hS : va_S A0 H0 H locs)
    (kk : ∀ (r : Int32) (H1 : Heap) (locs1 : List Loc), post r () → (∀ q : Nat, q < H.size → ¬ (fun _ : Nat => False) q → H1[q]? = H[q]?) → va_S A0 H0 H1 locs1 → W p l e R s m args below meth c H1 locs1 cells slots Q (F0 m (pc + 3) ls (.int r :: rest))) : W p l e R s m args below meth c H locs cells slots Q (F0 m pc ls st0) :=
  va_calli hr hS (fun _ _ h => h.elim) (fun _ h => h.elim) (fun r _ _ H1 locs1 _ _ hw _ _ hk hS1 => kk r H1 locs1 hw hk hS1)
end THD
theorem Kp.ef {w : Nat → Nat → Bool} {E E' : Nat → va_E} (h : Kp w E E') (o : Nat) (hw : ∀ j, w o j = false) : xi (E' o) = xi (E o) := funext (fun j => h.ei o j (hw j))
theorem tn_ (x : Int32) : x.toNatClampNeg = x.toInt.toNat := rfl
theorem tn_s {x y : Int32} (t : y.toInt = x.toInt + 1) {a b : Int} (h : a ≤ x.toInt ∧ x.toInt ≤ b) (q : 0 ≤ a) : y.toNatClampNeg = x.toNatClampNeg + 1 := by
  rw [tn_, tn_]
  omega
theorem nI_tn {x : Int32} (h : 0 ≤ x.toInt) : nI x.toNatClampNeg = x := (nI_of_nonneg h).symm
theorem vi_e {v : Value} {x : Int32} (h : v = .int x) : vi v = x := by rw [h]; rfl
theorem lcmp_n0 {x z : Int64} {y : Int32} (ey : y = lg_cmp x z) (ez : z = 0) (c : ¬ y = 0) : ¬ x = 0 := fun h => c (by rw [ey, h, ez]; decide)
theorem shl1_all : ∀ k : Nat, k < 17 → 1 ≤ ((1 : Int32) <<< (nI k &&& 31)).toInt ∧ ((1 : Int32) <<< (nI k &&& 31)).toInt ≤ 65536 := by decide +kernel
theorem ti_shl1 {y w : Int32} {a b : Int} (hy : a ≤ y.toInt ∧ y.toInt ≤ b) (ew : w = (1 : Int32) <<< (y &&& 31)) (h : 0 ≤ a ∧ b ≤ 16) : 1 ≤ w.toInt ∧ w.toInt ≤ 65536 := by
  rw [ew, nI_of_nonneg (m := y) (by omega)]
  exact shl1_all _ (by omega)
theorem i2l_n0 {x : Int32} {y : Int64} (ey : y = x.toInt64) (h : ¬ x.toInt = 0) : ¬ y = 0 := fun e => h (by
  have h1 : y.toInt = x.toInt := by rw [ey, Int32.toInt_toInt64]
  rw [e] at h1
  exact h1.symm)
/-- how many of the first ones stand below d, at d -/
def cLt (g : Nat → Int32) (d : Int) : Nat → Nat
  | 0 => 0
  | k + 1 => cLt g d k + (if (g k).toInt < d then 1 else 0)
def cEq (g : Nat → Int32) (d : Int) : Nat → Nat
  | 0 => 0
  | k + 1 => cEq g d k + (if (g k).toInt = d then 1 else 0)
theorem cLt_s (g : Nat → Int32) (d : Int) (n : Nat) : cLt g (d + 1) n = cLt g d n + cEq g d n := by
  induction n with
  | zero => rfl
  | succ n ih =>
    simp only [cLt, cEq, ih]
    by_cases h1 : (g n).toInt < d
    · rw [if_pos (by omega), if_pos h1, if_neg (by omega)]
      omega
    · by_cases h2 : (g n).toInt = d
      · rw [if_pos (by omega), if_neg h1, if_pos h2]
        omega
      · rw [if_neg (by omega), if_neg h1, if_neg h2]
        omega
theorem cLt_le (g : Nat → Int32) (d : Int) (n : Nat) : cLt g d n ≤ n := by
  induction n with
  | zero => exact Nat.le_refl 0
  | succ n ih =>
    simp only [cLt]
    split <;> omega
theorem cEq_mono (g : Nat → Int32) (d : Int) (k n : Nat) (h : k ≤ n) : cEq g d k ≤ cEq g d n := by
  induction n with
  | zero =>
    rw [show k = 0 by omega]
    exact Nat.le_refl _
  | succ n ih =>
    by_cases e : k = n + 1
    · rw [e]
      exact Nat.le_refl _
    · have := ih (by omega)
      simp only [cEq]
      omega
theorem cLE_le (g : Nat → Int32) (d : Int) (k n : Nat) (h : k ≤ n) : cLt g d n + cEq g d k ≤ n := by
  have h1 := cEq_mono g d k n h
  have h2 := cLt_le g (d + 1) n
  rw [cLt_s] at h2
  omega
theorem cEq_hit {g : Nat → Int32} {d : Int} {k : Nat} (h : (g k).toInt = d) : cEq g d (k + 1) = cEq g d k + 1 := by
  simp only [cEq, if_pos h]
theorem cEq_le_s (g : Nat → Int32) (d : Int) (k : Nat) : cEq g d k ≤ cEq g d (k + 1) := by
  simp only [cEq]
  omega
theorem ti_abs {x w : Int32} {a b e f : Int} (hx : a ≤ x.toInt ∧ x.toInt ≤ b) (ew : w = if 0 ≤ x then x else 0 - x) (h : -2147483647 ≤ a ∧ (e ≤ 0 ∨ e ≤ a ∨ e ≤ -b) ∧ b ≤ f ∧ -a ≤ f ∧ f ≤ 2147483647) : (w.toInt = x.toInt ∧ 0 ≤ x.toInt ∨ w.toInt = -x.toInt ∧ x.toInt < 0) ∧ (e ≤ w.toInt ∧ w.toInt ≤ f) := by
  have h0 : (0 : Int32).toInt = 0 := rfl
  by_cases q : 0 ≤ x
  · have t := ti_le q
    rw [h0] at t
    rw [ew, if_pos q]
    exact ⟨Or.inl ⟨rfl, t⟩, by omega, by omega⟩
  · have t := ti_nle q
    rw [h0] at t
    have e1 := ti_sub (x := 0) (y := x) (w := w) (e := 0) (f := f) (a := 0) (b := 0) (c := a) (d := -1) ⟨Int.le_refl 0, Int.le_refl 0⟩ ⟨hx.1, by omega⟩ (by rw [ew, if_neg q]) (by omega)
    rw [h0] at e1
    exact ⟨Or.inr ⟨by omega, t⟩, by omega, by omega⟩
/-- the certificate in force among the first ones, by three rows -/
def cO (gB gF gT : Nat → Int32) (boat day q : Int32) : Nat → Int32
  | 0 => -1
  | k + 1 => if gB k = boat ∧ gT k ≤ q ∧ gF k ≤ day ∧ (cO gB gF gT boat day q k = -1 ∨ gF (cO gB gF gT boat day q k).toNatClampNeg ≤ gF k) then nI k else cO gB gF gT boat day q k
theorem cO_skip {gB gF gT : Nat → Int32} {boat day q b : Int32} {x y : Int32} {lo hi : Int} (hb : b = cO gB gF gT boat day q x.toNatClampNeg) (t : y.toInt = x.toInt + 1) (hx : lo ≤ x.toInt ∧ x.toInt ≤ hi) (h0 : 0 ≤ lo) (h : ¬ (gB x.toNatClampNeg = boat ∧ gT x.toNatClampNeg ≤ q ∧ gF x.toNatClampNeg ≤ day ∧ (b = -1 ∨ gF b.toNatClampNeg ≤ gF x.toNatClampNeg))) : b = cO gB gF gT boat day q y.toNatClampNeg := by
  rw [tn_s t hx h0]
  subst hb
  exact (if_neg h).symm
theorem cO_take {gB gF gT : Nat → Int32} {boat day q b : Int32} {x y : Int32} {lo hi : Int} (hb : b = cO gB gF gT boat day q x.toNatClampNeg) (t : y.toInt = x.toInt + 1) (hx : lo ≤ x.toInt ∧ x.toInt ≤ hi) (h0 : 0 ≤ lo) (h : gB x.toNatClampNeg = boat ∧ gT x.toNatClampNeg ≤ q ∧ gF x.toNatClampNeg ≤ day ∧ (b = -1 ∨ gF b.toNatClampNeg ≤ gF x.toNatClampNeg)) : x = cO gB gF gT boat day q y.toNatClampNeg := by
  rw [tn_s t hx h0]
  subst hb
  refine Eq.trans ?_ (if_pos h).symm
  exact (nI_tn (by omega)).symm
/-- the last one of several that is of a, of b and not behind q -/
def lO (gA gB gT : Nat → Int32) (a b q : Int32) : Nat → Int32
  | 0 => -1
  | k + 1 => if gA k = a ∧ gB k = b ∧ gT k ≤ q then nI k else lO gA gB gT a b q k
theorem lO_skip {gA gB gT : Nat → Int32} {a b q r : Int32} {x y : Int32} {lo hi : Int} (hr : r = lO gA gB gT a b q x.toNatClampNeg) (t : y.toInt = x.toInt + 1) (hx : lo ≤ x.toInt ∧ x.toInt ≤ hi) (h0 : 0 ≤ lo) (h : ¬ (gA x.toNatClampNeg = a ∧ gB x.toNatClampNeg = b ∧ gT x.toNatClampNeg ≤ q)) : r = lO gA gB gT a b q y.toNatClampNeg := by
  rw [tn_s t hx h0]
  subst hr
  exact (if_neg h).symm
theorem lO_take {gA gB gT : Nat → Int32} {a b q : Int32} {x y : Int32} {lo hi : Int} (t : y.toInt = x.toInt + 1) (hx : lo ≤ x.toInt ∧ x.toInt ≤ hi) (h0 : 0 ≤ lo) (h : gA x.toNatClampNeg = a ∧ gB x.toNatClampNeg = b ∧ gT x.toNatClampNeg ≤ q) : x = lO gA gB gT a b q y.toNatClampNeg := by
  rw [tn_s t hx h0]
  refine Eq.trans ?_ (if_pos h).symm
  exact (nI_tn (by omega)).symm
theorem tn_ge {x y : Int32} (h : y.toInt ≤ x.toInt) (q : x.toInt ≤ y.toInt) : x.toNatClampNeg = y.toNatClampNeg := by
  rw [tn_, tn_]
  omega

