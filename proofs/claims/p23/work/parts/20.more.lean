

theorem sumI_push {g g' : Nat → Int32} {b b2 x : Int32} (hb : 0 ≤ b.toInt) (hb2 : b.toInt ≤ 100) (t : b2.toInt = b.toInt + 1) (e : g' = upd g b.toNatClampNeg x) : sumI g' b2.toNatClampNeg = sumI g b.toNatClampNeg + x.toInt ∧ (posI g' b2.toNatClampNeg : Int) = posI g b.toNatClampNeg + (if 0 < x.toInt then 1 else 0) := by
  have e2 : b2.toNatClampNeg = b.toNatClampNeg + 1 := by rw [tn_, tn_]; omega
  subst e
  have h1 := sumI_out (g := g) (k := b.toNatClampNeg) (x := x) b.toNatClampNeg (Nat.le_refl _)
  rw [e2]
  simp only [sumI, posI, h1.1, h1.2, pk_us]
  constructor
  · trivial
  · split <;> omega
theorem dr_place {x y z w : Int64} {t r : Int32} (ey : y = (x.toUInt64 >>> ((33 : Int32).toInt64.toUInt64 &&& Int64.toUInt64 63)).toInt64) (ez : z = t.toInt64) (ew : w = y - y / z * z) (er : r = w.toInt32) (ht : 1 ≤ t.toInt) (ht2 : t.toInt ≤ 100000) : 0 ≤ r.toInt ∧ r.toInt < t.toInt := by
  have e33 : ((33 : Int32).toInt64.toUInt64 &&& Int64.toUInt64 63) = 33 := by decide
  rw [e33] at ey
  have hk : (x.toUInt64 >>> 33).toNat < 2 ^ 31 := by
    rw [UInt64.toNat_shiftRight, show (33 : UInt64).toNat % 64 = 33 from by decide, Nat.shiftRight_eq_div_pow]
    have := x.toUInt64.toNat_lt
    omega
  have ey2 : y = lN (x.toUInt64 >>> 33).toNat := by
    have hu : ∀ u : UInt64, u.toInt64 = lN u.toNat := fun u => by
      apply Int64.toBitVec_inj.mp
      show u.toBitVec = BitVec.ofNat 64 u.toBitVec.toNat
      simp
    rw [ey, hu]
  have hb : t.toNatClampNeg < 2 ^ 31 := by rw [tn_]; omega
  have et : t = nI t.toNatClampNeg := (nI_tn (by omega)).symm
  have ez2 : z = lN t.toNatClampNeg := (ez.trans (congrArg Int32.toInt64 et)).trans (nI_l hb)
  have h0 : 0 < t.toNatClampNeg := by rw [tn_]; omega
  rw [er, ew, ey2, ez2, pk_lRem (by omega) h0 (by omega), lN_i]
  have hm := Nat.mod_lt (x.toUInt64 >>> 33).toNat h0
  rw [nI_toInt (by omega)]
  have := tn_ t
  omega
section
/-! ===== worlds of listed cells ===== -/
def posL (k : Nat) : List Nat → Nat
  | [] => 0
  | a :: l => if a = k then 0 else posL k l + 1
def WL (L : List Nat) (ad : Nat → Nat) (E : Nat → va_E) : va_W := L.map (fun k => (ad k, E k))
theorem WL_at {L : List Nat} {ad : Nat → Nat} {E : Nat → va_E} {k : Nat} (h : k ∈ L) : (WL L ad E)[posL k L]? = some (ad k, E k) := by
  induction L with
  | nil => cases h
  | cons a l ih =>
    by_cases e : a = k
    · subst e
      simp [posL, WL]
    · have h2 : k ∈ l := (List.mem_cons.mp h).resolve_left (fun q => e q.symm)
      have := ih h2
      rw [posL, if_neg e]
      exact this
theorem WL_mem {L : List Nat} {ad : Nat → Nat} {E : Nat → va_E} {i : Nat} {q : Nat × va_E} (h : (WL L ad E)[i]? = some q) : ∃ k, L[i]? = some k ∧ q = (ad k, E k) := by
  rw [WL, List.getElem?_map] at h
  cases hk : L[i]? with
  | none => rw [hk] at h; cases h
  | some k => rw [hk] at h; cases h; exact ⟨k, rfl, rfl⟩
theorem WL_ix {L : List Nat} {ad : Nat → Nat} {E : Nat → va_E} {i k : Nat} (h : L[i]? = some k) : (WL L ad E)[i]? = some (ad k, E k) := by
  rw [WL, List.getElem?_map, h]; rfl
theorem WL_set {L : List Nat} {ad : Nat → Nat} {E : Nat → va_E} {k : Nat} {e : va_E} (hn : L.Nodup) (h : k ∈ L) : (WL L ad E).set (posL k L) (ad k, e) = WL L ad (va_up E k e) := by
  induction L with
  | nil => cases h
  | cons a l ih =>
    have hn2 := List.nodup_cons.mp hn
    by_cases q : a = k
    · subst q
      rw [posL, if_pos rfl]
      show (ad a, e) :: WL l ad E = (ad a, va_up E a e a) :: WL l ad (va_up E a e)
      rw [va_up_self]
      refine congrArg _ ?_
      apply List.map_congr_left
      intro j hj
      rw [va_up_ne _ _ (fun h9 : j = a => hn2.1 (by rw [← h9]; exact hj))]
    · have h2 : k ∈ l := (List.mem_cons.mp h).resolve_left (fun h9 => q h9.symm)
      rw [posL, if_neg q]
      show (ad a, E a) :: (WL l ad E).set (posL k l) (ad k, e) = (ad a, va_up E k e a) :: WL l ad (va_up E k e)
      rw [va_up_ne _ _ q, ih hn2.2 h2]
theorem WL_D {L : List Nat} {ad : Nat → Nat} {E E' : Nat → va_E} {A : Nat → Prop} (h : va_D A (WL L ad E)) : va_D A (WL L ad E') := by
  refine ⟨fun i j p q hp hq e => ?_, fun k q hq => ?_⟩
  · obtain ⟨a, h1, rfl⟩ := WL_mem hp
    obtain ⟨b, h2, rfl⟩ := WL_mem hq
    exact h.1 i j _ _ (WL_ix h1) (WL_ix h2) e
  · obtain ⟨a, h1, rfl⟩ := WL_mem hq
    exact h.2 k (ad a, E a) (WL_ix h1)
theorem WL_A {L : List Nat} {ad : Nat → Nat} {E : Nat → va_E} {sz q : Nat} : va_A (WL L ad E) sz q ↔ (∃ k, k ∈ L ∧ q = ad k) ∨ sz ≤ q := by
  constructor
  · rintro (⟨k, e, hk⟩ | h)
    · obtain ⟨a, h1, h2⟩ := WL_mem hk
      exact Or.inl ⟨a, List.mem_of_getElem? h1, congrArg Prod.fst h2⟩
    · exact Or.inr h
  · rintro (⟨k, hk, rfl⟩ | h)
    · exact Or.inl ⟨posL k L, E k, WL_at hk⟩
    · exact Or.inr h
theorem WL_free {L : List Nat} {ad : Nat → Nat} {E E' : Nat → va_E} {A : Nat → Prop} {H0 H : Heap} {locs : List Loc} (hD : va_D A (WL L ad E)) (hS : va_S A H0 H locs) (hA : ∀ q, H0.size ≤ q → A q) : ∀ q, va_A (WL L ad E') H.size q → A q := by
  intro q hq
  rcases WL_A.mp hq with ⟨k, hk, rfl⟩ | h
  · exact hD.2 _ _ (WL_at hk)
  · exact hA q (Nat.le_trans hS.1 h)
def IXL (cT : Nat → ClassId) (sh : Nat → Nat × Nat × Nat) (sp : Nat → Nat → Nat × Int × Int) (L : List Nat) (ad : Nat → Nat) (E : Nat → va_E) : Prop := L.Nodup ∧ ∀ o : Nat, o ∈ L → okS cT (sh o) (E o) ∧ ∀ j : Nat, j < (sh o).2.2 → okV ad (sp o j) (xv (E o) j)
section IXLS
variable {cT : Nat → ClassId} {sh : Nat → Nat × Nat × Nat} {sp : Nat → Nat → Nat × Int × Int} {L : List Nat} {ad : Nat → Nat} {E : Nat → va_E}
theorem IXL.ob (h : IXL cT sh sp L ad E) (o : Nat) (ho : o ∈ L) {c nf : Nat} (hs : sh o = (0, c, nf)) : (WL L ad E)[posL o L]? = some (ad o, .inr (c, (List.range nf).map (xv (E o)))) := by
  have h1 := (h.2 o ho).1
  rw [hs] at h1
  rw [WL_at ho]
  exact congrArg (fun z => some (ad o, z)) h1
theorem IXL.ar (h : IXL cT sh sp L ad E) (o : Nat) (ho : o ∈ L) {k nl : Nat} (hs : sh o = (1, k, nl)) : (WL L ad E)[posL o L]? = some (ad o, .inl (cT k, nl, .inl (xi (E o)))) := by
  have h1 := (h.2 o ho).1
  rw [hs] at h1
  rw [WL_at ho]
  exact congrArg (fun z => some (ad o, z)) h1
theorem IXL.fi (h : IXL cT sh sp L ad E) (o : Nat) (ho : o ∈ L) {c nf j : Nat} (hs : sh o = (0, c, nf)) (hj : j < nf) {lo hi : Int} (hp : sp o j = (0, lo, hi)) : xv (E o) j = .int (xi (E o) j) := by
  have h1 := (h.2 o ho).2 j (by rw [hs]; exact hj)
  rw [hp] at h1
  exact h1.1
theorem IXL.fr (h : IXL cT sh sp L ad E) (o : Nat) (ho : o ∈ L) {c nf j : Nat} (hs : sh o = (0, c, nf)) (hj : j < nf) (k : Nat) {u : Int} (hp : sp o j = (1, (k : Int), u)) : xv (E o) j = .ref (ad k) := by
  have h1 := (h.2 o ho).2 j (by rw [hs]; exact hj)
  rw [hp] at h1
  exact h1
theorem IXL.iv (h : IXL cT sh sp L ad E) (o : Nat) (ho : o ∈ L) {t c nf j : Nat} (hs : sh o = (t, c, nf)) (hj : j < nf) {lo hi : Int} (hp : sp o j = (0, lo, hi)) : lo ≤ (xi (E o) j).toInt ∧ (xi (E o) j).toInt ≤ hi := by
  have h1 := (h.2 o ho).2 j (by rw [hs]; exact hj)
  rw [hp] at h1
  exact h1.2
theorem IXL.f4 (h : IXL cT sh sp L ad E) (o : Nat) (ho : o ∈ L) {c nf j : Nat} (hs : sh o = (0, c, nf)) (hj : j < nf) (k : Nat) {u : Int} (hp : sp o j = (4, (k : Int), u)) : xv (E o) j = .ref k := by
  have h1 := (h.2 o ho).2 j (by rw [hs]; exact hj)
  rw [hp] at h1
  exact h1
/-- a row of references -/
theorem IXL.qr (h : IXL cT sh sp L ad E) (o : Nat) (ho : o ∈ L) {k nl : Nat} (hs : sh o = (2, k, nl)) : ∃ (cap : Nat) (f : Nat → Option Nat), nl ≤ cap ∧ cap ≤ 2 * nl + 10 ∧ (WL L ad E)[posL o L]? = some (ad o, .inl (cT k, cap, .inr (.inr (.inr (.inr f))))) ∧ ∀ j, j < nl → okV ad (sp o j) (va_rf (f j)) := by
  have h1 := (h.2 o ho).1
  have h2 := (h.2 o ho).2
  rw [hs] at h1 h2
  obtain ⟨cap, f, q1, q2, q3⟩ := h1
  refine ⟨cap, f, q1, q2, ?_, fun j hj => ?_⟩
  · rw [WL_at ho, q3]
  · have := h2 j hj
    rw [q3] at this
    exact this
theorem IXL.put (h : IXL cT sh sp L ad E) (o : Nat) (ho : o ∈ L) {c nf : Nat} (hs : sh o = (0, c, nf)) (j : Nat) (hj : j < nf) (v : Value) (hv : okV ad (sp o j) v) : Pw E (va_up E o (.inr (c, (List.range nf).map (va_up (xv (E o)) j v)))) o j v ∧ IXL cT sh sp L ad (va_up E o (.inr (c, (List.range nf).map (va_up (xv (E o)) j v)))) := by
  have e0 : E o = .inr (c, (List.range nf).map (xv (E o))) := by
    have h1 := (h.2 o ho).1
    rw [hs] at h1
    exact h1
  have key : ∀ j', ¬ j' = j → xv (.inr (c, (List.range nf).map (va_up (xv (E o)) j v))) j' = xv (E o) j' := by
    intro j' hne
    by_cases hlt : j' < nf
    · rw [xv_ob hlt, va_up_ne _ _ hne]
    · rw [xv_ob' hlt, e0, xv_ob' hlt]
  refine ⟨⟨by rw [va_up_self, xv_ob hj, va_up_self], fun o' j' hne => ?_⟩, h.1, fun o' ho' => ?_⟩
  · by_cases ho2 : o' = o
    · subst ho2
      rw [va_up_self, key j' (fun e => hne ⟨rfl, e⟩)]
    · rw [va_up_ne _ _ ho2]
  · by_cases ho2 : o' = o
    · subst ho2
      rw [va_up_self]
      refine ⟨?_, fun j' hj' => ?_⟩
      · rw [hs]
        refine congrArg (fun l => (Sum.inr (c, l) : va_E)) ?_
        apply List.map_congr_left
        intro a ha
        exact (xv_ob (List.mem_range.mp ha)).symm
      · by_cases hje : j' = j
        · subst hje
          rw [xv_ob hj, va_up_self]
          exact hv
        · rw [key j' hje]
          exact (h.2 o' ho').2 j' hj'
    · rw [va_up_ne _ _ ho2]
      exact h.2 o' ho'
theorem IXL.ast (h : IXL cT sh sp L ad E) (o : Nat) (ho : o ∈ L) {k nl : Nat} (hs : sh o = (1, k, nl)) (j : Nat) (x : Int32) (hv : j < nl → okV ad (sp o j) (.int x)) : Pw E (va_up E o (.inl (cT k, nl, .inl (upd (xi (E o)) j x)))) o j (.int x) ∧ IXL cT sh sp L ad (va_up E o (.inl (cT k, nl, .inl (upd (xi (E o)) j x)))) := by
  have e0 : E o = .inl (cT k, nl, .inl (xi (E o))) := by
    have h1 := (h.2 o ho).1
    rw [hs] at h1
    exact h1
  have e1 : ∀ j', xv (E o) j' = .int (xi (E o) j') := by
    intro j'
    rw [e0]
    rfl
  have key : ∀ j', ¬ j' = j → xv (.inl (cT k, nl, .inl (upd (xi (E o)) j x))) j' = xv (E o) j' := by
    intro j' hne
    rw [e1]
    show Value.int (upd (xi (E o)) j x j') = _
    rw [pk_un hne]
  have key0 : xv (.inl (cT k, nl, .inl (upd (xi (E o)) j x))) j = .int x := by
    show Value.int (upd (xi (E o)) j x j) = _
    rw [pk_us]
  refine ⟨⟨by rw [va_up_self]; exact key0, fun o' j' hne => ?_⟩, h.1, fun o' ho' => ?_⟩
  · by_cases ho2 : o' = o
    · subst ho2
      rw [va_up_self, key j' (fun e => hne ⟨rfl, e⟩)]
    · rw [va_up_ne _ _ ho2]
  · by_cases ho2 : o' = o
    · subst ho2
      rw [va_up_self]
      refine ⟨?_, fun j' hj' => ?_⟩
      · rw [hs]
        exact rfl
      · by_cases hje : j' = j
        · subst hje
          rw [key0]
          exact hv (by rw [hs] at hj'; exact hj')
        · rw [key j' hje]
          exact (h.2 o' ho').2 j' hj'
    · rw [va_up_ne _ _ ho2]
      exact h.2 o' ho'
end IXLS
theorem IXL.el {cT : Nat → ClassId} {sh : Nat → Nat × Nat × Nat} {sp : Nat → Nat → Nat × Int × Int} {L : List Nat} {ad : Nat → Nat} {E : Nat → va_E} (h : IXL cT sh sp L ad E) (o : Nat) (ho : o ∈ L) {k nl : Nat} (hs : sh o = (1, k, nl)) {i x : Int32} (hin : vp_in i nl) {lo hi : Int} (hp : ∀ j, sp o j = (0, lo, hi)) (ex : x = xi (E o) i.toNatClampNeg) : lo ≤ x.toInt ∧ x.toInt ≤ hi := by
  rw [ex]
  exact h.iv o ho hs (vp_in_lt hin) (hp _)
theorem th_v0L {cT : Nat → ClassId} {sh : Nat → Nat × Nat × Nat} {sp : Nat → Nat → Nat × Int × Int} {L : List Nat} {ad : Nat → Nat} {w : Nat → Nat → Bool} {E E' : Nat → va_E} (hKp : Kp w E E') (h : IXL cT sh sp L ad E) (o : Nat) (ho : o ∈ L) {c nf j : Nat} (hs : sh o = (0, c, nf)) (hj : j < nf) {lo hi : Int} (hp : sp o j = (0, lo, hi)) (hw : w o j = false) : xv (E' o) j = .int (xi (E o) j) := (hKp o j hw).trans (h.fi o ho hs hj hp)
section THL
variable {p : Program} {l : Launch} {e : Env} {R : Room} {s : State} {m : MethodId} {args : Array Value} {below : List Frame} {meth : Method} {c : Code} {H : Heap} {locs : List Loc} {cells slots : Nat} {Q : State → Prop}
variable {pc : Nat} {ls : Array Slot} {rest : List Value} {cc : ByteArray} {dC : Nat → ClassId} {dI : Nat → Nat → Nat} {cT : Nat → ClassId} {sh : Nat → Nat × Nat × Nat} {sp : Nat → Nat → Nat × Int × Int} {L : List Nat} {ad : Nat → Nat} {E : Nat → va_E} {tys : List (ClassId × FieldType)} {A : Nat → Prop} {H0 : Heap}
theorem th_getL (hx : p.tables.exec = Jvm.exec) (hb : c.code = cc) {own ref C : String} {T : u_T} {N ci index : Nat} {Ts : List Cond} (hts : ∀ w ∈ Ts, w.before args s = true) (hin : ∀ w ∈ u_ws C T N, w ∈ Ts) (hown : s.vm.findClass own = some m.cls) (hK : va_K (dC, dI) vwCl tys s) (hP : va_P (dC, dI) vwCl (WL L ad E) H) (hI : IXL cT sh sp L ad E) (o : Nat) (ho : o ∈ L) (hs : sh o = (0, ci, N)) (hc : vwCl[ci]? = some (C, T, N)) (k : Nat) (hk : k < N) (hlink : (Cond.fieldLink own index ref (T k).2.1 (T k).2.2.1).before args s = true) (hsame : ∀ x, s.fieldFound? (T k).1 (T k).2.1 (T k).2.2.1 = some x → s.fieldFound? ref (T k).2.1 (T k).2.2.1 = some x) {v : Value} (hv : xv (E o) k = v) (hdg : decode cc pc = .ok (.getfield index, 3))
    (kk : W p l e R s m args below meth c H locs cells slots Q (F0 m (pc + 3) ls (v :: rest))) : W p l e R s m args below meth c H locs cells slots Q (F0 m pc ls (.ref (ad o) :: rest)) :=
  va_get hx hb hts hin hown hK hP (posL o L) (hI.ob o ho hs) hc k hk hlink hsame (by simp [hk, hv]) hdg kk
theorem th_putL (hx : p.tables.exec = Jvm.exec) (hb : c.code = cc) {own ref C : String} {T : u_T} {N ci index : Nat} {Ts : List Cond} (hts : ∀ w ∈ Ts, w.before args s = true) (hin : ∀ w ∈ u_ws C T N, w ∈ Ts) (ty0 : Nat → FieldType) (hty : ∀ k, k < N → parseFieldDescriptor (T k).2.2.1 = some (ty0 k)) (hnm : ∀ a, a < N → ∀ b, b < N → a ≠ b → (T a).2.1 ≠ (T b).2.1) (hown : s.vm.findClass own = some m.cls) (hK : va_K (dC, dI) vwCl tys s) (hP : va_P (dC, dI) vwCl (WL L ad E) H) (hD : va_D A (WL L ad E)) (hS : va_S A H0 H locs) (hI : IXL cT sh sp L ad E) (o : Nat) (ho : o ∈ L) (hs : sh o = (0, ci, N)) (hc : vwCl[ci]? = some (C, T, N)) (k : Nat) (hk : k < N) (hlink : (Cond.fieldLink own index ref (T k).2.1 (T k).2.2.1).before args s = true) (hsame : ∀ x, s.fieldFound? (T k).1 (T k).2.1 (T k).2.2.1 = some x → s.fieldFound? ref (T k).2.1 (T k).2.2.1 = some x) (hfin : (T k).2.2.2 = false) {ty : FieldType} {v : Value} (hd : parseFieldDescriptor (T k).2.2.1 = some ty) (hn : narrow ty v = v) (hfit : fits ty v = true) (hv : okV ad (sp o k) v)
    (hdg : decode cc pc = .ok (.putfield index, 3)) (kk : ∀ (H1 : Heap) (locs1 : List Loc) (E1 : Nat → va_E), Pw E E1 o k v → IXL cT sh sp L ad E1 → va_P (dC, dI) vwCl (WL L ad E1) H1 → va_S A H0 H1 locs1 → W p l e R s m args below meth c H1 locs1 cells slots Q (F0 m (pc + 3) ls rest)) : W p l e R s m args below meth c H locs cells slots Q (F0 m pc ls (v :: .ref (ad o) :: rest)) := by
  obtain ⟨h1, h2⟩ := hI.put o ho hs k hk v hv
  refine va_put hx hb hts hin ty0 hty hnm hown hK hP hD hS (posL o L) (hI.ob o ho hs) hc k hk hlink hsame hfin hd hn hfit (by simp [hk]) hdg (fun H1 locs1 q1 _ q3 => ?_)
  rw [show ((List.range N).map (xv (E o))).set k v = (List.range N).map (va_up (xv (E o)) k v) by
    apply List.ext_getElem?
    intro i
    rw [List.getElem?_set]
    by_cases hi : k = i
    · subst hi
      simp [hk, va_up_self]
    · by_cases hN : i < N
      · simp [hN, va_up_ne _ _ (Ne.symm hi), if_neg hi]
      · rw [if_neg hi, List.getElem?_eq_none (by simp; omega), List.getElem?_eq_none (by simp; omega)], WL_set hI.1 ho] at q1
  exact kk H1 locs1 _ h1 h2 q1 q3
theorem th_ialdL (hx : p.tables.exec = Jvm.exec) (hb : c.code = cc) (hK : va_K (dC, dI) vwCl tys s) (hP : va_P (dC, dI) vwCl (WL L ad E) H) (hI : IXL cT sh sp L ad E) (o : Nat) (ho : o ∈ L) {k nl : Nat} (hs : sh o = (1, k, nl)) (ht : tys[k]? = some (cT k, .int)) {i : Int32} (hin : vp_in i nl) (hdg : decode cc pc = .ok (.iaload, 1))
    (kk : ∀ y : Int32, y = xi (E o) i.toNatClampNeg → W p l e R s m args below meth c H locs cells slots Q (F0 m (pc + 1) ls (.int y :: rest))) : W p l e R s m args below meth c H locs cells slots Q (F0 m pc ls (.int i :: .ref (ad o) :: rest)) :=
  va_iald hx hb hK hP (posL o L) k (hI.ar o ho hs) ht hin hdg (kk _ rfl)
theorem th_zaldL (hx : p.tables.exec = Jvm.exec) (hb : c.code = cc) (hK : va_K (dC, dI) vwCl tys s) (hP : va_P (dC, dI) vwCl (WL L ad E) H) (hI : IXL cT sh sp L ad E) (o : Nat) (ho : o ∈ L) {k nl : Nat} (hs : sh o = (1, k, nl)) (ht : tys[k]? = some (cT k, .boolean)) {i : Int32} (hin : vp_in i nl) (hdg : decode cc pc = .ok (.baload, 1))
    (kk : ∀ y : Int32, y = xi (E o) i.toNatClampNeg → W p l e R s m args below meth c H locs cells slots Q (F0 m (pc + 1) ls (.int y :: rest))) : W p l e R s m args below meth c H locs cells slots Q (F0 m pc ls (.int i :: .ref (ad o) :: rest)) :=
  va_zald hx hb hK hP (posL o L) k (hI.ar o ho hs) ht hin hdg (kk _ rfl)
theorem th_iastL (hx : p.tables.exec = Jvm.exec) (hb : c.code = cc) (hK : va_K (dC, dI) vwCl tys s) (hP : va_P (dC, dI) vwCl (WL L ad E) H) (hD : va_D A (WL L ad E)) (hS : va_S A H0 H locs) (hI : IXL cT sh sp L ad E) (o : Nat) (ho : o ∈ L) {k nl : Nat} (hs : sh o = (1, k, nl)) (ht : tys[k]? = some (cT k, .int)) {i x : Int32} (hin : vp_in i nl) (hv : okV ad (sp o i.toNatClampNeg) (.int x)) (hdg : decode cc pc = .ok (.iastore, 1))
    (kk : ∀ (H1 : Heap) (locs1 : List Loc) (E1 : Nat → va_E), Pw E E1 o i.toNatClampNeg (.int x) → IXL cT sh sp L ad E1 → va_P (dC, dI) vwCl (WL L ad E1) H1 → va_S A H0 H1 locs1 → W p l e R s m args below meth c H1 locs1 cells slots Q (F0 m (pc + 1) ls rest)) : W p l e R s m args below meth c H locs cells slots Q (F0 m pc ls (.int x :: .int i :: .ref (ad o) :: rest)) := by
  obtain ⟨h1, h2⟩ := hI.ast o ho hs i.toNatClampNeg x (fun _ => hv)
  refine va_iast hx hb hK hP hD hS (posL o L) k (hI.ar o ho hs) ht hin hdg (fun H1 locs1 q1 _ q3 => ?_)
  rw [WL_set hI.1 ho] at q1
  exact kk H1 locs1 _ h1 h2 q1 q3
theorem th_zastL (hx : p.tables.exec = Jvm.exec) (hb : c.code = cc) (hK : va_K (dC, dI) vwCl tys s) (hP : va_P (dC, dI) vwCl (WL L ad E) H) (hD : va_D A (WL L ad E)) (hS : va_S A H0 H locs) (hI : IXL cT sh sp L ad E) (o : Nat) (ho : o ∈ L) {k nl : Nat} (hs : sh o = (1, k, nl)) (ht : tys[k]? = some (cT k, .boolean)) {i x : Int32} (hin : vp_in i nl) (hx01 : 0 ≤ x.toInt ∧ x.toInt ≤ 1) (hv : okV ad (sp o i.toNatClampNeg) (.int x)) (hdg : decode cc pc = .ok (.bastore, 1))
    (kk : ∀ (H1 : Heap) (locs1 : List Loc) (E1 : Nat → va_E), Pw E E1 o i.toNatClampNeg (.int x) → IXL cT sh sp L ad E1 → va_P (dC, dI) vwCl (WL L ad E1) H1 → va_S A H0 H1 locs1 → W p l e R s m args below meth c H1 locs1 cells slots Q (F0 m (pc + 1) ls rest)) : W p l e R s m args below meth c H locs cells slots Q (F0 m pc ls (.int x :: .int i :: .ref (ad o) :: rest)) := by
  obtain ⟨h1, h2⟩ := hI.ast o ho hs i.toNatClampNeg x (fun _ => hv)
  refine va_zast hx hb hK hP hD hS (posL o L) k (hI.ar o ho hs) ht hin hdg (fun H1 locs1 q1 _ q3 => ?_)
  rw [nar_bool hx01, WL_set hI.1 ho] at q1
  exact kk H1 locs1 _ h1 h2 q1 q3
theorem th_aldL (hx : p.tables.exec = Jvm.exec) (hb : c.code = cc) (hK : va_K (dC, dI) vwCl tys s) (hP : va_P (dC, dI) vwCl (WL L ad E) H) (hI : IXL cT sh sp L ad E) (o : Nat) (ho : o ∈ L) {k nl : Nat} (hs : sh o = (2, k, nl)) {C : String} (ht : tys[k]? = some (cT k, .object C)) {i : Int32} (hin : vp_in i nl) (t : Nat) {u : Int} (hp : sp o i.toNatClampNeg = (1, (t : Int), u)) (hdg : decode cc pc = .ok (.aaload, 1))
    (kk : W p l e R s m args below meth c H locs cells slots Q (F0 m (pc + 1) ls (.ref (ad t) :: rest))) : W p l e R s m args below meth c H locs cells slots Q (F0 m pc ls (.int i :: .ref (ad o) :: rest)) := by
  obtain ⟨cap, f, q1, q2, q3, q4⟩ := hI.qr o ho hs
  have h1 := q4 _ (vp_in_lt hin)
  rw [hp] at h1
  have hin2 : vp_in i cap := fun h => h.elim (fun h => hin (Or.inl h)) (fun h => hin (Or.inr (Nat.le_trans q1 h)))
  refine va_aldq hx hb hK hP (posL o L) k q3 ht hin2 hdg ?_
  have h2 : va_rf (f i.toNatClampNeg) = .ref (ad t) := h1
  rw [h2]
  exact kk
end THL
/-! ===== what the machine holds beside the class's world ===== -/
def nxM : List Cond := [.methodLinkNest RX12 18 yX10_init "UnlikeBoats", .methodLinkNest RX12 9 yX0_init "UnlikeBoats", .methodLinkNest RX0 131 yX12_held "UnlikeBoats", .methodLinkNest RX0 52 yX12_within "UnlikeBoats", .methodLinkNest RX2 81 yX12_apart "UnlikeBoats", .methodLinkNest RX3 109 yX12_sortIn "UnlikeBoats", .methodLinkNest RX3 126 yX12_apart "UnlikeBoats", .methodLinkNest RX3 89 yX12_cell "UnlikeBoats", .methodLinkNest RX8 114 yX12_held "UnlikeBoats", .methodLinkNest RX8 127 yX12_sortIn "UnlikeBoats", .methodLinkNest RX8 76 yX12_cell "UnlikeBoats", .methodLinkNest RX9 123 yX12_held "UnlikeBoats", .methodLinkNest RX10 66 yX12_isOneOf "UnlikeBoats"]
def NXc (U : State) : Prop := (∀ w ∈ nxM, va_Nw w U) ∧ (va_Nw (.fieldLinkNest RX2 151 "UnlikeBoats" "STEP_X" "[I" "UnlikeBoats") U ∧ va_Nw (.fieldLinkNest RX2 154 "UnlikeBoats" "STEP_Y" "[I" "UnlikeBoats") U) ∧ (∀ C ∈ [RX1, RX7, RX5, RX6, RX11, RX4], va_Nw (.castable C "java/lang/Object") U) ∧ va_AO "java/lang/Object" U ∧ (∃ mi : Nat, va_Mi "[Ljava/lang/Object;" mi U) ∧ va_Dc U
theorem NXc_c {U : State} {a : Array Value} {g : JFrame} {mk : MethodId} (h : NXc U) : NXc (U.calling g mk a) :=
  ⟨fun w hw => va_Nw.same (u := U) (U := U.calling g mk a) (by simp only [nxM, List.mem_cons, List.not_mem_nil, or_false] at hw; rcases hw with rfl | rfl | rfl | rfl | rfl | rfl | rfl | rfl | rfl | rfl | rfl | rfl | rfl <;> rfl) rfl (h.1 w hw), ⟨va_Nw.same rfl rfl h.2.1.1, va_Nw.same rfl rfl h.2.1.2⟩, fun C hC => va_Nw.same (u := U) (U := U.calling g mk a) rfl rfl (h.2.2.1 C hC), va_AO.moved (U := U.calling g mk a) (Vm.Alike.refl U.vm) h.2.2.2.1, h.2.2.2.2.1.elim (fun mi hm => ⟨mi, va_Mi.moved (U := U.calling g mk a) (Vm.Alike.refl U.vm) hm⟩), va_Dc.moved (U := U.calling g mk a) (Vm.Alike.refl U.vm) h.2.2.2.2.2⟩
theorem NXc_w {s U : State} (hW : s.WarmedH U.vm) (h : NXc s) : NXc U :=
  ⟨fun w hw => by
    have h1 := h.1 w hw
    simp only [nxM, List.mem_cons, List.not_mem_nil, or_false] at hw
    rcases hw with rfl | rfl | rfl | rfl | rfl | rfl | rfl | rfl | rfl | rfl | rfl | rfl | rfl <;> exact va_Nw.warmM hW h1, ⟨va_Nw.warmF hW h.2.1.1, va_Nw.warmF hW h.2.1.2⟩, fun C hC => va_Nw.warmC hW (h.2.2.1 C hC), va_AO.moved hW.alike h.2.2.2.1, h.2.2.2.2.1.elim (fun mi hm => ⟨mi, va_Mi.moved hW.alike hm⟩), va_Dc.moved hW.alike h.2.2.2.2.2⟩
def tSX : List Int32 := [0, 1, 1, 1, 0, -1, -1, -1]
def tSY : List Int32 := [-1, -1, 0, 1, 1, 1, 0, -1]
/-- a static row of eight -/
def STx (n : String) (vs : List Int32) (A : Nat → Prop) (U : State) (H : Heap) : Prop := ∃ q : Nat, va_Z RX12 n "[I" (.ref q) A U H ∧ va_T .int q 8 (fun j => .int (vs.getD j 0)) A U H
theorem STx_c {n : String} {vs : List Int32} {A : Nat → Prop} {U : State} {a : Array Value} {g : JFrame} {mk : MethodId} (h : STx n vs A U U.heap) : STx n vs A (U.calling g mk a) (U.calling g mk a).heap := by
  obtain ⟨q, h1, h2⟩ := h
  exact ⟨q, va_Z.moved (U := U.calling g mk a) (Vm.Alike.refl U.vm) h1, va_T.moved (U := U.calling g mk a) (Vm.Alike.refl U.vm) h2⟩
theorem STx_w {n : String} {vs : List Int32} {s U : State} {H : Heap} {locs : List Loc} {A A1 : Nat → Prop} (hU : U.heap = H) (hW : s.WarmedH U.vm) (hS : va_S A s.heap H locs) (hF : ∀ q, A1 q → A q) (h : STx n vs A s s.heap) : STx n vs A1 U U.heap := by
  obtain ⟨q, h1, h2⟩ := h
  rw [hU]
  exact ⟨q, va_Z.moved hW.alike ((h1.kept hS.2.1).narrow hF), va_T.moved hW.alike ((h2.kept hS.2.1).narrow hF)⟩
/-- the static row of no elements that a fresh list holds -/
def ZEc (ed : Nat) (A : Nat → Prop) (U : State) (H : Heap) : Prop := va_Z "java/util/ArrayList" "DEFAULTCAPACITY_EMPTY_ELEMENTDATA" "[Ljava/lang/Object;" (.ref ed) A U H ∧ va_T (.object "java/lang/Object") ed 0 (fun _ => .null) A U H
theorem ZEc_c {ed : Nat} {A : Nat → Prop} {U : State} {a : Array Value} {g : JFrame} {mk : MethodId} (h : ZEc ed A U U.heap) : ZEc ed A (U.calling g mk a) (U.calling g mk a).heap :=
  ⟨va_Z.moved (U := U.calling g mk a) (Vm.Alike.refl U.vm) h.1, va_T.moved (U := U.calling g mk a) (Vm.Alike.refl U.vm) h.2⟩
theorem ZEc_w {ed : Nat} {s U : State} {H : Heap} {locs : List Loc} {A A1 : Nat → Prop} (hU : U.heap = H) (hW : s.WarmedH U.vm) (hS : va_S A s.heap H locs) (hF : ∀ q, A1 q → A q) (h : ZEc ed A s s.heap) : ZEc ed A1 U U.heap := by
  rw [hU]
  exact ⟨va_Z.moved hW.alike ((h.1.kept hS.2.1).narrow hF), va_T.moved hW.alike ((h.2.kept hS.2.1).narrow hF)⟩
def SKc (A : Nat → Prop) (U : State) (H : Heap) : Prop := SK RX10 64 "nptab" tLAB A U H ∧ SK RX10 74 "!(" tCON A U H ∧ SK RX10 79 "=<>" tCMP A U H ∧ SK RX10 108 "+-" tADD A U H ∧ SK RX10 113 "*/" tMUL A U H ∧ SK RX10 121 "lswkrefcdghumo" tLET A U H
def EVC (eo : Nat) (A : Nat → Prop) (U : State) (H : Heap) : Prop := NXc U ∧ SKc A U H ∧ (STx "STEP_X" tSX A U H ∧ STx "STEP_Y" tSY A U H) ∧ ZEc eo A U H
theorem EVC_c {eo : Nat} {A : Nat → Prop} {U : State} {a : Array Value} {g : JFrame} {mk : MethodId} (h : EVC eo A U U.heap) : EVC eo A (U.calling g mk a) (U.calling g mk a).heap :=
  ⟨NXc_c h.1, ⟨SK_c h.2.1.1, SK_c h.2.1.2.1, SK_c h.2.1.2.2.1, SK_c h.2.1.2.2.2.1, SK_c h.2.1.2.2.2.2.1, SK_c h.2.1.2.2.2.2.2⟩, ⟨STx_c h.2.2.1.1, STx_c h.2.2.1.2⟩, ZEc_c h.2.2.2⟩
theorem EVC_w {eo : Nat} {s U : State} {H : Heap} {locs : List Loc} {A A1 : Nat → Prop} (hU : U.heap = H) (hW : s.WarmedH U.vm) (hS : va_S A s.heap H locs) (hF : ∀ q, A1 q → A q) (h : EVC eo A s s.heap) : EVC eo A1 U U.heap :=
  ⟨NXc_w hW h.1, ⟨SK_w hU hW hS hF h.2.1.1, SK_w hU hW hS hF h.2.1.2.1, SK_w hU hW hS hF h.2.1.2.2.1, SK_w hU hW hS hF h.2.1.2.2.2.1, SK_w hU hW hS hF h.2.1.2.2.2.2.1, SK_w hU hW hS hF h.2.1.2.2.2.2.2⟩, ⟨STx_w hU hW hS hF h.2.2.1.1, STx_w hU hW hS hF h.2.2.1.2⟩, ZEc_w hU hW hS hF h.2.2.2⟩

/-! ===== the class's world ===== -/
def kl : Nat → Nat := fun t => [0, 1, 1, 1, 1, 1, 2, 2, 2, 2, 2, 2, 3, 4, 5].getD t 0
/-- how many of each list there are at most; of RULES how long each one's rows are -/
def CF (cf : Nat → Nat) : Prop := (cf 0 ≤ 80 ∧ cf 1 ≤ 16 ∧ cf 2 ≤ 20 ∧ cf 3 ≤ 300 ∧ cf 4 ≤ 200 ∧ cf 5 ≤ 30) ∧ ∀ i : Nat, cf (8 + 2 * i) ≤ 51 ∧ cf (9 + 2 * i) ≤ 200
def shF : List (Nat × Nat × Nat) := [(0, 13, 6), (0, 1, 11), (0, 11, 10), (0, 10, 9), (0, 9, 10), (0, 3, 10), (0, 4, 18), (0, 0, 3), (0, 0, 3), (0, 0, 3), (0, 0, 3), (0, 0, 3), (0, 0, 3), (9, 0, 0), (9, 0, 0), (9, 0, 0), (9, 0, 0), (9, 0, 0), (9, 0, 0), (1, 0, 14), (1, 0, 200), (1, 0, 200), (1, 0, 200), (1, 0, 51), (1, 0, 52), (1, 0, 51), (1, 0, 16), (1, 0, 16), (1, 0, 16), (1, 0, 16), (1, 0, 16), (1, 0, 320), (1, 0, 320), (1, 2, 320), (1, 2, 16), (1, 0, 16), (1, 0, 20), (1, 0, 20), (1, 0, 2), (1, 0, 2), (1, 0, 2), (1, 0, 2), (1, 0, 2), (1, 2, 320), (1, 0, 320), (1, 0, 320), (1, 0, 320), (1, 0, 20), (1, 0, 20), (1, 0, 20), (1, 0, 20), (1, 0, 16), (1, 0, 560), (1, 0, 4), (1, 0, 4), (1, 0, 4), (1, 0, 16)]
def shP (cf : Nat → Nat) (t i : Nat) : Nat × Nat × Nat := [(0, 2, 6), (0, 8, 6), (1, 0, cf (9 + 2 * i)), (1, 0, cf (8 + 2 * i)), (1, 0, cf (8 + 2 * i) + 1), (1, 0, cf (8 + 2 * i)), (0, 6, 12), (1, 0, 16), (1, 0, 16), (1, 0, 16), (1, 0, 16), (1, 0, 401), (0, 7, 5), (0, 12, 8), (0, 5, 10)].getD t (9, 0, 0)
def shC (cf : Nat → Nat) : Nat → Nat × Nat × Nat := fun k => bif Nat.blt k 64 then (bif (Nat.ble 13 k && Nat.blt k 19) then (2, 3, cf (k - 13)) else shF.getD k (9, 0, 0)) else shP cf (k % 64) (k / 64 - 1)
def spO0 (cf : Nat → Nat) : List (Nat × Int × Int) := [(1, 1, 0), (1, 2, 0), (1, 3, 0), (1, 4, 0), (1, 5, 0), (1, 6, 0)]
def spO1 (cf : Nat → Nat) : List (Nat × Int × Int) := [(0, 0, 400), (0, 0, 16), (0, 0, 20), (1, 7, 0), (1, 8, 0), (1, 9, 0), (1, 10, 0), (1, 11, 0), (1, 12, 0), (1, 19, 0), (1, 20, 0)]
def spO2 (cf : Nat → Nat) : List (Nat × Int × Int) := [(1, 21, 0), (0, 0, 200), (0, 0, 200), (0, (-1), 200), (1, 22, 0), (0, 0, 200), (1, 23, 0), (1, 24, 0), (1, 25, 0), (0, 0, 51)]
def spO3 (cf : Nat → Nat) : List (Nat × Int × Int) := [(1, 1, 0), (1, 26, 0), (1, 27, 0), (1, 28, 0), (1, 29, 0), (1, 30, 0), (0, (-1), 15), (0, 0, 16), (0, 0, 16)]
def spO4 (cf : Nat → Nat) : List (Nat × Int × Int) := [(1, 1, 0), (1, 3, 0), (0, 0, ((cf 2 : Nat) : Int)), (1, 31, 0), (1, 32, 0), (1, 33, 0), (1, 34, 0), (1, 35, 0), (1, 36, 0), (1, 37, 0)]
def spO5 (cf : Nat → Nat) : List (Nat × Int × Int) := [(1, 1, 0), (1, 38, 0), (1, 39, 0), (1, 40, 0), (1, 41, 0), (1, 42, 0), (3, 0, 0), (0, (-1), 15), (0, 0, 255), (0, 0, 255)]
def spO6 (cf : Nat → Nat) : List (Nat × Int × Int) := [(1, 1, 0), (1, 3, 0), (1, 43, 0), (1, 44, 0), (1, 45, 0), (1, 46, 0), (1, 47, 0), (1, 48, 0), (1, 49, 0), (1, 50, 0), (1, 51, 0), (1, 52, 0), (1, 53, 0), (1, 54, 0), (1, 55, 0), (0, 0, 20), (0, (-2147483648), 2147483647), (1, 56, 0)]
def spO (cf : Nat → Nat) (o : Nat) : List (Nat × Int × Int) := [spO0 cf, spO1 cf, spO2 cf, spO3 cf, spO4 cf, spO5 cf, spO6 cf].getD o []
def spR (cf : Nat → Nat) : List (Nat × Int × Int) := [(9, 0, 0), (9, 0, 0), (9, 0, 0), (9, 0, 0), (9, 0, 0), (9, 0, 0), (9, 0, 0), (9, 0, 0), (9, 0, 0), (9, 0, 0), (9, 0, 0), (9, 0, 0), (9, 0, 0), (9, 0, 0), (9, 0, 0), (9, 0, 0), (9, 0, 0), (9, 0, 0), (9, 0, 0), (0, (-2147483648), 2147483647), (0, (-2147483648), 2147483647), (0, 0, 255), (0, (-2147483648), 2147483647), (0, 0, 255), (0, 0, 200), (0, 0, 200), (0, (-1), 5), (0, 0, 200000), (0, 0, 2000), (0, (-100000), 400000), (0, 0, 245), (0, 0, 10000), (0, (-2147483648), 2147483647), (0, 0, 1), (0, 0, 1), (0, (-2147483648), 2147483647), (0, (-2147483648), 2147483647), (0, (-2147483648), 2147483647), (0, 0, 99), (0, 0, 99), (0, 0, 99), (0, 0, 99), (0, 0, 255), (0, 0, 1), (0, 0, 200000), (0, 0, 2000), (0, (-100000), 400000), (0, 0, ((cf 2 - 1 : Nat) : Int)), (0, (-100000), 400000), (0, 0, 200000), (0, (-2147483648), 2147483647), (0, (-100000), 400000), (0, (-1), 400600), (0, 0, 15), (0, 0, 6), (0, 0, 6), (0, 0, 2001)]
def spA (cf : Nat → Nat) (j : Nat) : List (Nat × Int × Int) := [(0, (-2147483648), 2147483647), bif Nat.blt 0 (cf j) then (1, ((13 + j : Nat) : Int), 0) else (4, ((cf 6 : Nat) : Int), 0), (0, ((cf j : Nat) : Int), ((cf j : Nat) : Int))]
def lkd : Nat → Nat := fun j => [0, 1, 6, 12, 13, 14].getD j 0
def spP (cf : Nat → Nat) (t i j : Nat) : Nat × Int × Int := [[(0, 0, 15), (0, 0, 400), (0, 0, 400), (0, 0, 400), (0, 0, 4000), (0, 0, 900)].getD j (9, 0, 0), [(0, 0, 400), (0, 0, 400), (1, ((64 * (i + 1) + 2 : Nat) : Int), 0), (1, ((64 * (i + 1) + 3 : Nat) : Int), 0), (1, ((64 * (i + 1) + 4 : Nat) : Int), 0), (1, ((64 * (i + 1) + 5 : Nat) : Int), 0)].getD j (9, 0, 0), (0, (-2147483648), 2147483647), (0, 0, 255), (0, 0, ((cf (9 + 2 * i) : Nat) : Int)), (0, 0, ((cf (9 + 2 * i) : Nat) : Int)), [(0, 0, 400), (0, 0, 400), (0, 0, 1000), (0, 0, 1), (0, 0, 7), (0, 0, 99), (0, 0, 99), (1, ((64 * (i + 1) + 7 : Nat) : Int), 0), (1, ((64 * (i + 1) + 8 : Nat) : Int), 0), (1, ((64 * (i + 1) + 9 : Nat) : Int), 0), (1, ((64 * (i + 1) + 10 : Nat) : Int), 0), (1, ((64 * (i + 1) + 11 : Nat) : Int), 0)].getD j (9, 0, 0), (0, (-1), 400), (0, (-1), 400), (0, (-1), 9), (0, 0, 600), (0, 0, 9), [(0, 0, 19), (0, 0, 15), (0, 0, 4), (0, 0, 200000), (0, 0, 400)].getD j (9, 0, 0), [(0, 0, 19), (0, 0, 15), (0, 0, 400), (0, 0, 100000), (0, 0, 99), (0, 0, 99), (0, 0, 3), (0, 0, 255)].getD j (9, 0, 0), [(0, 0, ((cf 2 : Nat) : Int) - 1), (0, 0, 15), (0, 0, 15), (0, 0, 100000), (0, 0, 400), (0, (-1), 400), (0, 0, 3), (0, (-1), 400), (0, (-1), 400), (0, 0, 3)].getD j (9, 0, 0)].getD t (9, 0, 0)
def spC (cf : Nat → Nat) : Nat → Nat → Nat × Int × Int := fun o j => bif Nat.blt o 64 then (bif Nat.blt o 7 then (spO cf o).getD j (9, 0, 0) else bif Nat.blt o 13 then (spA cf (o - 7)).getD j (9, 0, 0) else bif Nat.blt o 19 then (1, ((64 * (j + 1) + lkd (o - 13) : Nat) : Int), 0) else (spR cf).getD o (9, 0, 0)) else spP cf (o % 64) (o / 64 - 1) j
def fixB (k : Nat) : Bool := Nat.blt k 13 || (Nat.ble 19 k && Nat.blt k 57)
def lvC (cf : Nat → Nat) (k : Nat) : Bool := bif Nat.blt k 64 then (fixB k || (Nat.ble 13 k && Nat.blt k 19 && Nat.blt 0 (cf (k - 13)))) else (Nat.blt (k % 64) 15 && Nat.blt (k / 64 - 1) (cf (kl (k % 64))))
def LC (cf : Nat → Nat) : List Nat := (List.range 20000).filter (lvC cf)
theorem LC_nd (cf : Nat → Nat) : (LC cf).Nodup := List.Pairwise.sublist List.filter_sublist List.nodup_range
theorem blt_t {a b : Nat} (h : a < b) : Nat.blt a b = true := Nat.ble_eq_true_of_le h
theorem blt_f {a b : Nat} (h : b ≤ a) : Nat.blt a b = false := by
  cases q : Nat.blt a b with
  | false => rfl
  | true => exact absurd (Nat.le_of_ble_eq_true q) (by omega)
theorem mF {cf : Nat → Nat} (k : Nat) (h : fixB k = true) : k ∈ LC cf := by
  have h1 : k < 57 := by
    unfold fixB at h
    rw [Bool.or_eq_true, Bool.and_eq_true] at h
    rcases h with h | h
    · have := Nat.le_of_ble_eq_true h; omega
    · have := Nat.le_of_ble_eq_true h.2; omega
  refine List.mem_filter.mpr ⟨List.mem_range.mpr (by omega), ?_⟩
  unfold lvC
  rw [blt_t (show k < 64 by omega), h]
  rfl
theorem mD {cf : Nat → Nat} (k : Nat) (h1 : 13 ≤ k) (h2 : k < 19) (h : 0 < cf (k - 13)) : k ∈ LC cf := by
  refine List.mem_filter.mpr ⟨List.mem_range.mpr (by omega), ?_⟩
  unfold lvC
  rw [blt_t (show k < 64 by omega), blt_t h2, blt_t h, Nat.ble_eq_true_of_le h1]
  simp
theorem mP {cf : Nat → Nat} (t i : Nat) (ht : t < 15) (hi : i < cf (kl t)) (hc : cf (kl t) ≤ 300) : 64 * (i + 1) + t ∈ LC cf := by
  refine List.mem_filter.mpr ⟨List.mem_range.mpr (by omega), ?_⟩
  unfold lvC
  rw [blt_f (show 64 ≤ 64 * (i + 1) + t by omega), show (64 * (i + 1) + t) % 64 = t by omega, show (64 * (i + 1) + t) / 64 - 1 = i by omega, blt_t ht, blt_t hi]
  rfl
theorem shC_p {cf : Nat → Nat} (t i : Nat) (ht : t < 64) : shC cf (64 * (i + 1) + t) = shP cf t i := by
  unfold shC
  rw [blt_f (show 64 ≤ 64 * (i + 1) + t by omega), show (64 * (i + 1) + t) % 64 = t by omega, show (64 * (i + 1) + t) / 64 - 1 = i by omega]
  rfl
theorem spC_p {cf : Nat → Nat} (t i : Nat) (ht : t < 64) (j : Nat) : spC cf (64 * (i + 1) + t) j = spP cf t i j := by
  unfold spC
  rw [blt_f (show 64 ≤ 64 * (i + 1) + t by omega), show (64 * (i + 1) + t) % 64 = t by omega, show (64 * (i + 1) + t) / 64 - 1 = i by omega]
  rfl
theorem wl_p {a : List Nat} {b : List (Nat × Nat)} {o j : Nat} (ha : a.all (fun k => Nat.blt k 64) = true) (hb : b.all (fun q => Nat.blt q.1 64) = true) (ho : 64 ≤ o) : wl a b o j = false := by
  cases h : wl a b o j with
  | false => rfl
  | true =>
    exfalso
    unfold wl at h
    rw [Bool.or_eq_true] at h
    rcases h with h | h
    · have h1 : o ∈ a := by simpa using h
      have := Nat.le_of_ble_eq_true (List.all_eq_true.mp ha o h1)
      omega
    · have h1 : (o, j) ∈ b := by simpa using h
      have := Nat.le_of_ble_eq_true (List.all_eq_true.mp hb _ h1)
      simp only at this
      omega
theorem kl_le {cf : Nat → Nat} (hC : CF cf) (j : Nat) (hj : j < 6) : cf j ≤ 300 := by
  obtain ⟨⟨h0, h1, h2, h3, h4, h5⟩, -⟩ := hC
  rcases (show j = 0 ∨ j = 1 ∨ j = 2 ∨ j = 3 ∨ j = 4 ∨ j = 5 by omega) with rfl | rfl | rfl | rfl | rfl | rfl <;> omega
def TYC (cT : Nat → ClassId) : List (ClassId × FieldType) := [(cT 0, .int), (cT 1, .byte), (cT 2, .boolean), (cT 3, .object "java/lang/Object")]
def HWL (dC : Nat → ClassId) (dI : Nat → Nat → Nat) (tys : List (ClassId × FieldType)) (cf : Nat → Nat) (ad : Nat → Nat) (E : Nat → va_E) (sz : Nat) : State → Prop := fun U => U.heap.size = sz ∧ va_P (dC, dI) vwCl (WL (LC cf) ad E) U.heap ∧ va_K (dC, dI) vwCl tys U ∧ va_D (fun _ => True) (WL (LC cf) ad E) ∧ EVC (cf 6) (va_A (WL (LC cf) ad E) sz) U U.heap
def HBL (dC : Nat → ClassId) (dI : Nat → Nat → Nat) (L : List Nat) (ad : Nat → Nat) : (Nat → va_E) → State → Prop := fun u t => va_P (dC, dI) vwCl (WL L ad u) t.heap
section THCL
variable {p : Program} {l : Launch} {e : Env} {R : Room} {s : State} {m : MethodId} {args : Array Value} {below : List Frame} {meth : Method} {c : Code} {H : Heap} {locs : List Loc} {cells slots : Nat} {Q : State → Prop}
variable {pc : Nat} {ls : Array Slot} {rest st0 : List Value} {cc : ByteArray} {dC : Nat → ClassId} {dI : Nat → Nat → Nat} {tys : List (ClassId × FieldType)} {L : List Nat} {ad : Nat → Nat} {E : Nat → va_E} {A : Nat → Prop}
variable {cf : Nat → Nat}
theorem HWL_bl {sz : Nat} {av : List Value} (a : Array Value) (U : State) (g : JFrame) (mk : MethodId) (q : va_Pc av (HWL dC dI tys cf ad E sz) a U) : va_Pc av (HWL dC dI tys cf ad E sz) a (U.calling g mk a) := by
  obtain ⟨e0, e1, qP, qK, qD, qE⟩ := q
  exact ⟨e0, e1, qP, va_K.moved (u := U) (U := U.calling g mk a) (Vm.Alike.refl U.vm) qK, qD, EVC_c qE⟩
theorem HWL_wi {av : List Value} (hP : va_P (dC, dI) vwCl (WL (LC cf) ad E) H) (hK : va_K (dC, dI) vwCl tys s) (hD : va_D A (WL (LC cf) ad E)) (hS : va_S A s.heap H locs) (hA : ∀ q, s.heap.size ≤ q → A q) (hE : EVC (cf 6) A s s.heap) (U : State) (hU : U.heap = H) (hW : s.WarmedH U.vm) : va_Pc av (HWL dC dI tys cf ad E H.size) av.toArray U :=
  ⟨rfl, by rw [hU], by rw [hU]; exact hP, va_K.moved hW.alike hK, hD.weaken (fun _ _ _ _ => trivial), EVC_w hU hW hS (WL_free hD hS hA) hE⟩
theorem th_iL {post : Int32 → (Nat → va_E) → Prop} {a : Array Value} (hr : va_Run p l e R s m args below meth c H locs cells slots 0 0 (F0 m pc ls st0) rest (va_Qi (S := Nat → va_E) post (HBL dC dI L ad) (va_A (WL L ad E) H.size) a) (va_A (WL L ad E) H.size)) (hD : va_D A (WL L ad E)) (hS : va_S A s.heap H locs) (hA : ∀ q, s.heap.size ≤ q → A q)
    (kk : ∀ (r : Int32) (u : Nat → va_E) (H1 : Heap) (locs1 : List Loc), post r u → va_P (dC, dI) vwCl (WL L ad u) H1 → va_S A s.heap H1 locs1 → W p l e R s m args below meth c H1 locs1 cells slots Q (F0 m (pc + 3) ls (.int r :: rest))) : W p l e R s m args below meth c H locs cells slots Q (F0 m pc ls st0) :=
  va_calli hr hS (fun q _ h => WL_free hD hS hA q h) (WL_free hD hS hA) (fun r u t H1 locs1 ht _ hw hB _ _ hS1 => kk r u H1 locs1 hw (by rw [← ht]; exact hB) hS1)
theorem th_vL {post : (Nat → va_E) → Prop} {a : Array Value} (hr : va_Run p l e R s m args below meth c H locs cells slots 0 0 (F0 m pc ls st0) rest (va_Qv (S := Nat → va_E) post (HBL dC dI L ad) (va_A (WL L ad E) H.size) a) (va_A (WL L ad E) H.size)) (hD : va_D A (WL L ad E)) (hS : va_S A s.heap H locs) (hA : ∀ q, s.heap.size ≤ q → A q)
    (kk : ∀ (u : Nat → va_E) (H1 : Heap) (locs1 : List Loc), post u → va_P (dC, dI) vwCl (WL L ad u) H1 → va_S A s.heap H1 locs1 → W p l e R s m args below meth c H1 locs1 cells slots Q (F0 m (pc + 3) ls rest)) : W p l e R s m args below meth c H locs cells slots Q (F0 m pc ls st0) :=
  va_callv hr hS (fun q _ h => WL_free hD hS hA q h) (WL_free hD hS hA) (fun u t H1 locs1 ht _ hw hB _ _ hS1 => kk u H1 locs1 hw (by rw [← ht]; exact hB) hS1)
end THCL
section THDL
variable {p : Program} {l : Launch} {e : Env} {R : Room} {s : State} {m : MethodId} {args : Array Value} {below : List Frame} {meth : Method} {c : Code} {H : Heap} {locs : List Loc} {cells slots : Nat} {Q : State → Prop}
variable {pc : Nat} {ls : Array Slot} {rest st0 : List Value} {cc : ByteArray} {dC : Nat → ClassId} {dI : Nat → Nat → Nat} {tys : List (ClassId × FieldType)} {L : List Nat} {ad : Nat → Nat} {E : Nat → va_E} {A A0 : Nat → Prop} {H0 : Heap}
variable {cf : Nat → Nat}
theorem HWL_wiR {av : List Value} (hP : va_P (dC, dI) vwCl (WL (LC cf) ad E) H) (hK : va_K (dC, dI) vwCl tys s) (hD : va_D A (WL (LC cf) ad E)) (hS : va_S (fun _ => False) s.heap H locs) (hE : EVC (cf 6) (va_A (WL (LC cf) ad E) s.heap.size) s s.heap) (U : State) (hU : U.heap = H) (hW : s.WarmedH U.vm) : va_Pc av (HWL dC dI tys cf ad E H.size) av.toArray U :=
  HWL_wi (A := va_A (WL (LC cf) ad E) s.heap.size) hP hK hD.self hS.up (fun _ h => Or.inr h) hE U hU hW
theorem th_riL {post : Int32 → Unit → Prop} {a : Array Value} (hr : va_Run p l e R s m args below meth c H locs cells slots 0 0 (F0 m pc ls st0) rest (va_Qi (S := Unit) post (fun _ _ => True) (fun _ => False) a) (fun _ => False)) (hS : va_S A0 H0 H locs) (hP : va_P (dC, dI) vwCl (WL L ad E) H)
    (kk : ∀ (r : Int32) (H1 : Heap) (locs1 : List Loc), post r () → va_P (dC, dI) vwCl (WL L ad E) H1 → va_S A0 H0 H1 locs1 → W p l e R s m args below meth c H1 locs1 cells slots Q (F0 m (pc + 3) ls (.int r :: rest))) : W p l e R s m args below meth c H locs cells slots Q (F0 m pc ls st0) :=
  va_calli hr hS (fun _ _ h => h.elim) (fun _ h => h.elim) (fun r _ _ H1 locs1 _ _ hw _ _ hk hS1 => kk r H1 locs1 hw (ub_keep hP hk) hS1)
theorem th_rrL {post : Nat → Unit → Prop} {a : Array Value} (hr : va_Run p l e R s m args below meth c H locs cells slots 0 0 (F0 m pc ls st0) rest (va_Qr (S := Unit) (fun _ => True) (fun u a' _ => post a' u) (fun _ => False) a) (fun _ => False)) (hS : va_S A0 H0 H locs) (hP : va_P (dC, dI) vwCl (WL L ad E) H)
    (kk : ∀ (r : Nat) (H1 : Heap) (locs1 : List Loc), post r () → va_P (dC, dI) vwCl (WL L ad E) H1 → va_S A0 H0 H1 locs1 → W p l e R s m args below meth c H1 locs1 cells slots Q (F0 m (pc + 3) ls (.ref r :: rest))) : W p l e R s m args below meth c H locs cells slots Q (F0 m pc ls st0) :=
  va_callr hr hS (fun _ _ h => h.elim) (fun _ h => h.elim) (fun _ r _ H1 locs1 _ _ _ hw _ hk hS1 => kk r H1 locs1 hw (ub_keep hP hk) hS1)
end THDL
end

