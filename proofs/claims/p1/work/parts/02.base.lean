/-- an object of 97 slots by what each holds -/
def mL (f : Nat → Value) : List Value := (List.range 97).map f
theorem mL_some {f : Nat → Value} {k : Nat} {v : Value} (hk : k < 97) (h : f k = v) : (mL f)[k]? = some v := by simp [mL, hk, h]
theorem mL_lt {f : Nat → Value} {k : Nat} (hk : k < 97) : k < (mL f).length := by simp [mL, hk]
theorem mL_upd {f : Nat → Value} {k : Nat} {v : Value} : (mL f).set k v = mL (va_up f k v) := by
  apply List.ext_getElem?
  intro i
  simp only [mL, List.getElem?_set, List.length_map, List.length_range, List.getElem?_map, List.getElem?_range', List.getElem?_range]
  by_cases h : i < 97
  · by_cases hk : k = i
    · subst hk
      simp [h, va_up]
    · simp [h, hk, va_up, Ne.symm hk]
  · by_cases hk : k = i
    · subst hk
      simp [h]
    · simp [h, hk]
theorem mL_same {f : Nat → Value} {k : Nat} {v : Value} (h : f k = v) : (mL f).set k v = mL f := by
  rw [mL_upd]
  have e : va_up f k v = f := by
    funext j
    by_cases hj : j = k
    · subst hj
      rw [va_up_self, h]
    · exact va_up_ne _ _ hj
  rw [e]
theorem mL_default (ty : Nat → FieldType) (j : Nat) (hj : j < 97) : defaultValue (ty j) = vp_V (mL (fun j => defaultValue (ty j))) j := by
  simp [vp_V, mL, List.getD, hj]
theorem ub_keep {D : va_G} {cl : List vw_C} {ws : va_W} {H H1 : Heap} (hP : va_P D cl ws H) (hk : ∀ q : Nat, q < H.size → ¬ (fun _ : Nat => False) q → H1[q]? = H[q]?) : va_P D cl ws H1 :=
  hP.kept (fun k q h => hk q.1 (hP k q h).lt id)
theorem ub_P0 {D : va_G} {cl : List vw_C} {H : Heap} : va_P D cl [] H := fun k q h => by simp at h
theorem ub_D0 {A : Nat → Prop} : va_D A [] := ⟨fun i j p q h => by simp at h, fun k q h => by simp at h⟩
theorem ub_m1 {n : Int32} (h : ¬ n < 0) (h2 : ¬ (-1) < n) : False := by
  rw [Int32.lt_iff_toInt_lt] at h h2
  have e0 : (0 : Int32).toInt = 0 := rfl
  have e1 : (-1 : Int32).toInt = -1 := rfl
  omega
theorem ub_le {x y : Int32} (h : ¬ x < y) : y ≤ x := Int32.not_lt.mp h
/-- the words of the nest that the walks take: private members called from a class of the same nest -/
def ub_NX (U : State) : Prop := va_Nw (.methodLinkNest RX12 18 yX10_init "UnlikeBoats") U ∧ va_Nw (.methodLinkNest RX12 9 yX0_init "UnlikeBoats") U ∧ va_Nw (.methodLinkNest RX0 52 yX12_within "UnlikeBoats") U ∧ va_Nw (.methodLinkNest RX8 114 yX12_held "UnlikeBoats") U ∧ va_Nw (.methodLinkNest RX10 66 yX12_isOneOf "UnlikeBoats") U
theorem ub_nx0 {U : State} (h : ub_NX U) : va_Nw (.methodLinkNest RX12 18 yX10_init "UnlikeBoats") U := h.1
theorem ub_nx1 {U : State} (h : ub_NX U) : va_Nw (.methodLinkNest RX12 9 yX0_init "UnlikeBoats") U := h.2.1
theorem ub_nx2 {U : State} (h : ub_NX U) : va_Nw (.methodLinkNest RX0 52 yX12_within "UnlikeBoats") U := h.2.2.1
theorem ub_nx3 {U : State} (h : ub_NX U) : va_Nw (.methodLinkNest RX8 114 yX12_held "UnlikeBoats") U := h.2.2.2.1
theorem ub_nx4 {U : State} (h : ub_NX U) : va_Nw (.methodLinkNest RX10 66 yX12_isOneOf "UnlikeBoats") U := h.2.2.2.2
theorem ub_NX_c {U : State} {a : Array Value} {g : JFrame} {mk : MethodId} (h : ub_NX U) : ub_NX (U.calling g mk a) :=
  ⟨va_Nw.same rfl rfl h.1, va_Nw.same rfl rfl h.2.1, va_Nw.same rfl rfl h.2.2.1, va_Nw.same rfl rfl h.2.2.2.1, va_Nw.same rfl rfl h.2.2.2.2⟩
theorem ub_NX_w {s U : State} (hW : s.WarmedH U.vm) (h : ub_NX s) : ub_NX U :=
  ⟨va_Nw.warmM hW h.1, va_Nw.warmM hW h.2.1, va_Nw.warmM hW h.2.2.1, va_Nw.warmM hW h.2.2.2.1, va_Nw.warmM hW h.2.2.2.2⟩
theorem iw_X0_isKnown_X0 : ∀ w ∈ wsX00, w ∈ wsX0_isKnown := fun _ h => List.mem_cons_of_mem _ (List.mem_append_right _ (h))
theorem iw_X0_isBoat_X0 : ∀ w ∈ wsX00, w ∈ wsX0_isBoat := fun _ h => List.mem_cons_of_mem _ (List.mem_append_right _ (h))
theorem iw_X12_days_X12 : ∀ w ∈ wsX120, w ∈ wsX12_days := fun _ h => List.mem_cons_of_mem _ (List.mem_append_left _ (List.mem_append_right _ (h)))
theorem iw_X12_days_X0 : ∀ w ∈ wsX00, w ∈ wsX12_days := fun _ h => List.mem_cons_of_mem _ (List.mem_append_right _ (h))
theorem iw_X13_isKnown_X13 : ∀ w ∈ wsX130, w ∈ wsX13_isKnown := fun _ h => List.mem_cons_of_mem _ (List.mem_append_right _ (h))
theorem iw_X13_days_X13 : ∀ w ∈ wsX130, w ∈ wsX13_days := fun _ h => List.mem_cons_of_mem _ (List.mem_append_right _ (h))
