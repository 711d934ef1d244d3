/-- an object of 97 slots by what each holds -/
def mL (f : Nat → Value) : List Value := (List.range 97).map f
theorem mL_some {f : Nat → Value} {k : Nat} {v : Value} (hk : k < 97) (h : f k = v) : (mL f)[k]? = some v := by simp [mL, hk, h]
theorem mL_lt {f : Nat → Value} {k : Nat} (hk : k < 97) : k < (mL f).length := by simp [mL, hk]
theorem mL_upd {f : Nat → Value} {k : Nat} {v : Value} : (mL f).set k v = mL (va_up f k v) := by
  apply List.ext_getElem?
  intro i
  simp only [mL, List.getElem?_set, List.length_map, List.length_range, List.getElem?_map, List.getElem?_range', List.getElem?_range]
  by_cases h : i < 97
  · by_cases hk : k = i
    · subst hk
      simp [h, va_up]
    · simp [h, hk, va_up, Ne.symm hk]
  · by_cases hk : k = i
    · subst hk
      simp [h]
    · simp [h, hk]
theorem mL_same {f : Nat → Value} {k : Nat} {v : Value} (h : f k = v) : (mL f).set k v = mL f := by
  rw [mL_upd]
  have e : va_up f k v = f := by
    funext j
    by_cases hj : j = k
    · subst hj
      rw [va_up_self, h]
    · exact va_up_ne _ _ hj
  rw [e]
theorem mL_default (ty : Nat → FieldType) (j : Nat) (hj : j < 97) : defaultValue (ty j) = vp_V (mL (fun j => defaultValue (ty j))) j := by
  simp [vp_V, mL, List.getD, hj]
theorem ub_keep {D : va_G} {cl : List vw_C} {ws : va_W} {H H1 : Heap} (hP : va_P D cl ws H) (hk : ∀ q : Nat, q < H.size → ¬ (fun _ : Nat => False) q → H1[q]? = H[q]?) : va_P D cl ws H1 :=
  hP.kept (fun k q h => hk q.1 (hP k q h).lt id)
theorem ub_P0 {D : va_G} {cl : List vw_C} {H : Heap} : va_P D cl [] H := fun k q h => by simp at h
theorem ub_D0 {A : Nat → Prop} : va_D A [] := ⟨fun i j p q h => by simp at h, fun k q h => by simp at h⟩
theorem ub_m1 {n : Int32} (h : ¬ n < 0) (h2 : ¬ (-1) < n) : False := by
  rw [Int32.lt_iff_toInt_lt] at h h2
  have e0 : (0 : Int32).toInt = 0 := rfl
  have e1 : (-1 : Int32).toInt = -1 := rfl
  omega
theorem ub_rng {n lo hi : Int32} (h : hi < lo) (h1 : ¬ n < lo) (h2 : ¬ hi < n) : False := by
  rw [Int32.lt_iff_toInt_lt] at h h1 h2
  omega
theorem ub_lt1 {n : Int32} (h : ¬ n < 1) : ¬ n ≤ 0 := by
  rw [Int32.lt_iff_toInt_lt] at h
  rw [Int32.le_iff_toInt_le]
  have e0 : (0 : Int32).toInt = 0 := rfl
  have e1 : (1 : Int32).toInt = 1 := rfl
  omega
theorem ub_nle {x y : Int32} (h : x < y) : ¬ y ≤ x := Int32.not_le.mpr h
theorem ub_nlt {x y : Int32} (h : x ≤ y) : ¬ y < x := Int32.not_lt.mpr h
theorem ub_lt {x y : Int32} (h : ¬ x ≤ y) : y < x := Int32.not_le.mp h
theorem ub_in0 {n : Int32} (h1 : ¬ n < 0) (h2 : ¬ 0 < n) : n = 0 := by
  rw [Int32.lt_iff_toInt_lt] at h1 h2
  have e0 : (0 : Int32).toInt = 0 := rfl
  exact Int32.toInt_inj.mp (by omega)
theorem ub_le {x y : Int32} (h : ¬ x < y) : y ≤ x := Int32.not_lt.mp h
/-- the words of the nest that the walks take: private members called from a class of the same nest -/
def ub_NX (U : State) : Prop := va_Nw (.methodLinkNest RX12 18 yX10_init "UnlikeBoats") U ∧ va_Nw (.methodLinkNest RX12 9 yX0_init "UnlikeBoats") U ∧ va_Nw (.methodLinkNest RX0 52 yX12_within "UnlikeBoats") U ∧ va_Nw (.methodLinkNest RX8 114 yX12_held "UnlikeBoats") U ∧ va_Nw (.methodLinkNest RX10 66 yX12_isOneOf "UnlikeBoats") U
theorem ub_nx0 {U : State} (h : ub_NX U) : va_Nw (.methodLinkNest RX12 18 yX10_init "UnlikeBoats") U := h.1
theorem ub_nx1 {U : State} (h : ub_NX U) : va_Nw (.methodLinkNest RX12 9 yX0_init "UnlikeBoats") U := h.2.1
theorem ub_nx2 {U : State} (h : ub_NX U) : va_Nw (.methodLinkNest RX0 52 yX12_within "UnlikeBoats") U := h.2.2.1
theorem ub_nx3 {U : State} (h : ub_NX U) : va_Nw (.methodLinkNest RX8 114 yX12_held "UnlikeBoats") U := h.2.2.2.1
theorem ub_nx4 {U : State} (h : ub_NX U) : va_Nw (.methodLinkNest RX10 66 yX12_isOneOf "UnlikeBoats") U := h.2.2.2.2
theorem ub_NX_c {U : State} {a : Array Value} {g : JFrame} {mk : MethodId} (h : ub_NX U) : ub_NX (U.calling g mk a) :=
  ⟨va_Nw.same rfl rfl h.1, va_Nw.same rfl rfl h.2.1, va_Nw.same rfl rfl h.2.2.1, va_Nw.same rfl rfl h.2.2.2.1, va_Nw.same rfl rfl h.2.2.2.2⟩
theorem ub_NX_w {s U : State} (hW : s.WarmedH U.vm) (h : ub_NX s) : ub_NX U :=
  ⟨va_Nw.warmM hW h.1, va_Nw.warmM hW h.2.1, va_Nw.warmM hW h.2.2.1, va_Nw.warmM hW h.2.2.2.1, va_Nw.warmM hW h.2.2.2.2⟩
/-- the text that the class's reader of a clause asks of first -/
def ub_ST (U : State) : Prop := ∃ q : Nat, vk_R RX10 64 "nptab" q U
theorem ub_T_c {U : State} {a : Array Value} {g : JFrame} {mk : MethodId} (h : ub_ST U) : ub_ST (U.calling g mk a) := h.elim (fun q hq => ⟨q, vk_R.same rfl hq⟩)
theorem ub_T_w {s U : State} {H : Heap} {locs : List Loc} {A : Nat → Prop} (_ : U.heap = H) (hW : s.WarmedH U.vm) (_ : va_S A s.heap H locs) (h : ub_ST s) : ub_ST U := h.elim (fun q hq => ⟨q, vk_R.warm hW hq⟩)
theorem iw_Jx4a65c_size_8abf5_Jx4a65c : ∀ w ∈ wsJx4a65c0, w ∈ wsJx4a65c_size_8abf5 := fun _ h => List.mem_cons_of_mem _ (List.mem_append_right _ (h))
theorem iw_X0_isKnown_X0 : ∀ w ∈ wsX00, w ∈ wsX0_isKnown := fun _ h => List.mem_cons_of_mem _ (List.mem_append_right _ (h))
theorem iw_X0_isBoat_X0 : ∀ w ∈ wsX00, w ∈ wsX0_isBoat := fun _ h => List.mem_cons_of_mem _ (List.mem_append_right _ (h))
theorem iw_X0_isRace_X0 : ∀ w ∈ wsX00, w ∈ wsX0_isRace := fun _ h => List.mem_cons_of_mem _ (List.mem_append_left _ (List.mem_append_right _ (h)))
theorem iw_X0_isProtested_X0 : ∀ w ∈ wsX00, w ∈ wsX0_isProtested := fun _ h => List.mem_cons_of_mem _ (List.mem_append_left _ (List.mem_append_left _ (List.mem_append_right _ (h))))
theorem iw_X0_areSome_X0 : ∀ w ∈ wsX00, w ∈ wsX0_areSome := fun _ h => List.mem_cons_of_mem _ (List.mem_append_right _ (h))
theorem iw_X0_rulesOn_X0 : ∀ w ∈ wsX00, w ∈ wsX0_rulesOn := fun _ h => List.mem_cons_of_mem _ (List.mem_append_left _ (List.mem_append_left _ (List.mem_append_right _ (h))))
theorem iw_X0_racesIn_X0 : ∀ w ∈ wsX00, w ∈ wsX0_racesIn := fun _ h => List.mem_cons_of_mem _ (List.mem_append_left _ (List.mem_append_left _ (List.mem_append_right _ (h))))
theorem iw_X0_disqualified_X0 : ∀ w ∈ wsX00, w ∈ wsX0_disqualified := fun _ h => List.mem_cons_of_mem _ (List.mem_append_left _ (List.mem_append_left _ (List.mem_append_right _ (h))))
theorem iw_X12_certificate_X12 : ∀ w ∈ wsX120, w ∈ wsX12_certificate := fun _ h => List.mem_cons_of_mem _ (List.mem_append_left _ (List.mem_append_left _ (List.mem_append_left _ (List.mem_append_right _ (h)))))
theorem iw_X12_measured_X12 : ∀ w ∈ wsX120, w ∈ wsX12_measured := fun _ h => List.mem_cons_of_mem _ (List.mem_append_left _ (List.mem_append_left _ (List.mem_append_left _ (List.mem_append_right _ (h)))))
theorem iw_X12_force_X12 : ∀ w ∈ wsX120, w ∈ wsX12_force := fun _ h => List.mem_cons_of_mem _ (List.mem_append_left _ (List.mem_append_left _ (List.mem_append_left _ (List.mem_append_right _ (h)))))
theorem iw_X12_number_X12 : ∀ w ∈ wsX120, w ∈ wsX12_number := fun _ h => List.mem_cons_of_mem _ (List.mem_append_left _ (List.mem_append_left _ (List.mem_append_left _ (List.mem_append_left _ (List.mem_append_right _ (h))))))
theorem iw_X12_swift_X12 : ∀ w ∈ wsX120, w ∈ wsX12_swift := fun _ h => List.mem_cons_of_mem _ (List.mem_append_left _ (List.mem_append_left _ (List.mem_append_left _ (List.mem_append_right _ (h)))))
theorem iw_X12_enter_X12 : ∀ w ∈ wsX120, w ∈ wsX12_enter := fun _ h => List.mem_cons_of_mem _ (List.mem_append_left _ (List.mem_append_left _ (List.mem_append_left _ (List.mem_append_right _ (h)))))
theorem iw_X12_result_X12 : ∀ w ∈ wsX120, w ∈ wsX12_result := fun _ h => List.mem_cons_of_mem _ (List.mem_append_left _ (List.mem_append_left _ (List.mem_append_left _ (List.mem_append_left _ (List.mem_append_right _ (h))))))
theorem iw_X12_coded_X12 : ∀ w ∈ wsX120, w ∈ wsX12_coded := fun _ h => List.mem_cons_of_mem _ (List.mem_append_left _ (List.mem_append_left _ (List.mem_append_left _ (List.mem_append_left _ (List.mem_append_left _ (List.mem_append_left _ (List.mem_append_right _ (h))))))))
theorem iw_X12_corrected_X12 : ∀ w ∈ wsX120, w ∈ wsX12_corrected := fun _ h => List.mem_cons_of_mem _ (List.mem_append_left _ (List.mem_append_left _ (List.mem_append_left _ (List.mem_append_left _ (List.mem_append_left _ (List.mem_append_left _ (List.mem_append_left _ (List.mem_append_left _ (List.mem_append_right _ (h))))))))))
theorem iw_X12_placed_X12 : ∀ w ∈ wsX120, w ∈ wsX12_placed := fun _ h => List.mem_cons_of_mem _ (List.mem_append_left _ (List.mem_append_left _ (List.mem_append_left _ (List.mem_append_left _ (List.mem_append_left _ (List.mem_append_left _ (List.mem_append_left _ (List.mem_append_left _ (List.mem_append_right _ (h))))))))))
theorem iw_X12_redress_X12 : ∀ w ∈ wsX120, w ∈ wsX12_redress := fun _ h => List.mem_cons_of_mem _ (List.mem_append_left _ (List.mem_append_left _ (List.mem_append_left _ (List.mem_append_right _ (h)))))
theorem iw_X12_points_X12 : ∀ w ∈ wsX120, w ∈ wsX12_points := fun _ h => List.mem_cons_of_mem _ (List.mem_append_left _ (List.mem_append_left _ (List.mem_append_left _ (List.mem_append_left _ (List.mem_append_left _ (List.mem_append_left _ (List.mem_append_left _ (List.mem_append_left _ (List.mem_append_left _ (List.mem_append_right _ (h)))))))))))
theorem iw_X12_thrown_X12 : ∀ w ∈ wsX120, w ∈ wsX12_thrown := fun _ h => List.mem_cons_of_mem _ (List.mem_append_left _ (List.mem_append_left _ (List.mem_append_left _ (List.mem_append_left _ (List.mem_append_left _ (List.mem_append_left _ (List.mem_append_left _ (List.mem_append_left _ (List.mem_append_left _ (List.mem_append_right _ (h)))))))))))
theorem iw_X12_total_X12 : ∀ w ∈ wsX120, w ∈ wsX12_total := fun _ h => List.mem_cons_of_mem _ (List.mem_append_left _ (List.mem_append_left _ (List.mem_append_left _ (List.mem_append_left _ (List.mem_append_left _ (List.mem_append_left _ (List.mem_append_left _ (List.mem_append_left _ (List.mem_append_left _ (List.mem_append_right _ (h)))))))))))
theorem iw_X12_word_X12 : ∀ w ∈ wsX120, w ∈ wsX12_word := fun _ h => List.mem_cons_of_mem _ (List.mem_append_left _ (List.mem_append_left _ (List.mem_append_left _ (List.mem_append_left _ (List.mem_append_right _ (h))))))
theorem iw_X12_protest_X12 : ∀ w ∈ wsX120, w ∈ wsX12_protest := fun _ h => List.mem_cons_of_mem _ (List.mem_append_left _ (List.mem_append_left _ (List.mem_append_left _ (List.mem_append_left _ (List.mem_append_right _ (h))))))
theorem iw_X12_states_X12 : ∀ w ∈ wsX120, w ∈ wsX12_states := fun _ h => List.mem_cons_of_mem _ (List.mem_append_left _ (List.mem_append_left _ (List.mem_append_left _ (List.mem_append_left _ (List.mem_append_left _ (List.mem_append_left _ (List.mem_append_right _ (h))))))))
theorem iw_X12_finding_X12 : ∀ w ∈ wsX120, w ∈ wsX12_finding := fun _ h => List.mem_cons_of_mem _ (List.mem_append_left _ (List.mem_append_left _ (List.mem_append_left _ (List.mem_append_left _ (List.mem_append_left _ (List.mem_append_left _ (List.mem_append_left _ (List.mem_append_right _ (h)))))))))
theorem iw_X12_decide_X12 : ∀ w ∈ wsX120, w ∈ wsX12_decide := fun _ h => List.mem_cons_of_mem _ (List.mem_append_left _ (List.mem_append_left _ (List.mem_append_left _ (List.mem_append_left _ (List.mem_append_left _ (List.mem_append_left _ (List.mem_append_left _ (List.mem_append_right _ (h)))))))))
theorem iw_X12_decide_X0 : ∀ w ∈ wsX00, w ∈ wsX12_decide := fun _ h => List.mem_cons_of_mem _ (List.mem_append_left _ (List.mem_append_left _ (List.mem_append_left _ (List.mem_append_left _ (List.mem_append_left _ (List.mem_append_left _ (List.mem_append_right _ (h))))))))
theorem iw_X12_reopen_X12 : ∀ w ∈ wsX120, w ∈ wsX12_reopen := fun _ h => List.mem_cons_of_mem _ (List.mem_append_left _ (List.mem_append_left _ (List.mem_append_left _ (List.mem_append_right _ (h)))))
theorem iw_X12_reopen_X0 : ∀ w ∈ wsX00, w ∈ wsX12_reopen := fun _ h => List.mem_cons_of_mem _ (List.mem_append_left _ (List.mem_append_left _ (List.mem_append_right _ (h))))
theorem iw_X12_even_X12 : ∀ w ∈ wsX120, w ∈ wsX12_even := fun _ h => List.mem_cons_of_mem _ (List.mem_append_left _ (List.mem_append_left _ (List.mem_append_left _ (List.mem_append_left _ (List.mem_append_left _ (List.mem_append_left _ (List.mem_append_left _ (List.mem_append_left _ (List.mem_append_left _ (List.mem_append_right _ (h)))))))))))
theorem iw_X12_change_X12 : ∀ w ∈ wsX120, w ∈ wsX12_change := fun _ h => List.mem_cons_of_mem _ (List.mem_append_left _ (List.mem_append_left _ (List.mem_append_left _ (List.mem_append_left _ (List.mem_append_left _ (List.mem_append_left _ (List.mem_append_left _ (List.mem_append_left _ (List.mem_append_left _ (List.mem_append_right _ (h)))))))))))
theorem iw_X12_middle_X12 : ∀ w ∈ wsX120, w ∈ wsX12_middle := fun _ h => List.mem_cons_of_mem _ (List.mem_append_left _ (List.mem_append_left _ (List.mem_append_left _ (List.mem_append_left _ (List.mem_append_left _ (List.mem_append_left _ (List.mem_append_left _ (List.mem_append_left _ (List.mem_append_left _ (List.mem_append_right _ (h)))))))))))
theorem iw_X12_fit_X12 : ∀ w ∈ wsX120, w ∈ wsX12_fit := fun _ h => List.mem_cons_of_mem _ (List.mem_append_left _ (List.mem_append_left _ (List.mem_append_left _ (List.mem_append_left _ (List.mem_append_left _ (List.mem_append_left _ (List.mem_append_left _ (List.mem_append_left _ (List.mem_append_left _ (List.mem_append_right _ (h)))))))))))
theorem iw_X12_suspect_X12 : ∀ w ∈ wsX120, w ∈ wsX12_suspect := fun _ h => List.mem_cons_of_mem _ (List.mem_append_left _ (List.mem_append_left _ (List.mem_append_left _ (List.mem_append_left _ (List.mem_append_left _ (List.mem_append_left _ (List.mem_append_left _ (List.mem_append_left _ (List.mem_append_left _ (List.mem_append_right _ (h)))))))))))
theorem iw_X12_start_X12 : ∀ w ∈ wsX120, w ∈ wsX12_start := fun _ h => List.mem_cons_of_mem _ (List.mem_append_left _ (List.mem_append_left _ (List.mem_append_left _ (List.mem_append_right _ (h)))))
theorem iw_X12_lean_X12 : ∀ w ∈ wsX120, w ∈ wsX12_lean := fun _ h => List.mem_cons_of_mem _ (List.mem_append_left _ (List.mem_append_left _ (List.mem_append_left _ (List.mem_append_right _ (h)))))
theorem iw_X12_days_X12 : ∀ w ∈ wsX120, w ∈ wsX12_days := fun _ h => List.mem_cons_of_mem _ (List.mem_append_left _ (List.mem_append_right _ (h)))
theorem iw_X12_days_X0 : ∀ w ∈ wsX00, w ∈ wsX12_days := fun _ h => List.mem_cons_of_mem _ (List.mem_append_right _ (h))
theorem iw_X12_boat_X12 : ∀ w ∈ wsX120, w ∈ wsX12_boat := fun _ h => List.mem_cons_of_mem _ (List.mem_append_left _ (List.mem_append_right _ (h)))
theorem iw_X12_boat_X0 : ∀ w ∈ wsX00, w ∈ wsX12_boat := fun _ h => List.mem_cons_of_mem _ (List.mem_append_right _ (h))
theorem iw_X12_end_X12 : ∀ w ∈ wsX120, w ∈ wsX12_end := fun _ h => List.mem_cons_of_mem _ (List.mem_append_left _ (List.mem_append_right _ (h)))
theorem iw_X12_end_X10 : ∀ w ∈ wsX100, w ∈ wsX12_end := fun _ h => List.mem_cons_of_mem _ (List.mem_append_right _ (h))
theorem iw_X12_count_X12 : ∀ w ∈ wsX120, w ∈ wsX12_count := fun _ h => List.mem_cons_of_mem _ (List.mem_append_left _ (List.mem_append_left _ (List.mem_append_left _ (List.mem_append_left _ (List.mem_append_right _ (h))))))
theorem iw_X12_count_X0 : ∀ w ∈ wsX00, w ∈ wsX12_count := fun _ h => List.mem_cons_of_mem _ (List.mem_append_left _ (List.mem_append_left _ (List.mem_append_left _ (List.mem_append_right _ (h)))))
theorem iw_X12_count_X10 : ∀ w ∈ wsX100, w ∈ wsX12_count := fun _ h => List.mem_cons_of_mem _ (List.mem_append_left _ (List.mem_append_left _ (List.mem_append_right _ (h))))
theorem iw_X10_next_X10 : ∀ w ∈ wsX100, w ∈ wsX10_next := fun _ h => List.mem_cons_of_mem _ (List.mem_append_right _ (h))
theorem iw_X10_fail_X10 : ∀ w ∈ wsX100, w ∈ wsX10_fail := fun _ h => List.mem_cons_of_mem _ (List.mem_append_right _ (h))
theorem iw_X10_read_X10 : ∀ w ∈ wsX100, w ∈ wsX10_read := fun _ h => List.mem_cons_of_mem _ (List.mem_append_right _ (h))
theorem iw_X12_fault_X12 : ∀ w ∈ wsX120, w ∈ wsX12_fault := fun _ h => List.mem_cons_of_mem _ (List.mem_append_left _ (List.mem_append_right _ (h)))
theorem iw_X12_rules_X12 : ∀ w ∈ wsX120, w ∈ wsX12_rules := fun _ h => List.mem_cons_of_mem _ (List.mem_append_left _ (List.mem_append_left _ (List.mem_append_left _ (List.mem_append_left _ (List.mem_append_right _ (h))))))
theorem iw_X12_rules_X0 : ∀ w ∈ wsX00, w ∈ wsX12_rules := fun _ h => List.mem_cons_of_mem _ (List.mem_append_left _ (List.mem_append_left _ (List.mem_append_left _ (List.mem_append_right _ (h)))))
theorem iw_X13_isKnown_X13 : ∀ w ∈ wsX130, w ∈ wsX13_isKnown := fun _ h => List.mem_cons_of_mem _ (List.mem_append_right _ (h))
theorem iw_X13_isBoat_X13 : ∀ w ∈ wsX130, w ∈ wsX13_isBoat := fun _ h => List.mem_cons_of_mem _ (List.mem_append_right _ (h))
theorem iw_X13_isRace_X13 : ∀ w ∈ wsX130, w ∈ wsX13_isRace := fun _ h => List.mem_cons_of_mem _ (List.mem_append_right _ (h))
theorem iw_X13_rulesOn_X13 : ∀ w ∈ wsX130, w ∈ wsX13_rulesOn := fun _ h => List.mem_cons_of_mem _ (List.mem_append_right _ (h))
theorem iw_X13_days_X13 : ∀ w ∈ wsX130, w ∈ wsX13_days := fun _ h => List.mem_cons_of_mem _ (List.mem_append_right _ (h))
theorem iw_X13_boat_X13 : ∀ w ∈ wsX130, w ∈ wsX13_boat := fun _ h => List.mem_cons_of_mem _ (List.mem_append_right _ (h))
theorem iw_X13_certificate_X13 : ∀ w ∈ wsX130, w ∈ wsX13_certificate := fun _ h => List.mem_cons_of_mem _ (List.mem_append_right _ (h))
theorem iw_X13_measured_X13 : ∀ w ∈ wsX130, w ∈ wsX13_measured := fun _ h => List.mem_cons_of_mem _ (List.mem_append_right _ (h))
theorem iw_X13_end_X13 : ∀ w ∈ wsX130, w ∈ wsX13_end := fun _ h => List.mem_cons_of_mem _ (List.mem_append_right _ (h))
theorem iw_X13_force_X13 : ∀ w ∈ wsX130, w ∈ wsX13_force := fun _ h => List.mem_cons_of_mem _ (List.mem_append_right _ (h))
theorem iw_X13_number_X13 : ∀ w ∈ wsX130, w ∈ wsX13_number := fun _ h => List.mem_cons_of_mem _ (List.mem_append_right _ (h))
theorem iw_X13_swift_X13 : ∀ w ∈ wsX130, w ∈ wsX13_swift := fun _ h => List.mem_cons_of_mem _ (List.mem_append_right _ (h))
theorem iw_X13_enter_X13 : ∀ w ∈ wsX130, w ∈ wsX13_enter := fun _ h => List.mem_cons_of_mem _ (List.mem_append_right _ (h))
theorem iw_X13_result_X13 : ∀ w ∈ wsX130, w ∈ wsX13_result := fun _ h => List.mem_cons_of_mem _ (List.mem_append_right _ (h))
theorem iw_X13_asks_X13 : ∀ w ∈ wsX130, w ∈ wsX13_asks := fun _ h => List.mem_cons_of_mem _ (List.mem_append_right _ (h))
theorem iw_X13_redress_X13 : ∀ w ∈ wsX130, w ∈ wsX13_redress := fun _ h => List.mem_cons_of_mem _ (List.mem_append_right _ (h))
theorem iw_X13_word_X13 : ∀ w ∈ wsX130, w ∈ wsX13_word := fun _ h => List.mem_cons_of_mem _ (List.mem_append_right _ (h))
theorem iw_X13_protest_X13 : ∀ w ∈ wsX130, w ∈ wsX13_protest := fun _ h => List.mem_cons_of_mem _ (List.mem_append_right _ (h))
theorem iw_X13_asksProtest_X13 : ∀ w ∈ wsX130, w ∈ wsX13_asksProtest := fun _ h => List.mem_cons_of_mem _ (List.mem_append_right _ (h))
theorem iw_X13_decide_X13 : ∀ w ∈ wsX130, w ∈ wsX13_decide := fun _ h => List.mem_cons_of_mem _ (List.mem_append_right _ (h))
theorem iw_X13_reopen_X13 : ∀ w ∈ wsX130, w ∈ wsX13_reopen := fun _ h => List.mem_cons_of_mem _ (List.mem_append_right _ (h))
theorem iw_X13_findEven_X13 : ∀ w ∈ wsX130, w ∈ wsX13_findEven := fun _ h => List.mem_cons_of_mem _ (List.mem_append_right _ (h))
theorem iw_X13_middle_X13 : ∀ w ∈ wsX130, w ∈ wsX13_middle := fun _ h => List.mem_cons_of_mem _ (List.mem_append_right _ (h))
theorem iw_X13_fit_X13 : ∀ w ∈ wsX130, w ∈ wsX13_fit := fun _ h => List.mem_cons_of_mem _ (List.mem_append_right _ (h))
theorem iw_X13_suspect_X13 : ∀ w ∈ wsX130, w ∈ wsX13_suspect := fun _ h => List.mem_cons_of_mem _ (List.mem_append_right _ (h))
theorem iw_X13_start_X13 : ∀ w ∈ wsX130, w ∈ wsX13_start := fun _ h => List.mem_cons_of_mem _ (List.mem_append_right _ (h))
theorem iw_X13_lean_X13 : ∀ w ∈ wsX130, w ∈ wsX13_lean := fun _ h => List.mem_cons_of_mem _ (List.mem_append_right _ (h))
theorem iw_X13_told_X13 : ∀ w ∈ wsX130, w ∈ wsX13_told := fun _ h => List.mem_cons_of_mem _ (List.mem_append_right _ (h))
theorem iw_X13_count_X13 : ∀ w ∈ wsX130, w ∈ wsX13_count := fun _ h => List.mem_cons_of_mem _ (List.mem_append_right _ (h))
theorem iw_X13_draw_X13 : ∀ w ∈ wsX130, w ∈ wsX13_draw := fun _ h => List.mem_cons_of_mem _ (List.mem_append_right _ (h))
theorem iw_X13_look_X13 : ∀ w ∈ wsX130, w ∈ wsX13_look := fun _ h => List.mem_cons_of_mem _ (List.mem_append_right _ (h))
theorem iw_X13_stop_X13 : ∀ w ∈ wsX130, w ∈ wsX13_stop := fun _ h => List.mem_cons_of_mem _ (List.mem_append_right _ (h))
theorem iw_X13_goThrough_X13 : ∀ w ∈ wsX130, w ∈ wsX13_goThrough := fun _ h => List.mem_cons_of_mem _ (List.mem_append_right _ (h))
theorem iw_X13_fault_X13 : ∀ w ∈ wsX130, w ∈ wsX13_fault := fun _ h => List.mem_cons_of_mem _ (List.mem_append_right _ (h))
theorem iw_X13_rules_X13 : ∀ w ∈ wsX130, w ∈ wsX13_rules := fun _ h => List.mem_cons_of_mem _ (List.mem_append_right _ (h))
