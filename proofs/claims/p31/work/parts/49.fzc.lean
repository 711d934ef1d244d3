

def v_onStarboardV : List Cond := .code yX13_onStarboard cX13_onStarboard 2 (some .int) :: vA
abbrev rm_onStarboardV : Room := { frames := 1, cells := 0, slots := 0, locals := 40 }
set_option maxHeartbeats 4000000 in
set_option maxRecDepth 100000 in
theorem q_onStarboardV (l : Launch) (a0 : Int32) (a1 : Int32) (hh0 : 0 ≤ a0.toInt ∧ a0.toInt ≤ 7) (hh1 : 0 ≤ a1.toInt ∧ a1.toInt ≤ 7) : Met l yX13_onStarboard v_onStarboardV rm_onStarboardV (va_Pc [.int a0, .int a1] (fun _ => True)) (va_Qi (S := Unit) (fun r _ => (0 ≤ r.toInt ∧ r.toInt ≤ 1) ∧ (r.toInt = sb a0.toInt a1.toInt)) (fun _ _ => True) (fun _ => False)) 0 0 (fun _ => False) := by
  refine Met.ofW (cc := cX13_onStarboard) (maxL := 2) (ret := (some .int)) (by decide) rfl ?_
  intro p e s m args below meth c s₁ B hml hv
  obtain ⟨hargs, -⟩ := hv
  have hx := B.exec
  have hb := B.bytes
  have hr := B.returns
  have hts := atoms_spec (ws := v_onStarboardV) B.pre
  have hown : s.vm.findClass RX13 = some m.cls := findClass_of_methodNamed B.named
  have hlocks := B.notSynchronized
  have hS : va_S (fun _ : Nat => False) s.heap s.heap [] := va_S.rf
  have hl := lv_entry ([.int a0, .int a1]) (n := 2) (Nat.le_of_ble_eq_true rfl)
  obtain ⟨Q, hQ⟩ : ∃ Q, Q = MQ below (va_Qi (S := Unit) (fun r _ => (0 ≤ r.toInt ∧ r.toInt ≤ 1) ∧ (r.toInt = sb a0.toInt a1.toInt)) (fun _ _ => True) (fun _ => False)) args s 0 0 (fun _ => False) := ⟨_, rfl⟩
  rw [← hQ, show entryFrame m args 2 = _ from (congrArg (fun z => entryFrame m z 2) hargs).trans (lg_entry_eq _ _ _)]
  generalize (lg_sl ([.int a0, .int a1]) ++ List.replicate (2 - (lg_sl ([.int a0, .int a1])).length) Slot.unset).toArray = ls at hl ⊢
  have hl : lv_has ls 2 [(0, .int a0), (1, .int a1)] := hl
  refine lv_iload_n hx hb dX13_onStarboard_0 rfl (lv_at hl 0 rfl) ?_
  refine lv_iload_n hx hb dX13_onStarboard_1 rfl (lv_at hl 1 rfl) ?_
  refine lv_isub hx hb dX13_onStarboard_2 ?_
  refine lv_topi (fun y1 ey1 => ?_)
  obtain ⟨ty1, iy1⟩ := ti_sub (e := (-7)) (f := 7) hh0 hh1 ey1 (by decide)
  have ty1 : y1.toInt = a0.toInt - a1.toInt := ty1
  have iy1 : -7 ≤ y1.toInt ∧ y1.toInt ≤ 7 := iy1
  refine lv_bipush (v := 8) hx hb dX13_onStarboard_3 (by decide) ?_
  refine th_floorModE hx hb (by rw [hml]; exact hl.1.symm) hown (hts _ (vA_in _ _ (in_31 _ (zs1 (zs0))))) (hts _ (vA_in _ _ (in_31 _ (zs1 (zs1 (zs0)))))) (hts _ (vA_in _ _ (in_0 _ (zs16 (zs16 (zs1 (zs0))))))) (hts _ (vA_in _ _ (in_3 _ (zs4 (zs4 (zs0)))))) (Nat.le_of_ble_eq_true rfl) (Nat.le_of_ble_eq_true rfl) (Nat.le_of_ble_eq_true rfl) (Nat.le_of_ble_eq_true rfl) (by decide) dX13_onStarboard_5 ?_
  refine lv_topi (fun y2 ey2 => ?_)
  have ty2 : y2.toInt = y1.toInt % 8 := (congrArg Int32.toInt ey2).trans (fmE_8 ⟨by omega, by omega⟩)
  have iy2 : 0 ≤ y2.toInt ∧ y2.toInt ≤ 7 := by omega
  refine lv_iconst (v := 4) hx hb dX13_onStarboard_8 (by decide) ?_
  refine lv_icmp_le (tgt := 16) hx hb dX13_onStarboard_9 (by decide) (fun c3 => ?_) (fun c3 => ?_)
  · --9 taken
    have t4 : y2.toInt ≤ 4 := ti_le c3
    have i5 : 0 ≤ y2.toInt ∧ y2.toInt ≤ 4 := iv_le_l t4 iy2 (il_ 4) (by decide)
    refine lv_iconst (v := 0) hx hb dX13_onStarboard_16 (by decide) ?_
    rw [hQ]
    exact W.iret (v := 0) hx hb hr (fun t ht hW => ⟨⟨0, (), rfl, ⟨(iv_w ln_0 (by decide)), (Eq.trans (b := (0 : Int)) rfl (by unfold sb; rw [if_neg (by omega)]))⟩, trivial⟩, hS.F ht⟩) hS.2.2 dX13_onStarboard_17
  · --9 not
    have t6 : (4 : Int) < y2.toInt := ti_nle c3
    have i7 : 5 ≤ y2.toInt ∧ y2.toInt ≤ 7 := iv_lt_r t6 (il_ 4) iy2 (by decide)
    refine lv_iconst (v := 1) hx hb dX13_onStarboard_12 (by decide) ?_
    refine lv_goto (tgt := 17) hx hb dX13_onStarboard_13 (by decide) ?_
    rw [hQ]
    exact W.iret (v := 1) hx hb hr (fun t ht hW => ⟨⟨1, (), rfl, ⟨(iv_w ln_1 (by decide)), (Eq.trans (b := (1 : Int)) rfl (by unfold sb; rw [if_pos (by omega)]))⟩, trivial⟩, hS.F ht⟩) hS.2.2 dX13_onStarboard_17
def v_farV : List Cond := .code yX13_far cX13_far 4 (some .int) :: vA
abbrev rm_farV : Room := { frames := 1, cells := 0, slots := 0, locals := 40 }
set_option maxHeartbeats 4000000 in
set_option maxRecDepth 100000 in
theorem q_farV (l : Launch) (a0 : Int32) (a1 : Int32) (a2 : Int32) (a3 : Int32) (hh0 : 0 ≤ a0.toInt ∧ a0.toInt ≤ 99) (hh1 : 0 ≤ a1.toInt ∧ a1.toInt ≤ 99) (hh2 : 0 ≤ a2.toInt ∧ a2.toInt ≤ 99) (hh3 : 0 ≤ a3.toInt ∧ a3.toInt ≤ 99) : Met l yX13_far v_farV rm_farV (va_Pc [.int a0, .int a1, .int a2, .int a3] (fun _ => True)) (va_Qi (S := Unit) (fun r _ => (0 ≤ r.toInt ∧ r.toInt ≤ 99) ∧ (r.toInt = far4 a0.toInt a1.toInt a2.toInt a3.toInt)) (fun _ _ => True) (fun _ => False)) 0 0 (fun _ => False) := by
  refine Met.ofW (cc := cX13_far) (maxL := 4) (ret := (some .int)) (by decide) rfl ?_
  intro p e s m args below meth c s₁ B hml hv
  obtain ⟨hargs, -⟩ := hv
  have hx := B.exec
  have hb := B.bytes
  have hr := B.returns
  have hts := atoms_spec (ws := v_farV) B.pre
  have hown : s.vm.findClass RX13 = some m.cls := findClass_of_methodNamed B.named
  have hlocks := B.notSynchronized
  have hS : va_S (fun _ : Nat => False) s.heap s.heap [] := va_S.rf
  have hl := lv_entry ([.int a0, .int a1, .int a2, .int a3]) (n := 4) (Nat.le_of_ble_eq_true rfl)
  obtain ⟨Q, hQ⟩ : ∃ Q, Q = MQ below (va_Qi (S := Unit) (fun r _ => (0 ≤ r.toInt ∧ r.toInt ≤ 99) ∧ (r.toInt = far4 a0.toInt a1.toInt a2.toInt a3.toInt)) (fun _ _ => True) (fun _ => False)) args s 0 0 (fun _ => False) := ⟨_, rfl⟩
  rw [← hQ, show entryFrame m args 4 = _ from (congrArg (fun z => entryFrame m z 4) hargs).trans (lg_entry_eq _ _ _)]
  generalize (lg_sl ([.int a0, .int a1, .int a2, .int a3]) ++ List.replicate (4 - (lg_sl ([.int a0, .int a1, .int a2, .int a3])).length) Slot.unset).toArray = ls at hl ⊢
  have hl : lv_has ls 4 [(0, .int a0), (1, .int a1), (2, .int a2), (3, .int a3)] := hl
  refine lv_iload_n hx hb dX13_far_0 rfl (lv_at hl 0 rfl) ?_
  refine lv_iload_n hx hb dX13_far_1 rfl (lv_at hl 2 rfl) ?_
  refine lv_isub hx hb dX13_far_2 ?_
  refine lv_topi (fun y1 ey1 => ?_)
  obtain ⟨ty1, iy1⟩ := ti_sub (e := (-99)) (f := 99) hh0 hh2 ey1 (by decide)
  have ty1 : y1.toInt = a0.toInt - a2.toInt := ty1
  have iy1 : -99 ≤ y1.toInt ∧ y1.toInt ≤ 99 := iy1
  refine va_mabs hx hb (by rw [hml]; exact hl.1.symm) hown (hts _ (vA_in _ _ (in_25 _ (zs16 (zs16 (zs1 (zs1 (zs0)))))))) (hts _ (vA_in _ _ (in_23 _ (zs4 (zs4 (zs1 (zs1 (zs0)))))))) (hts _ (vA_in _ _ (in_0 _ (zs16 (zs16 (zs1 (zs0))))))) (hts _ (vA_in _ _ (in_23 _ (zs4 (zs4 (zs1 (zs1 (zs1 (zs0))))))))) (Nat.le_of_ble_eq_true rfl) (Nat.le_of_ble_eq_true rfl) (Nat.le_of_ble_eq_true rfl) (Nat.le_of_ble_eq_true rfl) dX13_far_3 ?_
  refine lv_topi (fun y2 ey2 => ?_)
  obtain ⟨ty2, iy2⟩ := ti_abs (e := 0) (f := 99) iy1 ey2 (by decide)
  have iy2 : 0 ≤ y2.toInt ∧ y2.toInt ≤ 99 := iy2
  refine lv_iload_n hx hb dX13_far_6 rfl (lv_at hl 1 rfl) ?_
  refine lv_iload_n hx hb dX13_far_7 rfl (lv_at hl 3 rfl) ?_
  refine lv_isub hx hb dX13_far_8 ?_
  refine lv_topi (fun y3 ey3 => ?_)
  obtain ⟨ty3, iy3⟩ := ti_sub (e := (-99)) (f := 99) hh1 hh3 ey3 (by decide)
  have ty3 : y3.toInt = a1.toInt - a3.toInt := ty3
  have iy3 : -99 ≤ y3.toInt ∧ y3.toInt ≤ 99 := iy3
  refine va_mabs hx hb (by rw [hml]; exact hl.1.symm) hown (hts _ (vA_in _ _ (in_25 _ (zs16 (zs16 (zs1 (zs1 (zs0)))))))) (hts _ (vA_in _ _ (in_23 _ (zs4 (zs4 (zs1 (zs1 (zs0)))))))) (hts _ (vA_in _ _ (in_0 _ (zs16 (zs16 (zs1 (zs0))))))) (hts _ (vA_in _ _ (in_23 _ (zs4 (zs4 (zs1 (zs1 (zs1 (zs0))))))))) (Nat.le_of_ble_eq_true rfl) (Nat.le_of_ble_eq_true rfl) (Nat.le_of_ble_eq_true rfl) (Nat.le_of_ble_eq_true rfl) dX13_far_9 ?_
  refine lv_topi (fun y4 ey4 => ?_)
  obtain ⟨ty4, iy4⟩ := ti_abs (e := 0) (f := 99) iy3 ey4 (by decide)
  have iy4 : 0 ≤ y4.toInt ∧ y4.toInt ≤ 99 := iy4
  refine va_mmax hx hb (by rw [hml]; exact hl.1.symm) hown (hts _ (vA_in _ _ (in_25 _ (zs16 (zs4 (zs4 (zs1 (zs1 (zs1 (zs0)))))))))) (hts _ (vA_in _ _ (in_0 _ (zs16 (zs16 (zs0)))))) (hts _ (vA_in _ _ (in_0 _ (zs16 (zs16 (zs1 (zs0))))))) (hts _ (vA_in _ _ (in_0 _ (zs16 (zs16 (zs1 (zs1 (zs0)))))))) (Nat.le_of_ble_eq_true rfl) (Nat.le_of_ble_eq_true rfl) (Nat.le_of_ble_eq_true rfl) (Nat.le_of_ble_eq_true rfl) dX13_far_12 ?_
  refine lv_topi (fun y5 ey5 => ?_)
  obtain ⟨ty5, iy5⟩ := ti_max (e := 0) (f := 99) iy2 iy4 ey5 (by decide)
  have iy5 : 0 ≤ y5.toInt ∧ y5.toInt ≤ 99 := iy5
  rw [hQ]
  exact W.iret (v := y5) hx hb hr (fun t ht hW => ⟨⟨y5, (), rfl, ⟨iy5, (by unfold far4 ab; omega)⟩, trivial⟩, hS.F ht⟩) hS.2.2 dX13_far_15
def v_eastV : List Cond := .code yX13_east cX13_east 1 (some .int) :: vA
abbrev rm_eastV : Room := { frames := 0, cells := 0, slots := 0, locals := 0 }
set_option maxHeartbeats 4000000 in
set_option maxRecDepth 100000 in
theorem q_eastV (l : Launch) (a0 : Int32) (hh0 : 0 ≤ a0.toInt ∧ a0.toInt ≤ 7) : Met l yX13_east v_eastV rm_eastV (va_Pc [.int a0] (fun _ => True)) (va_Qi (S := Unit) (fun r _ => (-1 ≤ r.toInt ∧ r.toInt ≤ 1) ∧ (r.toInt = stX a0.toNatClampNeg)) (fun _ _ => True) (fun _ => False)) 0 0 (fun _ => False) := by
  refine Met.ofW (cc := cX13_east) (maxL := 1) (ret := (some .int)) (by decide) rfl ?_
  intro p e s m args below meth c s₁ B hml hv
  obtain ⟨hargs, -⟩ := hv
  have hx := B.exec
  have hb := B.bytes
  have hr := B.returns
  have hts := atoms_spec (ws := v_eastV) B.pre
  have hown : s.vm.findClass RX13 = some m.cls := findClass_of_methodNamed B.named
  have hlocks := B.notSynchronized
  have hS : va_S (fun _ : Nat => False) s.heap s.heap [] := va_S.rf
  have hl := lv_entry ([.int a0]) (n := 1) (Nat.le_of_ble_eq_true rfl)
  obtain ⟨Q, hQ⟩ : ∃ Q, Q = MQ below (va_Qi (S := Unit) (fun r _ => (-1 ≤ r.toInt ∧ r.toInt ≤ 1) ∧ (r.toInt = stX a0.toNatClampNeg)) (fun _ _ => True) (fun _ => False)) args s 0 0 (fun _ => False) := ⟨_, rfl⟩
  rw [← hQ, show entryFrame m args 1 = _ from (congrArg (fun z => entryFrame m z 1) hargs).trans (lg_entry_eq _ _ _)]
  generalize (lg_sl ([.int a0]) ++ List.replicate (1 - (lg_sl ([.int a0])).length) Slot.unset).toArray = ls at hl ⊢
  have hl : lv_has ls 1 [(0, .int a0)] := hl
  refine lv_iload_n hx hb dX13_east_0 rfl (lv_at hl 0 rfl) ?_
  refine lv_if_eq (tgt := 9) hx hb dX13_east_1 (by decide) (fun c1 => ?_) (fun c1 => ?_)
  · --1 taken
    have t2 : a0.toInt = 0 := ti_eq c1
    have i3 : 0 ≤ a0.toInt ∧ a0.toInt ≤ 0 := iv_eqi t2 hh0 (il_ 0) (by decide)
    refine lv_iconst (v := 0) hx hb dX13_east_9 (by decide) ?_
    refine lv_goto (tgt := 23) hx hb dX13_east_10 (by decide) ?_
    rw [hQ]
    exact W.iret (v := 0) hx hb hr (fun t ht hW => ⟨⟨0, (), rfl, ⟨(iv_w ln_0 (by decide)), (by have h9 := ln_0; exact st_xv (by omega) (by omega))⟩, trivial⟩, hS.F ht⟩) hS.2.2 dX13_east_23
  · --1 not
    have t4 : ¬ a0.toInt = 0 := ti_ne c1
    have i5 : 1 ≤ a0.toInt ∧ a0.toInt ≤ 7 := iv_ne_l t4 hh0 (il_ 0)
    refine lv_iload_n hx hb dX13_east_4 rfl (lv_at hl 0 rfl) ?_
    refine lv_iconst (v := 4) hx hb dX13_east_5 (by decide) ?_
    refine lv_icmp_ne (tgt := 13) hx hb dX13_east_6 (by decide) (fun c6 => ?_) (fun c6 => ?_)
    · --6 taken
      have t7 : ¬ a0.toInt = 4 := ti_ne c6
      refine lv_iload_n hx hb dX13_east_13 rfl (lv_at hl 0 rfl) ?_
      refine lv_iconst (v := 4) hx hb dX13_east_14 (by decide) ?_
      refine lv_icmp_ge (tgt := 22) hx hb dX13_east_15 (by decide) (fun c8 => ?_) (fun c8 => ?_)
      · --15 taken
        have t9 : (4 : Int) ≤ a0.toInt := ti_le c8
        have i10 : 4 ≤ a0.toInt ∧ a0.toInt ≤ 7 := iv_le_r t9 (il_ 4) i5 (by decide)
        refine lv_iconst (v := -1) hx hb dX13_east_22 (by decide) ?_
        rw [hQ]
        exact W.iret (v := (-1)) hx hb hr (fun t ht hW => ⟨⟨(-1), (), rfl, ⟨(iv_w ln_m1 (by decide)), (by have h9 := ln_m1; exact st_xv (by omega) (by omega))⟩, trivial⟩, hS.F ht⟩) hS.2.2 dX13_east_23
      · --15 not
        have t11 : a0.toInt < 4 := ti_nle c8
        have i12 : 1 ≤ a0.toInt ∧ a0.toInt ≤ 3 := iv_lt_l t11 i5 (il_ 4) (by decide)
        refine lv_iconst (v := 1) hx hb dX13_east_18 (by decide) ?_
        refine lv_goto (tgt := 23) hx hb dX13_east_19 (by decide) ?_
        rw [hQ]
        exact W.iret (v := 1) hx hb hr (fun t ht hW => ⟨⟨1, (), rfl, ⟨(iv_w ln_1 (by decide)), (by have h9 := ln_1; exact st_xv (by omega) (by omega))⟩, trivial⟩, hS.F ht⟩) hS.2.2 dX13_east_23
    · --6 not
      have t13 : a0.toInt = 4 := ti_eq c6
      have i14 : 4 ≤ a0.toInt ∧ a0.toInt ≤ 4 := iv_eqi t13 i5 (il_ 4) (by decide)
      refine lv_iconst (v := 0) hx hb dX13_east_9 (by decide) ?_
      refine lv_goto (tgt := 23) hx hb dX13_east_10 (by decide) ?_
      rw [hQ]
      exact W.iret (v := 0) hx hb hr (fun t ht hW => ⟨⟨0, (), rfl, ⟨(iv_w ln_0 (by decide)), (by have h9 := ln_0; exact st_xv (by omega) (by omega))⟩, trivial⟩, hS.F ht⟩) hS.2.2 dX13_east_23
def v_southV : List Cond := .code yX13_south cX13_south 1 (some .int) :: vA
abbrev rm_southV : Room := { frames := 0, cells := 0, slots := 0, locals := 0 }
set_option maxHeartbeats 4000000 in
set_option maxRecDepth 100000 in
theorem q_southV (l : Launch) (a0 : Int32) (hh0 : 0 ≤ a0.toInt ∧ a0.toInt ≤ 7) : Met l yX13_south v_southV rm_southV (va_Pc [.int a0] (fun _ => True)) (va_Qi (S := Unit) (fun r _ => (-1 ≤ r.toInt ∧ r.toInt ≤ 1) ∧ (r.toInt = stY a0.toNatClampNeg)) (fun _ _ => True) (fun _ => False)) 0 0 (fun _ => False) := by
  refine Met.ofW (cc := cX13_south) (maxL := 1) (ret := (some .int)) (by decide) rfl ?_
  intro p e s m args below meth c s₁ B hml hv
  obtain ⟨hargs, -⟩ := hv
  have hx := B.exec
  have hb := B.bytes
  have hr := B.returns
  have hts := atoms_spec (ws := v_southV) B.pre
  have hown : s.vm.findClass RX13 = some m.cls := findClass_of_methodNamed B.named
  have hlocks := B.notSynchronized
  have hS : va_S (fun _ : Nat => False) s.heap s.heap [] := va_S.rf
  have hl := lv_entry ([.int a0]) (n := 1) (Nat.le_of_ble_eq_true rfl)
  obtain ⟨Q, hQ⟩ : ∃ Q, Q = MQ below (va_Qi (S := Unit) (fun r _ => (-1 ≤ r.toInt ∧ r.toInt ≤ 1) ∧ (r.toInt = stY a0.toNatClampNeg)) (fun _ _ => True) (fun _ => False)) args s 0 0 (fun _ => False) := ⟨_, rfl⟩
  rw [← hQ, show entryFrame m args 1 = _ from (congrArg (fun z => entryFrame m z 1) hargs).trans (lg_entry_eq _ _ _)]
  generalize (lg_sl ([.int a0]) ++ List.replicate (1 - (lg_sl ([.int a0])).length) Slot.unset).toArray = ls at hl ⊢
  have hl : lv_has ls 1 [(0, .int a0)] := hl
  refine lv_iload_n hx hb dX13_south_0 rfl (lv_at hl 0 rfl) ?_
  refine lv_iconst (v := 2) hx hb dX13_south_1 (by decide) ?_
  refine lv_icmp_eq (tgt := 11) hx hb dX13_south_2 (by decide) (fun c1 => ?_) (fun c1 => ?_)
  · --2 taken
    have t2 : a0.toInt = 2 := ti_eq c1
    have i3 : 2 ≤ a0.toInt ∧ a0.toInt ≤ 2 := iv_eqi t2 hh0 (il_ 2) (by decide)
    refine lv_iconst (v := 0) hx hb dX13_south_11 (by decide) ?_
    refine lv_goto (tgt := 31) hx hb dX13_south_12 (by decide) ?_
    rw [hQ]
    exact W.iret (v := 0) hx hb hr (fun t ht hW => ⟨⟨0, (), rfl, ⟨(iv_w ln_0 (by decide)), (by have h9 := ln_0; exact st_yv (by omega) (by omega))⟩, trivial⟩, hS.F ht⟩) hS.2.2 dX13_south_31
  · --2 not
    have t4 : ¬ a0.toInt = 2 := ti_ne c1
    refine lv_iload_n hx hb dX13_south_5 rfl (lv_at hl 0 rfl) ?_
    refine lv_bipush (v := 6) hx hb dX13_south_6 (by decide) ?_
    refine lv_icmp_ne (tgt := 15) hx hb dX13_south_8 (by decide) (fun c5 => ?_) (fun c5 => ?_)
    · --8 taken
      have t6 : ¬ a0.toInt = 6 := ti_ne c5
      refine lv_iload_n hx hb dX13_south_15 rfl (lv_at hl 0 rfl) ?_
      refine lv_iconst (v := 2) hx hb dX13_south_16 (by decide) ?_
      refine lv_icmp_le (tgt := 30) hx hb dX13_south_17 (by decide) (fun c7 => ?_) (fun c7 => ?_)
      · --17 taken
        have t8 : a0.toInt ≤ 2 := ti_le c7
        have i9 : 0 ≤ a0.toInt ∧ a0.toInt ≤ 2 := iv_le_l t8 hh0 (il_ 2) (by decide)
        refine lv_iconst (v := -1) hx hb dX13_south_30 (by decide) ?_
        rw [hQ]
        exact W.iret (v := (-1)) hx hb hr (fun t ht hW => ⟨⟨(-1), (), rfl, ⟨(iv_w ln_m1 (by decide)), (by have h9 := ln_m1; exact st_yv (by omega) (by omega))⟩, trivial⟩, hS.F ht⟩) hS.2.2 dX13_south_31
      · --17 not
        have t10 : (2 : Int) < a0.toInt := ti_nle c7
        have i11 : 3 ≤ a0.toInt ∧ a0.toInt ≤ 7 := iv_lt_r t10 (il_ 2) hh0 (by decide)
        refine lv_iload_n hx hb dX13_south_20 rfl (lv_at hl 0 rfl) ?_
        refine lv_bipush (v := 6) hx hb dX13_south_21 (by decide) ?_
        refine lv_icmp_ge (tgt := 30) hx hb dX13_south_23 (by decide) (fun c12 => ?_) (fun c12 => ?_)
        · --23 taken
          have t13 : (6 : Int) ≤ a0.toInt := ti_le c12
          have i14 : 6 ≤ a0.toInt ∧ a0.toInt ≤ 7 := iv_le_r t13 (il_ 6) i11 (by decide)
          refine lv_iconst (v := -1) hx hb dX13_south_30 (by decide) ?_
          rw [hQ]
          exact W.iret (v := (-1)) hx hb hr (fun t ht hW => ⟨⟨(-1), (), rfl, ⟨(iv_w ln_m1 (by decide)), (by have h9 := ln_m1; exact st_yv (by omega) (by omega))⟩, trivial⟩, hS.F ht⟩) hS.2.2 dX13_south_31
        · --23 not
          have t15 : a0.toInt < 6 := ti_nle c12
          have i16 : 3 ≤ a0.toInt ∧ a0.toInt ≤ 5 := iv_lt_l t15 i11 (il_ 6) (by decide)
          refine lv_iconst (v := 1) hx hb dX13_south_26 (by decide) ?_
          refine lv_goto (tgt := 31) hx hb dX13_south_27 (by decide) ?_
          rw [hQ]
          exact W.iret (v := 1) hx hb hr (fun t ht hW => ⟨⟨1, (), rfl, ⟨(iv_w ln_1 (by decide)), (by have h9 := ln_1; exact st_yv (by omega) (by omega))⟩, trivial⟩, hS.F ht⟩) hS.2.2 dX13_south_31
    · --8 not
      have t17 : a0.toInt = 6 := ti_eq c5
      have i18 : 6 ≤ a0.toInt ∧ a0.toInt ≤ 6 := iv_eqi t17 hh0 (il_ 6) (by decide)
      refine lv_iconst (v := 0) hx hb dX13_south_11 (by decide) ?_
      refine lv_goto (tgt := 31) hx hb dX13_south_12 (by decide) ?_
      rw [hQ]
      exact W.iret (v := 0) hx hb hr (fun t ht hW => ⟨⟨0, (), rfl, ⟨(iv_w ln_0 (by decide)), (by have h9 := ln_0; exact st_yv (by omega) (by omega))⟩, trivial⟩, hS.F ht⟩) hS.2.2 dX13_south_31
def v_findingOfV : List Cond := .code yX13_findingOf cX13_findingOf 10 (some .int) :: vA
abbrev rm_findingOfV : Room := { frames := 71, cells := 0, slots := 0, locals := 2840 }
def w_findingOfV : Nat → Nat → Bool := wl [12] [(0, 18), (0, 19), (0, 20), (0, 21), (0, 22), (0, 23), (0, 24), (0, 25), (0, 26)]
set_option maxHeartbeats 4000000 in
set_option maxRecDepth 100000 in
theorem q_findingOfV (l : Launch) (dC : Nat → ClassId) (dI : Nat → Nat → Nat) (cT : Nat → ClassId) (ad : Nat → Nat) (E : Nat → va_E) (sz : Nat) (a0 : Int32) (a1 : Int32) (a2 : Int32) (hI0 : IX cT shM spM 72 ad E) (hh0 : 0 ≤ a0.toInt ∧ a0.toInt ≤ 29) (hh1 : TXM E) : Met l yX13_findingOf v_findingOfV rm_findingOfV (va_Pc [.ref (ad 0), .int a0, .int a1, .int a2] (HW dC dI (TYM cT) 72 ad E sz)) (va_Qi (S := Nat → va_E) (fun r u => IX cT shM spM 72 ad u ∧ Kp w_findingOfV E u ∧ ((FinM E a0.toNatClampNeg a1 a2 r))) (HB dC dI 72 ad) (va_A (WX 72 ad E) sz)) 0 0 (va_A (WX 72 ad E) sz) := by
  refine Met.ofW (cc := cX13_findingOf) (maxL := 10) (ret := (some .int)) (by decide) rfl ?_
  intro p e s m args below meth c s₁ B hml hv
  obtain ⟨hargs, hsz, hP, hK, hD0, hEV⟩ := hv
  subst hsz
  have hx := B.exec
  have hb := B.bytes
  have hr := B.returns
  have hts := atoms_spec (ws := v_findingOfV) B.pre
  have hown : s.vm.findClass RX13 = some m.cls := findClass_of_methodNamed B.named
  have hlocks := B.notSynchronized
  have hinX13 : ∀ w ∈ u_ws RX13 TX13 97, w ∈ v_findingOfV := fun w h => vA_in _ w (in_X13 w h)
  generalize hAe : va_A (WX 72 ad E) s.heap.size = A at hEV ⊢
  have hA : ∀ q : Nat, s.heap.size ≤ q → A q := fun q h => by rw [← hAe]; exact Or.inr h
  have hD : va_D A (WX 72 ad E) := by rw [← hAe]; exact hD0.self
  have hS : va_S A s.heap s.heap [] := va_S.rf
  have hI := hI0
  have hKp : Kp w_findingOfV E E := Kp.rf
  have hl := lv_entry ([.ref (ad 0), .int a0, .int a1, .int a2]) (n := 10) (Nat.le_of_ble_eq_true rfl)
  obtain ⟨Q, hQ⟩ : ∃ Q, Q = MQ below (va_Qi (S := Nat → va_E) (fun r u => IX cT shM spM 72 ad u ∧ Kp w_findingOfV E u ∧ ((FinM E a0.toNatClampNeg a1 a2 r))) (HB dC dI 72 ad) (A)) args s 0 0 (A) := ⟨_, rfl⟩
  rw [← hQ, show entryFrame m args 10 = _ from (congrArg (fun z => entryFrame m z 10) hargs).trans (lg_entry_eq _ _ _)]
  generalize (lg_sl ([.ref (ad 0), .int a0, .int a1, .int a2]) ++ List.replicate (10 - (lg_sl ([.ref (ad 0), .int a0, .int a1, .int a2])).length) Slot.unset).toArray = ls at hl ⊢
  have hl : lv_has ls 10 [(0, .ref (ad 0)), (1, .int a0), (2, .int a1), (3, .int a2)] := hl
  have z0z : (0 : Int32).toInt = 0 := rfl
  have im0 : 0 ≤ (xi (E 59) 0).toInt ∧ (xi (E 59) 0).toInt ≤ 128 := hI0.iv 59 (Nat.le_of_ble_eq_true rfl) rfl (Nat.le_of_ble_eq_true rfl) rfl
  have im1 : 0 ≤ (xi (E 59) 1).toInt ∧ (xi (E 59) 1).toInt ≤ 128 := hI0.iv 59 (Nat.le_of_ble_eq_true rfl) rfl (Nat.le_of_ble_eq_true rfl) rfl
  refine lv_aload_n hx hb dX13_findingOf_0 rfl (lv_at hl 0 rfl) ?_
  refine th_get (ci := 14) (C := RX13) (T := TX13) (N := 97) (v := .ref (ad 46)) hx hb hts hinX13 hown hK hP hI 0 (Nat.le_of_ble_eq_true rfl) rfl rfl 64 (Nat.le_of_ble_eq_true rfl) (hts _ (vA_in _ _ (in_25 _ (zs1 (zs1 (zs1 (zs0))))))) (fun _ h9 => h9) (hI.fr 0 (Nat.le_of_ble_eq_true rfl) rfl (Nat.le_of_ble_eq_true rfl) 46 rfl) dX13_findingOf_1 ?_
  refine lv_iload_n hx hb dX13_findingOf_4 rfl (lv_at hl 1 rfl) ?_
  have n2 : vp_in a0 30 := (iv_in (n := 30) hh0 (by decide))
  refine th_iald hx hb hK hP hI 46 (Nat.le_of_ble_eq_true rfl) rfl rfl n2 dX13_findingOf_5 (fun y1 ey1 => ?_)
  have iy1 : 0 ≤ y1.toInt ∧ y1.toInt ≤ 19 := hI.el 46 (Nat.le_of_ble_eq_true rfl) rfl n2 (fun _ => rfl) ey1
  have ey1 := ey1.trans (hKp.ei 46 _ rfl)
  refine lv_istore (lv' := [(4, .int y1), (0, .ref (ad 0)), (1, .int a0), (2, .int a1), (3, .int a2)]) hx hb dX13_findingOf_6 hl (by decide) rfl (fun ls hl => ?_)
  refine lv_iconst (v := 0) hx hb dX13_findingOf_8 (by decide) ?_
  refine lv_istore (lv' := [(5, .int 0), (4, .int y1), (0, .ref (ad 0)), (1, .int a0), (2, .int a1), (3, .int a2)]) hx hb dX13_findingOf_9 hl (by decide) rfl (fun ls hl => ?_)
  refine lv_iconst (v := 0) hx hb dX13_findingOf_11 (by decide) ?_
  refine lv_istore (lv' := [(6, .int 0), (5, .int 0), (4, .int y1), (0, .ref (ad 0)), (1, .int a0), (2, .int a1), (3, .int a2)]) hx hb dX13_findingOf_12 hl (by decide) rfl (fun ls hl => ?_)
  refine lv_aload_n hx hb dX13_findingOf_14 rfl (lv_at hl 3 rfl) ?_
  refine th_get (ci := 14) (C := RX13) (T := TX13) (N := 97) (v := .ref (ad 16)) hx hb hts hinX13 hown hK hP hI 0 (Nat.le_of_ble_eq_true rfl) rfl rfl 30 (Nat.le_of_ble_eq_true rfl) (hts _ (vA_in _ _ (in_30 _ (zs16 (zs16 (zs0)))))) (fun _ h9 => h9) (hI.fr 0 (Nat.le_of_ble_eq_true rfl) rfl (Nat.le_of_ble_eq_true rfl) 16 rfl) dX13_findingOf_15 ?_
  refine lv_iload hx hb dX13_findingOf_18 (lv_at hl 2 rfl) ?_
  have n4 : vp_in y1 20 := (iv_in (n := 20) iy1 (by decide))
  refine th_iald hx hb hK hP hI 16 (Nat.le_of_ble_eq_true rfl) rfl rfl n4 dX13_findingOf_20 (fun y3 ey3 => ?_)
  have iy3 : 0 ≤ y3.toInt ∧ y3.toInt ≤ 7 := hI.el 16 (Nat.le_of_ble_eq_true rfl) rfl n4 (fun _ => rfl) ey3
  have ey3 := ey3.trans (hKp.ei 16 _ rfl)
  refine lv_istore (lv' := [(7, .int y3), (6, .int 0), (5, .int 0), (4, .int y1), (0, .ref (ad 0)), (1, .int a0), (2, .int a1), (3, .int a2)]) hx hb dX13_findingOf_21 hl (by decide) rfl (fun ls hl => ?_)
  have hpr : mPR E a0.toNatClampNeg = y1.toNatClampNeg := by show (xi (E 46) a0.toNatClampNeg).toNatClampNeg = _; rw [ey1]
  have hwt : xi (E 16) (mPR E a0.toNatClampNeg) = y3 := by rw [hpr, ey3]
  have hwn : (((xi (E 16) (mPR E a0.toNatClampNeg)).toNatClampNeg : Nat) : Int) = y3.toInt := by rw [hwt, tn_]; omega
  refine lv_iconst (v := 0) hx hb dX13_findingOf_23 (by decide) ?_
  refine lv_istore (lv' := [(8, .int 0), (7, .int y3), (6, .int 0), (5, .int 0), (4, .int y1), (0, .ref (ad 0)), (1, .int a0), (2, .int a1), (3, .int a2)]) hx hb dX13_findingOf_24 hl (by decide) rfl (fun ls hl => ?_)
  have hL26 : ∀ d : Nat, ∀ (v26_8 : Int32) (v26_6 : Int32) (v26_5 : Int32) (E26_ : Nat → va_E) (H : Heap) (locs : List Loc) (ls : Array Slot), 0 ≤ v26_8.toInt ∧ v26_8.toInt ≤ 128 → 0 ≤ v26_6.toInt ∧ v26_6.toInt ≤ 2147483647 → 0 ≤ v26_5.toInt ∧ v26_5.toInt ≤ 2147483647 → Cnt v26_5.toInt v26_6.toInt (∃ i9 j9, prc (xi (E 59) 1).toNatClampNeg v26_8.toNatClampNeg 0 i9 j9) (∀ i9 j9, prc (xi (E 59) 1).toNatClampNeg v26_8.toNatClampNeg 0 i9 j9 → XMp E a0.toNatClampNeg a1 a2 i9 j9) → v26_5.toInt ≤ 128 * v26_8.toInt → v26_8.toInt ≤ (xi (E 59) 0).toInt → 128 - v26_8.toInt < (d : Int) → IX cT shM spM 72 ad E26_ → Kp w_findingOfV E E26_ → va_P (dC, dI) vwCl (WX 72 ad E26_) H → va_S A s.heap H locs → lv_has ls 10 [(8, .int v26_8), (7, .int y3), (6, .int v26_6), (5, .int v26_5), (4, .int y1), (0, .ref (ad 0)), (1, .int a0), (2, .int a1), (3, .int a2)] → W p l e (headSpec v_findingOfV rm_findingOfV).room s m args below meth c H locs 0 0 Q (F0 m 26 ls []) := by
    intro d
    induction d with
    | zero =>
      intro v26_8 v26_6 v26_5 E26_ H locs ls hv26_8 hv26_6 hv26_5 hx26_0 hx26_1 hx26_2 hx26_3 hI hKp hP hS hl
      exact absurd hx26_3 (by first | exact ms_zu hv26_8.2 | omega)
    | succ d ih26 =>
      intro v26_8 v26_6 v26_5 E26_ H locs ls hv26_8 hv26_6 hv26_5 hx26_0 hx26_1 hx26_2 hx26_3 hI hKp hP hS hl
      refine lv_iload hx hb dX13_findingOf_26 (lv_at hl 0 rfl) ?_
      refine lv_aload_n hx hb dX13_findingOf_28 rfl (lv_at hl 5 rfl) ?_
      refine th_get (ci := 14) (C := RX13) (T := TX13) (N := 97) (v := .ref (ad 59)) hx hb hts hinX13 hown hK hP hI 0 (Nat.le_of_ble_eq_true rfl) rfl rfl 79 (Nat.le_of_ble_eq_true rfl) (hts _ (vA_in _ _ (in_25 _ (zs16 (zs4 (zs0)))))) (fun _ h9 => h9) (hI.fr 0 (Nat.le_of_ble_eq_true rfl) rfl (Nat.le_of_ble_eq_true rfl) 59 rfl) dX13_findingOf_29 ?_
      refine lv_iconst (v := 0) hx hb dX13_findingOf_32 (by decide) ?_
      have n6 : vp_in (0 : Int32) 2 := (iv_in (n := 2) ln_0 (by decide))
      refine th_iald hx hb hK hP hI 59 (Nat.le_of_ble_eq_true rfl) rfl rfl n6 dX13_findingOf_33 (fun y5 ey5 => ?_)
      have iy5 : 0 ≤ y5.toInt ∧ y5.toInt ≤ 128 := hI.el 59 (Nat.le_of_ble_eq_true rfl) rfl n6 (fun _ => rfl) ey5
      have ey5 := ey5.trans (hKp.ei 59 _ rfl)
      have k7 : y5.toInt = (xi (E 59) 0).toInt := congrArg Int32.toInt (show y5 = xi (E 59) 0 from ey5)
      refine lv_icmp_ge (tgt := 351) hx hb dX13_findingOf_34 (by decide) (fun c8 => ?_) (fun c8 => ?_)
      · --34 taken
        have t9 : y5.toInt ≤ v26_8.toInt := ti_le c8
        refine lv_iload hx hb dX13_findingOf_351 (lv_at hl 3 rfl) ?_
        refine lv_if_ne (tgt := 360) hx hb dX13_findingOf_353 (by decide) (fun c10 => ?_) (fun c10 => ?_)
        · --353 taken
          have t11 : ¬ v26_5.toInt = 0 := ti_ne c10
          have i12 : 1 ≤ v26_5.toInt ∧ v26_5.toInt ≤ 2147483647 := iv_ne_l t11 hv26_5 (il_ 0)
          refine lv_iload hx hb dX13_findingOf_360 (lv_at hl 2 rfl) ?_
          refine lv_iload hx hb dX13_findingOf_362 (lv_at hl 3 rfl) ?_
          refine lv_icmp_ne (tgt := 371) hx hb dX13_findingOf_364 (by decide) (fun c13 => ?_) (fun c13 => ?_)
          · --364 taken
            have t14 : ¬ v26_6.toInt = v26_5.toInt := ti_ne c13
            refine lv_iload hx hb dX13_findingOf_371 (lv_at hl 2 rfl) ?_
            refine lv_if_le (tgt := 380) hx hb dX13_findingOf_373 (by decide) (fun c15 => ?_) (fun c15 => ?_)
            · --373 taken
              have t16 : v26_6.toInt ≤ 0 := ti_le c15
              have i17 : 0 ≤ v26_6.toInt ∧ v26_6.toInt ≤ 0 := iv_le_l t16 hv26_6 (il_ 0) (by decide)
              refine lv_iconst (v := 0) hx hb dX13_findingOf_380 (by decide) ?_
              rw [hQ]
              exact W.iret (v := 0) hx hb hr (fun t ht hW => ⟨⟨0, E26_, rfl, ⟨hI, hKp, ⟨v26_5.toInt, v26_6.toInt, (by have h9 := hx26_0; rw [show v26_8.toNatClampNeg = (xi (E 59) 0).toNatClampNeg by rw [tn_ v26_8, tn_ (xi (E 59) 0)]; omega] at h9; exact h9), ⟨fun q9 => absurd q9 (by decide), fun q9 => by have q8 := hx26_0.1; have q7 := hx26_0.2.1; exfalso; omega⟩⟩⟩, by show va_P (dC, dI) vwCl (WX 72 ad E26_) t.heap; rw [ht]; exact hP⟩, hS.F ht⟩) hS.2.2 dX13_findingOf_381
            · --373 not
              have t18 : (0 : Int) < v26_6.toInt := ti_nle c15
              have i19 : 1 ≤ v26_6.toInt ∧ v26_6.toInt ≤ 2147483647 := iv_lt_r t18 (il_ 0) hv26_6 (by decide)
              refine lv_iconst (v := 2) hx hb dX13_findingOf_376 (by decide) ?_
              refine lv_goto (tgt := 381) hx hb dX13_findingOf_377 (by decide) ?_
              rw [hQ]
              exact W.iret (v := 2) hx hb hr (fun t ht hW => ⟨⟨2, E26_, rfl, ⟨hI, hKp, ⟨v26_5.toInt, v26_6.toInt, (by have h9 := hx26_0; rw [show v26_8.toNatClampNeg = (xi (E 59) 0).toNatClampNeg by rw [tn_ v26_8, tn_ (xi (E 59) 0)]; omega] at h9; exact h9), ⟨fun q9 => absurd q9 (by decide), fun q9 => by have q8 := hx26_0.1; have q7 := hx26_0.2.1; exfalso; omega⟩⟩⟩, by show va_P (dC, dI) vwCl (WX 72 ad E26_) t.heap; rw [ht]; exact hP⟩, hS.F ht⟩) hS.2.2 dX13_findingOf_381
          · --364 not
            have t20 : v26_6.toInt = v26_5.toInt := ti_eq c13
            have i21 : 1 ≤ v26_6.toInt ∧ v26_6.toInt ≤ 2147483647 := iv_eqi t20 hv26_6 i12 (by decide)
            refine lv_iconst (v := 1) hx hb dX13_findingOf_367 (by decide) ?_
            refine lv_goto (tgt := 381) hx hb dX13_findingOf_368 (by decide) ?_
            rw [hQ]
            exact W.iret (v := 1) hx hb hr (fun t ht hW => ⟨⟨1, E26_, rfl, ⟨hI, hKp, ⟨v26_5.toInt, v26_6.toInt, (by have h9 := hx26_0; rw [show v26_8.toNatClampNeg = (xi (E 59) 0).toNatClampNeg by rw [tn_ v26_8, tn_ (xi (E 59) 0)]; omega] at h9; exact h9), ⟨fun _ => ⟨by omega, by omega⟩, fun _ => rfl⟩⟩⟩, by show va_P (dC, dI) vwCl (WX 72 ad E26_) t.heap; rw [ht]; exact hP⟩, hS.F ht⟩) hS.2.2 dX13_findingOf_381
        · --353 not
          have t22 : v26_5.toInt = 0 := ti_eq c10
          have i23 : 0 ≤ v26_5.toInt ∧ v26_5.toInt ≤ 0 := iv_eqi t22 hv26_5 (il_ 0) (by decide)
          refine lv_iconst (v := -1) hx hb dX13_findingOf_356 (by decide) ?_
          refine lv_goto (tgt := 381) hx hb dX13_findingOf_357 (by decide) ?_
          rw [hQ]
          exact W.iret (v := (-1)) hx hb hr (fun t ht hW => ⟨⟨(-1), E26_, rfl, ⟨hI, hKp, ⟨v26_5.toInt, v26_6.toInt, (by have h9 := hx26_0; rw [show v26_8.toNatClampNeg = (xi (E 59) 0).toNatClampNeg by rw [tn_ v26_8, tn_ (xi (E 59) 0)]; omega] at h9; exact h9), ⟨fun q9 => absurd q9 (by decide), fun q9 => by have q8 := hx26_0.1; have q7 := hx26_0.2.1; exfalso; omega⟩⟩⟩, by show va_P (dC, dI) vwCl (WX 72 ad E26_) t.heap; rw [ht]; exact hP⟩, hS.F ht⟩) hS.2.2 dX13_findingOf_381
      · --34 not
        have t24 : v26_8.toInt < y5.toInt := ti_nle c8
        have i25 : 0 ≤ v26_8.toInt ∧ v26_8.toInt ≤ 127 := iv_lt_l t24 hv26_8 iy5 (by decide)
        have i26 : 1 ≤ y5.toInt ∧ y5.toInt ≤ 128 := iv_lt_r t24 hv26_8 iy5 (by decide)
        refine lv_sipush (v := 128) hx hb dX13_findingOf_37 (by decide) ?_
        refine lv_istore (lv' := [(9, .int 128), (8, .int v26_8), (7, .int y3), (6, .int v26_6), (5, .int v26_5), (4, .int y1), (0, .ref (ad 0)), (1, .int a0), (2, .int a1), (3, .int a2)]) hx hb dX13_findingOf_40 hl (by decide) rfl (fun ls hl => ?_)
        have hL42 : ∀ d : Nat, ∀ (v42_9 : Int32) (v42_6 : Int32) (v42_5 : Int32) (E42_ : Nat → va_E) (H : Heap) (locs : List Loc) (ls : Array Slot), 128 ≤ v42_9.toInt ∧ v42_9.toInt ≤ 256 → 0 ≤ v42_6.toInt ∧ v42_6.toInt ≤ 2147483647 → 0 ≤ v42_5.toInt ∧ v42_5.toInt ≤ 2147483647 → Cnt v42_5.toInt v42_6.toInt (∃ i9 j9, prc (xi (E 59) 1).toNatClampNeg v26_8.toNatClampNeg (v42_9.toNatClampNeg - 128) i9 j9) (∀ i9 j9, prc (xi (E 59) 1).toNatClampNeg v26_8.toNatClampNeg (v42_9.toNatClampNeg - 128) i9 j9 → XMp E a0.toNatClampNeg a1 a2 i9 j9) → v42_5.toInt ≤ 128 * v26_8.toInt + (v42_9.toInt - 128) → 128 ≤ v42_9.toInt → v42_9.toInt ≤ 128 + (xi (E 59) 1).toInt → 2147483647 - v42_5.toInt < (d : Int) → IX cT shM spM 72 ad E42_ → Kp w_findingOfV E E42_ → va_P (dC, dI) vwCl (WX 72 ad E42_) H → va_S A s.heap H locs → lv_has ls 10 [(9, .int v42_9), (8, .int v26_8), (7, .int y3), (6, .int v42_6), (5, .int v42_5), (4, .int y1), (0, .ref (ad 0)), (1, .int a0), (2, .int a1), (3, .int a2)] → W p l e (headSpec v_findingOfV rm_findingOfV).room s m args below meth c H locs 0 0 Q (F0 m 42 ls []) := by
          intro d
          induction d with
          | zero =>
            intro v42_9 v42_6 v42_5 E42_ H locs ls hv42_9 hv42_6 hv42_5 hx42_0 hx42_1 hx42_2 hx42_3 hx42_4 hI hKp hP hS hl
            exact absurd hx42_4 (by first | exact ms_zu hv42_5.2 | omega)
          | succ d ih42 =>
            intro v42_9 v42_6 v42_5 E42_ H locs ls hv42_9 hv42_6 hv42_5 hx42_0 hx42_1 hx42_2 hx42_3 hx42_4 hI hKp hP hS hl
            refine lv_iload hx hb dX13_findingOf_42 (lv_at hl 0 rfl) ?_
            refine lv_sipush (v := 128) hx hb dX13_findingOf_44 (by decide) ?_
            refine lv_aload_n hx hb dX13_findingOf_47 rfl (lv_at hl 6 rfl) ?_
            refine th_get (ci := 14) (C := RX13) (T := TX13) (N := 97) (v := .ref (ad 59)) hx hb hts hinX13 hown hK hP hI 0 (Nat.le_of_ble_eq_true rfl) rfl rfl 79 (Nat.le_of_ble_eq_true rfl) (hts _ (vA_in _ _ (in_25 _ (zs16 (zs4 (zs0)))))) (fun _ h9 => h9) (hI.fr 0 (Nat.le_of_ble_eq_true rfl) rfl (Nat.le_of_ble_eq_true rfl) 59 rfl) dX13_findingOf_48 ?_
            refine lv_iconst (v := 1) hx hb dX13_findingOf_51 (by decide) ?_
            have n28 : vp_in (1 : Int32) 2 := (iv_in (n := 2) ln_1 (by decide))
            refine th_iald hx hb hK hP hI 59 (Nat.le_of_ble_eq_true rfl) rfl rfl n28 dX13_findingOf_52 (fun y27 ey27 => ?_)
            have iy27 : 0 ≤ y27.toInt ∧ y27.toInt ≤ 128 := hI.el 59 (Nat.le_of_ble_eq_true rfl) rfl n28 (fun _ => rfl) ey27
            have ey27 := ey27.trans (hKp.ei 59 _ rfl)
            have k29 : y27.toInt = (xi (E 59) 1).toInt := congrArg Int32.toInt (show y27 = xi (E 59) 1 from ey27)
            refine lv_iadd hx hb dX13_findingOf_53 ?_
            refine lv_topi (fun y30 ey30 => ?_)
            obtain ⟨ty30, iy30⟩ := ti_add (e := 128) (f := 256) ln_128 iy27 ey30 (by decide)
            have ty30 : y30.toInt = 128 + y27.toInt := ty30
            have iy30 : 128 ≤ y30.toInt ∧ y30.toInt ≤ 256 := iy30
            refine lv_icmp_ge (tgt := 345) hx hb dX13_findingOf_54 (by decide) (fun c31 => ?_) (fun c31 => ?_)
            · --54 taken
              have t32 : y30.toInt ≤ v42_9.toInt := ti_le c31
              obtain ⟨y33, ey33⟩ : ∃ y : Int32, y = v26_8 + (1 : Int32) := ⟨_, rfl⟩
              obtain ⟨ty33, iy33⟩ := ti_add (e := 1) (f := 128) i25 ln_1 ey33 (by decide)
              have ty33 : y33.toInt = v26_8.toInt + 1 := ty33
              have iy33 : 1 ≤ y33.toInt ∧ y33.toInt ≤ 128 := iy33
              refine lv_iinc (v := y33) (lv' := [(8, .int y33), (9, .int v42_9), (7, .int y3), (6, .int v42_6), (5, .int v42_5), (4, .int y1), (0, .ref (ad 0)), (1, .int a0), (2, .int a1), (3, .int a2)]) hx hb dX13_findingOf_345 hl (k := 1) rfl (by rw [ey33]; rfl) (by decide) rfl (fun ls hl => ?_)
              refine lv_goto (tgt := 26) hx hb dX13_findingOf_348 (by decide) ?_
              exact ih26 y33 v42_6 v42_5 E42_ _ _ _ (iv_w iy33 (by decide)) hv42_6 hv42_5 (hx42_0.row (by rw [tn_ v42_9, tn_ (xi (E 59) 1)]; omega) (by rw [tn_ y33, tn_ v26_8]; omega) rfl) (by omega) (by omega) (by first | exact ms_su hx26_3 ty33 (by decide) | omega) hI hKp hP hS (lv_sub hl [0, 2, 3, 4, 5, 6, 7, 8, 9] rfl)
            · --54 not
              have t34 : v42_9.toInt < y30.toInt := ti_nle c31
              have i35 : 128 ≤ v42_9.toInt ∧ v42_9.toInt ≤ 255 := iv_lt_l t34 hv42_9 iy30 (by decide)
              have i36 : 129 ≤ y30.toInt ∧ y30.toInt ≤ 256 := iv_lt_r t34 hv42_9 iy30 (by decide)
              have hc1 := hx42_0.1
              have hc2 := hx42_0.2.1
              have i37 : 0 ≤ v42_5.toInt ∧ v42_5.toInt ≤ 16383 := by omega
              have i38 : 0 ≤ v42_6.toInt ∧ v42_6.toInt ≤ 16383 := by omega
              refine lv_aload_n hx hb dX13_findingOf_57 rfl (lv_at hl 6 rfl) ?_
              refine th_v (va_runV (As := []) (rest := []) ⟨hx, hb, hml, hown, hts⟩ (q_clearX l dC dI cT ad E42_ H.size hI) (cwV 0 hts (gi_V (in_28 _ (zs16 (zs4 (zs4 (zs4 (zs1 (zs1 (zs0)))))))) (in_28 _ (zs16 (zs4 (zs4 (zs4 (zs1 (zs1 (zs1 (zs0))))))))) (in_28 _ (zs16 (zs16 (zs0)))) (in_24 _ (zs4 (zs4 (zs4 (zs1 (zs1 (zs1 (zs0)))))))) (in_28 _ (zs16 (zs16 (zs1 (zs0)))))) rfl rfl rfl ⟨rfl, hz_yX13_clear_0⟩ ⟨Nat.le_of_ble_eq_true rfl, Nat.le_of_ble_eq_true rfl⟩) ⟨HW_bl, va_recv hK hP (ci := 14) (q0 := 0) rfl (hI.ob 0 (Nat.le_of_ble_eq_true rfl) rfl), (HW_wi hP hK (WX_D hD) hS hA hEV)⟩ rfl rfl hl.1 rfl (lv_room (Nat.le_of_ble_eq_true rfl)) dX13_findingOf_58 ⟨Nat.le_of_ble_eq_true rfl, Nat.le_of_ble_eq_true rfl⟩) (WX_D hD) hS hA (fun E40 H locs hw hP hS => ?_)
              obtain ⟨hI, kq41, hw⟩ := hw
              have hKb := hKp
              have hKp := hKp.tr kq41 (wl_sub rfl rfl)
              have f42 := hw
              refine lv_aload_n hx hb dX13_findingOf_61 rfl (lv_at hl 6 rfl) ?_
              refine th_get (ci := 14) (C := RX13) (T := TX13) (N := 97) (v := .ref (ad 12)) hx hb hts hinX13 hown hK hP hI 0 (Nat.le_of_ble_eq_true rfl) rfl rfl 15 (Nat.le_of_ble_eq_true rfl) (hts _ (vA_in _ _ (in_25 _ (zs16 (zs16 (zs4 (zs1 (zs0)))))))) (fun _ h9 => h9) (hI.fr 0 (Nat.le_of_ble_eq_true rfl) rfl (Nat.le_of_ble_eq_true rfl) 12 rfl) dX13_findingOf_62 ?_
              refine lv_bipush (v := 100) hx hb dX13_findingOf_65 (by decide) ?_
              refine lv_aload_n hx hb dX13_findingOf_67 rfl (lv_at hl 6 rfl) ?_
              refine th_get (ci := 14) (C := RX13) (T := TX13) (N := 97) (v := .ref (ad 56)) hx hb hts hinX13 hown hK hP hI 0 (Nat.le_of_ble_eq_true rfl) rfl rfl 76 (Nat.le_of_ble_eq_true rfl) (hts _ (vA_in _ _ (in_25 _ (zs16 (zs1 (zs0)))))) (fun _ h9 => h9) (hI.fr 0 (Nat.le_of_ble_eq_true rfl) rfl (Nat.le_of_ble_eq_true rfl) 56 rfl) dX13_findingOf_68 ?_
              refine lv_iload hx hb dX13_findingOf_71 (lv_at hl 1 rfl) ?_
              have n44 : vp_in v26_8 256 := (iv_in (n := 256) i25 (by decide))
              refine th_iald hx hb hK hP hI 56 (Nat.le_of_ble_eq_true rfl) rfl rfl n44 dX13_findingOf_73 (fun y43 ey43 => ?_)
              have iy43 : 0 ≤ y43.toInt ∧ y43.toInt ≤ 99 := hI.el 56 (Nat.le_of_ble_eq_true rfl) rfl n44 (fun _ => rfl) ey43
              have ey43 := ey43.trans (hKp.ei 56 _ rfl)
              refine lv_aload_n hx hb dX13_findingOf_74 rfl (lv_at hl 6 rfl) ?_
              refine th_get (ci := 14) (C := RX13) (T := TX13) (N := 97) (v := .ref (ad 57)) hx hb hts hinX13 hown hK hP hI 0 (Nat.le_of_ble_eq_true rfl) rfl rfl 77 (Nat.le_of_ble_eq_true rfl) (hts _ (vA_in _ _ (in_25 _ (zs16 (zs1 (zs1 (zs0))))))) (fun _ h9 => h9) (hI.fr 0 (Nat.le_of_ble_eq_true rfl) rfl (Nat.le_of_ble_eq_true rfl) 57 rfl) dX13_findingOf_75 ?_
              refine lv_iload hx hb dX13_findingOf_78 (lv_at hl 1 rfl) ?_
              have n46 : vp_in v26_8 256 := (iv_in (n := 256) i25 (by decide))
              refine th_iald hx hb hK hP hI 57 (Nat.le_of_ble_eq_true rfl) rfl rfl n46 dX13_findingOf_80 (fun y45 ey45 => ?_)
              have iy45 : 0 ≤ y45.toInt ∧ y45.toInt ≤ 99 := hI.el 57 (Nat.le_of_ble_eq_true rfl) rfl n46 (fun _ => rfl) ey45
              have ey45 := ey45.trans (hKp.ei 57 _ rfl)
              refine lv_aload_n hx hb dX13_findingOf_81 rfl (lv_at hl 6 rfl) ?_
              refine th_get (ci := 14) (C := RX13) (T := TX13) (N := 97) (v := .ref (ad 56)) hx hb hts hinX13 hown hK hP hI 0 (Nat.le_of_ble_eq_true rfl) rfl rfl 76 (Nat.le_of_ble_eq_true rfl) (hts _ (vA_in _ _ (in_25 _ (zs16 (zs1 (zs0)))))) (fun _ h9 => h9) (hI.fr 0 (Nat.le_of_ble_eq_true rfl) rfl (Nat.le_of_ble_eq_true rfl) 56 rfl) dX13_findingOf_82 ?_
              refine lv_iload hx hb dX13_findingOf_85 (lv_at hl 0 rfl) ?_
              have n48 : vp_in v42_9 256 := (iv_in (n := 256) i35 (by decide))
              refine th_iald hx hb hK hP hI 56 (Nat.le_of_ble_eq_true rfl) rfl rfl n48 dX13_findingOf_87 (fun y47 ey47 => ?_)
              have iy47 : 0 ≤ y47.toInt ∧ y47.toInt ≤ 99 := hI.el 56 (Nat.le_of_ble_eq_true rfl) rfl n48 (fun _ => rfl) ey47
              have ey47 := ey47.trans (hKp.ei 56 _ rfl)
              refine lv_aload_n hx hb dX13_findingOf_88 rfl (lv_at hl 6 rfl) ?_
              refine th_get (ci := 14) (C := RX13) (T := TX13) (N := 97) (v := .ref (ad 57)) hx hb hts hinX13 hown hK hP hI 0 (Nat.le_of_ble_eq_true rfl) rfl rfl 77 (Nat.le_of_ble_eq_true rfl) (hts _ (vA_in _ _ (in_25 _ (zs16 (zs1 (zs1 (zs0))))))) (fun _ h9 => h9) (hI.fr 0 (Nat.le_of_ble_eq_true rfl) rfl (Nat.le_of_ble_eq_true rfl) 57 rfl) dX13_findingOf_89 ?_
              refine lv_iload hx hb dX13_findingOf_92 (lv_at hl 0 rfl) ?_
              have n50 : vp_in v42_9 256 := (iv_in (n := 256) i35 (by decide))
              refine th_iald hx hb hK hP hI 57 (Nat.le_of_ble_eq_true rfl) rfl rfl n50 dX13_findingOf_94 (fun y49 ey49 => ?_)
              have iy49 : 0 ≤ y49.toInt ∧ y49.toInt ≤ 99 := hI.el 57 (Nat.le_of_ble_eq_true rfl) rfl n50 (fun _ => rfl) ey49
              have ey49 := ey49.trans (hKp.ei 57 _ rfl)
              refine th_pi (va_runS (As := [.int y43, .int y45, .int y47, .int y49]) (rest := [.int 100, .ref (ad 12)]) ⟨hx, hb, hml, hown, hts⟩ (q_farV l y43 y45 y47 y49 iy43 iy45 iy47 iy49) (va_cwS 4 hts (gi_S (in_30 _ (zs16 (zs16 (zs1 (zs1 (zs1 (zs0))))))) (in_30 _ (zs16 (zs16 (zs4 (zs0))))) (in_24 _ (zs4 (zs4 (zs4 (zs1 (zs1 (zs1 (zs0)))))))) (in_30 _ (zs16 (zs16 (zs4 (zs1 (zs0))))))) rfl rfl rfl hz_yX13_far_4 ⟨Nat.le_of_ble_eq_true rfl, Nat.le_of_ble_eq_true rfl⟩) ⟨fun _ _ _ _ q => q, fun _ _ _ => ⟨rfl, trivial⟩⟩ rfl rfl hl.1 rfl (lv_room (Nat.le_of_ble_eq_true rfl)) dX13_findingOf_95 ⟨Nat.le_of_ble_eq_true rfl, Nat.le_of_ble_eq_true rfl⟩) hS (fun r51 H1 locs1 hw hk1 hS => ?_)
              have hP := ub_keep hP hk1
              generalize H1 = H at hP hS ⊢
              generalize locs1 = locs at hS ⊢
              obtain ⟨f52, f53⟩ := hw
              have n54 : vp_in (100 : Int32) 128 := (iv_in (n := 128) ln_100 (by decide))
              refine th_iast hx hb hK hP (WX_D hD) hS hI 12 (Nat.le_of_ble_eq_true rfl) rfl rfl n54 (okI rfl (iv_w f52 (by decide))) dX13_findingOf_98 (fun H locs E55 pw56 hI hP hS => ?_)
              have hKp := hKp.pw pw56 rfl
              have k57 : mLt E55 = lset lz 8 r51 := (mL_set (k := 8) pw56 (by decide) rfl).trans (by rw [f42])
              refine lv_aload_n hx hb dX13_findingOf_99 rfl (lv_at hl 6 rfl) ?_
              refine th_get (ci := 14) (C := RX13) (T := TX13) (N := 97) (v := .ref (ad 12)) hx hb hts hinX13 hown hK hP hI 0 (Nat.le_of_ble_eq_true rfl) rfl rfl 15 (Nat.le_of_ble_eq_true rfl) (hts _ (vA_in _ _ (in_25 _ (zs16 (zs16 (zs4 (zs1 (zs0)))))))) (fun _ h9 => h9) (hI.fr 0 (Nat.le_of_ble_eq_true rfl) rfl (Nat.le_of_ble_eq_true rfl) 12 rfl) dX13_findingOf_100 ?_
              refine lv_bipush (v := 103) hx hb dX13_findingOf_103 (by decide) ?_
              refine lv_aload_n hx hb dX13_findingOf_105 rfl (lv_at hl 6 rfl) ?_
              refine th_get (ci := 14) (C := RX13) (T := TX13) (N := 97) (v := .ref (ad 58)) hx hb hts hinX13 hown hK hP hI 0 (Nat.le_of_ble_eq_true rfl) rfl rfl 78 (Nat.le_of_ble_eq_true rfl) (hts _ (vA_in _ _ (in_25 _ (zs16 (zs1 (zs1 (zs1 (zs0)))))))) (fun _ h9 => h9) (hI.fr 0 (Nat.le_of_ble_eq_true rfl) rfl (Nat.le_of_ble_eq_true rfl) 58 rfl) dX13_findingOf_106 ?_
              refine lv_iload hx hb dX13_findingOf_109 (lv_at hl 1 rfl) ?_
              have n59 : vp_in v26_8 256 := (iv_in (n := 256) i25 (by decide))
              refine th_iald hx hb hK hP hI 58 (Nat.le_of_ble_eq_true rfl) rfl rfl n59 dX13_findingOf_111 (fun y58 ey58 => ?_)
              have iy58 : 0 ≤ y58.toInt ∧ y58.toInt ≤ 7 := hI.el 58 (Nat.le_of_ble_eq_true rfl) rfl n59 (fun _ => rfl) ey58
              have ey58 := ey58.trans (hKp.ei 58 _ rfl)
              refine lv_iload hx hb dX13_findingOf_112 (lv_at hl 2 rfl) ?_
              refine th_pi (va_runS (As := [.int y58, .int y3]) (rest := [.int 103, .ref (ad 12)]) ⟨hx, hb, hml, hown, hts⟩ (q_onStarboardV l y58 y3 iy58 iy3) (va_cwS 2 hts (gi_S (in_30 _ (zs16 (zs16 (zs4 (zs1 (zs1 (zs0))))))) (in_30 _ (zs16 (zs16 (zs4 (zs1 (zs1 (zs1 (zs0)))))))) (in_24 _ (zs4 (zs4 (zs4 (zs1 (zs1 (zs1 (zs0)))))))) (in_31 _ zs0)) rfl rfl rfl hz_yX13_onStarboard_2 ⟨Nat.le_of_ble_eq_true rfl, Nat.le_of_ble_eq_true rfl⟩) ⟨fun _ _ _ _ q => q, fun _ _ _ => ⟨rfl, trivial⟩⟩ rfl rfl hl.1 rfl (lv_room (Nat.le_of_ble_eq_true rfl)) dX13_findingOf_114 ⟨Nat.le_of_ble_eq_true rfl, Nat.le_of_ble_eq_true rfl⟩) hS (fun r60 H1 locs1 hw hk1 hS => ?_)
              have hP := ub_keep hP hk1
              generalize H1 = H at hP hS ⊢
              generalize locs1 = locs at hS ⊢
              obtain ⟨f61, f62⟩ := hw
              have n63 : vp_in (103 : Int32) 128 := (iv_in (n := 128) ln_103 (by decide))
              refine th_iast hx hb hK hP (WX_D hD) hS hI 12 (Nat.le_of_ble_eq_true rfl) rfl rfl n63 (okI rfl (iv_w f61 (by decide))) dX13_findingOf_117 (fun H locs E64 pw65 hI hP hS => ?_)
              have hKp := hKp.pw pw65 rfl
              have k66 : mLt E64 = lset (lset lz 8 r51) 9 r60 := (mL_set (k := 9) pw65 (by decide) rfl).trans (by rw [k57])
              refine lv_aload_n hx hb dX13_findingOf_118 rfl (lv_at hl 6 rfl) ?_
              refine th_get (ci := 14) (C := RX13) (T := TX13) (N := 97) (v := .ref (ad 12)) hx hb hts hinX13 hown hK hP hI 0 (Nat.le_of_ble_eq_true rfl) rfl rfl 15 (Nat.le_of_ble_eq_true rfl) (hts _ (vA_in _ _ (in_25 _ (zs16 (zs16 (zs4 (zs1 (zs0)))))))) (fun _ h9 => h9) (hI.fr 0 (Nat.le_of_ble_eq_true rfl) rfl (Nat.le_of_ble_eq_true rfl) 12 rfl) dX13_findingOf_119 ?_
              refine lv_bipush (v := 104) hx hb dX13_findingOf_122 (by decide) ?_
              refine lv_aload_n hx hb dX13_findingOf_124 rfl (lv_at hl 6 rfl) ?_
              refine th_get (ci := 14) (C := RX13) (T := TX13) (N := 97) (v := .ref (ad 58)) hx hb hts hinX13 hown hK hP hI 0 (Nat.le_of_ble_eq_true rfl) rfl rfl 78 (Nat.le_of_ble_eq_true rfl) (hts _ (vA_in _ _ (in_25 _ (zs16 (zs1 (zs1 (zs1 (zs0)))))))) (fun _ h9 => h9) (hI.fr 0 (Nat.le_of_ble_eq_true rfl) rfl (Nat.le_of_ble_eq_true rfl) 58 rfl) dX13_findingOf_125 ?_
              refine lv_iload hx hb dX13_findingOf_128 (lv_at hl 0 rfl) ?_
              have n68 : vp_in v42_9 256 := (iv_in (n := 256) i35 (by decide))
              refine th_iald hx hb hK hP hI 58 (Nat.le_of_ble_eq_true rfl) rfl rfl n68 dX13_findingOf_130 (fun y67 ey67 => ?_)
              have iy67 : 0 ≤ y67.toInt ∧ y67.toInt ≤ 7 := hI.el 58 (Nat.le_of_ble_eq_true rfl) rfl n68 (fun _ => rfl) ey67
              have ey67 := ey67.trans (hKp.ei 58 _ rfl)
              refine lv_iload hx hb dX13_findingOf_131 (lv_at hl 2 rfl) ?_
              refine th_pi (va_runS (As := [.int y67, .int y3]) (rest := [.int 104, .ref (ad 12)]) ⟨hx, hb, hml, hown, hts⟩ (q_onStarboardV l y67 y3 iy67 iy3) (va_cwS 2 hts (gi_S (in_30 _ (zs16 (zs16 (zs4 (zs1 (zs1 (zs0))))))) (in_30 _ (zs16 (zs16 (zs4 (zs1 (zs1 (zs1 (zs0)))))))) (in_24 _ (zs4 (zs4 (zs4 (zs1 (zs1 (zs1 (zs0)))))))) (in_31 _ zs0)) rfl rfl rfl hz_yX13_onStarboard_2 ⟨Nat.le_of_ble_eq_true rfl, Nat.le_of_ble_eq_true rfl⟩) ⟨fun _ _ _ _ q => q, fun _ _ _ => ⟨rfl, trivial⟩⟩ rfl rfl hl.1 rfl (lv_room (Nat.le_of_ble_eq_true rfl)) dX13_findingOf_133 ⟨Nat.le_of_ble_eq_true rfl, Nat.le_of_ble_eq_true rfl⟩) hS (fun r69 H1 locs1 hw hk1 hS => ?_)
              have hP := ub_keep hP hk1
              generalize H1 = H at hP hS ⊢
              generalize locs1 = locs at hS ⊢
              obtain ⟨f70, f71⟩ := hw
              have n72 : vp_in (104 : Int32) 128 := (iv_in (n := 128) ln_104 (by decide))
              refine th_iast hx hb hK hP (WX_D hD) hS hI 12 (Nat.le_of_ble_eq_true rfl) rfl rfl n72 (okI rfl (iv_w f70 (by decide))) dX13_findingOf_136 (fun H locs E73 pw74 hI hP hS => ?_)
              have hKp := hKp.pw pw74 rfl
              have k75 : mLt E73 = lset (lset (lset lz 8 r51) 9 r60) 10 r69 := (mL_set (k := 10) pw74 (by decide) rfl).trans (by rw [k66])
              refine lv_aload_n hx hb dX13_findingOf_137 rfl (lv_at hl 6 rfl) ?_
              refine th_get (ci := 14) (C := RX13) (T := TX13) (N := 97) (v := .ref (ad 12)) hx hb hts hinX13 hown hK hP hI 0 (Nat.le_of_ble_eq_true rfl) rfl rfl 15 (Nat.le_of_ble_eq_true rfl) (hts _ (vA_in _ _ (in_25 _ (zs16 (zs16 (zs4 (zs1 (zs0)))))))) (fun _ h9 => h9) (hI.fr 0 (Nat.le_of_ble_eq_true rfl) rfl (Nat.le_of_ble_eq_true rfl) 12 rfl) dX13_findingOf_138 ?_
              refine lv_bipush (v := 117) hx hb dX13_findingOf_141 (by decide) ?_
              refine lv_aload_n hx hb dX13_findingOf_143 rfl (lv_at hl 6 rfl) ?_
              refine th_get (ci := 14) (C := RX13) (T := TX13) (N := 97) (v := .ref (ad 56)) hx hb hts hinX13 hown hK hP hI 0 (Nat.le_of_ble_eq_true rfl) rfl rfl 76 (Nat.le_of_ble_eq_true rfl) (hts _ (vA_in _ _ (in_25 _ (zs16 (zs1 (zs0)))))) (fun _ h9 => h9) (hI.fr 0 (Nat.le_of_ble_eq_true rfl) rfl (Nat.le_of_ble_eq_true rfl) 56 rfl) dX13_findingOf_144 ?_
              refine lv_iload hx hb dX13_findingOf_147 (lv_at hl 1 rfl) ?_
              have n77 : vp_in v26_8 256 := (iv_in (n := 256) i25 (by decide))
              refine th_iald hx hb hK hP hI 56 (Nat.le_of_ble_eq_true rfl) rfl rfl n77 dX13_findingOf_149 (fun y76 ey76 => ?_)
              have iy76 : 0 ≤ y76.toInt ∧ y76.toInt ≤ 99 := hI.el 56 (Nat.le_of_ble_eq_true rfl) rfl n77 (fun _ => rfl) ey76
              have ey76 := ey76.trans (hKp.ei 56 _ rfl)
              refine lv_aload_n hx hb dX13_findingOf_150 rfl (lv_at hl 6 rfl) ?_
              refine th_get (ci := 14) (C := RX13) (T := TX13) (N := 97) (v := .ref (ad 56)) hx hb hts hinX13 hown hK hP hI 0 (Nat.le_of_ble_eq_true rfl) rfl rfl 76 (Nat.le_of_ble_eq_true rfl) (hts _ (vA_in _ _ (in_25 _ (zs16 (zs1 (zs0)))))) (fun _ h9 => h9) (hI.fr 0 (Nat.le_of_ble_eq_true rfl) rfl (Nat.le_of_ble_eq_true rfl) 56 rfl) dX13_findingOf_151 ?_
              refine lv_iload hx hb dX13_findingOf_154 (lv_at hl 0 rfl) ?_
              have n79 : vp_in v42_9 256 := (iv_in (n := 256) i35 (by decide))
              refine th_iald hx hb hK hP hI 56 (Nat.le_of_ble_eq_true rfl) rfl rfl n79 dX13_findingOf_156 (fun y78 ey78 => ?_)
              have iy78 : 0 ≤ y78.toInt ∧ y78.toInt ≤ 99 := hI.el 56 (Nat.le_of_ble_eq_true rfl) rfl n79 (fun _ => rfl) ey78
              have ey78 := ey78.trans (hKp.ei 56 _ rfl)
              refine lv_isub hx hb dX13_findingOf_157 ?_
              refine lv_topi (fun y80 ey80 => ?_)
              obtain ⟨ty80, iy80⟩ := ti_sub (e := (-99)) (f := 99) iy76 iy78 ey80 (by decide)
              have ty80 : y80.toInt = y76.toInt - y78.toInt := ty80
              have iy80 : -99 ≤ y80.toInt ∧ y80.toInt ≤ 99 := iy80
              refine lv_iload hx hb dX13_findingOf_158 (lv_at hl 2 rfl) ?_
              refine th_pi (va_runS (As := [.int y3]) (rest := [.int y80, .int 117, .ref (ad 12)]) ⟨hx, hb, hml, hown, hts⟩ (q_eastV l y3 iy3) (va_cwS 1 hts (gi_S (in_31 _ (zs4 (zs0))) (in_31 _ (zs4 (zs1 (zs0)))) (in_24 _ (zs4 (zs4 (zs4 (zs1 (zs1 (zs1 (zs0)))))))) (in_31 _ (zs4 (zs1 (zs1 (zs0)))))) rfl rfl rfl hz_yX13_east_1 ⟨Nat.le_of_ble_eq_true rfl, Nat.le_of_ble_eq_true rfl⟩) ⟨fun _ _ _ _ q => q, fun _ _ _ => ⟨rfl, trivial⟩⟩ rfl rfl hl.1 rfl (lv_room (Nat.le_of_ble_eq_true rfl)) dX13_findingOf_160 ⟨Nat.le_of_ble_eq_true rfl, Nat.le_of_ble_eq_true rfl⟩) hS (fun r81 H1 locs1 hw hk1 hS => ?_)
              have hP := ub_keep hP hk1
              generalize H1 = H at hP hS ⊢
              generalize locs1 = locs at hS ⊢
              obtain ⟨f82, f83⟩ := hw
              refine lv_imul hx hb dX13_findingOf_163 ?_
              refine lv_topi (fun y84 ey84 => ?_)
              obtain ⟨ty84, iy84⟩ := ti_mul (e := (-99)) (f := 99) iy80 f82 ey84 (by decide)
              have ty84 : y84.toInt = y80.toInt * r81.toInt := ty84
              have iy84 : -99 ≤ y84.toInt ∧ y84.toInt ≤ 99 := iy84
              refine lv_aload_n hx hb dX13_findingOf_164 rfl (lv_at hl 6 rfl) ?_
              refine th_get (ci := 14) (C := RX13) (T := TX13) (N := 97) (v := .ref (ad 57)) hx hb hts hinX13 hown hK hP hI 0 (Nat.le_of_ble_eq_true rfl) rfl rfl 77 (Nat.le_of_ble_eq_true rfl) (hts _ (vA_in _ _ (in_25 _ (zs16 (zs1 (zs1 (zs0))))))) (fun _ h9 => h9) (hI.fr 0 (Nat.le_of_ble_eq_true rfl) rfl (Nat.le_of_ble_eq_true rfl) 57 rfl) dX13_findingOf_165 ?_
              refine lv_iload hx hb dX13_findingOf_168 (lv_at hl 1 rfl) ?_
              have n86 : vp_in v26_8 256 := (iv_in (n := 256) i25 (by decide))
              refine th_iald hx hb hK hP hI 57 (Nat.le_of_ble_eq_true rfl) rfl rfl n86 dX13_findingOf_170 (fun y85 ey85 => ?_)
              have iy85 : 0 ≤ y85.toInt ∧ y85.toInt ≤ 99 := hI.el 57 (Nat.le_of_ble_eq_true rfl) rfl n86 (fun _ => rfl) ey85
              have ey85 := ey85.trans (hKp.ei 57 _ rfl)
              refine lv_aload_n hx hb dX13_findingOf_171 rfl (lv_at hl 6 rfl) ?_
              refine th_get (ci := 14) (C := RX13) (T := TX13) (N := 97) (v := .ref (ad 57)) hx hb hts hinX13 hown hK hP hI 0 (Nat.le_of_ble_eq_true rfl) rfl rfl 77 (Nat.le_of_ble_eq_true rfl) (hts _ (vA_in _ _ (in_25 _ (zs16 (zs1 (zs1 (zs0))))))) (fun _ h9 => h9) (hI.fr 0 (Nat.le_of_ble_eq_true rfl) rfl (Nat.le_of_ble_eq_true rfl) 57 rfl) dX13_findingOf_172 ?_
              refine lv_iload hx hb dX13_findingOf_175 (lv_at hl 0 rfl) ?_
              have n88 : vp_in v42_9 256 := (iv_in (n := 256) i35 (by decide))
              refine th_iald hx hb hK hP hI 57 (Nat.le_of_ble_eq_true rfl) rfl rfl n88 dX13_findingOf_177 (fun y87 ey87 => ?_)
              have iy87 : 0 ≤ y87.toInt ∧ y87.toInt ≤ 99 := hI.el 57 (Nat.le_of_ble_eq_true rfl) rfl n88 (fun _ => rfl) ey87
              have ey87 := ey87.trans (hKp.ei 57 _ rfl)
              refine lv_isub hx hb dX13_findingOf_178 ?_
              refine lv_topi (fun y89 ey89 => ?_)
              obtain ⟨ty89, iy89⟩ := ti_sub (e := (-99)) (f := 99) iy85 iy87 ey89 (by decide)
              have ty89 : y89.toInt = y85.toInt - y87.toInt := ty89
              have iy89 : -99 ≤ y89.toInt ∧ y89.toInt ≤ 99 := iy89
              refine lv_iload hx hb dX13_findingOf_179 (lv_at hl 2 rfl) ?_
              refine th_pi (va_runS (As := [.int y3]) (rest := [.int y89, .int y84, .int 117, .ref (ad 12)]) ⟨hx, hb, hml, hown, hts⟩ (q_southV l y3 iy3) (va_cwS 1 hts (gi_S (in_31 _ (zs4 (zs1 (zs1 (zs1 (zs0)))))) (in_31 _ (zs4 (zs4 (zs0)))) (in_24 _ (zs4 (zs4 (zs4 (zs1 (zs1 (zs1 (zs0)))))))) (in_31 _ (zs4 (zs4 (zs1 (zs0)))))) rfl rfl rfl hz_yX13_south_1 ⟨Nat.le_of_ble_eq_true rfl, Nat.le_of_ble_eq_true rfl⟩) ⟨fun _ _ _ _ q => q, fun _ _ _ => ⟨rfl, trivial⟩⟩ rfl rfl hl.1 rfl (lv_room (Nat.le_of_ble_eq_true rfl)) dX13_findingOf_181 ⟨Nat.le_of_ble_eq_true rfl, Nat.le_of_ble_eq_true rfl⟩) hS (fun r90 H1 locs1 hw hk1 hS => ?_)
              have hP := ub_keep hP hk1
              generalize H1 = H at hP hS ⊢
              generalize locs1 = locs at hS ⊢
              obtain ⟨f91, f92⟩ := hw
              refine lv_imul hx hb dX13_findingOf_184 ?_
              refine lv_topi (fun y93 ey93 => ?_)
              obtain ⟨ty93, iy93⟩ := ti_mul (e := (-99)) (f := 99) iy89 f91 ey93 (by decide)
              have ty93 : y93.toInt = y89.toInt * r90.toInt := ty93
              have iy93 : -99 ≤ y93.toInt ∧ y93.toInt ≤ 99 := iy93
              refine lv_iadd hx hb dX13_findingOf_185 ?_
              refine lv_topi (fun y94 ey94 => ?_)
              obtain ⟨ty94, iy94⟩ := ti_add (e := (-198)) (f := 198) iy84 iy93 ey94 (by decide)
              have ty94 : y94.toInt = y84.toInt + y93.toInt := ty94
              have iy94 : -198 ≤ y94.toInt ∧ y94.toInt ≤ 198 := iy94
              refine lv_if_le (tgt := 193) hx hb dX13_findingOf_186 (by decide) (fun c95 => ?_) (fun c95 => ?_)
              · --186 taken
                have t96 : y94.toInt ≤ 0 := ti_le c95
                have i97 : -198 ≤ y94.toInt ∧ y94.toInt ≤ 0 := iv_le_l t96 iy94 (il_ 0) (by decide)
                refine lv_iconst (v := 0) hx hb dX13_findingOf_193 (by decide) ?_
                have n98 : vp_in (117 : Int32) 128 := (iv_in (n := 128) ln_117 (by decide))
                refine th_iast hx hb hK hP (WX_D hD) hS hI 12 (Nat.le_of_ble_eq_true rfl) rfl rfl n98 (okI rfl (iv_w ln_0 (by decide))) dX13_findingOf_194 (fun H locs E99 pw100 hI hP hS => ?_)
                have hKp := hKp.pw pw100 rfl
                have k101 : mLt E99 = lset (lset (lset (lset lz 8 r51) 9 r60) 10 r69) 11 ((0 : Int32)) := (mL_set (k := 11) pw100 (by decide) rfl).trans (by rw [k75])
                refine lv_aload_n hx hb dX13_findingOf_195 rfl (lv_at hl 6 rfl) ?_
                refine th_get (ci := 14) (C := RX13) (T := TX13) (N := 97) (v := .ref (ad 12)) hx hb hts hinX13 hown hK hP hI 0 (Nat.le_of_ble_eq_true rfl) rfl rfl 15 (Nat.le_of_ble_eq_true rfl) (hts _ (vA_in _ _ (in_25 _ (zs16 (zs16 (zs4 (zs1 (zs0)))))))) (fun _ h9 => h9) (hI.fr 0 (Nat.le_of_ble_eq_true rfl) rfl (Nat.le_of_ble_eq_true rfl) 12 rfl) dX13_findingOf_196 ?_
                refine lv_bipush (v := 109) hx hb dX13_findingOf_199 (by decide) ?_
                refine lv_aload_n hx hb dX13_findingOf_201 rfl (lv_at hl 6 rfl) ?_
                refine th_get (ci := 14) (C := RX13) (T := TX13) (N := 97) (v := .ref (ad 56)) hx hb hts hinX13 hown hK hP hI 0 (Nat.le_of_ble_eq_true rfl) rfl rfl 76 (Nat.le_of_ble_eq_true rfl) (hts _ (vA_in _ _ (in_25 _ (zs16 (zs1 (zs0)))))) (fun _ h9 => h9) (hI.fr 0 (Nat.le_of_ble_eq_true rfl) rfl (Nat.le_of_ble_eq_true rfl) 56 rfl) dX13_findingOf_202 ?_
                refine lv_iload hx hb dX13_findingOf_205 (lv_at hl 1 rfl) ?_
                have n103 : vp_in v26_8 256 := (iv_in (n := 256) i25 (by decide))
                refine th_iald hx hb hK hP hI 56 (Nat.le_of_ble_eq_true rfl) rfl rfl n103 dX13_findingOf_207 (fun y102 ey102 => ?_)
                have iy102 : 0 ≤ y102.toInt ∧ y102.toInt ≤ 99 := hI.el 56 (Nat.le_of_ble_eq_true rfl) rfl n103 (fun _ => rfl) ey102
                have ey102 := ey102.trans (hKp.ei 56 _ rfl)
                refine lv_aload_n hx hb dX13_findingOf_208 rfl (lv_at hl 6 rfl) ?_
                refine th_get (ci := 14) (C := RX13) (T := TX13) (N := 97) (v := .ref (ad 57)) hx hb hts hinX13 hown hK hP hI 0 (Nat.le_of_ble_eq_true rfl) rfl rfl 77 (Nat.le_of_ble_eq_true rfl) (hts _ (vA_in _ _ (in_25 _ (zs16 (zs1 (zs1 (zs0))))))) (fun _ h9 => h9) (hI.fr 0 (Nat.le_of_ble_eq_true rfl) rfl (Nat.le_of_ble_eq_true rfl) 57 rfl) dX13_findingOf_209 ?_
                refine lv_iload hx hb dX13_findingOf_212 (lv_at hl 1 rfl) ?_
                have n105 : vp_in v26_8 256 := (iv_in (n := 256) i25 (by decide))
                refine th_iald hx hb hK hP hI 57 (Nat.le_of_ble_eq_true rfl) rfl rfl n105 dX13_findingOf_214 (fun y104 ey104 => ?_)
                have iy104 : 0 ≤ y104.toInt ∧ y104.toInt ≤ 99 := hI.el 57 (Nat.le_of_ble_eq_true rfl) rfl n105 (fun _ => rfl) ey104
                have ey104 := ey104.trans (hKp.ei 57 _ rfl)
                refine lv_aload_n hx hb dX13_findingOf_215 rfl (lv_at hl 6 rfl) ?_
                refine th_get (ci := 14) (C := RX13) (T := TX13) (N := 97) (v := .ref (ad 17)) hx hb hts hinX13 hown hK hP hI 0 (Nat.le_of_ble_eq_true rfl) rfl rfl 31 (Nat.le_of_ble_eq_true rfl) (hts _ (vA_in _ _ (in_30 _ (zs16 (zs16 (zs1 (zs0))))))) (fun _ h9 => h9) (hI.fr 0 (Nat.le_of_ble_eq_true rfl) rfl (Nat.le_of_ble_eq_true rfl) 17 rfl) dX13_findingOf_216 ?_
                refine lv_iload hx hb dX13_findingOf_219 (lv_at hl 5 rfl) ?_
                have n107 : vp_in y1 20 := (iv_in (n := 20) iy1 (by decide))
                refine th_iald hx hb hK hP hI 17 (Nat.le_of_ble_eq_true rfl) rfl rfl n107 dX13_findingOf_221 (fun y106 ey106 => ?_)
                have iy106 : 0 ≤ y106.toInt ∧ y106.toInt ≤ 99 := hI.el 17 (Nat.le_of_ble_eq_true rfl) rfl n107 (fun _ => rfl) ey106
                have ey106 := ey106.trans (hKp.ei 17 _ rfl)
                refine lv_aload_n hx hb dX13_findingOf_222 rfl (lv_at hl 6 rfl) ?_
                refine th_get (ci := 14) (C := RX13) (T := TX13) (N := 97) (v := .ref (ad 18)) hx hb hts hinX13 hown hK hP hI 0 (Nat.le_of_ble_eq_true rfl) rfl rfl 32 (Nat.le_of_ble_eq_true rfl) (hts _ (vA_in _ _ (in_30 _ (zs16 (zs16 (zs1 (zs1 (zs0)))))))) (fun _ h9 => h9) (hI.fr 0 (Nat.le_of_ble_eq_true rfl) rfl (Nat.le_of_ble_eq_true rfl) 18 rfl) dX13_findingOf_223 ?_
                refine lv_iload hx hb dX13_findingOf_226 (lv_at hl 5 rfl) ?_
                have n109 : vp_in y1 20 := (iv_in (n := 20) iy1 (by decide))
                refine th_iald hx hb hK hP hI 18 (Nat.le_of_ble_eq_true rfl) rfl rfl n109 dX13_findingOf_228 (fun y108 ey108 => ?_)
                have iy108 : 0 ≤ y108.toInt ∧ y108.toInt ≤ 99 := hI.el 18 (Nat.le_of_ble_eq_true rfl) rfl n109 (fun _ => rfl) ey108
                have ey108 := ey108.trans (hKp.ei 18 _ rfl)
                refine th_pi (va_runS (As := [.int y102, .int y104, .int y106, .int y108]) (rest := [.int 109, .ref (ad 12)]) ⟨hx, hb, hml, hown, hts⟩ (q_farV l y102 y104 y106 y108 iy102 iy104 iy106 iy108) (va_cwS 4 hts (gi_S (in_30 _ (zs16 (zs16 (zs1 (zs1 (zs1 (zs0))))))) (in_30 _ (zs16 (zs16 (zs4 (zs0))))) (in_24 _ (zs4 (zs4 (zs4 (zs1 (zs1 (zs1 (zs0)))))))) (in_30 _ (zs16 (zs16 (zs4 (zs1 (zs0))))))) rfl rfl rfl hz_yX13_far_4 ⟨Nat.le_of_ble_eq_true rfl, Nat.le_of_ble_eq_true rfl⟩) ⟨fun _ _ _ _ q => q, fun _ _ _ => ⟨rfl, trivial⟩⟩ rfl rfl hl.1 rfl (lv_room (Nat.le_of_ble_eq_true rfl)) dX13_findingOf_229 ⟨Nat.le_of_ble_eq_true rfl, Nat.le_of_ble_eq_true rfl⟩) hS (fun r110 H1 locs1 hw hk1 hS => ?_)
                have hP := ub_keep hP hk1
                generalize H1 = H at hP hS ⊢
                generalize locs1 = locs at hS ⊢
                obtain ⟨f111, f112⟩ := hw
                have n113 : vp_in (109 : Int32) 128 := (iv_in (n := 128) ln_109 (by decide))
                refine th_iast hx hb hK hP (WX_D hD) hS hI 12 (Nat.le_of_ble_eq_true rfl) rfl rfl n113 (okI rfl (iv_w f111 (by decide))) dX13_findingOf_232 (fun H locs E114 pw115 hI hP hS => ?_)
                have hKp := hKp.pw pw115 rfl
                have k116 : mLt E114 = lset (lset (lset (lset (lset lz 8 r51) 9 r60) 10 r69) 11 ((0 : Int32))) 12 r110 := (mL_set (k := 12) pw115 (by decide) rfl).trans (by rw [k101])
                refine lv_aload_n hx hb dX13_findingOf_233 rfl (lv_at hl 6 rfl) ?_
                refine th_get (ci := 14) (C := RX13) (T := TX13) (N := 97) (v := .ref (ad 12)) hx hb hts hinX13 hown hK hP hI 0 (Nat.le_of_ble_eq_true rfl) rfl rfl 15 (Nat.le_of_ble_eq_true rfl) (hts _ (vA_in _ _ (in_25 _ (zs16 (zs16 (zs4 (zs1 (zs0)))))))) (fun _ h9 => h9) (hI.fr 0 (Nat.le_of_ble_eq_true rfl) rfl (Nat.le_of_ble_eq_true rfl) 12 rfl) dX13_findingOf_234 ?_
                refine lv_bipush (v := 107) hx hb dX13_findingOf_237 (by decide) ?_
                refine lv_aload_n hx hb dX13_findingOf_239 rfl (lv_at hl 6 rfl) ?_
                refine th_get (ci := 14) (C := RX13) (T := TX13) (N := 97) (v := .ref (ad 56)) hx hb hts hinX13 hown hK hP hI 0 (Nat.le_of_ble_eq_true rfl) rfl rfl 76 (Nat.le_of_ble_eq_true rfl) (hts _ (vA_in _ _ (in_25 _ (zs16 (zs1 (zs0)))))) (fun _ h9 => h9) (hI.fr 0 (Nat.le_of_ble_eq_true rfl) rfl (Nat.le_of_ble_eq_true rfl) 56 rfl) dX13_findingOf_240 ?_
                refine lv_iload hx hb dX13_findingOf_243 (lv_at hl 0 rfl) ?_
                have n118 : vp_in v42_9 256 := (iv_in (n := 256) i35 (by decide))
                refine th_iald hx hb hK hP hI 56 (Nat.le_of_ble_eq_true rfl) rfl rfl n118 dX13_findingOf_245 (fun y117 ey117 => ?_)
                have iy117 : 0 ≤ y117.toInt ∧ y117.toInt ≤ 99 := hI.el 56 (Nat.le_of_ble_eq_true rfl) rfl n118 (fun _ => rfl) ey117
                have ey117 := ey117.trans (hKp.ei 56 _ rfl)
                refine lv_aload_n hx hb dX13_findingOf_246 rfl (lv_at hl 6 rfl) ?_
                refine th_get (ci := 14) (C := RX13) (T := TX13) (N := 97) (v := .ref (ad 57)) hx hb hts hinX13 hown hK hP hI 0 (Nat.le_of_ble_eq_true rfl) rfl rfl 77 (Nat.le_of_ble_eq_true rfl) (hts _ (vA_in _ _ (in_25 _ (zs16 (zs1 (zs1 (zs0))))))) (fun _ h9 => h9) (hI.fr 0 (Nat.le_of_ble_eq_true rfl) rfl (Nat.le_of_ble_eq_true rfl) 57 rfl) dX13_findingOf_247 ?_
                refine lv_iload hx hb dX13_findingOf_250 (lv_at hl 0 rfl) ?_
                have n120 : vp_in v42_9 256 := (iv_in (n := 256) i35 (by decide))
                refine th_iald hx hb hK hP hI 57 (Nat.le_of_ble_eq_true rfl) rfl rfl n120 dX13_findingOf_252 (fun y119 ey119 => ?_)
                have iy119 : 0 ≤ y119.toInt ∧ y119.toInt ≤ 99 := hI.el 57 (Nat.le_of_ble_eq_true rfl) rfl n120 (fun _ => rfl) ey119
                have ey119 := ey119.trans (hKp.ei 57 _ rfl)
                refine lv_aload_n hx hb dX13_findingOf_253 rfl (lv_at hl 6 rfl) ?_
                refine th_get (ci := 14) (C := RX13) (T := TX13) (N := 97) (v := .ref (ad 17)) hx hb hts hinX13 hown hK hP hI 0 (Nat.le_of_ble_eq_true rfl) rfl rfl 31 (Nat.le_of_ble_eq_true rfl) (hts _ (vA_in _ _ (in_30 _ (zs16 (zs16 (zs1 (zs0))))))) (fun _ h9 => h9) (hI.fr 0 (Nat.le_of_ble_eq_true rfl) rfl (Nat.le_of_ble_eq_true rfl) 17 rfl) dX13_findingOf_254 ?_
                refine lv_iload hx hb dX13_findingOf_257 (lv_at hl 5 rfl) ?_
                have n122 : vp_in y1 20 := (iv_in (n := 20) iy1 (by decide))
                refine th_iald hx hb hK hP hI 17 (Nat.le_of_ble_eq_true rfl) rfl rfl n122 dX13_findingOf_259 (fun y121 ey121 => ?_)
                have iy121 : 0 ≤ y121.toInt ∧ y121.toInt ≤ 99 := hI.el 17 (Nat.le_of_ble_eq_true rfl) rfl n122 (fun _ => rfl) ey121
                have ey121 := ey121.trans (hKp.ei 17 _ rfl)
                refine lv_aload_n hx hb dX13_findingOf_260 rfl (lv_at hl 6 rfl) ?_
                refine th_get (ci := 14) (C := RX13) (T := TX13) (N := 97) (v := .ref (ad 18)) hx hb hts hinX13 hown hK hP hI 0 (Nat.le_of_ble_eq_true rfl) rfl rfl 32 (Nat.le_of_ble_eq_true rfl) (hts _ (vA_in _ _ (in_30 _ (zs16 (zs16 (zs1 (zs1 (zs0)))))))) (fun _ h9 => h9) (hI.fr 0 (Nat.le_of_ble_eq_true rfl) rfl (Nat.le_of_ble_eq_true rfl) 18 rfl) dX13_findingOf_261 ?_
                refine lv_iload hx hb dX13_findingOf_264 (lv_at hl 5 rfl) ?_
                have n124 : vp_in y1 20 := (iv_in (n := 20) iy1 (by decide))
                refine th_iald hx hb hK hP hI 18 (Nat.le_of_ble_eq_true rfl) rfl rfl n124 dX13_findingOf_266 (fun y123 ey123 => ?_)
                have iy123 : 0 ≤ y123.toInt ∧ y123.toInt ≤ 99 := hI.el 18 (Nat.le_of_ble_eq_true rfl) rfl n124 (fun _ => rfl) ey123
                have ey123 := ey123.trans (hKp.ei 18 _ rfl)
                refine th_pi (va_runS (As := [.int y117, .int y119, .int y121, .int y123]) (rest := [.int 107, .ref (ad 12)]) ⟨hx, hb, hml, hown, hts⟩ (q_farV l y117 y119 y121 y123 iy117 iy119 iy121 iy123) (va_cwS 4 hts (gi_S (in_30 _ (zs16 (zs16 (zs1 (zs1 (zs1 (zs0))))))) (in_30 _ (zs16 (zs16 (zs4 (zs0))))) (in_24 _ (zs4 (zs4 (zs4 (zs1 (zs1 (zs1 (zs0)))))))) (in_30 _ (zs16 (zs16 (zs4 (zs1 (zs0))))))) rfl rfl rfl hz_yX13_far_4 ⟨Nat.le_of_ble_eq_true rfl, Nat.le_of_ble_eq_true rfl⟩) ⟨fun _ _ _ _ q => q, fun _ _ _ => ⟨rfl, trivial⟩⟩ rfl rfl hl.1 rfl (lv_room (Nat.le_of_ble_eq_true rfl)) dX13_findingOf_267 ⟨Nat.le_of_ble_eq_true rfl, Nat.le_of_ble_eq_true rfl⟩) hS (fun r125 H1 locs1 hw hk1 hS => ?_)
                have hP := ub_keep hP hk1
                generalize H1 = H at hP hS ⊢
                generalize locs1 = locs at hS ⊢
                obtain ⟨f126, f127⟩ := hw
                have n128 : vp_in (107 : Int32) 128 := (iv_in (n := 128) ln_107 (by decide))
                refine th_iast hx hb hK hP (WX_D hD) hS hI 12 (Nat.le_of_ble_eq_true rfl) rfl rfl n128 (okI rfl (iv_w f126 (by decide))) dX13_findingOf_270 (fun H locs E129 pw130 hI hP hS => ?_)
                have hKp := hKp.pw pw130 rfl
                have k131 : mLt E129 = lset (lset (lset (lset (lset (lset lz 8 r51) 9 r60) 10 r69) 11 ((0 : Int32))) 12 r110) 3 r125 := (mL_set (k := 3) pw130 (by decide) rfl).trans (by rw [k116])
                refine lv_aload_n hx hb dX13_findingOf_271 rfl (lv_at hl 6 rfl) ?_
                refine th_get (ci := 14) (C := RX13) (T := TX13) (N := 97) (v := .ref (ad 12)) hx hb hts hinX13 hown hK hP hI 0 (Nat.le_of_ble_eq_true rfl) rfl rfl 15 (Nat.le_of_ble_eq_true rfl) (hts _ (vA_in _ _ (in_25 _ (zs16 (zs16 (zs4 (zs1 (zs0)))))))) (fun _ h9 => h9) (hI.fr 0 (Nat.le_of_ble_eq_true rfl) rfl (Nat.le_of_ble_eq_true rfl) 12 rfl) dX13_findingOf_272 ?_
                refine lv_bipush (v := 111) hx hb dX13_findingOf_275 (by decide) ?_
                refine lv_aload_n hx hb dX13_findingOf_277 rfl (lv_at hl 6 rfl) ?_
                refine th_get (ci := 14) (C := RX13) (T := TX13) (N := 97) (v := .ref (ad 58)) hx hb hts hinX13 hown hK hP hI 0 (Nat.le_of_ble_eq_true rfl) rfl rfl 78 (Nat.le_of_ble_eq_true rfl) (hts _ (vA_in _ _ (in_25 _ (zs16 (zs1 (zs1 (zs1 (zs0)))))))) (fun _ h9 => h9) (hI.fr 0 (Nat.le_of_ble_eq_true rfl) rfl (Nat.le_of_ble_eq_true rfl) 58 rfl) dX13_findingOf_278 ?_
                refine lv_iload hx hb dX13_findingOf_281 (lv_at hl 1 rfl) ?_
                have n133 : vp_in v26_8 256 := (iv_in (n := 256) i25 (by decide))
                refine th_iald hx hb hK hP hI 58 (Nat.le_of_ble_eq_true rfl) rfl rfl n133 dX13_findingOf_283 (fun y132 ey132 => ?_)
                have iy132 : 0 ≤ y132.toInt ∧ y132.toInt ≤ 7 := hI.el 58 (Nat.le_of_ble_eq_true rfl) rfl n133 (fun _ => rfl) ey132
                have ey132 := ey132.trans (hKp.ei 58 _ rfl)
                refine lv_aload_n hx hb dX13_findingOf_284 rfl (lv_at hl 6 rfl) ?_
                refine th_get (ci := 14) (C := RX13) (T := TX13) (N := 97) (v := .ref (ad 58)) hx hb hts hinX13 hown hK hP hI 0 (Nat.le_of_ble_eq_true rfl) rfl rfl 78 (Nat.le_of_ble_eq_true rfl) (hts _ (vA_in _ _ (in_25 _ (zs16 (zs1 (zs1 (zs1 (zs0)))))))) (fun _ h9 => h9) (hI.fr 0 (Nat.le_of_ble_eq_true rfl) rfl (Nat.le_of_ble_eq_true rfl) 58 rfl) dX13_findingOf_285 ?_
                refine lv_iload hx hb dX13_findingOf_288 (lv_at hl 0 rfl) ?_
                have n135 : vp_in v42_9 256 := (iv_in (n := 256) i35 (by decide))
                refine th_iald hx hb hK hP hI 58 (Nat.le_of_ble_eq_true rfl) rfl rfl n135 dX13_findingOf_290 (fun y134 ey134 => ?_)
                have iy134 : 0 ≤ y134.toInt ∧ y134.toInt ≤ 7 := hI.el 58 (Nat.le_of_ble_eq_true rfl) rfl n135 (fun _ => rfl) ey134
                have ey134 := ey134.trans (hKp.ei 58 _ rfl)
                refine lv_icmp_ne (tgt := 298) hx hb dX13_findingOf_291 (by decide) (fun c136 => ?_) (fun c136 => ?_)
                · --291 taken
                  have t137 : ¬ y132.toInt = y134.toInt := ti_ne c136
                  refine lv_iconst (v := 0) hx hb dX13_findingOf_298 (by decide) ?_
                  have n138 : vp_in (111 : Int32) 128 := (iv_in (n := 128) ln_111 (by decide))
                  refine th_iast hx hb hK hP (WX_D hD) hS hI 12 (Nat.le_of_ble_eq_true rfl) rfl rfl n138 (okI rfl (iv_w ln_0 (by decide))) dX13_findingOf_299 (fun H locs E139 pw140 hI hP hS => ?_)
                  have hKp := hKp.pw pw140 rfl
                  have k141 : mLt E139 = lset (lset (lset (lset (lset (lset (lset lz 8 r51) 9 r60) 10 r69) 11 ((0 : Int32))) 12 r110) 3 r125) 13 ((0 : Int32)) := (mL_set (k := 13) pw140 (by decide) rfl).trans (by rw [k131])
                  have hjj : 128 + (v42_9.toNatClampNeg - 128) = v42_9.toNatClampNeg := by rw [tn_ v42_9]; omega
                  have k142 : mLt E139 = pL (xi (E 16) (mPR E a0.toNatClampNeg)).toNatClampNeg (xi (E 17) (mPR E a0.toNatClampNeg)).toInt (xi (E 18) (mPR E a0.toNatClampNeg)).toInt (rI E 56 v26_8.toNatClampNeg) (rI E 57 v26_8.toNatClampNeg) (rI E 58 v26_8.toNatClampNeg) (rI E 56 (128 + (v42_9.toNatClampNeg - 128))) (rI E 57 (128 + (v42_9.toNatClampNeg - 128))) (rI E 58 (128 + (v42_9.toNatClampNeg - 128))) := k141.trans (lM_e (by have gy43 := congrArg Int32.toInt ey43; have gy45 := congrArg Int32.toInt ey45; have gy47 := congrArg Int32.toInt ey47; have gy49 := congrArg Int32.toInt ey49; rw [hjj, f53, gy43, gy45, gy47, gy49]; rfl) (by have gy58 := congrArg Int32.toInt ey58; rw [hwn, f62, gy58]; rfl) (by have gy67 := congrArg Int32.toInt ey67; rw [hjj, hwn, f71, gy67]; rfl) (by rw [hjj, hwt]; exact (show (0 : Int32).toInt = upw (stX y3.toNatClampNeg) (stY y3.toNatClampNeg) (rI E 56 v26_8.toNatClampNeg) (rI E 57 v26_8.toNatClampNeg) (rI E 56 v42_9.toNatClampNeg) (rI E 57 v42_9.toNatClampNeg) from up0 (u := y94.toInt) (by have gy76 := congrArg Int32.toInt ey76; have gy78 := congrArg Int32.toInt ey78; have gy85 := congrArg Int32.toInt ey85; have gy87 := congrArg Int32.toInt ey87; rw [ty94, ty84, ty93, ty80, ty89, f83, f92, gy76, gy78, gy85, gy87]; rfl) (by omega))) (by have gy102 := congrArg Int32.toInt ey102; have gy104 := congrArg Int32.toInt ey104; rw [show xi (E 17) (mPR E a0.toNatClampNeg) = y106 by rw [hpr, ey106], show xi (E 18) (mPR E a0.toNatClampNeg) = y108 by rw [hpr, ey108], f112, gy102, gy104]; rfl) (by have gy117 := congrArg Int32.toInt ey117; have gy119 := congrArg Int32.toInt ey119; rw [hjj, show xi (E 17) (mPR E a0.toNatClampNeg) = y121 by rw [hpr, ey121], show xi (E 18) (mPR E a0.toNatClampNeg) = y123 by rw [hpr, ey123], f127, gy117, gy119]; rfl) (by have gy132 := congrArg Int32.toInt ey132; have gy134 := congrArg Int32.toInt ey134; rw [hjj]; exact Eq.trans (b := (0 : Int)) rfl (show (0 : Int) = eqI (rI E 58 v26_8.toNatClampNeg) (rI E 58 v42_9.toNatClampNeg) from (if_neg (show ¬ (rI E 58 v26_8.toNatClampNeg = rI E 58 v42_9.toNatClampNeg) by show ¬ ((xi (E 58) v26_8.toNatClampNeg).toInt = (xi (E 58) v42_9.toNatClampNeg).toInt); omega)).symm)))
                  obtain ⟨y143, ey143⟩ : ∃ y : Int32, y = v42_5 + (1 : Int32) := ⟨_, rfl⟩
                  obtain ⟨ty143, iy143⟩ := ti_add (e := 1) (f := 16384) i37 ln_1 ey143 (by decide)
                  have ty143 : y143.toInt = v42_5.toInt + 1 := ty143
                  have iy143 : 1 ≤ y143.toInt ∧ y143.toInt ≤ 16384 := iy143
                  refine lv_iinc (v := y143) (lv' := [(5, .int y143), (9, .int v42_9), (8, .int v26_8), (7, .int y3), (6, .int v42_6), (4, .int y1), (0, .ref (ad 0)), (1, .int a0), (2, .int a1), (3, .int a2)]) hx hb dX13_findingOf_300 hl (k := 4) rfl (by rw [ey143]; rfl) (by decide) rfl (fun ls hl => ?_)
                  refine lv_iload hx hb dX13_findingOf_303 (lv_at hl 4 rfl) ?_
                  refine lv_aload_n hx hb dX13_findingOf_305 rfl (lv_at hl 6 rfl) ?_
                  refine lv_iload_n hx hb dX13_findingOf_306 rfl (lv_at hl 8 rfl) ?_
                  refine lv_if_ne (tgt := 315) hx hb dX13_findingOf_307 (by decide) (fun c144 => ?_) (fun c144 => ?_)
                  · --307 taken
                    have t145 : ¬ a1.toInt = 0 := ti_ne c144
                    refine lv_bipush (v := 98) hx hb dX13_findingOf_315 (by decide) ?_
                    refine lv_aload_n hx hb dX13_findingOf_317 rfl (lv_at hl 6 rfl) ?_
                    refine th_get (ci := 14) (C := RX13) (T := TX13) (N := 97) (v := .ref (ad 13)) hx hb hts hinX13 hown hK hP hI 0 (Nat.le_of_ble_eq_true rfl) rfl rfl 27 (Nat.le_of_ble_eq_true rfl) (hts _ (vA_in _ _ (in_27 _ (zs16 (zs16 (zs0)))))) (fun _ h9 => h9) (hI.fr 0 (Nat.le_of_ble_eq_true rfl) rfl (Nat.le_of_ble_eq_true rfl) 13 rfl) dX13_findingOf_318 ?_
                    refine lv_iload hx hb dX13_findingOf_321 (lv_at hl 5 rfl) ?_
                    have n147 : vp_in y1 20 := (iv_in (n := 20) iy1 (by decide))
                    refine th_iald hx hb hK hP hI 13 (Nat.le_of_ble_eq_true rfl) rfl rfl n147 dX13_findingOf_323 (fun y146 ey146 => ?_)
                    have iy146 : 0 ≤ y146.toInt ∧ y146.toInt ≤ 400 := hI.el 13 (Nat.le_of_ble_eq_true rfl) rfl n147 (fun _ => rfl) ey146
                    have ey146 := ey146.trans (hKp.ei 13 _ rfl)
                    refine lv_iload_n hx hb dX13_findingOf_324 rfl (lv_at hl 9 rfl) ?_
                    have z98 := ln_98
                    refine th_i (va_runV (As := [.int 98, .int y146, .int a2]) (rest := [.int v42_6]) ⟨hx, hb, hml, hown, hts⟩ (q_worthM l dC dI cT ad E139 H.size (98 : Int32) y146 a2 hI (iv_w ln_98 (by decide)) (by exact hh1.cg (fun j9 => hKp.ei 8 j9 rfl) (fun j9 => hKp.ei 9 j9 rfl) (hKp.ei 0 17 rfl))) (cwV 3 hts (gi_V (in_28 _ (zs16 (zs16 (zs1 (zs1 (zs0)))))) (in_28 _ (zs16 (zs16 (zs1 (zs1 (zs1 (zs0))))))) (in_28 _ (zs16 (zs16 (zs4 (zs0))))) (in_24 _ (zs4 (zs4 (zs4 (zs1 (zs1 (zs1 (zs0)))))))) (in_28 _ (zs16 (zs16 (zs4 (zs1 (zs0))))))) rfl rfl rfl ⟨rfl, hz_yX13_worth_3⟩ ⟨Nat.le_of_ble_eq_true rfl, Nat.le_of_ble_eq_true rfl⟩) ⟨HW_bl, va_recv hK hP (ci := 14) (q0 := 0) rfl (hI.ob 0 (Nat.le_of_ble_eq_true rfl) rfl), (HW_wi hP hK (WX_D hD) hS hA hEV)⟩ rfl rfl hl.1 rfl (lv_room (Nat.le_of_ble_eq_true rfl)) dX13_findingOf_325 ⟨Nat.le_of_ble_eq_true rfl, Nat.le_of_ble_eq_true rfl⟩) (WX_D hD) hS hA (fun r148 E149 H locs hw hP hS => ?_)
                    obtain ⟨hI, kq150, hw⟩ := hw
                    have hKb := hKp
                    have hKp := hKp.tr kq150 (wl_sub rfl rfl)
                    have f151 := hw
                    have i152 : 0 ≤ (xi (E 0) 17).toInt ∧ (xi (E 0) 17).toInt ≤ 16 := (show 0 ≤ (xi (E 0) 17).toInt ∧ (xi (E 0) 17).toInt ≤ 16 from hI0.iv 0 (Nat.le_of_ble_eq_true rfl) rfl (Nat.le_of_ble_eq_true rfl) rfl)
                    have k153 : r148 = wML (pL (xi (E 16) (mPR E a0.toNatClampNeg)).toNatClampNeg (xi (E 17) (mPR E a0.toNatClampNeg)).toInt (xi (E 18) (mPR E a0.toNatClampNeg)).toInt (rI E 56 v26_8.toNatClampNeg) (rI E 57 v26_8.toNatClampNeg) (rI E 58 v26_8.toNatClampNeg) (rI E 56 (128 + (v42_9.toNatClampNeg - 128))) (rI E 57 (128 + (v42_9.toNatClampNeg - 128))) (rI E 58 (128 + (v42_9.toNatClampNeg - 128)))) E (if a1.toInt = 0 then 97 else 98) (lawM E (xi (E 13) (mPR E a0.toNatClampNeg)) a2) := f151.trans (by rw [show lawM E139 y146 a2 = lawM E (xi (E 13) (mPR E a0.toNatClampNeg)) a2 by rw [show xi (E 13) (mPR E a0.toNatClampNeg) = y146 by rw [hpr, ey146]]; unfold lawM; rw [show xi (E139 10) = xi (E 10) from hKb.ef _ (fun _ => rfl), show xi (E139 11) = xi (E 11) from hKb.ef _ (fun _ => rfl), show xi (E139 0) 17 = xi (E 0) 17 from hKb.ei 0 _ rfl], k142, wML_cg (E := E) (fun j9 => hKb.ei 8 j9 rfl) (fun j9 => hKb.ei 9 j9 rfl), if_neg (by omega)]; rfl)
                    refine lv_if_eq (tgt := 335) hx hb dX13_findingOf_328 (by decide) (fun c154 => ?_) (fun c154 => ?_)
                    · --328 taken
                      have t155 : r148.toInt = 0 := ti_eq c154
                      have i156 : 0 ≤ r148.toInt ∧ r148.toInt ≤ 0 := iv_eqi t155 (iv_all _) (il_ 0) (by decide)
                      refine lv_iconst (v := 0) hx hb dX13_findingOf_335 (by decide) ?_
                      refine lv_iadd hx hb dX13_findingOf_336 ?_
                      refine lv_topi (fun y157 ey157 => ?_)
                      obtain ⟨ty157, iy157⟩ := ti_add (e := 0) (f := 16383) i38 ln_0 ey157 (by decide)
                      have ty157 : y157.toInt = v42_6.toInt + 0 := ty157
                      have iy157 : 0 ≤ y157.toInt ∧ y157.toInt ≤ 16383 := iy157
                      refine lv_istore (lv' := [(6, .int y157), (5, .int y143), (9, .int v42_9), (8, .int v26_8), (7, .int y3), (4, .int y1), (0, .ref (ad 0)), (1, .int a0), (2, .int a1), (3, .int a2)]) hx hb dX13_findingOf_337 hl (by decide) rfl (fun ls hl => ?_)
                      obtain ⟨y158, ey158⟩ : ∃ y : Int32, y = v42_9 + (1 : Int32) := ⟨_, rfl⟩
                      obtain ⟨ty158, iy158⟩ := ti_add (e := 129) (f := 256) i35 ln_1 ey158 (by decide)
                      have ty158 : y158.toInt = v42_9.toInt + 1 := ty158
                      have iy158 : 129 ≤ y158.toInt ∧ y158.toInt ≤ 256 := iy158
                      refine lv_iinc (v := y158) (lv' := [(9, .int y158), (6, .int y157), (5, .int y143), (8, .int v26_8), (7, .int y3), (4, .int y1), (0, .ref (ad 0)), (1, .int a0), (2, .int a1), (3, .int a2)]) hx hb dX13_findingOf_339 hl (k := 2) rfl (by rw [ey158]; rfl) (by decide) rfl (fun ls hl => ?_)
                      refine lv_goto (tgt := 42) hx hb dX13_findingOf_342 (by decide) ?_
                      exact ih42 y158 y157 y143 E149 _ _ _ (iv_w iy158 (by decide)) (iv_w iy157 (by decide)) (iv_w iy143 (by decide)) (hx42_0.none (by rw [tn_ v42_9, tn_ (xi (E 59) 1)]; omega) (by rw [tn_ y158, tn_ v42_9]; omega) ty143 (by omega) (fun q9 => absurd (k153.symm.trans (Int32.toInt_inj.mp (by omega))) q9)) (by omega) (by omega) (by omega) (by first | exact ms_su hx42_4 ty143 (by decide) | omega) hI hKp hP hS (lv_sub hl [0, 3, 4, 1, 2, 5, 6, 7, 8, 9] rfl)
                    · --328 not
                      have t159 : ¬ r148.toInt = 0 := ti_ne c154
                      refine lv_iconst (v := 1) hx hb dX13_findingOf_331 (by decide) ?_
                      refine lv_goto (tgt := 336) hx hb dX13_findingOf_332 (by decide) ?_
                      refine lv_iadd hx hb dX13_findingOf_336 ?_
                      refine lv_topi (fun y160 ey160 => ?_)
                      obtain ⟨ty160, iy160⟩ := ti_add (e := 1) (f := 16384) i38 ln_1 ey160 (by decide)
                      have ty160 : y160.toInt = v42_6.toInt + 1 := ty160
                      have iy160 : 1 ≤ y160.toInt ∧ y160.toInt ≤ 16384 := iy160
                      refine lv_istore (lv' := [(6, .int y160), (5, .int y143), (9, .int v42_9), (8, .int v26_8), (7, .int y3), (4, .int y1), (0, .ref (ad 0)), (1, .int a0), (2, .int a1), (3, .int a2)]) hx hb dX13_findingOf_337 hl (by decide) rfl (fun ls hl => ?_)
                      obtain ⟨y161, ey161⟩ : ∃ y : Int32, y = v42_9 + (1 : Int32) := ⟨_, rfl⟩
                      obtain ⟨ty161, iy161⟩ := ti_add (e := 129) (f := 256) i35 ln_1 ey161 (by decide)
                      have ty161 : y161.toInt = v42_9.toInt + 1 := ty161
                      have iy161 : 129 ≤ y161.toInt ∧ y161.toInt ≤ 256 := iy161
                      refine lv_iinc (v := y161) (lv' := [(9, .int y161), (6, .int y160), (5, .int y143), (8, .int v26_8), (7, .int y3), (4, .int y1), (0, .ref (ad 0)), (1, .int a0), (2, .int a1), (3, .int a2)]) hx hb dX13_findingOf_339 hl (k := 2) rfl (by rw [ey161]; rfl) (by decide) rfl (fun ls hl => ?_)
                      refine lv_goto (tgt := 42) hx hb dX13_findingOf_342 (by decide) ?_
                      exact ih42 y161 y160 y143 E149 _ _ _ (iv_w iy161 (by decide)) (iv_w iy160 (by decide)) (iv_w iy143 (by decide)) (hx42_0.one (by rw [tn_ v42_9, tn_ (xi (E 59) 1)]; omega) (by rw [tn_ y161, tn_ v42_9]; omega) ty143 (by omega) (fun q9 => absurd (congrArg Int32.toInt (k153.trans q9)) (by omega))) (by omega) (by omega) (by omega) (by first | exact ms_su hx42_4 ty143 (by decide) | omega) hI hKp hP hS (lv_sub hl [0, 3, 4, 1, 2, 5, 6, 7, 8, 9] rfl)
                  · --307 not
                    have t162 : a1.toInt = 0 := ti_eq c144
                    have i163 : 0 ≤ a1.toInt ∧ a1.toInt ≤ 0 := iv_eqi t162 (iv_all _) (il_ 0) (by decide)
                    refine lv_bipush (v := 97) hx hb dX13_findingOf_310 (by decide) ?_
                    refine lv_goto (tgt := 317) hx hb dX13_findingOf_312 (by decide) ?_
                    refine lv_aload_n hx hb dX13_findingOf_317 rfl (lv_at hl 6 rfl) ?_
                    refine th_get (ci := 14) (C := RX13) (T := TX13) (N := 97) (v := .ref (ad 13)) hx hb hts hinX13 hown hK hP hI 0 (Nat.le_of_ble_eq_true rfl) rfl rfl 27 (Nat.le_of_ble_eq_true rfl) (hts _ (vA_in _ _ (in_27 _ (zs16 (zs16 (zs0)))))) (fun _ h9 => h9) (hI.fr 0 (Nat.le_of_ble_eq_true rfl) rfl (Nat.le_of_ble_eq_true rfl) 13 rfl) dX13_findingOf_318 ?_
                    refine lv_iload hx hb dX13_findingOf_321 (lv_at hl 5 rfl) ?_
                    have n165 : vp_in y1 20 := (iv_in (n := 20) iy1 (by decide))
                    refine th_iald hx hb hK hP hI 13 (Nat.le_of_ble_eq_true rfl) rfl rfl n165 dX13_findingOf_323 (fun y164 ey164 => ?_)
                    have iy164 : 0 ≤ y164.toInt ∧ y164.toInt ≤ 400 := hI.el 13 (Nat.le_of_ble_eq_true rfl) rfl n165 (fun _ => rfl) ey164
                    have ey164 := ey164.trans (hKp.ei 13 _ rfl)
                    refine lv_iload_n hx hb dX13_findingOf_324 rfl (lv_at hl 9 rfl) ?_
                    have z97 := ln_97
                    refine th_i (va_runV (As := [.int 97, .int y164, .int a2]) (rest := [.int v42_6]) ⟨hx, hb, hml, hown, hts⟩ (q_worthM l dC dI cT ad E139 H.size (97 : Int32) y164 a2 hI (iv_w ln_97 (by decide)) (by exact hh1.cg (fun j9 => hKp.ei 8 j9 rfl) (fun j9 => hKp.ei 9 j9 rfl) (hKp.ei 0 17 rfl))) (cwV 3 hts (gi_V (in_28 _ (zs16 (zs16 (zs1 (zs1 (zs0)))))) (in_28 _ (zs16 (zs16 (zs1 (zs1 (zs1 (zs0))))))) (in_28 _ (zs16 (zs16 (zs4 (zs0))))) (in_24 _ (zs4 (zs4 (zs4 (zs1 (zs1 (zs1 (zs0)))))))) (in_28 _ (zs16 (zs16 (zs4 (zs1 (zs0))))))) rfl rfl rfl ⟨rfl, hz_yX13_worth_3⟩ ⟨Nat.le_of_ble_eq_true rfl, Nat.le_of_ble_eq_true rfl⟩) ⟨HW_bl, va_recv hK hP (ci := 14) (q0 := 0) rfl (hI.ob 0 (Nat.le_of_ble_eq_true rfl) rfl), (HW_wi hP hK (WX_D hD) hS hA hEV)⟩ rfl rfl hl.1 rfl (lv_room (Nat.le_of_ble_eq_true rfl)) dX13_findingOf_325 ⟨Nat.le_of_ble_eq_true rfl, Nat.le_of_ble_eq_true rfl⟩) (WX_D hD) hS hA (fun r166 E167 H locs hw hP hS => ?_)
                    obtain ⟨hI, kq168, hw⟩ := hw
                    have hKb := hKp
                    have hKp := hKp.tr kq168 (wl_sub rfl rfl)
                    have f169 := hw
                    have i170 : 0 ≤ (xi (E 0) 17).toInt ∧ (xi (E 0) 17).toInt ≤ 16 := (show 0 ≤ (xi (E 0) 17).toInt ∧ (xi (E 0) 17).toInt ≤ 16 from hI0.iv 0 (Nat.le_of_ble_eq_true rfl) rfl (Nat.le_of_ble_eq_true rfl) rfl)
                    have k171 : r166 = wML (pL (xi (E 16) (mPR E a0.toNatClampNeg)).toNatClampNeg (xi (E 17) (mPR E a0.toNatClampNeg)).toInt (xi (E 18) (mPR E a0.toNatClampNeg)).toInt (rI E 56 v26_8.toNatClampNeg) (rI E 57 v26_8.toNatClampNeg) (rI E 58 v26_8.toNatClampNeg) (rI E 56 (128 + (v42_9.toNatClampNeg - 128))) (rI E 57 (128 + (v42_9.toNatClampNeg - 128))) (rI E 58 (128 + (v42_9.toNatClampNeg - 128)))) E (if a1.toInt = 0 then 97 else 98) (lawM E (xi (E 13) (mPR E a0.toNatClampNeg)) a2) := f169.trans (by rw [show lawM E139 y164 a2 = lawM E (xi (E 13) (mPR E a0.toNatClampNeg)) a2 by rw [show xi (E 13) (mPR E a0.toNatClampNeg) = y164 by rw [hpr, ey164]]; unfold lawM; rw [show xi (E139 10) = xi (E 10) from hKb.ef _ (fun _ => rfl), show xi (E139 11) = xi (E 11) from hKb.ef _ (fun _ => rfl), show xi (E139 0) 17 = xi (E 0) 17 from hKb.ei 0 _ rfl], k142, wML_cg (E := E) (fun j9 => hKb.ei 8 j9 rfl) (fun j9 => hKb.ei 9 j9 rfl), if_pos (by omega)]; rfl)
                    refine lv_if_eq (tgt := 335) hx hb dX13_findingOf_328 (by decide) (fun c172 => ?_) (fun c172 => ?_)
                    · --328 taken
                      have t173 : r166.toInt = 0 := ti_eq c172
                      have i174 : 0 ≤ r166.toInt ∧ r166.toInt ≤ 0 := iv_eqi t173 (iv_all _) (il_ 0) (by decide)
                      refine lv_iconst (v := 0) hx hb dX13_findingOf_335 (by decide) ?_
                      refine lv_iadd hx hb dX13_findingOf_336 ?_
                      refine lv_topi (fun y175 ey175 => ?_)
                      obtain ⟨ty175, iy175⟩ := ti_add (e := 0) (f := 16383) i38 ln_0 ey175 (by decide)
                      have ty175 : y175.toInt = v42_6.toInt + 0 := ty175
                      have iy175 : 0 ≤ y175.toInt ∧ y175.toInt ≤ 16383 := iy175
                      refine lv_istore (lv' := [(6, .int y175), (5, .int y143), (9, .int v42_9), (8, .int v26_8), (7, .int y3), (4, .int y1), (0, .ref (ad 0)), (1, .int a0), (2, .int a1), (3, .int a2)]) hx hb dX13_findingOf_337 hl (by decide) rfl (fun ls hl => ?_)
                      obtain ⟨y176, ey176⟩ : ∃ y : Int32, y = v42_9 + (1 : Int32) := ⟨_, rfl⟩
                      obtain ⟨ty176, iy176⟩ := ti_add (e := 129) (f := 256) i35 ln_1 ey176 (by decide)
                      have ty176 : y176.toInt = v42_9.toInt + 1 := ty176
                      have iy176 : 129 ≤ y176.toInt ∧ y176.toInt ≤ 256 := iy176
                      refine lv_iinc (v := y176) (lv' := [(9, .int y176), (6, .int y175), (5, .int y143), (8, .int v26_8), (7, .int y3), (4, .int y1), (0, .ref (ad 0)), (1, .int a0), (2, .int a1), (3, .int a2)]) hx hb dX13_findingOf_339 hl (k := 2) rfl (by rw [ey176]; rfl) (by decide) rfl (fun ls hl => ?_)
                      refine lv_goto (tgt := 42) hx hb dX13_findingOf_342 (by decide) ?_
                      exact ih42 y176 y175 y143 E167 _ _ _ (iv_w iy176 (by decide)) (iv_w iy175 (by decide)) (iv_w iy143 (by decide)) (hx42_0.none (by rw [tn_ v42_9, tn_ (xi (E 59) 1)]; omega) (by rw [tn_ y176, tn_ v42_9]; omega) ty143 (by omega) (fun q9 => absurd (k171.symm.trans (Int32.toInt_inj.mp (by omega))) q9)) (by omega) (by omega) (by omega) (by first | exact ms_su hx42_4 ty143 (by decide) | omega) hI hKp hP hS (lv_sub hl [0, 3, 4, 1, 2, 5, 6, 7, 8, 9] rfl)
                    · --328 not
                      have t177 : ¬ r166.toInt = 0 := ti_ne c172
                      refine lv_iconst (v := 1) hx hb dX13_findingOf_331 (by decide) ?_
                      refine lv_goto (tgt := 336) hx hb dX13_findingOf_332 (by decide) ?_
                      refine lv_iadd hx hb dX13_findingOf_336 ?_
                      refine lv_topi (fun y178 ey178 => ?_)
                      obtain ⟨ty178, iy178⟩ := ti_add (e := 1) (f := 16384) i38 ln_1 ey178 (by decide)
                      have ty178 : y178.toInt = v42_6.toInt + 1 := ty178
                      have iy178 : 1 ≤ y178.toInt ∧ y178.toInt ≤ 16384 := iy178
                      refine lv_istore (lv' := [(6, .int y178), (5, .int y143), (9, .int v42_9), (8, .int v26_8), (7, .int y3), (4, .int y1), (0, .ref (ad 0)), (1, .int a0), (2, .int a1), (3, .int a2)]) hx hb dX13_findingOf_337 hl (by decide) rfl (fun ls hl => ?_)
                      obtain ⟨y179, ey179⟩ : ∃ y : Int32, y = v42_9 + (1 : Int32) := ⟨_, rfl⟩
                      obtain ⟨ty179, iy179⟩ := ti_add (e := 129) (f := 256) i35 ln_1 ey179 (by decide)
                      have ty179 : y179.toInt = v42_9.toInt + 1 := ty179
                      have iy179 : 129 ≤ y179.toInt ∧ y179.toInt ≤ 256 := iy179
                      refine lv_iinc (v := y179) (lv' := [(9, .int y179), (6, .int y178), (5, .int y143), (8, .int v26_8), (7, .int y3), (4, .int y1), (0, .ref (ad 0)), (1, .int a0), (2, .int a1), (3, .int a2)]) hx hb dX13_findingOf_339 hl (k := 2) rfl (by rw [ey179]; rfl) (by decide) rfl (fun ls hl => ?_)
                      refine lv_goto (tgt := 42) hx hb dX13_findingOf_342 (by decide) ?_
                      exact ih42 y179 y178 y143 E167 _ _ _ (iv_w iy179 (by decide)) (iv_w iy178 (by decide)) (iv_w iy143 (by decide)) (hx42_0.one (by rw [tn_ v42_9, tn_ (xi (E 59) 1)]; omega) (by rw [tn_ y179, tn_ v42_9]; omega) ty143 (by omega) (fun q9 => absurd (congrArg Int32.toInt (k171.trans q9)) (by omega))) (by omega) (by omega) (by omega) (by first | exact ms_su hx42_4 ty143 (by decide) | omega) hI hKp hP hS (lv_sub hl [0, 3, 4, 1, 2, 5, 6, 7, 8, 9] rfl)
                · --291 not
                  have t180 : y132.toInt = y134.toInt := ti_eq c136
                  refine lv_iconst (v := 1) hx hb dX13_findingOf_294 (by decide) ?_
                  refine lv_goto (tgt := 299) hx hb dX13_findingOf_295 (by decide) ?_
                  have n181 : vp_in (111 : Int32) 128 := (iv_in (n := 128) ln_111 (by decide))
                  refine th_iast hx hb hK hP (WX_D hD) hS hI 12 (Nat.le_of_ble_eq_true rfl) rfl rfl n181 (okI rfl (iv_w ln_1 (by decide))) dX13_findingOf_299 (fun H locs E182 pw183 hI hP hS => ?_)
                  have hKp := hKp.pw pw183 rfl
                  have k184 : mLt E182 = lset (lset (lset (lset (lset (lset (lset lz 8 r51) 9 r60) 10 r69) 11 ((0 : Int32))) 12 r110) 3 r125) 13 ((1 : Int32)) := (mL_set (k := 13) pw183 (by decide) rfl).trans (by rw [k131])
                  have hjj : 128 + (v42_9.toNatClampNeg - 128) = v42_9.toNatClampNeg := by rw [tn_ v42_9]; omega
                  have k185 : mLt E182 = pL (xi (E 16) (mPR E a0.toNatClampNeg)).toNatClampNeg (xi (E 17) (mPR E a0.toNatClampNeg)).toInt (xi (E 18) (mPR E a0.toNatClampNeg)).toInt (rI E 56 v26_8.toNatClampNeg) (rI E 57 v26_8.toNatClampNeg) (rI E 58 v26_8.toNatClampNeg) (rI E 56 (128 + (v42_9.toNatClampNeg - 128))) (rI E 57 (128 + (v42_9.toNatClampNeg - 128))) (rI E 58 (128 + (v42_9.toNatClampNeg - 128))) := k184.trans (lM_e (by have gy43 := congrArg Int32.toInt ey43; have gy45 := congrArg Int32.toInt ey45; have gy47 := congrArg Int32.toInt ey47; have gy49 := congrArg Int32.toInt ey49; rw [hjj, f53, gy43, gy45, gy47, gy49]; rfl) (by have gy58 := congrArg Int32.toInt ey58; rw [hwn, f62, gy58]; rfl) (by have gy67 := congrArg Int32.toInt ey67; rw [hjj, hwn, f71, gy67]; rfl) (by rw [hjj, hwt]; exact (show (0 : Int32).toInt = upw (stX y3.toNatClampNeg) (stY y3.toNatClampNeg) (rI E 56 v26_8.toNatClampNeg) (rI E 57 v26_8.toNatClampNeg) (rI E 56 v42_9.toNatClampNeg) (rI E 57 v42_9.toNatClampNeg) from up0 (u := y94.toInt) (by have gy76 := congrArg Int32.toInt ey76; have gy78 := congrArg Int32.toInt ey78; have gy85 := congrArg Int32.toInt ey85; have gy87 := congrArg Int32.toInt ey87; rw [ty94, ty84, ty93, ty80, ty89, f83, f92, gy76, gy78, gy85, gy87]; rfl) (by omega))) (by have gy102 := congrArg Int32.toInt ey102; have gy104 := congrArg Int32.toInt ey104; rw [show xi (E 17) (mPR E a0.toNatClampNeg) = y106 by rw [hpr, ey106], show xi (E 18) (mPR E a0.toNatClampNeg) = y108 by rw [hpr, ey108], f112, gy102, gy104]; rfl) (by have gy117 := congrArg Int32.toInt ey117; have gy119 := congrArg Int32.toInt ey119; rw [hjj, show xi (E 17) (mPR E a0.toNatClampNeg) = y121 by rw [hpr, ey121], show xi (E 18) (mPR E a0.toNatClampNeg) = y123 by rw [hpr, ey123], f127, gy117, gy119]; rfl) (by have gy132 := congrArg Int32.toInt ey132; have gy134 := congrArg Int32.toInt ey134; rw [hjj]; exact Eq.trans (b := (1 : Int)) rfl (show (1 : Int) = eqI (rI E 58 v26_8.toNatClampNeg) (rI E 58 v42_9.toNatClampNeg) from (if_pos (show (rI E 58 v26_8.toNatClampNeg = rI E 58 v42_9.toNatClampNeg) by show ((xi (E 58) v26_8.toNatClampNeg).toInt = (xi (E 58) v42_9.toNatClampNeg).toInt); omega)).symm)))
                  obtain ⟨y186, ey186⟩ : ∃ y : Int32, y = v42_5 + (1 : Int32) := ⟨_, rfl⟩
                  obtain ⟨ty186, iy186⟩ := ti_add (e := 1) (f := 16384) i37 ln_1 ey186 (by decide)
                  have ty186 : y186.toInt = v42_5.toInt + 1 := ty186
                  have iy186 : 1 ≤ y186.toInt ∧ y186.toInt ≤ 16384 := iy186
                  refine lv_iinc (v := y186) (lv' := [(5, .int y186), (9, .int v42_9), (8, .int v26_8), (7, .int y3), (6, .int v42_6), (4, .int y1), (0, .ref (ad 0)), (1, .int a0), (2, .int a1), (3, .int a2)]) hx hb dX13_findingOf_300 hl (k := 4) rfl (by rw [ey186]; rfl) (by decide) rfl (fun ls hl => ?_)
                  refine lv_iload hx hb dX13_findingOf_303 (lv_at hl 4 rfl) ?_
                  refine lv_aload_n hx hb dX13_findingOf_305 rfl (lv_at hl 6 rfl) ?_
                  refine lv_iload_n hx hb dX13_findingOf_306 rfl (lv_at hl 8 rfl) ?_
                  refine lv_if_ne (tgt := 315) hx hb dX13_findingOf_307 (by decide) (fun c187 => ?_) (fun c187 => ?_)
                  · --307 taken
                    have t188 : ¬ a1.toInt = 0 := ti_ne c187
                    refine lv_bipush (v := 98) hx hb dX13_findingOf_315 (by decide) ?_
                    refine lv_aload_n hx hb dX13_findingOf_317 rfl (lv_at hl 6 rfl) ?_
                    refine th_get (ci := 14) (C := RX13) (T := TX13) (N := 97) (v := .ref (ad 13)) hx hb hts hinX13 hown hK hP hI 0 (Nat.le_of_ble_eq_true rfl) rfl rfl 27 (Nat.le_of_ble_eq_true rfl) (hts _ (vA_in _ _ (in_27 _ (zs16 (zs16 (zs0)))))) (fun _ h9 => h9) (hI.fr 0 (Nat.le_of_ble_eq_true rfl) rfl (Nat.le_of_ble_eq_true rfl) 13 rfl) dX13_findingOf_318 ?_
                    refine lv_iload hx hb dX13_findingOf_321 (lv_at hl 5 rfl) ?_
                    have n190 : vp_in y1 20 := (iv_in (n := 20) iy1 (by decide))
                    refine th_iald hx hb hK hP hI 13 (Nat.le_of_ble_eq_true rfl) rfl rfl n190 dX13_findingOf_323 (fun y189 ey189 => ?_)
                    have iy189 : 0 ≤ y189.toInt ∧ y189.toInt ≤ 400 := hI.el 13 (Nat.le_of_ble_eq_true rfl) rfl n190 (fun _ => rfl) ey189
                    have ey189 := ey189.trans (hKp.ei 13 _ rfl)
                    refine lv_iload_n hx hb dX13_findingOf_324 rfl (lv_at hl 9 rfl) ?_
                    have z98 := ln_98
                    refine th_i (va_runV (As := [.int 98, .int y189, .int a2]) (rest := [.int v42_6]) ⟨hx, hb, hml, hown, hts⟩ (q_worthM l dC dI cT ad E182 H.size (98 : Int32) y189 a2 hI (iv_w ln_98 (by decide)) (by exact hh1.cg (fun j9 => hKp.ei 8 j9 rfl) (fun j9 => hKp.ei 9 j9 rfl) (hKp.ei 0 17 rfl))) (cwV 3 hts (gi_V (in_28 _ (zs16 (zs16 (zs1 (zs1 (zs0)))))) (in_28 _ (zs16 (zs16 (zs1 (zs1 (zs1 (zs0))))))) (in_28 _ (zs16 (zs16 (zs4 (zs0))))) (in_24 _ (zs4 (zs4 (zs4 (zs1 (zs1 (zs1 (zs0)))))))) (in_28 _ (zs16 (zs16 (zs4 (zs1 (zs0))))))) rfl rfl rfl ⟨rfl, hz_yX13_worth_3⟩ ⟨Nat.le_of_ble_eq_true rfl, Nat.le_of_ble_eq_true rfl⟩) ⟨HW_bl, va_recv hK hP (ci := 14) (q0 := 0) rfl (hI.ob 0 (Nat.le_of_ble_eq_true rfl) rfl), (HW_wi hP hK (WX_D hD) hS hA hEV)⟩ rfl rfl hl.1 rfl (lv_room (Nat.le_of_ble_eq_true rfl)) dX13_findingOf_325 ⟨Nat.le_of_ble_eq_true rfl, Nat.le_of_ble_eq_true rfl⟩) (WX_D hD) hS hA (fun r191 E192 H locs hw hP hS => ?_)
                    obtain ⟨hI, kq193, hw⟩ := hw
                    have hKb := hKp
                    have hKp := hKp.tr kq193 (wl_sub rfl rfl)
                    have f194 := hw
                    have i195 : 0 ≤ (xi (E 0) 17).toInt ∧ (xi (E 0) 17).toInt ≤ 16 := (show 0 ≤ (xi (E 0) 17).toInt ∧ (xi (E 0) 17).toInt ≤ 16 from hI0.iv 0 (Nat.le_of_ble_eq_true rfl) rfl (Nat.le_of_ble_eq_true rfl) rfl)
                    have k196 : r191 = wML (pL (xi (E 16) (mPR E a0.toNatClampNeg)).toNatClampNeg (xi (E 17) (mPR E a0.toNatClampNeg)).toInt (xi (E 18) (mPR E a0.toNatClampNeg)).toInt (rI E 56 v26_8.toNatClampNeg) (rI E 57 v26_8.toNatClampNeg) (rI E 58 v26_8.toNatClampNeg) (rI E 56 (128 + (v42_9.toNatClampNeg - 128))) (rI E 57 (128 + (v42_9.toNatClampNeg - 128))) (rI E 58 (128 + (v42_9.toNatClampNeg - 128)))) E (if a1.toInt = 0 then 97 else 98) (lawM E (xi (E 13) (mPR E a0.toNatClampNeg)) a2) := f194.trans (by rw [show lawM E182 y189 a2 = lawM E (xi (E 13) (mPR E a0.toNatClampNeg)) a2 by rw [show xi (E 13) (mPR E a0.toNatClampNeg) = y189 by rw [hpr, ey189]]; unfold lawM; rw [show xi (E182 10) = xi (E 10) from hKb.ef _ (fun _ => rfl), show xi (E182 11) = xi (E 11) from hKb.ef _ (fun _ => rfl), show xi (E182 0) 17 = xi (E 0) 17 from hKb.ei 0 _ rfl], k185, wML_cg (E := E) (fun j9 => hKb.ei 8 j9 rfl) (fun j9 => hKb.ei 9 j9 rfl), if_neg (by omega)]; rfl)
                    refine lv_if_eq (tgt := 335) hx hb dX13_findingOf_328 (by decide) (fun c197 => ?_) (fun c197 => ?_)
                    · --328 taken
                      have t198 : r191.toInt = 0 := ti_eq c197
                      have i199 : 0 ≤ r191.toInt ∧ r191.toInt ≤ 0 := iv_eqi t198 (iv_all _) (il_ 0) (by decide)
                      refine lv_iconst (v := 0) hx hb dX13_findingOf_335 (by decide) ?_
                      refine lv_iadd hx hb dX13_findingOf_336 ?_
                      refine lv_topi (fun y200 ey200 => ?_)
                      obtain ⟨ty200, iy200⟩ := ti_add (e := 0) (f := 16383) i38 ln_0 ey200 (by decide)
                      have ty200 : y200.toInt = v42_6.toInt + 0 := ty200
                      have iy200 : 0 ≤ y200.toInt ∧ y200.toInt ≤ 16383 := iy200
                      refine lv_istore (lv' := [(6, .int y200), (5, .int y186), (9, .int v42_9), (8, .int v26_8), (7, .int y3), (4, .int y1), (0, .ref (ad 0)), (1, .int a0), (2, .int a1), (3, .int a2)]) hx hb dX13_findingOf_337 hl (by decide) rfl (fun ls hl => ?_)
                      obtain ⟨y201, ey201⟩ : ∃ y : Int32, y = v42_9 + (1 : Int32) := ⟨_, rfl⟩
                      obtain ⟨ty201, iy201⟩ := ti_add (e := 129) (f := 256) i35 ln_1 ey201 (by decide)
                      have ty201 : y201.toInt = v42_9.toInt + 1 := ty201
                      have iy201 : 129 ≤ y201.toInt ∧ y201.toInt ≤ 256 := iy201
                      refine lv_iinc (v := y201) (lv' := [(9, .int y201), (6, .int y200), (5, .int y186), (8, .int v26_8), (7, .int y3), (4, .int y1), (0, .ref (ad 0)), (1, .int a0), (2, .int a1), (3, .int a2)]) hx hb dX13_findingOf_339 hl (k := 2) rfl (by rw [ey201]; rfl) (by decide) rfl (fun ls hl => ?_)
                      refine lv_goto (tgt := 42) hx hb dX13_findingOf_342 (by decide) ?_
                      exact ih42 y201 y200 y186 E192 _ _ _ (iv_w iy201 (by decide)) (iv_w iy200 (by decide)) (iv_w iy186 (by decide)) (hx42_0.none (by rw [tn_ v42_9, tn_ (xi (E 59) 1)]; omega) (by rw [tn_ y201, tn_ v42_9]; omega) ty186 (by omega) (fun q9 => absurd (k196.symm.trans (Int32.toInt_inj.mp (by omega))) q9)) (by omega) (by omega) (by omega) (by first | exact ms_su hx42_4 ty186 (by decide) | omega) hI hKp hP hS (lv_sub hl [0, 3, 4, 1, 2, 5, 6, 7, 8, 9] rfl)
                    · --328 not
                      have t202 : ¬ r191.toInt = 0 := ti_ne c197
                      refine lv_iconst (v := 1) hx hb dX13_findingOf_331 (by decide) ?_
                      refine lv_goto (tgt := 336) hx hb dX13_findingOf_332 (by decide) ?_
                      refine lv_iadd hx hb dX13_findingOf_336 ?_
                      refine lv_topi (fun y203 ey203 => ?_)
                      obtain ⟨ty203, iy203⟩ := ti_add (e := 1) (f := 16384) i38 ln_1 ey203 (by decide)
                      have ty203 : y203.toInt = v42_6.toInt + 1 := ty203
                      have iy203 : 1 ≤ y203.toInt ∧ y203.toInt ≤ 16384 := iy203
                      refine lv_istore (lv' := [(6, .int y203), (5, .int y186), (9, .int v42_9), (8, .int v26_8), (7, .int y3), (4, .int y1), (0, .ref (ad 0)), (1, .int a0), (2, .int a1), (3, .int a2)]) hx hb dX13_findingOf_337 hl (by decide) rfl (fun ls hl => ?_)
                      obtain ⟨y204, ey204⟩ : ∃ y : Int32, y = v42_9 + (1 : Int32) := ⟨_, rfl⟩
                      obtain ⟨ty204, iy204⟩ := ti_add (e := 129) (f := 256) i35 ln_1 ey204 (by decide)
                      have ty204 : y204.toInt = v42_9.toInt + 1 := ty204
                      have iy204 : 129 ≤ y204.toInt ∧ y204.toInt ≤ 256 := iy204
                      refine lv_iinc (v := y204) (lv' := [(9, .int y204), (6, .int y203), (5, .int y186), (8, .int v26_8), (7, .int y3), (4, .int y1), (0, .ref (ad 0)), (1, .int a0), (2, .int a1), (3, .int a2)]) hx hb dX13_findingOf_339 hl (k := 2) rfl (by rw [ey204]; rfl) (by decide) rfl (fun ls hl => ?_)
                      refine lv_goto (tgt := 42) hx hb dX13_findingOf_342 (by decide) ?_
                      exact ih42 y204 y203 y186 E192 _ _ _ (iv_w iy204 (by decide)) (iv_w iy203 (by decide)) (iv_w iy186 (by decide)) (hx42_0.one (by rw [tn_ v42_9, tn_ (xi (E 59) 1)]; omega) (by rw [tn_ y204, tn_ v42_9]; omega) ty186 (by omega) (fun q9 => absurd (congrArg Int32.toInt (k196.trans q9)) (by omega))) (by omega) (by omega) (by omega) (by first | exact ms_su hx42_4 ty186 (by decide) | omega) hI hKp hP hS (lv_sub hl [0, 3, 4, 1, 2, 5, 6, 7, 8, 9] rfl)
                  · --307 not
                    have t205 : a1.toInt = 0 := ti_eq c187
                    have i206 : 0 ≤ a1.toInt ∧ a1.toInt ≤ 0 := iv_eqi t205 (iv_all _) (il_ 0) (by decide)
                    refine lv_bipush (v := 97) hx hb dX13_findingOf_310 (by decide) ?_
                    refine lv_goto (tgt := 317) hx hb dX13_findingOf_312 (by decide) ?_
                    refine lv_aload_n hx hb dX13_findingOf_317 rfl (lv_at hl 6 rfl) ?_
                    refine th_get (ci := 14) (C := RX13) (T := TX13) (N := 97) (v := .ref (ad 13)) hx hb hts hinX13 hown hK hP hI 0 (Nat.le_of_ble_eq_true rfl) rfl rfl 27 (Nat.le_of_ble_eq_true rfl) (hts _ (vA_in _ _ (in_27 _ (zs16 (zs16 (zs0)))))) (fun _ h9 => h9) (hI.fr 0 (Nat.le_of_ble_eq_true rfl) rfl (Nat.le_of_ble_eq_true rfl) 13 rfl) dX13_findingOf_318 ?_
                    refine lv_iload hx hb dX13_findingOf_321 (lv_at hl 5 rfl) ?_
                    have n208 : vp_in y1 20 := (iv_in (n := 20) iy1 (by decide))
                    refine th_iald hx hb hK hP hI 13 (Nat.le_of_ble_eq_true rfl) rfl rfl n208 dX13_findingOf_323 (fun y207 ey207 => ?_)
                    have iy207 : 0 ≤ y207.toInt ∧ y207.toInt ≤ 400 := hI.el 13 (Nat.le_of_ble_eq_true rfl) rfl n208 (fun _ => rfl) ey207
                    have ey207 := ey207.trans (hKp.ei 13 _ rfl)
                    refine lv_iload_n hx hb dX13_findingOf_324 rfl (lv_at hl 9 rfl) ?_
                    have z97 := ln_97
                    refine th_i (va_runV (As := [.int 97, .int y207, .int a2]) (rest := [.int v42_6]) ⟨hx, hb, hml, hown, hts⟩ (q_worthM l dC dI cT ad E182 H.size (97 : Int32) y207 a2 hI (iv_w ln_97 (by decide)) (by exact hh1.cg (fun j9 => hKp.ei 8 j9 rfl) (fun j9 => hKp.ei 9 j9 rfl) (hKp.ei 0 17 rfl))) (cwV 3 hts (gi_V (in_28 _ (zs16 (zs16 (zs1 (zs1 (zs0)))))) (in_28 _ (zs16 (zs16 (zs1 (zs1 (zs1 (zs0))))))) (in_28 _ (zs16 (zs16 (zs4 (zs0))))) (in_24 _ (zs4 (zs4 (zs4 (zs1 (zs1 (zs1 (zs0)))))))) (in_28 _ (zs16 (zs16 (zs4 (zs1 (zs0))))))) rfl rfl rfl ⟨rfl, hz_yX13_worth_3⟩ ⟨Nat.le_of_ble_eq_true rfl, Nat.le_of_ble_eq_true rfl⟩) ⟨HW_bl, va_recv hK hP (ci := 14) (q0 := 0) rfl (hI.ob 0 (Nat.le_of_ble_eq_true rfl) rfl), (HW_wi hP hK (WX_D hD) hS hA hEV)⟩ rfl rfl hl.1 rfl (lv_room (Nat.le_of_ble_eq_true rfl)) dX13_findingOf_325 ⟨Nat.le_of_ble_eq_true rfl, Nat.le_of_ble_eq_true rfl⟩) (WX_D hD) hS hA (fun r209 E210 H locs hw hP hS => ?_)
                    obtain ⟨hI, kq211, hw⟩ := hw
                    have hKb := hKp
                    have hKp := hKp.tr kq211 (wl_sub rfl rfl)
                    have f212 := hw
                    have i213 : 0 ≤ (xi (E 0) 17).toInt ∧ (xi (E 0) 17).toInt ≤ 16 := (show 0 ≤ (xi (E 0) 17).toInt ∧ (xi (E 0) 17).toInt ≤ 16 from hI0.iv 0 (Nat.le_of_ble_eq_true rfl) rfl (Nat.le_of_ble_eq_true rfl) rfl)
                    have k214 : r209 = wML (pL (xi (E 16) (mPR E a0.toNatClampNeg)).toNatClampNeg (xi (E 17) (mPR E a0.toNatClampNeg)).toInt (xi (E 18) (mPR E a0.toNatClampNeg)).toInt (rI E 56 v26_8.toNatClampNeg) (rI E 57 v26_8.toNatClampNeg) (rI E 58 v26_8.toNatClampNeg) (rI E 56 (128 + (v42_9.toNatClampNeg - 128))) (rI E 57 (128 + (v42_9.toNatClampNeg - 128))) (rI E 58 (128 + (v42_9.toNatClampNeg - 128)))) E (if a1.toInt = 0 then 97 else 98) (lawM E (xi (E 13) (mPR E a0.toNatClampNeg)) a2) := f212.trans (by rw [show lawM E182 y207 a2 = lawM E (xi (E 13) (mPR E a0.toNatClampNeg)) a2 by rw [show xi (E 13) (mPR E a0.toNatClampNeg) = y207 by rw [hpr, ey207]]; unfold lawM; rw [show xi (E182 10) = xi (E 10) from hKb.ef _ (fun _ => rfl), show xi (E182 11) = xi (E 11) from hKb.ef _ (fun _ => rfl), show xi (E182 0) 17 = xi (E 0) 17 from hKb.ei 0 _ rfl], k185, wML_cg (E := E) (fun j9 => hKb.ei 8 j9 rfl) (fun j9 => hKb.ei 9 j9 rfl), if_pos (by omega)]; rfl)
                    refine lv_if_eq (tgt := 335) hx hb dX13_findingOf_328 (by decide) (fun c215 => ?_) (fun c215 => ?_)
                    · --328 taken
                      have t216 : r209.toInt = 0 := ti_eq c215
                      have i217 : 0 ≤ r209.toInt ∧ r209.toInt ≤ 0 := iv_eqi t216 (iv_all _) (il_ 0) (by decide)
                      refine lv_iconst (v := 0) hx hb dX13_findingOf_335 (by decide) ?_
                      refine lv_iadd hx hb dX13_findingOf_336 ?_
                      refine lv_topi (fun y218 ey218 => ?_)
                      obtain ⟨ty218, iy218⟩ := ti_add (e := 0) (f := 16383) i38 ln_0 ey218 (by decide)
                      have ty218 : y218.toInt = v42_6.toInt + 0 := ty218
                      have iy218 : 0 ≤ y218.toInt ∧ y218.toInt ≤ 16383 := iy218
                      refine lv_istore (lv' := [(6, .int y218), (5, .int y186), (9, .int v42_9), (8, .int v26_8), (7, .int y3), (4, .int y1), (0, .ref (ad 0)), (1, .int a0), (2, .int a1), (3, .int a2)]) hx hb dX13_findingOf_337 hl (by decide) rfl (fun ls hl => ?_)
                      obtain ⟨y219, ey219⟩ : ∃ y : Int32, y = v42_9 + (1 : Int32) := ⟨_, rfl⟩
                      obtain ⟨ty219, iy219⟩ := ti_add (e := 129) (f := 256) i35 ln_1 ey219 (by decide)
                      have ty219 : y219.toInt = v42_9.toInt + 1 := ty219
                      have iy219 : 129 ≤ y219.toInt ∧ y219.toInt ≤ 256 := iy219
                      refine lv_iinc (v := y219) (lv' := [(9, .int y219), (6, .int y218), (5, .int y186), (8, .int v26_8), (7, .int y3), (4, .int y1), (0, .ref (ad 0)), (1, .int a0), (2, .int a1), (3, .int a2)]) hx hb dX13_findingOf_339 hl (k := 2) rfl (by rw [ey219]; rfl) (by decide) rfl (fun ls hl => ?_)
                      refine lv_goto (tgt := 42) hx hb dX13_findingOf_342 (by decide) ?_
                      exact ih42 y219 y218 y186 E210 _ _ _ (iv_w iy219 (by decide)) (iv_w iy218 (by decide)) (iv_w iy186 (by decide)) (hx42_0.none (by rw [tn_ v42_9, tn_ (xi (E 59) 1)]; omega) (by rw [tn_ y219, tn_ v42_9]; omega) ty186 (by omega) (fun q9 => absurd (k214.symm.trans (Int32.toInt_inj.mp (by omega))) q9)) (by omega) (by omega) (by omega) (by first | exact ms_su hx42_4 ty186 (by decide) | omega) hI hKp hP hS (lv_sub hl [0, 3, 4, 1, 2, 5, 6, 7, 8, 9] rfl)
                    · --328 not
                      have t220 : ¬ r209.toInt = 0 := ti_ne c215
                      refine lv_iconst (v := 1) hx hb dX13_findingOf_331 (by decide) ?_
                      refine lv_goto (tgt := 336) hx hb dX13_findingOf_332 (by decide) ?_
                      refine lv_iadd hx hb dX13_findingOf_336 ?_
                      refine lv_topi (fun y221 ey221 => ?_)
                      obtain ⟨ty221, iy221⟩ := ti_add (e := 1) (f := 16384) i38 ln_1 ey221 (by decide)
                      have ty221 : y221.toInt = v42_6.toInt + 1 := ty221
                      have iy221 : 1 ≤ y221.toInt ∧ y221.toInt ≤ 16384 := iy221
                      refine lv_istore (lv' := [(6, .int y221), (5, .int y186), (9, .int v42_9), (8, .int v26_8), (7, .int y3), (4, .int y1), (0, .ref (ad 0)), (1, .int a0), (2, .int a1), (3, .int a2)]) hx hb dX13_findingOf_337 hl (by decide) rfl (fun ls hl => ?_)
                      obtain ⟨y222, ey222⟩ : ∃ y : Int32, y = v42_9 + (1 : Int32) := ⟨_, rfl⟩
                      obtain ⟨ty222, iy222⟩ := ti_add (e := 129) (f := 256) i35 ln_1 ey222 (by decide)
                      have ty222 : y222.toInt = v42_9.toInt + 1 := ty222
                      have iy222 : 129 ≤ y222.toInt ∧ y222.toInt ≤ 256 := iy222
                      refine lv_iinc (v := y222) (lv' := [(9, .int y222), (6, .int y221), (5, .int y186), (8, .int v26_8), (7, .int y3), (4, .int y1), (0, .ref (ad 0)), (1, .int a0), (2, .int a1), (3, .int a2)]) hx hb dX13_findingOf_339 hl (k := 2) rfl (by rw [ey222]; rfl) (by decide) rfl (fun ls hl => ?_)
                      refine lv_goto (tgt := 42) hx hb dX13_findingOf_342 (by decide) ?_
                      exact ih42 y222 y221 y186 E210 _ _ _ (iv_w iy222 (by decide)) (iv_w iy221 (by decide)) (iv_w iy186 (by decide)) (hx42_0.one (by rw [tn_ v42_9, tn_ (xi (E 59) 1)]; omega) (by rw [tn_ y222, tn_ v42_9]; omega) ty186 (by omega) (fun q9 => absurd (congrArg Int32.toInt (k214.trans q9)) (by omega))) (by omega) (by omega) (by omega) (by first | exact ms_su hx42_4 ty186 (by decide) | omega) hI hKp hP hS (lv_sub hl [0, 3, 4, 1, 2, 5, 6, 7, 8, 9] rfl)
              · --186 not
                have t223 : (0 : Int) < y94.toInt := ti_nle c95
                have i224 : 1 ≤ y94.toInt ∧ y94.toInt ≤ 198 := iv_lt_r t223 (il_ 0) iy94 (by decide)
                refine lv_iconst (v := 1) hx hb dX13_findingOf_189 (by decide) ?_
                refine lv_goto (tgt := 194) hx hb dX13_findingOf_190 (by decide) ?_
                have n225 : vp_in (117 : Int32) 128 := (iv_in (n := 128) ln_117 (by decide))
                refine th_iast hx hb hK hP (WX_D hD) hS hI 12 (Nat.le_of_ble_eq_true rfl) rfl rfl n225 (okI rfl (iv_w ln_1 (by decide))) dX13_findingOf_194 (fun H locs E226 pw227 hI hP hS => ?_)
                have hKp := hKp.pw pw227 rfl
                have k228 : mLt E226 = lset (lset (lset (lset lz 8 r51) 9 r60) 10 r69) 11 ((1 : Int32)) := (mL_set (k := 11) pw227 (by decide) rfl).trans (by rw [k75])
                refine lv_aload_n hx hb dX13_findingOf_195 rfl (lv_at hl 6 rfl) ?_
                refine th_get (ci := 14) (C := RX13) (T := TX13) (N := 97) (v := .ref (ad 12)) hx hb hts hinX13 hown hK hP hI 0 (Nat.le_of_ble_eq_true rfl) rfl rfl 15 (Nat.le_of_ble_eq_true rfl) (hts _ (vA_in _ _ (in_25 _ (zs16 (zs16 (zs4 (zs1 (zs0)))))))) (fun _ h9 => h9) (hI.fr 0 (Nat.le_of_ble_eq_true rfl) rfl (Nat.le_of_ble_eq_true rfl) 12 rfl) dX13_findingOf_196 ?_
                refine lv_bipush (v := 109) hx hb dX13_findingOf_199 (by decide) ?_
                refine lv_aload_n hx hb dX13_findingOf_201 rfl (lv_at hl 6 rfl) ?_
                refine th_get (ci := 14) (C := RX13) (T := TX13) (N := 97) (v := .ref (ad 56)) hx hb hts hinX13 hown hK hP hI 0 (Nat.le_of_ble_eq_true rfl) rfl rfl 76 (Nat.le_of_ble_eq_true rfl) (hts _ (vA_in _ _ (in_25 _ (zs16 (zs1 (zs0)))))) (fun _ h9 => h9) (hI.fr 0 (Nat.le_of_ble_eq_true rfl) rfl (Nat.le_of_ble_eq_true rfl) 56 rfl) dX13_findingOf_202 ?_
                refine lv_iload hx hb dX13_findingOf_205 (lv_at hl 1 rfl) ?_
                have n230 : vp_in v26_8 256 := (iv_in (n := 256) i25 (by decide))
                refine th_iald hx hb hK hP hI 56 (Nat.le_of_ble_eq_true rfl) rfl rfl n230 dX13_findingOf_207 (fun y229 ey229 => ?_)
                have iy229 : 0 ≤ y229.toInt ∧ y229.toInt ≤ 99 := hI.el 56 (Nat.le_of_ble_eq_true rfl) rfl n230 (fun _ => rfl) ey229
                have ey229 := ey229.trans (hKp.ei 56 _ rfl)
                refine lv_aload_n hx hb dX13_findingOf_208 rfl (lv_at hl 6 rfl) ?_
                refine th_get (ci := 14) (C := RX13) (T := TX13) (N := 97) (v := .ref (ad 57)) hx hb hts hinX13 hown hK hP hI 0 (Nat.le_of_ble_eq_true rfl) rfl rfl 77 (Nat.le_of_ble_eq_true rfl) (hts _ (vA_in _ _ (in_25 _ (zs16 (zs1 (zs1 (zs0))))))) (fun _ h9 => h9) (hI.fr 0 (Nat.le_of_ble_eq_true rfl) rfl (Nat.le_of_ble_eq_true rfl) 57 rfl) dX13_findingOf_209 ?_
                refine lv_iload hx hb dX13_findingOf_212 (lv_at hl 1 rfl) ?_
                have n232 : vp_in v26_8 256 := (iv_in (n := 256) i25 (by decide))
                refine th_iald hx hb hK hP hI 57 (Nat.le_of_ble_eq_true rfl) rfl rfl n232 dX13_findingOf_214 (fun y231 ey231 => ?_)
                have iy231 : 0 ≤ y231.toInt ∧ y231.toInt ≤ 99 := hI.el 57 (Nat.le_of_ble_eq_true rfl) rfl n232 (fun _ => rfl) ey231
                have ey231 := ey231.trans (hKp.ei 57 _ rfl)
                refine lv_aload_n hx hb dX13_findingOf_215 rfl (lv_at hl 6 rfl) ?_
                refine th_get (ci := 14) (C := RX13) (T := TX13) (N := 97) (v := .ref (ad 17)) hx hb hts hinX13 hown hK hP hI 0 (Nat.le_of_ble_eq_true rfl) rfl rfl 31 (Nat.le_of_ble_eq_true rfl) (hts _ (vA_in _ _ (in_30 _ (zs16 (zs16 (zs1 (zs0))))))) (fun _ h9 => h9) (hI.fr 0 (Nat.le_of_ble_eq_true rfl) rfl (Nat.le_of_ble_eq_true rfl) 17 rfl) dX13_findingOf_216 ?_
                refine lv_iload hx hb dX13_findingOf_219 (lv_at hl 5 rfl) ?_
                have n234 : vp_in y1 20 := (iv_in (n := 20) iy1 (by decide))
                refine th_iald hx hb hK hP hI 17 (Nat.le_of_ble_eq_true rfl) rfl rfl n234 dX13_findingOf_221 (fun y233 ey233 => ?_)
                have iy233 : 0 ≤ y233.toInt ∧ y233.toInt ≤ 99 := hI.el 17 (Nat.le_of_ble_eq_true rfl) rfl n234 (fun _ => rfl) ey233
                have ey233 := ey233.trans (hKp.ei 17 _ rfl)
                refine lv_aload_n hx hb dX13_findingOf_222 rfl (lv_at hl 6 rfl) ?_
                refine th_get (ci := 14) (C := RX13) (T := TX13) (N := 97) (v := .ref (ad 18)) hx hb hts hinX13 hown hK hP hI 0 (Nat.le_of_ble_eq_true rfl) rfl rfl 32 (Nat.le_of_ble_eq_true rfl) (hts _ (vA_in _ _ (in_30 _ (zs16 (zs16 (zs1 (zs1 (zs0)))))))) (fun _ h9 => h9) (hI.fr 0 (Nat.le_of_ble_eq_true rfl) rfl (Nat.le_of_ble_eq_true rfl) 18 rfl) dX13_findingOf_223 ?_
                refine lv_iload hx hb dX13_findingOf_226 (lv_at hl 5 rfl) ?_
                have n236 : vp_in y1 20 := (iv_in (n := 20) iy1 (by decide))
                refine th_iald hx hb hK hP hI 18 (Nat.le_of_ble_eq_true rfl) rfl rfl n236 dX13_findingOf_228 (fun y235 ey235 => ?_)
                have iy235 : 0 ≤ y235.toInt ∧ y235.toInt ≤ 99 := hI.el 18 (Nat.le_of_ble_eq_true rfl) rfl n236 (fun _ => rfl) ey235
                have ey235 := ey235.trans (hKp.ei 18 _ rfl)
                refine th_pi (va_runS (As := [.int y229, .int y231, .int y233, .int y235]) (rest := [.int 109, .ref (ad 12)]) ⟨hx, hb, hml, hown, hts⟩ (q_farV l y229 y231 y233 y235 iy229 iy231 iy233 iy235) (va_cwS 4 hts (gi_S (in_30 _ (zs16 (zs16 (zs1 (zs1 (zs1 (zs0))))))) (in_30 _ (zs16 (zs16 (zs4 (zs0))))) (in_24 _ (zs4 (zs4 (zs4 (zs1 (zs1 (zs1 (zs0)))))))) (in_30 _ (zs16 (zs16 (zs4 (zs1 (zs0))))))) rfl rfl rfl hz_yX13_far_4 ⟨Nat.le_of_ble_eq_true rfl, Nat.le_of_ble_eq_true rfl⟩) ⟨fun _ _ _ _ q => q, fun _ _ _ => ⟨rfl, trivial⟩⟩ rfl rfl hl.1 rfl (lv_room (Nat.le_of_ble_eq_true rfl)) dX13_findingOf_229 ⟨Nat.le_of_ble_eq_true rfl, Nat.le_of_ble_eq_true rfl⟩) hS (fun r237 H1 locs1 hw hk1 hS => ?_)
                have hP := ub_keep hP hk1
                generalize H1 = H at hP hS ⊢
                generalize locs1 = locs at hS ⊢
                obtain ⟨f238, f239⟩ := hw
                have n240 : vp_in (109 : Int32) 128 := (iv_in (n := 128) ln_109 (by decide))
                refine th_iast hx hb hK hP (WX_D hD) hS hI 12 (Nat.le_of_ble_eq_true rfl) rfl rfl n240 (okI rfl (iv_w f238 (by decide))) dX13_findingOf_232 (fun H locs E241 pw242 hI hP hS => ?_)
                have hKp := hKp.pw pw242 rfl
                have k243 : mLt E241 = lset (lset (lset (lset (lset lz 8 r51) 9 r60) 10 r69) 11 ((1 : Int32))) 12 r237 := (mL_set (k := 12) pw242 (by decide) rfl).trans (by rw [k228])
                refine lv_aload_n hx hb dX13_findingOf_233 rfl (lv_at hl 6 rfl) ?_
                refine th_get (ci := 14) (C := RX13) (T := TX13) (N := 97) (v := .ref (ad 12)) hx hb hts hinX13 hown hK hP hI 0 (Nat.le_of_ble_eq_true rfl) rfl rfl 15 (Nat.le_of_ble_eq_true rfl) (hts _ (vA_in _ _ (in_25 _ (zs16 (zs16 (zs4 (zs1 (zs0)))))))) (fun _ h9 => h9) (hI.fr 0 (Nat.le_of_ble_eq_true rfl) rfl (Nat.le_of_ble_eq_true rfl) 12 rfl) dX13_findingOf_234 ?_
                refine lv_bipush (v := 107) hx hb dX13_findingOf_237 (by decide) ?_
                refine lv_aload_n hx hb dX13_findingOf_239 rfl (lv_at hl 6 rfl) ?_
                refine th_get (ci := 14) (C := RX13) (T := TX13) (N := 97) (v := .ref (ad 56)) hx hb hts hinX13 hown hK hP hI 0 (Nat.le_of_ble_eq_true rfl) rfl rfl 76 (Nat.le_of_ble_eq_true rfl) (hts _ (vA_in _ _ (in_25 _ (zs16 (zs1 (zs0)))))) (fun _ h9 => h9) (hI.fr 0 (Nat.le_of_ble_eq_true rfl) rfl (Nat.le_of_ble_eq_true rfl) 56 rfl) dX13_findingOf_240 ?_
                refine lv_iload hx hb dX13_findingOf_243 (lv_at hl 0 rfl) ?_
                have n245 : vp_in v42_9 256 := (iv_in (n := 256) i35 (by decide))
                refine th_iald hx hb hK hP hI 56 (Nat.le_of_ble_eq_true rfl) rfl rfl n245 dX13_findingOf_245 (fun y244 ey244 => ?_)
                have iy244 : 0 ≤ y244.toInt ∧ y244.toInt ≤ 99 := hI.el 56 (Nat.le_of_ble_eq_true rfl) rfl n245 (fun _ => rfl) ey244
                have ey244 := ey244.trans (hKp.ei 56 _ rfl)
                refine lv_aload_n hx hb dX13_findingOf_246 rfl (lv_at hl 6 rfl) ?_
                refine th_get (ci := 14) (C := RX13) (T := TX13) (N := 97) (v := .ref (ad 57)) hx hb hts hinX13 hown hK hP hI 0 (Nat.le_of_ble_eq_true rfl) rfl rfl 77 (Nat.le_of_ble_eq_true rfl) (hts _ (vA_in _ _ (in_25 _ (zs16 (zs1 (zs1 (zs0))))))) (fun _ h9 => h9) (hI.fr 0 (Nat.le_of_ble_eq_true rfl) rfl (Nat.le_of_ble_eq_true rfl) 57 rfl) dX13_findingOf_247 ?_
                refine lv_iload hx hb dX13_findingOf_250 (lv_at hl 0 rfl) ?_
                have n247 : vp_in v42_9 256 := (iv_in (n := 256) i35 (by decide))
                refine th_iald hx hb hK hP hI 57 (Nat.le_of_ble_eq_true rfl) rfl rfl n247 dX13_findingOf_252 (fun y246 ey246 => ?_)
                have iy246 : 0 ≤ y246.toInt ∧ y246.toInt ≤ 99 := hI.el 57 (Nat.le_of_ble_eq_true rfl) rfl n247 (fun _ => rfl) ey246
                have ey246 := ey246.trans (hKp.ei 57 _ rfl)
                refine lv_aload_n hx hb dX13_findingOf_253 rfl (lv_at hl 6 rfl) ?_
                refine th_get (ci := 14) (C := RX13) (T := TX13) (N := 97) (v := .ref (ad 17)) hx hb hts hinX13 hown hK hP hI 0 (Nat.le_of_ble_eq_true rfl) rfl rfl 31 (Nat.le_of_ble_eq_true rfl) (hts _ (vA_in _ _ (in_30 _ (zs16 (zs16 (zs1 (zs0))))))) (fun _ h9 => h9) (hI.fr 0 (Nat.le_of_ble_eq_true rfl) rfl (Nat.le_of_ble_eq_true rfl) 17 rfl) dX13_findingOf_254 ?_
                refine lv_iload hx hb dX13_findingOf_257 (lv_at hl 5 rfl) ?_
                have n249 : vp_in y1 20 := (iv_in (n := 20) iy1 (by decide))
                refine th_iald hx hb hK hP hI 17 (Nat.le_of_ble_eq_true rfl) rfl rfl n249 dX13_findingOf_259 (fun y248 ey248 => ?_)
                have iy248 : 0 ≤ y248.toInt ∧ y248.toInt ≤ 99 := hI.el 17 (Nat.le_of_ble_eq_true rfl) rfl n249 (fun _ => rfl) ey248
                have ey248 := ey248.trans (hKp.ei 17 _ rfl)
                refine lv_aload_n hx hb dX13_findingOf_260 rfl (lv_at hl 6 rfl) ?_
                refine th_get (ci := 14) (C := RX13) (T := TX13) (N := 97) (v := .ref (ad 18)) hx hb hts hinX13 hown hK hP hI 0 (Nat.le_of_ble_eq_true rfl) rfl rfl 32 (Nat.le_of_ble_eq_true rfl) (hts _ (vA_in _ _ (in_30 _ (zs16 (zs16 (zs1 (zs1 (zs0)))))))) (fun _ h9 => h9) (hI.fr 0 (Nat.le_of_ble_eq_true rfl) rfl (Nat.le_of_ble_eq_true rfl) 18 rfl) dX13_findingOf_261 ?_
                refine lv_iload hx hb dX13_findingOf_264 (lv_at hl 5 rfl) ?_
                have n251 : vp_in y1 20 := (iv_in (n := 20) iy1 (by decide))
                refine th_iald hx hb hK hP hI 18 (Nat.le_of_ble_eq_true rfl) rfl rfl n251 dX13_findingOf_266 (fun y250 ey250 => ?_)
                have iy250 : 0 ≤ y250.toInt ∧ y250.toInt ≤ 99 := hI.el 18 (Nat.le_of_ble_eq_true rfl) rfl n251 (fun _ => rfl) ey250
                have ey250 := ey250.trans (hKp.ei 18 _ rfl)
                refine th_pi (va_runS (As := [.int y244, .int y246, .int y248, .int y250]) (rest := [.int 107, .ref (ad 12)]) ⟨hx, hb, hml, hown, hts⟩ (q_farV l y244 y246 y248 y250 iy244 iy246 iy248 iy250) (va_cwS 4 hts (gi_S (in_30 _ (zs16 (zs16 (zs1 (zs1 (zs1 (zs0))))))) (in_30 _ (zs16 (zs16 (zs4 (zs0))))) (in_24 _ (zs4 (zs4 (zs4 (zs1 (zs1 (zs1 (zs0)))))))) (in_30 _ (zs16 (zs16 (zs4 (zs1 (zs0))))))) rfl rfl rfl hz_yX13_far_4 ⟨Nat.le_of_ble_eq_true rfl, Nat.le_of_ble_eq_true rfl⟩) ⟨fun _ _ _ _ q => q, fun _ _ _ => ⟨rfl, trivial⟩⟩ rfl rfl hl.1 rfl (lv_room (Nat.le_of_ble_eq_true rfl)) dX13_findingOf_267 ⟨Nat.le_of_ble_eq_true rfl, Nat.le_of_ble_eq_true rfl⟩) hS (fun r252 H1 locs1 hw hk1 hS => ?_)
                have hP := ub_keep hP hk1
                generalize H1 = H at hP hS ⊢
                generalize locs1 = locs at hS ⊢
                obtain ⟨f253, f254⟩ := hw
                have n255 : vp_in (107 : Int32) 128 := (iv_in (n := 128) ln_107 (by decide))
                refine th_iast hx hb hK hP (WX_D hD) hS hI 12 (Nat.le_of_ble_eq_true rfl) rfl rfl n255 (okI rfl (iv_w f253 (by decide))) dX13_findingOf_270 (fun H locs E256 pw257 hI hP hS => ?_)
                have hKp := hKp.pw pw257 rfl
                have k258 : mLt E256 = lset (lset (lset (lset (lset (lset lz 8 r51) 9 r60) 10 r69) 11 ((1 : Int32))) 12 r237) 3 r252 := (mL_set (k := 3) pw257 (by decide) rfl).trans (by rw [k243])
                refine lv_aload_n hx hb dX13_findingOf_271 rfl (lv_at hl 6 rfl) ?_
                refine th_get (ci := 14) (C := RX13) (T := TX13) (N := 97) (v := .ref (ad 12)) hx hb hts hinX13 hown hK hP hI 0 (Nat.le_of_ble_eq_true rfl) rfl rfl 15 (Nat.le_of_ble_eq_true rfl) (hts _ (vA_in _ _ (in_25 _ (zs16 (zs16 (zs4 (zs1 (zs0)))))))) (fun _ h9 => h9) (hI.fr 0 (Nat.le_of_ble_eq_true rfl) rfl (Nat.le_of_ble_eq_true rfl) 12 rfl) dX13_findingOf_272 ?_
                refine lv_bipush (v := 111) hx hb dX13_findingOf_275 (by decide) ?_
                refine lv_aload_n hx hb dX13_findingOf_277 rfl (lv_at hl 6 rfl) ?_
                refine th_get (ci := 14) (C := RX13) (T := TX13) (N := 97) (v := .ref (ad 58)) hx hb hts hinX13 hown hK hP hI 0 (Nat.le_of_ble_eq_true rfl) rfl rfl 78 (Nat.le_of_ble_eq_true rfl) (hts _ (vA_in _ _ (in_25 _ (zs16 (zs1 (zs1 (zs1 (zs0)))))))) (fun _ h9 => h9) (hI.fr 0 (Nat.le_of_ble_eq_true rfl) rfl (Nat.le_of_ble_eq_true rfl) 58 rfl) dX13_findingOf_278 ?_
                refine lv_iload hx hb dX13_findingOf_281 (lv_at hl 1 rfl) ?_
                have n260 : vp_in v26_8 256 := (iv_in (n := 256) i25 (by decide))
                refine th_iald hx hb hK hP hI 58 (Nat.le_of_ble_eq_true rfl) rfl rfl n260 dX13_findingOf_283 (fun y259 ey259 => ?_)
                have iy259 : 0 ≤ y259.toInt ∧ y259.toInt ≤ 7 := hI.el 58 (Nat.le_of_ble_eq_true rfl) rfl n260 (fun _ => rfl) ey259
                have ey259 := ey259.trans (hKp.ei 58 _ rfl)
                refine lv_aload_n hx hb dX13_findingOf_284 rfl (lv_at hl 6 rfl) ?_
                refine th_get (ci := 14) (C := RX13) (T := TX13) (N := 97) (v := .ref (ad 58)) hx hb hts hinX13 hown hK hP hI 0 (Nat.le_of_ble_eq_true rfl) rfl rfl 78 (Nat.le_of_ble_eq_true rfl) (hts _ (vA_in _ _ (in_25 _ (zs16 (zs1 (zs1 (zs1 (zs0)))))))) (fun _ h9 => h9) (hI.fr 0 (Nat.le_of_ble_eq_true rfl) rfl (Nat.le_of_ble_eq_true rfl) 58 rfl) dX13_findingOf_285 ?_
                refine lv_iload hx hb dX13_findingOf_288 (lv_at hl 0 rfl) ?_
                have n262 : vp_in v42_9 256 := (iv_in (n := 256) i35 (by decide))
                refine th_iald hx hb hK hP hI 58 (Nat.le_of_ble_eq_true rfl) rfl rfl n262 dX13_findingOf_290 (fun y261 ey261 => ?_)
                have iy261 : 0 ≤ y261.toInt ∧ y261.toInt ≤ 7 := hI.el 58 (Nat.le_of_ble_eq_true rfl) rfl n262 (fun _ => rfl) ey261
                have ey261 := ey261.trans (hKp.ei 58 _ rfl)
                refine lv_icmp_ne (tgt := 298) hx hb dX13_findingOf_291 (by decide) (fun c263 => ?_) (fun c263 => ?_)
                · --291 taken
                  have t264 : ¬ y259.toInt = y261.toInt := ti_ne c263
                  refine lv_iconst (v := 0) hx hb dX13_findingOf_298 (by decide) ?_
                  have n265 : vp_in (111 : Int32) 128 := (iv_in (n := 128) ln_111 (by decide))
                  refine th_iast hx hb hK hP (WX_D hD) hS hI 12 (Nat.le_of_ble_eq_true rfl) rfl rfl n265 (okI rfl (iv_w ln_0 (by decide))) dX13_findingOf_299 (fun H locs E266 pw267 hI hP hS => ?_)
                  have hKp := hKp.pw pw267 rfl
                  have k268 : mLt E266 = lset (lset (lset (lset (lset (lset (lset lz 8 r51) 9 r60) 10 r69) 11 ((1 : Int32))) 12 r237) 3 r252) 13 ((0 : Int32)) := (mL_set (k := 13) pw267 (by decide) rfl).trans (by rw [k258])
                  have hjj : 128 + (v42_9.toNatClampNeg - 128) = v42_9.toNatClampNeg := by rw [tn_ v42_9]; omega
                  have k269 : mLt E266 = pL (xi (E 16) (mPR E a0.toNatClampNeg)).toNatClampNeg (xi (E 17) (mPR E a0.toNatClampNeg)).toInt (xi (E 18) (mPR E a0.toNatClampNeg)).toInt (rI E 56 v26_8.toNatClampNeg) (rI E 57 v26_8.toNatClampNeg) (rI E 58 v26_8.toNatClampNeg) (rI E 56 (128 + (v42_9.toNatClampNeg - 128))) (rI E 57 (128 + (v42_9.toNatClampNeg - 128))) (rI E 58 (128 + (v42_9.toNatClampNeg - 128))) := k268.trans (lM_e (by have gy43 := congrArg Int32.toInt ey43; have gy45 := congrArg Int32.toInt ey45; have gy47 := congrArg Int32.toInt ey47; have gy49 := congrArg Int32.toInt ey49; rw [hjj, f53, gy43, gy45, gy47, gy49]; rfl) (by have gy58 := congrArg Int32.toInt ey58; rw [hwn, f62, gy58]; rfl) (by have gy67 := congrArg Int32.toInt ey67; rw [hjj, hwn, f71, gy67]; rfl) (by rw [hjj, hwt]; exact (show (1 : Int32).toInt = upw (stX y3.toNatClampNeg) (stY y3.toNatClampNeg) (rI E 56 v26_8.toNatClampNeg) (rI E 57 v26_8.toNatClampNeg) (rI E 56 v42_9.toNatClampNeg) (rI E 57 v42_9.toNatClampNeg) from up1 (u := y94.toInt) (by have gy76 := congrArg Int32.toInt ey76; have gy78 := congrArg Int32.toInt ey78; have gy85 := congrArg Int32.toInt ey85; have gy87 := congrArg Int32.toInt ey87; rw [ty94, ty84, ty93, ty80, ty89, f83, f92, gy76, gy78, gy85, gy87]; rfl) (by omega))) (by have gy229 := congrArg Int32.toInt ey229; have gy231 := congrArg Int32.toInt ey231; rw [show xi (E 17) (mPR E a0.toNatClampNeg) = y233 by rw [hpr, ey233], show xi (E 18) (mPR E a0.toNatClampNeg) = y235 by rw [hpr, ey235], f239, gy229, gy231]; rfl) (by have gy244 := congrArg Int32.toInt ey244; have gy246 := congrArg Int32.toInt ey246; rw [hjj, show xi (E 17) (mPR E a0.toNatClampNeg) = y248 by rw [hpr, ey248], show xi (E 18) (mPR E a0.toNatClampNeg) = y250 by rw [hpr, ey250], f254, gy244, gy246]; rfl) (by have gy259 := congrArg Int32.toInt ey259; have gy261 := congrArg Int32.toInt ey261; rw [hjj]; exact Eq.trans (b := (0 : Int)) rfl (show (0 : Int) = eqI (rI E 58 v26_8.toNatClampNeg) (rI E 58 v42_9.toNatClampNeg) from (if_neg (show ¬ (rI E 58 v26_8.toNatClampNeg = rI E 58 v42_9.toNatClampNeg) by show ¬ ((xi (E 58) v26_8.toNatClampNeg).toInt = (xi (E 58) v42_9.toNatClampNeg).toInt); omega)).symm)))
                  obtain ⟨y270, ey270⟩ : ∃ y : Int32, y = v42_5 + (1 : Int32) := ⟨_, rfl⟩
                  obtain ⟨ty270, iy270⟩ := ti_add (e := 1) (f := 16384) i37 ln_1 ey270 (by decide)
                  have ty270 : y270.toInt = v42_5.toInt + 1 := ty270
                  have iy270 : 1 ≤ y270.toInt ∧ y270.toInt ≤ 16384 := iy270
                  refine lv_iinc (v := y270) (lv' := [(5, .int y270), (9, .int v42_9), (8, .int v26_8), (7, .int y3), (6, .int v42_6), (4, .int y1), (0, .ref (ad 0)), (1, .int a0), (2, .int a1), (3, .int a2)]) hx hb dX13_findingOf_300 hl (k := 4) rfl (by rw [ey270]; rfl) (by decide) rfl (fun ls hl => ?_)
                  refine lv_iload hx hb dX13_findingOf_303 (lv_at hl 4 rfl) ?_
                  refine lv_aload_n hx hb dX13_findingOf_305 rfl (lv_at hl 6 rfl) ?_
                  refine lv_iload_n hx hb dX13_findingOf_306 rfl (lv_at hl 8 rfl) ?_
                  refine lv_if_ne (tgt := 315) hx hb dX13_findingOf_307 (by decide) (fun c271 => ?_) (fun c271 => ?_)
                  · --307 taken
                    have t272 : ¬ a1.toInt = 0 := ti_ne c271
                    refine lv_bipush (v := 98) hx hb dX13_findingOf_315 (by decide) ?_
                    refine lv_aload_n hx hb dX13_findingOf_317 rfl (lv_at hl 6 rfl) ?_
                    refine th_get (ci := 14) (C := RX13) (T := TX13) (N := 97) (v := .ref (ad 13)) hx hb hts hinX13 hown hK hP hI 0 (Nat.le_of_ble_eq_true rfl) rfl rfl 27 (Nat.le_of_ble_eq_true rfl) (hts _ (vA_in _ _ (in_27 _ (zs16 (zs16 (zs0)))))) (fun _ h9 => h9) (hI.fr 0 (Nat.le_of_ble_eq_true rfl) rfl (Nat.le_of_ble_eq_true rfl) 13 rfl) dX13_findingOf_318 ?_
                    refine lv_iload hx hb dX13_findingOf_321 (lv_at hl 5 rfl) ?_
                    have n274 : vp_in y1 20 := (iv_in (n := 20) iy1 (by decide))
                    refine th_iald hx hb hK hP hI 13 (Nat.le_of_ble_eq_true rfl) rfl rfl n274 dX13_findingOf_323 (fun y273 ey273 => ?_)
                    have iy273 : 0 ≤ y273.toInt ∧ y273.toInt ≤ 400 := hI.el 13 (Nat.le_of_ble_eq_true rfl) rfl n274 (fun _ => rfl) ey273
                    have ey273 := ey273.trans (hKp.ei 13 _ rfl)
                    refine lv_iload_n hx hb dX13_findingOf_324 rfl (lv_at hl 9 rfl) ?_
                    have z98 := ln_98
                    refine th_i (va_runV (As := [.int 98, .int y273, .int a2]) (rest := [.int v42_6]) ⟨hx, hb, hml, hown, hts⟩ (q_worthM l dC dI cT ad E266 H.size (98 : Int32) y273 a2 hI (iv_w ln_98 (by decide)) (by exact hh1.cg (fun j9 => hKp.ei 8 j9 rfl) (fun j9 => hKp.ei 9 j9 rfl) (hKp.ei 0 17 rfl))) (cwV 3 hts (gi_V (in_28 _ (zs16 (zs16 (zs1 (zs1 (zs0)))))) (in_28 _ (zs16 (zs16 (zs1 (zs1 (zs1 (zs0))))))) (in_28 _ (zs16 (zs16 (zs4 (zs0))))) (in_24 _ (zs4 (zs4 (zs4 (zs1 (zs1 (zs1 (zs0)))))))) (in_28 _ (zs16 (zs16 (zs4 (zs1 (zs0))))))) rfl rfl rfl ⟨rfl, hz_yX13_worth_3⟩ ⟨Nat.le_of_ble_eq_true rfl, Nat.le_of_ble_eq_true rfl⟩) ⟨HW_bl, va_recv hK hP (ci := 14) (q0 := 0) rfl (hI.ob 0 (Nat.le_of_ble_eq_true rfl) rfl), (HW_wi hP hK (WX_D hD) hS hA hEV)⟩ rfl rfl hl.1 rfl (lv_room (Nat.le_of_ble_eq_true rfl)) dX13_findingOf_325 ⟨Nat.le_of_ble_eq_true rfl, Nat.le_of_ble_eq_true rfl⟩) (WX_D hD) hS hA (fun r275 E276 H locs hw hP hS => ?_)
                    obtain ⟨hI, kq277, hw⟩ := hw
                    have hKb := hKp
                    have hKp := hKp.tr kq277 (wl_sub rfl rfl)
                    have f278 := hw
                    have i279 : 0 ≤ (xi (E 0) 17).toInt ∧ (xi (E 0) 17).toInt ≤ 16 := (show 0 ≤ (xi (E 0) 17).toInt ∧ (xi (E 0) 17).toInt ≤ 16 from hI0.iv 0 (Nat.le_of_ble_eq_true rfl) rfl (Nat.le_of_ble_eq_true rfl) rfl)
                    have k280 : r275 = wML (pL (xi (E 16) (mPR E a0.toNatClampNeg)).toNatClampNeg (xi (E 17) (mPR E a0.toNatClampNeg)).toInt (xi (E 18) (mPR E a0.toNatClampNeg)).toInt (rI E 56 v26_8.toNatClampNeg) (rI E 57 v26_8.toNatClampNeg) (rI E 58 v26_8.toNatClampNeg) (rI E 56 (128 + (v42_9.toNatClampNeg - 128))) (rI E 57 (128 + (v42_9.toNatClampNeg - 128))) (rI E 58 (128 + (v42_9.toNatClampNeg - 128)))) E (if a1.toInt = 0 then 97 else 98) (lawM E (xi (E 13) (mPR E a0.toNatClampNeg)) a2) := f278.trans (by rw [show lawM E266 y273 a2 = lawM E (xi (E 13) (mPR E a0.toNatClampNeg)) a2 by rw [show xi (E 13) (mPR E a0.toNatClampNeg) = y273 by rw [hpr, ey273]]; unfold lawM; rw [show xi (E266 10) = xi (E 10) from hKb.ef _ (fun _ => rfl), show xi (E266 11) = xi (E 11) from hKb.ef _ (fun _ => rfl), show xi (E266 0) 17 = xi (E 0) 17 from hKb.ei 0 _ rfl], k269, wML_cg (E := E) (fun j9 => hKb.ei 8 j9 rfl) (fun j9 => hKb.ei 9 j9 rfl), if_neg (by omega)]; rfl)
                    refine lv_if_eq (tgt := 335) hx hb dX13_findingOf_328 (by decide) (fun c281 => ?_) (fun c281 => ?_)
                    · --328 taken
                      have t282 : r275.toInt = 0 := ti_eq c281
                      have i283 : 0 ≤ r275.toInt ∧ r275.toInt ≤ 0 := iv_eqi t282 (iv_all _) (il_ 0) (by decide)
                      refine lv_iconst (v := 0) hx hb dX13_findingOf_335 (by decide) ?_
                      refine lv_iadd hx hb dX13_findingOf_336 ?_
                      refine lv_topi (fun y284 ey284 => ?_)
                      obtain ⟨ty284, iy284⟩ := ti_add (e := 0) (f := 16383) i38 ln_0 ey284 (by decide)
                      have ty284 : y284.toInt = v42_6.toInt + 0 := ty284
                      have iy284 : 0 ≤ y284.toInt ∧ y284.toInt ≤ 16383 := iy284
                      refine lv_istore (lv' := [(6, .int y284), (5, .int y270), (9, .int v42_9), (8, .int v26_8), (7, .int y3), (4, .int y1), (0, .ref (ad 0)), (1, .int a0), (2, .int a1), (3, .int a2)]) hx hb dX13_findingOf_337 hl (by decide) rfl (fun ls hl => ?_)
                      obtain ⟨y285, ey285⟩ : ∃ y : Int32, y = v42_9 + (1 : Int32) := ⟨_, rfl⟩
                      obtain ⟨ty285, iy285⟩ := ti_add (e := 129) (f := 256) i35 ln_1 ey285 (by decide)
                      have ty285 : y285.toInt = v42_9.toInt + 1 := ty285
                      have iy285 : 129 ≤ y285.toInt ∧ y285.toInt ≤ 256 := iy285
                      refine lv_iinc (v := y285) (lv' := [(9, .int y285), (6, .int y284), (5, .int y270), (8, .int v26_8), (7, .int y3), (4, .int y1), (0, .ref (ad 0)), (1, .int a0), (2, .int a1), (3, .int a2)]) hx hb dX13_findingOf_339 hl (k := 2) rfl (by rw [ey285]; rfl) (by decide) rfl (fun ls hl => ?_)
                      refine lv_goto (tgt := 42) hx hb dX13_findingOf_342 (by decide) ?_
                      exact ih42 y285 y284 y270 E276 _ _ _ (iv_w iy285 (by decide)) (iv_w iy284 (by decide)) (iv_w iy270 (by decide)) (hx42_0.none (by rw [tn_ v42_9, tn_ (xi (E 59) 1)]; omega) (by rw [tn_ y285, tn_ v42_9]; omega) ty270 (by omega) (fun q9 => absurd (k280.symm.trans (Int32.toInt_inj.mp (by omega))) q9)) (by omega) (by omega) (by omega) (by first | exact ms_su hx42_4 ty270 (by decide) | omega) hI hKp hP hS (lv_sub hl [0, 3, 4, 1, 2, 5, 6, 7, 8, 9] rfl)
                    · --328 not
                      have t286 : ¬ r275.toInt = 0 := ti_ne c281
                      refine lv_iconst (v := 1) hx hb dX13_findingOf_331 (by decide) ?_
                      refine lv_goto (tgt := 336) hx hb dX13_findingOf_332 (by decide) ?_
                      refine lv_iadd hx hb dX13_findingOf_336 ?_
                      refine lv_topi (fun y287 ey287 => ?_)
                      obtain ⟨ty287, iy287⟩ := ti_add (e := 1) (f := 16384) i38 ln_1 ey287 (by decide)
                      have ty287 : y287.toInt = v42_6.toInt + 1 := ty287
                      have iy287 : 1 ≤ y287.toInt ∧ y287.toInt ≤ 16384 := iy287
                      refine lv_istore (lv' := [(6, .int y287), (5, .int y270), (9, .int v42_9), (8, .int v26_8), (7, .int y3), (4, .int y1), (0, .ref (ad 0)), (1, .int a0), (2, .int a1), (3, .int a2)]) hx hb dX13_findingOf_337 hl (by decide) rfl (fun ls hl => ?_)
                      obtain ⟨y288, ey288⟩ : ∃ y : Int32, y = v42_9 + (1 : Int32) := ⟨_, rfl⟩
                      obtain ⟨ty288, iy288⟩ := ti_add (e := 129) (f := 256) i35 ln_1 ey288 (by decide)
                      have ty288 : y288.toInt = v42_9.toInt + 1 := ty288
                      have iy288 : 129 ≤ y288.toInt ∧ y288.toInt ≤ 256 := iy288
                      refine lv_iinc (v := y288) (lv' := [(9, .int y288), (6, .int y287), (5, .int y270), (8, .int v26_8), (7, .int y3), (4, .int y1), (0, .ref (ad 0)), (1, .int a0), (2, .int a1), (3, .int a2)]) hx hb dX13_findingOf_339 hl (k := 2) rfl (by rw [ey288]; rfl) (by decide) rfl (fun ls hl => ?_)
                      refine lv_goto (tgt := 42) hx hb dX13_findingOf_342 (by decide) ?_
                      exact ih42 y288 y287 y270 E276 _ _ _ (iv_w iy288 (by decide)) (iv_w iy287 (by decide)) (iv_w iy270 (by decide)) (hx42_0.one (by rw [tn_ v42_9, tn_ (xi (E 59) 1)]; omega) (by rw [tn_ y288, tn_ v42_9]; omega) ty270 (by omega) (fun q9 => absurd (congrArg Int32.toInt (k280.trans q9)) (by omega))) (by omega) (by omega) (by omega) (by first | exact ms_su hx42_4 ty270 (by decide) | omega) hI hKp hP hS (lv_sub hl [0, 3, 4, 1, 2, 5, 6, 7, 8, 9] rfl)
                  · --307 not
                    have t289 : a1.toInt = 0 := ti_eq c271
                    have i290 : 0 ≤ a1.toInt ∧ a1.toInt ≤ 0 := iv_eqi t289 (iv_all _) (il_ 0) (by decide)
                    refine lv_bipush (v := 97) hx hb dX13_findingOf_310 (by decide) ?_
                    refine lv_goto (tgt := 317) hx hb dX13_findingOf_312 (by decide) ?_
                    refine lv_aload_n hx hb dX13_findingOf_317 rfl (lv_at hl 6 rfl) ?_
                    refine th_get (ci := 14) (C := RX13) (T := TX13) (N := 97) (v := .ref (ad 13)) hx hb hts hinX13 hown hK hP hI 0 (Nat.le_of_ble_eq_true rfl) rfl rfl 27 (Nat.le_of_ble_eq_true rfl) (hts _ (vA_in _ _ (in_27 _ (zs16 (zs16 (zs0)))))) (fun _ h9 => h9) (hI.fr 0 (Nat.le_of_ble_eq_true rfl) rfl (Nat.le_of_ble_eq_true rfl) 13 rfl) dX13_findingOf_318 ?_
                    refine lv_iload hx hb dX13_findingOf_321 (lv_at hl 5 rfl) ?_
                    have n292 : vp_in y1 20 := (iv_in (n := 20) iy1 (by decide))
                    refine th_iald hx hb hK hP hI 13 (Nat.le_of_ble_eq_true rfl) rfl rfl n292 dX13_findingOf_323 (fun y291 ey291 => ?_)
                    have iy291 : 0 ≤ y291.toInt ∧ y291.toInt ≤ 400 := hI.el 13 (Nat.le_of_ble_eq_true rfl) rfl n292 (fun _ => rfl) ey291
                    have ey291 := ey291.trans (hKp.ei 13 _ rfl)
                    refine lv_iload_n hx hb dX13_findingOf_324 rfl (lv_at hl 9 rfl) ?_
                    have z97 := ln_97
                    refine th_i (va_runV (As := [.int 97, .int y291, .int a2]) (rest := [.int v42_6]) ⟨hx, hb, hml, hown, hts⟩ (q_worthM l dC dI cT ad E266 H.size (97 : Int32) y291 a2 hI (iv_w ln_97 (by decide)) (by exact hh1.cg (fun j9 => hKp.ei 8 j9 rfl) (fun j9 => hKp.ei 9 j9 rfl) (hKp.ei 0 17 rfl))) (cwV 3 hts (gi_V (in_28 _ (zs16 (zs16 (zs1 (zs1 (zs0)))))) (in_28 _ (zs16 (zs16 (zs1 (zs1 (zs1 (zs0))))))) (in_28 _ (zs16 (zs16 (zs4 (zs0))))) (in_24 _ (zs4 (zs4 (zs4 (zs1 (zs1 (zs1 (zs0)))))))) (in_28 _ (zs16 (zs16 (zs4 (zs1 (zs0))))))) rfl rfl rfl ⟨rfl, hz_yX13_worth_3⟩ ⟨Nat.le_of_ble_eq_true rfl, Nat.le_of_ble_eq_true rfl⟩) ⟨HW_bl, va_recv hK hP (ci := 14) (q0 := 0) rfl (hI.ob 0 (Nat.le_of_ble_eq_true rfl) rfl), (HW_wi hP hK (WX_D hD) hS hA hEV)⟩ rfl rfl hl.1 rfl (lv_room (Nat.le_of_ble_eq_true rfl)) dX13_findingOf_325 ⟨Nat.le_of_ble_eq_true rfl, Nat.le_of_ble_eq_true rfl⟩) (WX_D hD) hS hA (fun r293 E294 H locs hw hP hS => ?_)
                    obtain ⟨hI, kq295, hw⟩ := hw
                    have hKb := hKp
                    have hKp := hKp.tr kq295 (wl_sub rfl rfl)
                    have f296 := hw
                    have i297 : 0 ≤ (xi (E 0) 17).toInt ∧ (xi (E 0) 17).toInt ≤ 16 := (show 0 ≤ (xi (E 0) 17).toInt ∧ (xi (E 0) 17).toInt ≤ 16 from hI0.iv 0 (Nat.le_of_ble_eq_true rfl) rfl (Nat.le_of_ble_eq_true rfl) rfl)
                    have k298 : r293 = wML (pL (xi (E 16) (mPR E a0.toNatClampNeg)).toNatClampNeg (xi (E 17) (mPR E a0.toNatClampNeg)).toInt (xi (E 18) (mPR E a0.toNatClampNeg)).toInt (rI E 56 v26_8.toNatClampNeg) (rI E 57 v26_8.toNatClampNeg) (rI E 58 v26_8.toNatClampNeg) (rI E 56 (128 + (v42_9.toNatClampNeg - 128))) (rI E 57 (128 + (v42_9.toNatClampNeg - 128))) (rI E 58 (128 + (v42_9.toNatClampNeg - 128)))) E (if a1.toInt = 0 then 97 else 98) (lawM E (xi (E 13) (mPR E a0.toNatClampNeg)) a2) := f296.trans (by rw [show lawM E266 y291 a2 = lawM E (xi (E 13) (mPR E a0.toNatClampNeg)) a2 by rw [show xi (E 13) (mPR E a0.toNatClampNeg) = y291 by rw [hpr, ey291]]; unfold lawM; rw [show xi (E266 10) = xi (E 10) from hKb.ef _ (fun _ => rfl), show xi (E266 11) = xi (E 11) from hKb.ef _ (fun _ => rfl), show xi (E266 0) 17 = xi (E 0) 17 from hKb.ei 0 _ rfl], k269, wML_cg (E := E) (fun j9 => hKb.ei 8 j9 rfl) (fun j9 => hKb.ei 9 j9 rfl), if_pos (by omega)]; rfl)
                    refine lv_if_eq (tgt := 335) hx hb dX13_findingOf_328 (by decide) (fun c299 => ?_) (fun c299 => ?_)
                    · --328 taken
                      have t300 : r293.toInt = 0 := ti_eq c299
                      have i301 : 0 ≤ r293.toInt ∧ r293.toInt ≤ 0 := iv_eqi t300 (iv_all _) (il_ 0) (by decide)
                      refine lv_iconst (v := 0) hx hb dX13_findingOf_335 (by decide) ?_
                      refine lv_iadd hx hb dX13_findingOf_336 ?_
                      refine lv_topi (fun y302 ey302 => ?_)
                      obtain ⟨ty302, iy302⟩ := ti_add (e := 0) (f := 16383) i38 ln_0 ey302 (by decide)
                      have ty302 : y302.toInt = v42_6.toInt + 0 := ty302
                      have iy302 : 0 ≤ y302.toInt ∧ y302.toInt ≤ 16383 := iy302
                      refine lv_istore (lv' := [(6, .int y302), (5, .int y270), (9, .int v42_9), (8, .int v26_8), (7, .int y3), (4, .int y1), (0, .ref (ad 0)), (1, .int a0), (2, .int a1), (3, .int a2)]) hx hb dX13_findingOf_337 hl (by decide) rfl (fun ls hl => ?_)
                      obtain ⟨y303, ey303⟩ : ∃ y : Int32, y = v42_9 + (1 : Int32) := ⟨_, rfl⟩
                      obtain ⟨ty303, iy303⟩ := ti_add (e := 129) (f := 256) i35 ln_1 ey303 (by decide)
                      have ty303 : y303.toInt = v42_9.toInt + 1 := ty303
                      have iy303 : 129 ≤ y303.toInt ∧ y303.toInt ≤ 256 := iy303
                      refine lv_iinc (v := y303) (lv' := [(9, .int y303), (6, .int y302), (5, .int y270), (8, .int v26_8), (7, .int y3), (4, .int y1), (0, .ref (ad 0)), (1, .int a0), (2, .int a1), (3, .int a2)]) hx hb dX13_findingOf_339 hl (k := 2) rfl (by rw [ey303]; rfl) (by decide) rfl (fun ls hl => ?_)
                      refine lv_goto (tgt := 42) hx hb dX13_findingOf_342 (by decide) ?_
                      exact ih42 y303 y302 y270 E294 _ _ _ (iv_w iy303 (by decide)) (iv_w iy302 (by decide)) (iv_w iy270 (by decide)) (hx42_0.none (by rw [tn_ v42_9, tn_ (xi (E 59) 1)]; omega) (by rw [tn_ y303, tn_ v42_9]; omega) ty270 (by omega) (fun q9 => absurd (k298.symm.trans (Int32.toInt_inj.mp (by omega))) q9)) (by omega) (by omega) (by omega) (by first | exact ms_su hx42_4 ty270 (by decide) | omega) hI hKp hP hS (lv_sub hl [0, 3, 4, 1, 2, 5, 6, 7, 8, 9] rfl)
                    · --328 not
                      have t304 : ¬ r293.toInt = 0 := ti_ne c299
                      refine lv_iconst (v := 1) hx hb dX13_findingOf_331 (by decide) ?_
                      refine lv_goto (tgt := 336) hx hb dX13_findingOf_332 (by decide) ?_
                      refine lv_iadd hx hb dX13_findingOf_336 ?_
                      refine lv_topi (fun y305 ey305 => ?_)
                      obtain ⟨ty305, iy305⟩ := ti_add (e := 1) (f := 16384) i38 ln_1 ey305 (by decide)
                      have ty305 : y305.toInt = v42_6.toInt + 1 := ty305
                      have iy305 : 1 ≤ y305.toInt ∧ y305.toInt ≤ 16384 := iy305
                      refine lv_istore (lv' := [(6, .int y305), (5, .int y270), (9, .int v42_9), (8, .int v26_8), (7, .int y3), (4, .int y1), (0, .ref (ad 0)), (1, .int a0), (2, .int a1), (3, .int a2)]) hx hb dX13_findingOf_337 hl (by decide) rfl (fun ls hl => ?_)
                      obtain ⟨y306, ey306⟩ : ∃ y : Int32, y = v42_9 + (1 : Int32) := ⟨_, rfl⟩
                      obtain ⟨ty306, iy306⟩ := ti_add (e := 129) (f := 256) i35 ln_1 ey306 (by decide)
                      have ty306 : y306.toInt = v42_9.toInt + 1 := ty306
                      have iy306 : 129 ≤ y306.toInt ∧ y306.toInt ≤ 256 := iy306
                      refine lv_iinc (v := y306) (lv' := [(9, .int y306), (6, .int y305), (5, .int y270), (8, .int v26_8), (7, .int y3), (4, .int y1), (0, .ref (ad 0)), (1, .int a0), (2, .int a1), (3, .int a2)]) hx hb dX13_findingOf_339 hl (k := 2) rfl (by rw [ey306]; rfl) (by decide) rfl (fun ls hl => ?_)
                      refine lv_goto (tgt := 42) hx hb dX13_findingOf_342 (by decide) ?_
                      exact ih42 y306 y305 y270 E294 _ _ _ (iv_w iy306 (by decide)) (iv_w iy305 (by decide)) (iv_w iy270 (by decide)) (hx42_0.one (by rw [tn_ v42_9, tn_ (xi (E 59) 1)]; omega) (by rw [tn_ y306, tn_ v42_9]; omega) ty270 (by omega) (fun q9 => absurd (congrArg Int32.toInt (k298.trans q9)) (by omega))) (by omega) (by omega) (by omega) (by first | exact ms_su hx42_4 ty270 (by decide) | omega) hI hKp hP hS (lv_sub hl [0, 3, 4, 1, 2, 5, 6, 7, 8, 9] rfl)
                · --291 not
                  have t307 : y259.toInt = y261.toInt := ti_eq c263
                  refine lv_iconst (v := 1) hx hb dX13_findingOf_294 (by decide) ?_
                  refine lv_goto (tgt := 299) hx hb dX13_findingOf_295 (by decide) ?_
                  have n308 : vp_in (111 : Int32) 128 := (iv_in (n := 128) ln_111 (by decide))
                  refine th_iast hx hb hK hP (WX_D hD) hS hI 12 (Nat.le_of_ble_eq_true rfl) rfl rfl n308 (okI rfl (iv_w ln_1 (by decide))) dX13_findingOf_299 (fun H locs E309 pw310 hI hP hS => ?_)
                  have hKp := hKp.pw pw310 rfl
                  have k311 : mLt E309 = lset (lset (lset (lset (lset (lset (lset lz 8 r51) 9 r60) 10 r69) 11 ((1 : Int32))) 12 r237) 3 r252) 13 ((1 : Int32)) := (mL_set (k := 13) pw310 (by decide) rfl).trans (by rw [k258])
                  have hjj : 128 + (v42_9.toNatClampNeg - 128) = v42_9.toNatClampNeg := by rw [tn_ v42_9]; omega
                  have k312 : mLt E309 = pL (xi (E 16) (mPR E a0.toNatClampNeg)).toNatClampNeg (xi (E 17) (mPR E a0.toNatClampNeg)).toInt (xi (E 18) (mPR E a0.toNatClampNeg)).toInt (rI E 56 v26_8.toNatClampNeg) (rI E 57 v26_8.toNatClampNeg) (rI E 58 v26_8.toNatClampNeg) (rI E 56 (128 + (v42_9.toNatClampNeg - 128))) (rI E 57 (128 + (v42_9.toNatClampNeg - 128))) (rI E 58 (128 + (v42_9.toNatClampNeg - 128))) := k311.trans (lM_e (by have gy43 := congrArg Int32.toInt ey43; have gy45 := congrArg Int32.toInt ey45; have gy47 := congrArg Int32.toInt ey47; have gy49 := congrArg Int32.toInt ey49; rw [hjj, f53, gy43, gy45, gy47, gy49]; rfl) (by have gy58 := congrArg Int32.toInt ey58; rw [hwn, f62, gy58]; rfl) (by have gy67 := congrArg Int32.toInt ey67; rw [hjj, hwn, f71, gy67]; rfl) (by rw [hjj, hwt]; exact (show (1 : Int32).toInt = upw (stX y3.toNatClampNeg) (stY y3.toNatClampNeg) (rI E 56 v26_8.toNatClampNeg) (rI E 57 v26_8.toNatClampNeg) (rI E 56 v42_9.toNatClampNeg) (rI E 57 v42_9.toNatClampNeg) from up1 (u := y94.toInt) (by have gy76 := congrArg Int32.toInt ey76; have gy78 := congrArg Int32.toInt ey78; have gy85 := congrArg Int32.toInt ey85; have gy87 := congrArg Int32.toInt ey87; rw [ty94, ty84, ty93, ty80, ty89, f83, f92, gy76, gy78, gy85, gy87]; rfl) (by omega))) (by have gy229 := congrArg Int32.toInt ey229; have gy231 := congrArg Int32.toInt ey231; rw [show xi (E 17) (mPR E a0.toNatClampNeg) = y233 by rw [hpr, ey233], show xi (E 18) (mPR E a0.toNatClampNeg) = y235 by rw [hpr, ey235], f239, gy229, gy231]; rfl) (by have gy244 := congrArg Int32.toInt ey244; have gy246 := congrArg Int32.toInt ey246; rw [hjj, show xi (E 17) (mPR E a0.toNatClampNeg) = y248 by rw [hpr, ey248], show xi (E 18) (mPR E a0.toNatClampNeg) = y250 by rw [hpr, ey250], f254, gy244, gy246]; rfl) (by have gy259 := congrArg Int32.toInt ey259; have gy261 := congrArg Int32.toInt ey261; rw [hjj]; exact Eq.trans (b := (1 : Int)) rfl (show (1 : Int) = eqI (rI E 58 v26_8.toNatClampNeg) (rI E 58 v42_9.toNatClampNeg) from (if_pos (show (rI E 58 v26_8.toNatClampNeg = rI E 58 v42_9.toNatClampNeg) by show ((xi (E 58) v26_8.toNatClampNeg).toInt = (xi (E 58) v42_9.toNatClampNeg).toInt); omega)).symm)))
                  obtain ⟨y313, ey313⟩ : ∃ y : Int32, y = v42_5 + (1 : Int32) := ⟨_, rfl⟩
                  obtain ⟨ty313, iy313⟩ := ti_add (e := 1) (f := 16384) i37 ln_1 ey313 (by decide)
                  have ty313 : y313.toInt = v42_5.toInt + 1 := ty313
                  have iy313 : 1 ≤ y313.toInt ∧ y313.toInt ≤ 16384 := iy313
                  refine lv_iinc (v := y313) (lv' := [(5, .int y313), (9, .int v42_9), (8, .int v26_8), (7, .int y3), (6, .int v42_6), (4, .int y1), (0, .ref (ad 0)), (1, .int a0), (2, .int a1), (3, .int a2)]) hx hb dX13_findingOf_300 hl (k := 4) rfl (by rw [ey313]; rfl) (by decide) rfl (fun ls hl => ?_)
                  refine lv_iload hx hb dX13_findingOf_303 (lv_at hl 4 rfl) ?_
                  refine lv_aload_n hx hb dX13_findingOf_305 rfl (lv_at hl 6 rfl) ?_
                  refine lv_iload_n hx hb dX13_findingOf_306 rfl (lv_at hl 8 rfl) ?_
                  refine lv_if_ne (tgt := 315) hx hb dX13_findingOf_307 (by decide) (fun c314 => ?_) (fun c314 => ?_)
                  · --307 taken
                    have t315 : ¬ a1.toInt = 0 := ti_ne c314
                    refine lv_bipush (v := 98) hx hb dX13_findingOf_315 (by decide) ?_
                    refine lv_aload_n hx hb dX13_findingOf_317 rfl (lv_at hl 6 rfl) ?_
                    refine th_get (ci := 14) (C := RX13) (T := TX13) (N := 97) (v := .ref (ad 13)) hx hb hts hinX13 hown hK hP hI 0 (Nat.le_of_ble_eq_true rfl) rfl rfl 27 (Nat.le_of_ble_eq_true rfl) (hts _ (vA_in _ _ (in_27 _ (zs16 (zs16 (zs0)))))) (fun _ h9 => h9) (hI.fr 0 (Nat.le_of_ble_eq_true rfl) rfl (Nat.le_of_ble_eq_true rfl) 13 rfl) dX13_findingOf_318 ?_
                    refine lv_iload hx hb dX13_findingOf_321 (lv_at hl 5 rfl) ?_
                    have n317 : vp_in y1 20 := (iv_in (n := 20) iy1 (by decide))
                    refine th_iald hx hb hK hP hI 13 (Nat.le_of_ble_eq_true rfl) rfl rfl n317 dX13_findingOf_323 (fun y316 ey316 => ?_)
                    have iy316 : 0 ≤ y316.toInt ∧ y316.toInt ≤ 400 := hI.el 13 (Nat.le_of_ble_eq_true rfl) rfl n317 (fun _ => rfl) ey316
                    have ey316 := ey316.trans (hKp.ei 13 _ rfl)
                    refine lv_iload_n hx hb dX13_findingOf_324 rfl (lv_at hl 9 rfl) ?_
                    have z98 := ln_98
                    refine th_i (va_runV (As := [.int 98, .int y316, .int a2]) (rest := [.int v42_6]) ⟨hx, hb, hml, hown, hts⟩ (q_worthM l dC dI cT ad E309 H.size (98 : Int32) y316 a2 hI (iv_w ln_98 (by decide)) (by exact hh1.cg (fun j9 => hKp.ei 8 j9 rfl) (fun j9 => hKp.ei 9 j9 rfl) (hKp.ei 0 17 rfl))) (cwV 3 hts (gi_V (in_28 _ (zs16 (zs16 (zs1 (zs1 (zs0)))))) (in_28 _ (zs16 (zs16 (zs1 (zs1 (zs1 (zs0))))))) (in_28 _ (zs16 (zs16 (zs4 (zs0))))) (in_24 _ (zs4 (zs4 (zs4 (zs1 (zs1 (zs1 (zs0)))))))) (in_28 _ (zs16 (zs16 (zs4 (zs1 (zs0))))))) rfl rfl rfl ⟨rfl, hz_yX13_worth_3⟩ ⟨Nat.le_of_ble_eq_true rfl, Nat.le_of_ble_eq_true rfl⟩) ⟨HW_bl, va_recv hK hP (ci := 14) (q0 := 0) rfl (hI.ob 0 (Nat.le_of_ble_eq_true rfl) rfl), (HW_wi hP hK (WX_D hD) hS hA hEV)⟩ rfl rfl hl.1 rfl (lv_room (Nat.le_of_ble_eq_true rfl)) dX13_findingOf_325 ⟨Nat.le_of_ble_eq_true rfl, Nat.le_of_ble_eq_true rfl⟩) (WX_D hD) hS hA (fun r318 E319 H locs hw hP hS => ?_)
                    obtain ⟨hI, kq320, hw⟩ := hw
                    have hKb := hKp
                    have hKp := hKp.tr kq320 (wl_sub rfl rfl)
                    have f321 := hw
                    have i322 : 0 ≤ (xi (E 0) 17).toInt ∧ (xi (E 0) 17).toInt ≤ 16 := (show 0 ≤ (xi (E 0) 17).toInt ∧ (xi (E 0) 17).toInt ≤ 16 from hI0.iv 0 (Nat.le_of_ble_eq_true rfl) rfl (Nat.le_of_ble_eq_true rfl) rfl)
                    have k323 : r318 = wML (pL (xi (E 16) (mPR E a0.toNatClampNeg)).toNatClampNeg (xi (E 17) (mPR E a0.toNatClampNeg)).toInt (xi (E 18) (mPR E a0.toNatClampNeg)).toInt (rI E 56 v26_8.toNatClampNeg) (rI E 57 v26_8.toNatClampNeg) (rI E 58 v26_8.toNatClampNeg) (rI E 56 (128 + (v42_9.toNatClampNeg - 128))) (rI E 57 (128 + (v42_9.toNatClampNeg - 128))) (rI E 58 (128 + (v42_9.toNatClampNeg - 128)))) E (if a1.toInt = 0 then 97 else 98) (lawM E (xi (E 13) (mPR E a0.toNatClampNeg)) a2) := f321.trans (by rw [show lawM E309 y316 a2 = lawM E (xi (E 13) (mPR E a0.toNatClampNeg)) a2 by rw [show xi (E 13) (mPR E a0.toNatClampNeg) = y316 by rw [hpr, ey316]]; unfold lawM; rw [show xi (E309 10) = xi (E 10) from hKb.ef _ (fun _ => rfl), show xi (E309 11) = xi (E 11) from hKb.ef _ (fun _ => rfl), show xi (E309 0) 17 = xi (E 0) 17 from hKb.ei 0 _ rfl], k312, wML_cg (E := E) (fun j9 => hKb.ei 8 j9 rfl) (fun j9 => hKb.ei 9 j9 rfl), if_neg (by omega)]; rfl)
                    refine lv_if_eq (tgt := 335) hx hb dX13_findingOf_328 (by decide) (fun c324 => ?_) (fun c324 => ?_)
                    · --328 taken
                      have t325 : r318.toInt = 0 := ti_eq c324
                      have i326 : 0 ≤ r318.toInt ∧ r318.toInt ≤ 0 := iv_eqi t325 (iv_all _) (il_ 0) (by decide)
                      refine lv_iconst (v := 0) hx hb dX13_findingOf_335 (by decide) ?_
                      refine lv_iadd hx hb dX13_findingOf_336 ?_
                      refine lv_topi (fun y327 ey327 => ?_)
                      obtain ⟨ty327, iy327⟩ := ti_add (e := 0) (f := 16383) i38 ln_0 ey327 (by decide)
                      have ty327 : y327.toInt = v42_6.toInt + 0 := ty327
                      have iy327 : 0 ≤ y327.toInt ∧ y327.toInt ≤ 16383 := iy327
                      refine lv_istore (lv' := [(6, .int y327), (5, .int y313), (9, .int v42_9), (8, .int v26_8), (7, .int y3), (4, .int y1), (0, .ref (ad 0)), (1, .int a0), (2, .int a1), (3, .int a2)]) hx hb dX13_findingOf_337 hl (by decide) rfl (fun ls hl => ?_)
                      obtain ⟨y328, ey328⟩ : ∃ y : Int32, y = v42_9 + (1 : Int32) := ⟨_, rfl⟩
                      obtain ⟨ty328, iy328⟩ := ti_add (e := 129) (f := 256) i35 ln_1 ey328 (by decide)
                      have ty328 : y328.toInt = v42_9.toInt + 1 := ty328
                      have iy328 : 129 ≤ y328.toInt ∧ y328.toInt ≤ 256 := iy328
                      refine lv_iinc (v := y328) (lv' := [(9, .int y328), (6, .int y327), (5, .int y313), (8, .int v26_8), (7, .int y3), (4, .int y1), (0, .ref (ad 0)), (1, .int a0), (2, .int a1), (3, .int a2)]) hx hb dX13_findingOf_339 hl (k := 2) rfl (by rw [ey328]; rfl) (by decide) rfl (fun ls hl => ?_)
                      refine lv_goto (tgt := 42) hx hb dX13_findingOf_342 (by decide) ?_
                      exact ih42 y328 y327 y313 E319 _ _ _ (iv_w iy328 (by decide)) (iv_w iy327 (by decide)) (iv_w iy313 (by decide)) (hx42_0.none (by rw [tn_ v42_9, tn_ (xi (E 59) 1)]; omega) (by rw [tn_ y328, tn_ v42_9]; omega) ty313 (by omega) (fun q9 => absurd (k323.symm.trans (Int32.toInt_inj.mp (by omega))) q9)) (by omega) (by omega) (by omega) (by first | exact ms_su hx42_4 ty313 (by decide) | omega) hI hKp hP hS (lv_sub hl [0, 3, 4, 1, 2, 5, 6, 7, 8, 9] rfl)
                    · --328 not
                      have t329 : ¬ r318.toInt = 0 := ti_ne c324
                      refine lv_iconst (v := 1) hx hb dX13_findingOf_331 (by decide) ?_
                      refine lv_goto (tgt := 336) hx hb dX13_findingOf_332 (by decide) ?_
                      refine lv_iadd hx hb dX13_findingOf_336 ?_
                      refine lv_topi (fun y330 ey330 => ?_)
                      obtain ⟨ty330, iy330⟩ := ti_add (e := 1) (f := 16384) i38 ln_1 ey330 (by decide)
                      have ty330 : y330.toInt = v42_6.toInt + 1 := ty330
                      have iy330 : 1 ≤ y330.toInt ∧ y330.toInt ≤ 16384 := iy330
                      refine lv_istore (lv' := [(6, .int y330), (5, .int y313), (9, .int v42_9), (8, .int v26_8), (7, .int y3), (4, .int y1), (0, .ref (ad 0)), (1, .int a0), (2, .int a1), (3, .int a2)]) hx hb dX13_findingOf_337 hl (by decide) rfl (fun ls hl => ?_)
                      obtain ⟨y331, ey331⟩ : ∃ y : Int32, y = v42_9 + (1 : Int32) := ⟨_, rfl⟩
                      obtain ⟨ty331, iy331⟩ := ti_add (e := 129) (f := 256) i35 ln_1 ey331 (by decide)
                      have ty331 : y331.toInt = v42_9.toInt + 1 := ty331
                      have iy331 : 129 ≤ y331.toInt ∧ y331.toInt ≤ 256 := iy331
                      refine lv_iinc (v := y331) (lv' := [(9, .int y331), (6, .int y330), (5, .int y313), (8, .int v26_8), (7, .int y3), (4, .int y1), (0, .ref (ad 0)), (1, .int a0), (2, .int a1), (3, .int a2)]) hx hb dX13_findingOf_339 hl (k := 2) rfl (by rw [ey331]; rfl) (by decide) rfl (fun ls hl => ?_)
                      refine lv_goto (tgt := 42) hx hb dX13_findingOf_342 (by decide) ?_
                      exact ih42 y331 y330 y313 E319 _ _ _ (iv_w iy331 (by decide)) (iv_w iy330 (by decide)) (iv_w iy313 (by decide)) (hx42_0.one (by rw [tn_ v42_9, tn_ (xi (E 59) 1)]; omega) (by rw [tn_ y331, tn_ v42_9]; omega) ty313 (by omega) (fun q9 => absurd (congrArg Int32.toInt (k323.trans q9)) (by omega))) (by omega) (by omega) (by omega) (by first | exact ms_su hx42_4 ty313 (by decide) | omega) hI hKp hP hS (lv_sub hl [0, 3, 4, 1, 2, 5, 6, 7, 8, 9] rfl)
                  · --307 not
                    have t332 : a1.toInt = 0 := ti_eq c314
                    have i333 : 0 ≤ a1.toInt ∧ a1.toInt ≤ 0 := iv_eqi t332 (iv_all _) (il_ 0) (by decide)
                    refine lv_bipush (v := 97) hx hb dX13_findingOf_310 (by decide) ?_
                    refine lv_goto (tgt := 317) hx hb dX13_findingOf_312 (by decide) ?_
                    refine lv_aload_n hx hb dX13_findingOf_317 rfl (lv_at hl 6 rfl) ?_
                    refine th_get (ci := 14) (C := RX13) (T := TX13) (N := 97) (v := .ref (ad 13)) hx hb hts hinX13 hown hK hP hI 0 (Nat.le_of_ble_eq_true rfl) rfl rfl 27 (Nat.le_of_ble_eq_true rfl) (hts _ (vA_in _ _ (in_27 _ (zs16 (zs16 (zs0)))))) (fun _ h9 => h9) (hI.fr 0 (Nat.le_of_ble_eq_true rfl) rfl (Nat.le_of_ble_eq_true rfl) 13 rfl) dX13_findingOf_318 ?_
                    refine lv_iload hx hb dX13_findingOf_321 (lv_at hl 5 rfl) ?_
                    have n335 : vp_in y1 20 := (iv_in (n := 20) iy1 (by decide))
                    refine th_iald hx hb hK hP hI 13 (Nat.le_of_ble_eq_true rfl) rfl rfl n335 dX13_findingOf_323 (fun y334 ey334 => ?_)
                    have iy334 : 0 ≤ y334.toInt ∧ y334.toInt ≤ 400 := hI.el 13 (Nat.le_of_ble_eq_true rfl) rfl n335 (fun _ => rfl) ey334
                    have ey334 := ey334.trans (hKp.ei 13 _ rfl)
                    refine lv_iload_n hx hb dX13_findingOf_324 rfl (lv_at hl 9 rfl) ?_
                    have z97 := ln_97
                    refine th_i (va_runV (As := [.int 97, .int y334, .int a2]) (rest := [.int v42_6]) ⟨hx, hb, hml, hown, hts⟩ (q_worthM l dC dI cT ad E309 H.size (97 : Int32) y334 a2 hI (iv_w ln_97 (by decide)) (by exact hh1.cg (fun j9 => hKp.ei 8 j9 rfl) (fun j9 => hKp.ei 9 j9 rfl) (hKp.ei 0 17 rfl))) (cwV 3 hts (gi_V (in_28 _ (zs16 (zs16 (zs1 (zs1 (zs0)))))) (in_28 _ (zs16 (zs16 (zs1 (zs1 (zs1 (zs0))))))) (in_28 _ (zs16 (zs16 (zs4 (zs0))))) (in_24 _ (zs4 (zs4 (zs4 (zs1 (zs1 (zs1 (zs0)))))))) (in_28 _ (zs16 (zs16 (zs4 (zs1 (zs0))))))) rfl rfl rfl ⟨rfl, hz_yX13_worth_3⟩ ⟨Nat.le_of_ble_eq_true rfl, Nat.le_of_ble_eq_true rfl⟩) ⟨HW_bl, va_recv hK hP (ci := 14) (q0 := 0) rfl (hI.ob 0 (Nat.le_of_ble_eq_true rfl) rfl), (HW_wi hP hK (WX_D hD) hS hA hEV)⟩ rfl rfl hl.1 rfl (lv_room (Nat.le_of_ble_eq_true rfl)) dX13_findingOf_325 ⟨Nat.le_of_ble_eq_true rfl, Nat.le_of_ble_eq_true rfl⟩) (WX_D hD) hS hA (fun r336 E337 H locs hw hP hS => ?_)
                    obtain ⟨hI, kq338, hw⟩ := hw
                    have hKb := hKp
                    have hKp := hKp.tr kq338 (wl_sub rfl rfl)
                    have f339 := hw
                    have i340 : 0 ≤ (xi (E 0) 17).toInt ∧ (xi (E 0) 17).toInt ≤ 16 := (show 0 ≤ (xi (E 0) 17).toInt ∧ (xi (E 0) 17).toInt ≤ 16 from hI0.iv 0 (Nat.le_of_ble_eq_true rfl) rfl (Nat.le_of_ble_eq_true rfl) rfl)
                    have k341 : r336 = wML (pL (xi (E 16) (mPR E a0.toNatClampNeg)).toNatClampNeg (xi (E 17) (mPR E a0.toNatClampNeg)).toInt (xi (E 18) (mPR E a0.toNatClampNeg)).toInt (rI E 56 v26_8.toNatClampNeg) (rI E 57 v26_8.toNatClampNeg) (rI E 58 v26_8.toNatClampNeg) (rI E 56 (128 + (v42_9.toNatClampNeg - 128))) (rI E 57 (128 + (v42_9.toNatClampNeg - 128))) (rI E 58 (128 + (v42_9.toNatClampNeg - 128)))) E (if a1.toInt = 0 then 97 else 98) (lawM E (xi (E 13) (mPR E a0.toNatClampNeg)) a2) := f339.trans (by rw [show lawM E309 y334 a2 = lawM E (xi (E 13) (mPR E a0.toNatClampNeg)) a2 by rw [show xi (E 13) (mPR E a0.toNatClampNeg) = y334 by rw [hpr, ey334]]; unfold lawM; rw [show xi (E309 10) = xi (E 10) from hKb.ef _ (fun _ => rfl), show xi (E309 11) = xi (E 11) from hKb.ef _ (fun _ => rfl), show xi (E309 0) 17 = xi (E 0) 17 from hKb.ei 0 _ rfl], k312, wML_cg (E := E) (fun j9 => hKb.ei 8 j9 rfl) (fun j9 => hKb.ei 9 j9 rfl), if_pos (by omega)]; rfl)
                    refine lv_if_eq (tgt := 335) hx hb dX13_findingOf_328 (by decide) (fun c342 => ?_) (fun c342 => ?_)
                    · --328 taken
                      have t343 : r336.toInt = 0 := ti_eq c342
                      have i344 : 0 ≤ r336.toInt ∧ r336.toInt ≤ 0 := iv_eqi t343 (iv_all _) (il_ 0) (by decide)
                      refine lv_iconst (v := 0) hx hb dX13_findingOf_335 (by decide) ?_
                      refine lv_iadd hx hb dX13_findingOf_336 ?_
                      refine lv_topi (fun y345 ey345 => ?_)
                      obtain ⟨ty345, iy345⟩ := ti_add (e := 0) (f := 16383) i38 ln_0 ey345 (by decide)
                      have ty345 : y345.toInt = v42_6.toInt + 0 := ty345
                      have iy345 : 0 ≤ y345.toInt ∧ y345.toInt ≤ 16383 := iy345
                      refine lv_istore (lv' := [(6, .int y345), (5, .int y313), (9, .int v42_9), (8, .int v26_8), (7, .int y3), (4, .int y1), (0, .ref (ad 0)), (1, .int a0), (2, .int a1), (3, .int a2)]) hx hb dX13_findingOf_337 hl (by decide) rfl (fun ls hl => ?_)
                      obtain ⟨y346, ey346⟩ : ∃ y : Int32, y = v42_9 + (1 : Int32) := ⟨_, rfl⟩
                      obtain ⟨ty346, iy346⟩ := ti_add (e := 129) (f := 256) i35 ln_1 ey346 (by decide)
                      have ty346 : y346.toInt = v42_9.toInt + 1 := ty346
                      have iy346 : 129 ≤ y346.toInt ∧ y346.toInt ≤ 256 := iy346
                      refine lv_iinc (v := y346) (lv' := [(9, .int y346), (6, .int y345), (5, .int y313), (8, .int v26_8), (7, .int y3), (4, .int y1), (0, .ref (ad 0)), (1, .int a0), (2, .int a1), (3, .int a2)]) hx hb dX13_findingOf_339 hl (k := 2) rfl (by rw [ey346]; rfl) (by decide) rfl (fun ls hl => ?_)
                      refine lv_goto (tgt := 42) hx hb dX13_findingOf_342 (by decide) ?_
                      exact ih42 y346 y345 y313 E337 _ _ _ (iv_w iy346 (by decide)) (iv_w iy345 (by decide)) (iv_w iy313 (by decide)) (hx42_0.none (by rw [tn_ v42_9, tn_ (xi (E 59) 1)]; omega) (by rw [tn_ y346, tn_ v42_9]; omega) ty313 (by omega) (fun q9 => absurd (k341.symm.trans (Int32.toInt_inj.mp (by omega))) q9)) (by omega) (by omega) (by omega) (by first | exact ms_su hx42_4 ty313 (by decide) | omega) hI hKp hP hS (lv_sub hl [0, 3, 4, 1, 2, 5, 6, 7, 8, 9] rfl)
                    · --328 not
                      have t347 : ¬ r336.toInt = 0 := ti_ne c342
                      refine lv_iconst (v := 1) hx hb dX13_findingOf_331 (by decide) ?_
                      refine lv_goto (tgt := 336) hx hb dX13_findingOf_332 (by decide) ?_
                      refine lv_iadd hx hb dX13_findingOf_336 ?_
                      refine lv_topi (fun y348 ey348 => ?_)
                      obtain ⟨ty348, iy348⟩ := ti_add (e := 1) (f := 16384) i38 ln_1 ey348 (by decide)
                      have ty348 : y348.toInt = v42_6.toInt + 1 := ty348
                      have iy348 : 1 ≤ y348.toInt ∧ y348.toInt ≤ 16384 := iy348
                      refine lv_istore (lv' := [(6, .int y348), (5, .int y313), (9, .int v42_9), (8, .int v26_8), (7, .int y3), (4, .int y1), (0, .ref (ad 0)), (1, .int a0), (2, .int a1), (3, .int a2)]) hx hb dX13_findingOf_337 hl (by decide) rfl (fun ls hl => ?_)
                      obtain ⟨y349, ey349⟩ : ∃ y : Int32, y = v42_9 + (1 : Int32) := ⟨_, rfl⟩
                      obtain ⟨ty349, iy349⟩ := ti_add (e := 129) (f := 256) i35 ln_1 ey349 (by decide)
                      have ty349 : y349.toInt = v42_9.toInt + 1 := ty349
                      have iy349 : 129 ≤ y349.toInt ∧ y349.toInt ≤ 256 := iy349
                      refine lv_iinc (v := y349) (lv' := [(9, .int y349), (6, .int y348), (5, .int y313), (8, .int v26_8), (7, .int y3), (4, .int y1), (0, .ref (ad 0)), (1, .int a0), (2, .int a1), (3, .int a2)]) hx hb dX13_findingOf_339 hl (k := 2) rfl (by rw [ey349]; rfl) (by decide) rfl (fun ls hl => ?_)
                      refine lv_goto (tgt := 42) hx hb dX13_findingOf_342 (by decide) ?_
                      exact ih42 y349 y348 y313 E337 _ _ _ (iv_w iy349 (by decide)) (iv_w iy348 (by decide)) (iv_w iy313 (by decide)) (hx42_0.one (by rw [tn_ v42_9, tn_ (xi (E 59) 1)]; omega) (by rw [tn_ y349, tn_ v42_9]; omega) ty313 (by omega) (fun q9 => absurd (congrArg Int32.toInt (k341.trans q9)) (by omega))) (by omega) (by omega) (by omega) (by first | exact ms_su hx42_4 ty313 (by decide) | omega) hI hKp hP hS (lv_sub hl [0, 3, 4, 1, 2, 5, 6, 7, 8, 9] rfl)
        exact hL42 (2147483648) (128 : Int32) v26_6 v26_5 E26_ _ _ _ (iv_w ln_128 (by decide)) hv26_6 hv26_5 hx26_0 (by have z9 := ln_128; omega) (by have z9 := ln_128; omega) (by have z9 := ln_128; omega) (by have h9 := hv26_5; first | exact ms_bu h9.1 (by decide) | omega) hI hKp hP hS (lv_sub hl [0, 1, 2, 3, 4, 5, 6, 7, 8, 9] rfl)
  exact hL26 (129) (0 : Int32) (0 : Int32) (0 : Int32) E _ _ _ (iv_w ln_0 (by decide)) (iv_w ln_0 (by decide)) (iv_w ln_0 (by decide)) (Cnt.start rfl rfl) (by omega) (by have z9 := ln_0; omega) (by have h9 := ln_0; first | exact ms_bu h9.1 (by decide) | omega) hI hKp hP hS (lv_sub hl [0, 1, 2, 3, 4, 5, 6, 7, 8] rfl)
