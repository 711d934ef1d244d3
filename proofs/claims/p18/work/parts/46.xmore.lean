set_option maxRecDepth 100000 in
theorem zh_dX13_force_0_0 : zc cX13_force 0 [42, 3, 181, 0, 228, 27, 184, 0, 249, 153, 0, 20, 42, 28, 182, 0] = true := by decide +kernel
set_option maxRecDepth 100000 in
theorem zh_dX13_force_14_16 : zc cX13_force 16 [252, 153, 0, 12, 42, 27, 28, 182, 1, 117, 167, 0, 4, 2, 172] = true := by decide +kernel
theorem dX13_force_0 : decode cX13_force 0 = .ok (.aload_n 0, 1) := zo_42 (zi_at zh_dX13_force_0_0 0 rfl)
theorem dX13_force_1 : decode cX13_force 1 = .ok (.iconst 0, 1) := zo_3 (zi_at zh_dX13_force_0_0 1 rfl)
theorem dX13_force_2 : decode cX13_force 2 = .ok (.putfield 228, 3) := zo_181 (zi_at zh_dX13_force_0_0 2 rfl) (zi_at zh_dX13_force_0_0 3 rfl) (zi_at zh_dX13_force_0_0 4 rfl) rfl
theorem dX13_force_5 : decode cX13_force 5 = .ok (.iload_n 1, 1) := zo_27 (zi_at zh_dX13_force_0_0 5 rfl)
theorem dX13_force_6 : decode cX13_force 6 = .ok (.invokestatic 249, 3) := zo_184 (zi_at zh_dX13_force_0_0 6 rfl) (zi_at zh_dX13_force_0_0 7 rfl) (zi_at zh_dX13_force_0_0 8 rfl) rfl
theorem dX13_force_9 : decode cX13_force 9 = .ok (.ifCond .eq 20, 3) := zo_153 (zi_at zh_dX13_force_0_0 9 rfl) (zi_at zh_dX13_force_0_0 10 rfl) (zi_at zh_dX13_force_0_0 11 rfl) rfl
theorem dX13_force_12 : decode cX13_force 12 = .ok (.aload_n 0, 1) := zo_42 (zi_at zh_dX13_force_0_0 12 rfl)
theorem dX13_force_13 : decode cX13_force 13 = .ok (.iload_n 2, 1) := zo_28 (zi_at zh_dX13_force_0_0 13 rfl)
theorem dX13_force_14 : decode cX13_force 14 = .ok (.invokevirtual 252, 3) := zo_182 (zi_at zh_dX13_force_0_0 14 rfl) (zi_at zh_dX13_force_0_0 15 rfl) (zi_at zh_dX13_force_14_16 0 rfl) rfl
theorem dX13_force_17 : decode cX13_force 17 = .ok (.ifCond .eq 12, 3) := zo_153 (zi_at zh_dX13_force_14_16 1 rfl) (zi_at zh_dX13_force_14_16 2 rfl) (zi_at zh_dX13_force_14_16 3 rfl) rfl
theorem dX13_force_20 : decode cX13_force 20 = .ok (.aload_n 0, 1) := zo_42 (zi_at zh_dX13_force_14_16 4 rfl)
theorem dX13_force_21 : decode cX13_force 21 = .ok (.iload_n 1, 1) := zo_27 (zi_at zh_dX13_force_14_16 5 rfl)
theorem dX13_force_22 : decode cX13_force 22 = .ok (.iload_n 2, 1) := zo_28 (zi_at zh_dX13_force_14_16 6 rfl)
theorem dX13_force_23 : decode cX13_force 23 = .ok (.invokevirtual 373, 3) := zo_182 (zi_at zh_dX13_force_14_16 7 rfl) (zi_at zh_dX13_force_14_16 8 rfl) (zi_at zh_dX13_force_14_16 9 rfl) rfl
theorem dX13_force_26 : decode cX13_force 26 = .ok (.goto 4, 3) := zo_167 (zi_at zh_dX13_force_14_16 10 rfl) (zi_at zh_dX13_force_14_16 11 rfl) (zi_at zh_dX13_force_14_16 12 rfl) rfl
theorem dX13_force_29 : decode cX13_force 29 = .ok (.iconst (-1), 1) := zo_2 (zi_at zh_dX13_force_14_16 13 rfl)
theorem dX13_force_30 : decode cX13_force 30 = .ok (.ireturn, 1) := zo_172 (zi_at zh_dX13_force_14_16 14 rfl)

def v_rulesOnMX : List Cond := .code yX13_rulesOn cX13_rulesOn 5 (some .int) :: vA
abbrev rm_rulesOnMX : Room := { frames := 0, cells := 0, slots := 0, locals := 0 }
set_option maxHeartbeats 4000000 in
set_option maxRecDepth 100000 in
theorem q_rulesOnMX (l : Launch) (dC : Nat → ClassId) (dI : Nat → Nat → Nat) (cT : Nat → ClassId) (ad : Nat → Nat) (E : Nat → va_E) (sz : Nat) (a0 : Int32) (a1 : Int32) (hI0 : IX cT shM spM 72 ad E)  : Met l yX13_rulesOn v_rulesOnMX rm_rulesOnMX (va_Pc [.ref (ad 0), .int a0, .int a1] (HW dC dI (TYM cT) 72 ad E sz)) (va_Qi (S := Unit) (fun r _ => (-1 ≤ r.toInt ∧ r.toInt ≤ 15) ∧ (r = cO (fun _ => 0) (xi (E 10)) (xi (E 11)) 0 a0 a1 (xi (E 0) 17).toNatClampNeg)) (fun _ _ => True) (fun _ => False)) 0 0 (fun _ => False) := by
  refine Met.ofW (cc := cX13_rulesOn) (maxL := 5) (ret := (some .int)) (by decide) rfl ?_
  intro p e s m args below meth c s₁ B hml hv
  obtain ⟨hargs, hsz, hP, hK, hD0, hEV⟩ := hv
  subst hsz
  have hx := B.exec
  have hb := B.bytes
  have hr := B.returns
  have hts := atoms_spec (ws := v_rulesOnMX) B.pre
  have hown : s.vm.findClass RX13 = some m.cls := findClass_of_methodNamed B.named
  have hlocks := B.notSynchronized
  have hinX13 : ∀ w ∈ u_ws RX13 TX13 97, w ∈ v_rulesOnMX := fun w h => vA_in _ w (in_X13 w h)
  have hS : va_S (fun _ : Nat => False) s.heap s.heap [] := va_S.rf
  have hD := hD0
  have hI := hI0
  have hKp : Kp (wl [] []) E E := Kp.rf
  have hl := lv_entry ([.ref (ad 0), .int a0, .int a1]) (n := 5) (Nat.le_of_ble_eq_true rfl)
  obtain ⟨Q, hQ⟩ : ∃ Q, Q = MQ below (va_Qi (S := Unit) (fun r _ => (-1 ≤ r.toInt ∧ r.toInt ≤ 15) ∧ (r = cO (fun _ => 0) (xi (E 10)) (xi (E 11)) 0 a0 a1 (xi (E 0) 17).toNatClampNeg)) (fun _ _ => True) (fun _ => False)) args s 0 0 (fun _ => False) := ⟨_, rfl⟩
  rw [← hQ, show entryFrame m args 5 = _ from (congrArg (fun z => entryFrame m z 5) hargs).trans (lg_entry_eq _ _ _)]
  generalize (lg_sl ([.ref (ad 0), .int a0, .int a1]) ++ List.replicate (5 - (lg_sl ([.ref (ad 0), .int a0, .int a1])).length) Slot.unset).toArray = ls at hl ⊢
  have hl : lv_has ls 5 [(0, .ref (ad 0)), (1, .int a0), (2, .int a1)] := hl
  refine lv_iconst (v := -1) hx hb dX13_rulesOn_0 (by decide) ?_
  refine lv_istore_n (lv' := [(3, .int (-1)), (0, .ref (ad 0)), (1, .int a0), (2, .int a1)]) hx hb dX13_rulesOn_1 rfl hl (by decide) rfl (fun ls hl => ?_)
  refine lv_iconst (v := 0) hx hb dX13_rulesOn_2 (by decide) ?_
  refine lv_istore (lv' := [(4, .int 0), (3, .int (-1)), (0, .ref (ad 0)), (1, .int a0), (2, .int a1)]) hx hb dX13_rulesOn_3 hl (by decide) rfl (fun ls hl => ?_)
  have hL5 : ∀ d : Nat, ∀ (v5_4 : Int32) (v5_3 : Int32) (H : Heap) (locs : List Loc) (ls : Array Slot), 0 ≤ v5_4.toInt ∧ v5_4.toInt ≤ 16 → -1 ≤ v5_3.toInt ∧ v5_3.toInt ≤ 15 → v5_3 = cO (fun _ => 0) (xi (E 10)) (xi (E 11)) 0 a0 a1 v5_4.toNatClampNeg → v5_4.toInt ≤ (xi (E 0) 17).toInt → 16 - v5_4.toInt < (d : Int) → va_P (dC, dI) vwCl (WX 72 ad E) H → va_S (fun _ : Nat => False) s.heap H locs → lv_has ls 5 [(4, .int v5_4), (3, .int v5_3), (0, .ref (ad 0)), (1, .int a0), (2, .int a1)] → W p l e (headSpec v_rulesOnMX rm_rulesOnMX).room s m args below meth c H locs 0 0 Q (F0 m 5 ls []) := by
    intro d
    induction d with
    | zero =>
      intro v5_4 v5_3 H locs ls hv5_4 hv5_3 hx5_0 hx5_1 hx5_2 hP hS hl
      exact absurd hx5_2 (by first | exact ms_zu hv5_4.2 | omega)
    | succ d ih5 =>
      intro v5_4 v5_3 H locs ls hv5_4 hv5_3 hx5_0 hx5_1 hx5_2 hP hS hl
      refine lv_iload hx hb dX13_rulesOn_5 (lv_at hl 0 rfl) ?_
      refine lv_aload_n hx hb dX13_rulesOn_7 rfl (lv_at hl 2 rfl) ?_
      have i1 : 0 ≤ (xi (E 0) 17).toInt ∧ (xi (E 0) 17).toInt ≤ 16 := hI0.iv 0 (Nat.le_of_ble_eq_true rfl) rfl (Nat.le_of_ble_eq_true rfl) rfl
      refine th_get (ci := 14) (C := RX13) (T := TX13) (N := 97) (v := .int (xi (E 0) 17)) hx hb hts hinX13 hown hK hP hI 0 (Nat.le_of_ble_eq_true rfl) rfl rfl 17 (Nat.le_of_ble_eq_true rfl) (hts _ (vA_in _ _ (in_29 _ (zs4 (zs1 (zs0)))))) (fun _ h9 => h9) (th_v0 hKp hI0 0 (Nat.le_of_ble_eq_true rfl) rfl (Nat.le_of_ble_eq_true rfl) rfl rfl) dX13_rulesOn_8 ?_
      refine lv_icmp_ge (tgt := 66) hx hb dX13_rulesOn_11 (by decide) (fun c2 => ?_) (fun c2 => ?_)
      · --11 taken
        have t3 : (xi (E 0) 17).toInt ≤ v5_4.toInt := ti_le c2
        refine lv_iload_n hx hb dX13_rulesOn_66 rfl (lv_at hl 1 rfl) ?_
        rw [hQ]
        exact W.iret (v := v5_3) hx hb hr (fun t ht hW => ⟨⟨v5_3, (), rfl, ⟨hv5_3, by have h9 := hx5_0; rw [tn_ge (x := v5_4) (y := xi (E 0) 17) (by omega) (by omega)] at h9; exact h9⟩, trivial⟩, hS.F ht⟩) hS.2.2 dX13_rulesOn_67
      · --11 not
        have t4 : v5_4.toInt < (xi (E 0) 17).toInt := ti_nle c2
        have i5 : 0 ≤ v5_4.toInt ∧ v5_4.toInt ≤ 15 := iv_lt_l t4 hv5_4 i1 (by decide)
        have i6 : 1 ≤ (xi (E 0) 17).toInt ∧ (xi (E 0) 17).toInt ≤ 16 := iv_lt_r t4 hv5_4 i1 (by decide)
        refine lv_aload_n hx hb dX13_rulesOn_14 rfl (lv_at hl 2 rfl) ?_
        refine th_get (ci := 14) (C := RX13) (T := TX13) (N := 97) (v := .ref (ad 11)) hx hb hts hinX13 hown hK hP hI 0 (Nat.le_of_ble_eq_true rfl) rfl rfl 14 (Nat.le_of_ble_eq_true rfl) (hts _ (vA_in _ _ (in_29 _ (zs4 (zs1 (zs1 (zs0))))))) (fun _ h9 => h9) (hI.fr 0 (Nat.le_of_ble_eq_true rfl) rfl (Nat.le_of_ble_eq_true rfl) 11 rfl) dX13_rulesOn_15 ?_
        refine lv_iload hx hb dX13_rulesOn_18 (lv_at hl 0 rfl) ?_
        have n8 : vp_in v5_4 16 := (iv_in (n := 16) i5 (by decide))
        refine th_iald hx hb hK hP hI 11 (Nat.le_of_ble_eq_true rfl) rfl rfl n8 dX13_rulesOn_20 (fun y7 ey7 => ?_)
        have iy7 : 0 ≤ y7.toInt ∧ y7.toInt ≤ 400 := hI.el 11 (Nat.le_of_ble_eq_true rfl) rfl n8 (fun _ => rfl) ey7
        have ey7 := ey7.trans (hKp.ei 11 _ rfl)
        refine lv_iload_n hx hb dX13_rulesOn_21 rfl (lv_at hl 4 rfl) ?_
        refine lv_icmp_gt (tgt := 60) hx hb dX13_rulesOn_22 (by decide) (fun c9 => ?_) (fun c9 => ?_)
        · --22 taken
          have t10 : a1.toInt < y7.toInt := ti_lt c9
          have i11 : -2147483648 ≤ a1.toInt ∧ a1.toInt ≤ 399 := iv_lt_l t10 (iv_all _) iy7 (by decide)
          obtain ⟨y12, ey12⟩ : ∃ y : Int32, y = v5_4 + (1 : Int32) := ⟨_, rfl⟩
          obtain ⟨ty12, iy12⟩ := ti_add (e := 1) (f := 16) i5 ln_1 ey12 (by decide)
          have ty12 : y12.toInt = v5_4.toInt + 1 := ty12
          have iy12 : 1 ≤ y12.toInt ∧ y12.toInt ≤ 16 := iy12
          refine lv_iinc (v := y12) (lv' := [(4, .int y12), (3, .int v5_3), (0, .ref (ad 0)), (1, .int a0), (2, .int a1)]) hx hb dX13_rulesOn_60 hl (k := 0) rfl (by rw [ey12]; rfl) (by decide) rfl (fun ls hl => ?_)
          refine lv_goto (tgt := 5) hx hb dX13_rulesOn_63 (by decide) ?_
          exact ih5 y12 v5_3 _ _ _ (iv_w iy12 (by decide)) hv5_3 (cO_skip (gB := fun _ => 0) (gF := xi (E 10)) (gT := xi (E 11)) hx5_0 ty12 hv5_4 (by decide) (fun hh => ub_nle c9 (by rw [ey7]; exact hh.2.1))) (by have h9 := iy12; have h8 := i6; omega) (by first | exact ms_su hx5_2 ty12 (by decide) | omega) hP hS (lv_sub hl [0, 1, 2, 3, 4] rfl)
        · --22 not
          have t13 : y7.toInt ≤ a1.toInt := ti_nlt c9
          have i14 : 0 ≤ a1.toInt ∧ a1.toInt ≤ 2147483647 := iv_le_r t13 iy7 (iv_all _) (by decide)
          refine lv_aload_n hx hb dX13_rulesOn_25 rfl (lv_at hl 2 rfl) ?_
          refine th_get (ci := 14) (C := RX13) (T := TX13) (N := 97) (v := .ref (ad 10)) hx hb hts hinX13 hown hK hP hI 0 (Nat.le_of_ble_eq_true rfl) rfl rfl 13 (Nat.le_of_ble_eq_true rfl) (hts _ (vA_in _ _ (in_29 _ (zs4 (zs1 (zs1 (zs1 (zs0)))))))) (fun _ h9 => h9) (hI.fr 0 (Nat.le_of_ble_eq_true rfl) rfl (Nat.le_of_ble_eq_true rfl) 10 rfl) dX13_rulesOn_26 ?_
          refine lv_iload hx hb dX13_rulesOn_29 (lv_at hl 0 rfl) ?_
          have n16 : vp_in v5_4 16 := (iv_in (n := 16) i5 (by decide))
          refine th_iald hx hb hK hP hI 10 (Nat.le_of_ble_eq_true rfl) rfl rfl n16 dX13_rulesOn_31 (fun y15 ey15 => ?_)
          have iy15 : 0 ≤ y15.toInt ∧ y15.toInt ≤ 400 := hI.el 10 (Nat.le_of_ble_eq_true rfl) rfl n16 (fun _ => rfl) ey15
          have ey15 := ey15.trans (hKp.ei 10 _ rfl)
          refine lv_iload_n hx hb dX13_rulesOn_32 rfl (lv_at hl 3 rfl) ?_
          refine lv_icmp_gt (tgt := 60) hx hb dX13_rulesOn_33 (by decide) (fun c17 => ?_) (fun c17 => ?_)
          · --33 taken
            have t18 : a0.toInt < y15.toInt := ti_lt c17
            have i19 : -2147483648 ≤ a0.toInt ∧ a0.toInt ≤ 399 := iv_lt_l t18 (iv_all _) iy15 (by decide)
            obtain ⟨y20, ey20⟩ : ∃ y : Int32, y = v5_4 + (1 : Int32) := ⟨_, rfl⟩
            obtain ⟨ty20, iy20⟩ := ti_add (e := 1) (f := 16) i5 ln_1 ey20 (by decide)
            have ty20 : y20.toInt = v5_4.toInt + 1 := ty20
            have iy20 : 1 ≤ y20.toInt ∧ y20.toInt ≤ 16 := iy20
            refine lv_iinc (v := y20) (lv' := [(4, .int y20), (3, .int v5_3), (0, .ref (ad 0)), (1, .int a0), (2, .int a1)]) hx hb dX13_rulesOn_60 hl (k := 0) rfl (by rw [ey20]; rfl) (by decide) rfl (fun ls hl => ?_)
            refine lv_goto (tgt := 5) hx hb dX13_rulesOn_63 (by decide) ?_
            exact ih5 y20 v5_3 _ _ _ (iv_w iy20 (by decide)) hv5_3 (cO_skip (gB := fun _ => 0) (gF := xi (E 10)) (gT := xi (E 11)) hx5_0 ty20 hv5_4 (by decide) (fun hh => ub_nle c17 (by rw [ey15]; exact hh.2.2.1))) (by have h9 := iy20; have h8 := i6; omega) (by first | exact ms_su hx5_2 ty20 (by decide) | omega) hP hS (lv_sub hl [0, 1, 2, 3, 4] rfl)
          · --33 not
            have t21 : y15.toInt ≤ a0.toInt := ti_nlt c17
            have i22 : 0 ≤ a0.toInt ∧ a0.toInt ≤ 2147483647 := iv_le_r t21 iy15 (iv_all _) (by decide)
            refine lv_iload_n hx hb dX13_rulesOn_36 rfl (lv_at hl 1 rfl) ?_
            refine lv_iconst (v := -1) hx hb dX13_rulesOn_37 (by decide) ?_
            refine lv_icmp_eq (tgt := 57) hx hb dX13_rulesOn_38 (by decide) (fun c23 => ?_) (fun c23 => ?_)
            · --38 taken
              have t24 : v5_3.toInt = -1 := ti_eq c23
              have i25 : -1 ≤ v5_3.toInt ∧ v5_3.toInt ≤ -1 := iv_eqi t24 hv5_3 (il_ (-1)) (by decide)
              refine lv_iload hx hb dX13_rulesOn_57 (lv_at hl 0 rfl) ?_
              refine lv_istore_n (lv' := [(3, .int v5_4), (4, .int v5_4), (0, .ref (ad 0)), (1, .int a0), (2, .int a1)]) hx hb dX13_rulesOn_59 rfl hl (by decide) rfl (fun ls hl => ?_)
              obtain ⟨y26, ey26⟩ : ∃ y : Int32, y = v5_4 + (1 : Int32) := ⟨_, rfl⟩
              obtain ⟨ty26, iy26⟩ := ti_add (e := 1) (f := 16) i5 ln_1 ey26 (by decide)
              have ty26 : y26.toInt = v5_4.toInt + 1 := ty26
              have iy26 : 1 ≤ y26.toInt ∧ y26.toInt ≤ 16 := iy26
              refine lv_iinc (v := y26) (lv' := [(4, .int y26), (3, .int v5_4), (0, .ref (ad 0)), (1, .int a0), (2, .int a1)]) hx hb dX13_rulesOn_60 hl (k := 1) rfl (by rw [ey26]; rfl) (by decide) rfl (fun ls hl => ?_)
              refine lv_goto (tgt := 5) hx hb dX13_rulesOn_63 (by decide) ?_
              exact ih5 y26 v5_4 _ _ _ (iv_w iy26 (by decide)) (iv_w i5 (by decide)) (cO_take (gB := fun _ => 0) (gF := xi (E 10)) (gT := xi (E 11)) hx5_0 ty26 hv5_4 (by decide) ⟨rfl, (by rw [← ey7]; exact ub_le c9), (by rw [← ey15]; exact ub_le c17), Or.inl c23⟩) (by have h9 := iy26; have h8 := i6; omega) (by first | exact ms_su hx5_2 ty26 (by decide) | omega) hP hS (lv_sub hl [0, 1, 2, 3, 4] rfl)
            · --38 not
              have t27 : ¬ v5_3.toInt = -1 := ti_ne c23
              have i28 : 0 ≤ v5_3.toInt ∧ v5_3.toInt ≤ 15 := iv_ne_l t27 hv5_3 (il_ (-1))
              refine lv_aload_n hx hb dX13_rulesOn_41 rfl (lv_at hl 2 rfl) ?_
              refine th_get (ci := 14) (C := RX13) (T := TX13) (N := 97) (v := .ref (ad 10)) hx hb hts hinX13 hown hK hP hI 0 (Nat.le_of_ble_eq_true rfl) rfl rfl 13 (Nat.le_of_ble_eq_true rfl) (hts _ (vA_in _ _ (in_29 _ (zs4 (zs1 (zs1 (zs1 (zs0)))))))) (fun _ h9 => h9) (hI.fr 0 (Nat.le_of_ble_eq_true rfl) rfl (Nat.le_of_ble_eq_true rfl) 10 rfl) dX13_rulesOn_42 ?_
              refine lv_iload hx hb dX13_rulesOn_45 (lv_at hl 0 rfl) ?_
              have n30 : vp_in v5_4 16 := (iv_in (n := 16) i5 (by decide))
              refine th_iald hx hb hK hP hI 10 (Nat.le_of_ble_eq_true rfl) rfl rfl n30 dX13_rulesOn_47 (fun y29 ey29 => ?_)
              have iy29 : 0 ≤ y29.toInt ∧ y29.toInt ≤ 400 := hI.el 10 (Nat.le_of_ble_eq_true rfl) rfl n30 (fun _ => rfl) ey29
              have ey29 := ey29.trans (hKp.ei 10 _ rfl)
              refine lv_aload_n hx hb dX13_rulesOn_48 rfl (lv_at hl 2 rfl) ?_
              refine th_get (ci := 14) (C := RX13) (T := TX13) (N := 97) (v := .ref (ad 10)) hx hb hts hinX13 hown hK hP hI 0 (Nat.le_of_ble_eq_true rfl) rfl rfl 13 (Nat.le_of_ble_eq_true rfl) (hts _ (vA_in _ _ (in_29 _ (zs4 (zs1 (zs1 (zs1 (zs0)))))))) (fun _ h9 => h9) (hI.fr 0 (Nat.le_of_ble_eq_true rfl) rfl (Nat.le_of_ble_eq_true rfl) 10 rfl) dX13_rulesOn_49 ?_
              refine lv_iload_n hx hb dX13_rulesOn_52 rfl (lv_at hl 1 rfl) ?_
              have n32 : vp_in v5_3 16 := (iv_in (n := 16) i28 (by decide))
              refine th_iald hx hb hK hP hI 10 (Nat.le_of_ble_eq_true rfl) rfl rfl n32 dX13_rulesOn_53 (fun y31 ey31 => ?_)
              have iy31 : 0 ≤ y31.toInt ∧ y31.toInt ≤ 400 := hI.el 10 (Nat.le_of_ble_eq_true rfl) rfl n32 (fun _ => rfl) ey31
              have ey31 := ey31.trans (hKp.ei 10 _ rfl)
              refine lv_icmp_lt (tgt := 60) hx hb dX13_rulesOn_54 (by decide) (fun c33 => ?_) (fun c33 => ?_)
              · --54 taken
                have t34 : y29.toInt < y31.toInt := ti_lt c33
                have i35 : 0 ≤ y29.toInt ∧ y29.toInt ≤ 399 := iv_lt_l t34 iy29 iy31 (by decide)
                have i36 : 1 ≤ y31.toInt ∧ y31.toInt ≤ 400 := iv_lt_r t34 iy29 iy31 (by decide)
                obtain ⟨y37, ey37⟩ : ∃ y : Int32, y = v5_4 + (1 : Int32) := ⟨_, rfl⟩
                obtain ⟨ty37, iy37⟩ := ti_add (e := 1) (f := 16) i5 ln_1 ey37 (by decide)
                have ty37 : y37.toInt = v5_4.toInt + 1 := ty37
                have iy37 : 1 ≤ y37.toInt ∧ y37.toInt ≤ 16 := iy37
                refine lv_iinc (v := y37) (lv' := [(4, .int y37), (3, .int v5_3), (0, .ref (ad 0)), (1, .int a0), (2, .int a1)]) hx hb dX13_rulesOn_60 hl (k := 0) rfl (by rw [ey37]; rfl) (by decide) rfl (fun ls hl => ?_)
                refine lv_goto (tgt := 5) hx hb dX13_rulesOn_63 (by decide) ?_
                exact ih5 y37 v5_3 _ _ _ (iv_w iy37 (by decide)) (iv_w i28 (by decide)) (cO_skip (gB := fun _ => 0) (gF := xi (E 10)) (gT := xi (E 11)) hx5_0 ty37 hv5_4 (by decide) (fun hh => hh.2.2.2.elim (fun h9 => c23 h9) (fun h9 => ub_nle c33 (by rw [ey31, ey29]; exact h9)))) (by have h9 := iy37; have h8 := i6; omega) (by first | exact ms_su hx5_2 ty37 (by decide) | omega) hP hS (lv_sub hl [0, 1, 2, 3, 4] rfl)
              · --54 not
                have t38 : y31.toInt ≤ y29.toInt := ti_nlt c33
                refine lv_iload hx hb dX13_rulesOn_57 (lv_at hl 0 rfl) ?_
                refine lv_istore_n (lv' := [(3, .int v5_4), (4, .int v5_4), (0, .ref (ad 0)), (1, .int a0), (2, .int a1)]) hx hb dX13_rulesOn_59 rfl hl (by decide) rfl (fun ls hl => ?_)
                obtain ⟨y39, ey39⟩ : ∃ y : Int32, y = v5_4 + (1 : Int32) := ⟨_, rfl⟩
                obtain ⟨ty39, iy39⟩ := ti_add (e := 1) (f := 16) i5 ln_1 ey39 (by decide)
                have ty39 : y39.toInt = v5_4.toInt + 1 := ty39
                have iy39 : 1 ≤ y39.toInt ∧ y39.toInt ≤ 16 := iy39
                refine lv_iinc (v := y39) (lv' := [(4, .int y39), (3, .int v5_4), (0, .ref (ad 0)), (1, .int a0), (2, .int a1)]) hx hb dX13_rulesOn_60 hl (k := 1) rfl (by rw [ey39]; rfl) (by decide) rfl (fun ls hl => ?_)
                refine lv_goto (tgt := 5) hx hb dX13_rulesOn_63 (by decide) ?_
                exact ih5 y39 v5_4 _ _ _ (iv_w iy39 (by decide)) (iv_w i5 (by decide)) (cO_take (gB := fun _ => 0) (gF := xi (E 10)) (gT := xi (E 11)) hx5_0 ty39 hv5_4 (by decide) ⟨rfl, (by rw [← ey7]; exact ub_le c9), (by rw [← ey15]; exact ub_le c17), Or.inr (by rw [← ey31, ← ey29]; exact ub_le c33)⟩) (by have h9 := iy39; have h8 := i6; omega) (by first | exact ms_su hx5_2 ty39 (by decide) | omega) hP hS (lv_sub hl [0, 1, 2, 3, 4] rfl)
  exact hL5 (17) (0 : Int32) (-1 : Int32) _ _ _ (iv_w ln_0 (by decide)) (iv_w ln_m1 (by decide)) rfl (by have h9 := ln_0; have h8 := (show 0 ≤ (xi (E 0) 17).toInt ∧ (xi (E 0) 17).toInt ≤ 16 from hI0.iv 0 (Nat.le_of_ble_eq_true rfl) rfl (Nat.le_of_ble_eq_true rfl) rfl); omega) (by have h9 := ln_0; first | exact ms_bu h9.1 (by decide) | omega) hP hS (lv_sub hl [0, 1, 2, 3, 4] rfl)
def v_forceX : List Cond := .code yX13_force cX13_force 3 (some .int) :: vA
abbrev rm_forceX : Room := { frames := 2, cells := 0, slots := 0, locals := 80 }
def w_forceX : Nat → Nat → Bool := wl [] [(0, 0)]
set_option maxHeartbeats 4000000 in
set_option maxRecDepth 100000 in
theorem q_forceX (l : Launch) (dC : Nat → ClassId) (dI : Nat → Nat → Nat) (cT : Nat → ClassId) (ad : Nat → Nat) (E : Nat → va_E) (sz : Nat) (a0 : Int32) (a1 : Int32) (hI0 : IX cT shM spM 72 ad E)  : Met l yX13_force v_forceX rm_forceX (va_Pc [.ref (ad 0), .int a0, .int a1] (HW dC dI (TYM cT) 72 ad E sz)) (va_Qi (S := Nat → va_E) (fun r u => IX cT shM spM 72 ad u ∧ Kp w_forceX E u ∧ ((((((0 ≤ a0.toInt ∧ a0.toInt ≤ 400) ∧ (0 ≤ a1.toInt ∧ a1.toInt ≤ (xi (E 0) 1).toInt)) → (r.toInt = (cO (fun _ => 0) (xi (E 10)) (xi (E 11)) 0 a0 a1 (xi (E 0) 17).toNatClampNeg).toInt)) ∧ (¬ ((0 ≤ a0.toInt ∧ a0.toInt ≤ 400) ∧ (0 ≤ a1.toInt ∧ a1.toInt ≤ (xi (E 0) 1).toInt)) → (r.toInt = -1)))))) (HB dC dI 72 ad) (va_A (WX 72 ad E) sz)) 0 0 (va_A (WX 72 ad E) sz) := by
  refine Met.ofW (cc := cX13_force) (maxL := 3) (ret := (some .int)) (by decide) rfl ?_
  intro p e s m args below meth c s₁ B hml hv
  obtain ⟨hargs, hsz, hP, hK, hD0, hEV⟩ := hv
  subst hsz
  have hx := B.exec
  have hb := B.bytes
  have hr := B.returns
  have hts := atoms_spec (ws := v_forceX) B.pre
  have hown : s.vm.findClass RX13 = some m.cls := findClass_of_methodNamed B.named
  have hlocks := B.notSynchronized
  have hinX13 : ∀ w ∈ u_ws RX13 TX13 97, w ∈ v_forceX := fun w h => vA_in _ w (in_X13 w h)
  generalize hAe : va_A (WX 72 ad E) s.heap.size = A at hEV ⊢
  have hA : ∀ q : Nat, s.heap.size ≤ q → A q := fun q h => by rw [← hAe]; exact Or.inr h
  have hD : va_D A (WX 72 ad E) := by rw [← hAe]; exact hD0.self
  have hS : va_S A s.heap s.heap [] := va_S.rf
  have hI := hI0
  have hKp : Kp w_forceX E E := Kp.rf
  have hl := lv_entry ([.ref (ad 0), .int a0, .int a1]) (n := 3) (Nat.le_of_ble_eq_true rfl)
  obtain ⟨Q, hQ⟩ : ∃ Q, Q = MQ below (va_Qi (S := Nat → va_E) (fun r u => IX cT shM spM 72 ad u ∧ Kp w_forceX E u ∧ ((((((0 ≤ a0.toInt ∧ a0.toInt ≤ 400) ∧ (0 ≤ a1.toInt ∧ a1.toInt ≤ (xi (E 0) 1).toInt)) → (r.toInt = (cO (fun _ => 0) (xi (E 10)) (xi (E 11)) 0 a0 a1 (xi (E 0) 17).toNatClampNeg).toInt)) ∧ (¬ ((0 ≤ a0.toInt ∧ a0.toInt ≤ 400) ∧ (0 ≤ a1.toInt ∧ a1.toInt ≤ (xi (E 0) 1).toInt)) → (r.toInt = -1)))))) (HB dC dI 72 ad) (A)) args s 0 0 (A) := ⟨_, rfl⟩
  rw [← hQ, show entryFrame m args 3 = _ from (congrArg (fun z => entryFrame m z 3) hargs).trans (lg_entry_eq _ _ _)]
  generalize (lg_sl ([.ref (ad 0), .int a0, .int a1]) ++ List.replicate (3 - (lg_sl ([.ref (ad 0), .int a0, .int a1])).length) Slot.unset).toArray = ls at hl ⊢
  have hl : lv_has ls 3 [(0, .ref (ad 0)), (1, .int a0), (2, .int a1)] := hl
  refine lv_aload_n hx hb dX13_force_0 rfl (lv_at hl 0 rfl) ?_
  refine lv_iconst (v := 0) hx hb dX13_force_1 (by decide) ?_
  refine th_put (ci := 14) (C := RX13) (T := TX13) (N := 97) (v := .int 0) (ty := .int) hx hb hts hinX13 tyX13 tyX13_ok nmX13 hown hK hP (WX_D hD) hS hI 0 (Nat.le_of_ble_eq_true rfl) rfl rfl 0 (Nat.le_of_ble_eq_true rfl) (hts _ (vA_in _ _ (in_24 _ (zs4 (zs4 (zs1 (zs1 (zs0)))))))) (fun _ h9 => h9) rfl (by decide +kernel) rfl rfl (okI rfl (iv_w ln_0 (by decide))) dX13_force_2 (fun H locs E1 pw2 hI hP hS => ?_)
  have hKp := hKp.pw pw2 rfl
  refine lv_iload_n hx hb dX13_force_5 rfl (lv_at hl 1 rfl) ?_
  refine th_pi (va_runS (As := [.int a0]) (rest := []) ⟨hx, hb, hml, hown, hts⟩ (q_isDay l a0) (va_cwS 1 hts (gi_S (in_27 _ (zs16 (zs1 (zs0)))) (in_27 _ (zs16 (zs1 (zs1 (zs0))))) (in_24 _ (zs4 (zs4 (zs4 (zs1 (zs1 (zs1 (zs0)))))))) (in_27 _ (zs16 (zs1 (zs1 (zs1 (zs0))))))) rfl rfl rfl (by decide +kernel) ⟨Nat.le_of_ble_eq_true rfl, Nat.le_of_ble_eq_true rfl⟩) ⟨fun _ _ _ _ q => q, fun _ _ _ => ⟨rfl, trivial⟩⟩ rfl rfl hl.1 rfl (lv_room (Nat.le_of_ble_eq_true rfl)) dX13_force_6 ⟨Nat.le_of_ble_eq_true rfl, Nat.le_of_ble_eq_true rfl⟩) hS (fun r3 H1 locs1 hw hk1 hS => ?_)
  have hP := ub_keep hP hk1
  generalize H1 = H at hP hS ⊢
  generalize locs1 = locs at hS ⊢
  rcases hw with hw | hw
  · -- isDay, case 0
    obtain ⟨rfl, f4⟩ := hw
    have t5 : (0 : Int) ≤ a0.toInt := f4.1
    have t6 : a0.toInt ≤ 400 := f4.2
    have i7 : 0 ≤ a0.toInt ∧ a0.toInt ≤ 2147483647 := iv_le_r t5 (il_ 0) (iv_all _) (by decide)
    have i8 : 0 ≤ a0.toInt ∧ a0.toInt ≤ 400 := iv_le_l t6 i7 (il_ 400) (by decide)
    refine lv_if_eq (tgt := 29) hx hb dX13_force_9 (by decide) (fun c9 => ?_) (fun c9 => ?_)
    · --9 taken
      exact absurd c9 (by decide)
    · --9 not
      refine lv_aload_n hx hb dX13_force_12 rfl (lv_at hl 0 rfl) ?_
      refine lv_iload_n hx hb dX13_force_13 rfl (lv_at hl 2 rfl) ?_
      refine th_ri (va_runV (As := [.int a1]) (rest := []) ⟨hx, hb, hml, hown, hts⟩ (q_isKnown l dC dI cT ad E1 H.size a1 hI) (cwV 1 hts (gi_V (in_24 _ (zs16 (zs4 (zs1 (zs1 (zs1 (zs0))))))) (in_24 _ (zs16 (zs4 (zs4 (zs0))))) (in_24 _ (zs16 (zs4 (zs4 (zs1 (zs0)))))) (in_24 _ (zs4 (zs4 (zs4 (zs1 (zs1 (zs1 (zs0)))))))) (in_24 _ (zs16 (zs4 (zs4 (zs1 (zs1 (zs0)))))))) rfl rfl rfl (by decide +kernel) ⟨Nat.le_of_ble_eq_true rfl, Nat.le_of_ble_eq_true rfl⟩) ⟨HW_bl, va_recv hK hP (ci := 14) (q0 := 0) rfl (hI.ob 0 (Nat.le_of_ble_eq_true rfl) rfl), (HW_wi hP hK (WX_D hD) hS hA hEV)⟩ rfl rfl hl.1 rfl (lv_room (Nat.le_of_ble_eq_true rfl)) dX13_force_14 ⟨Nat.le_of_ble_eq_true rfl, Nat.le_of_ble_eq_true rfl⟩) hS hP (fun r10 H locs hw hP hS => ?_)
      rcases hw with hw | hw
      · -- isKnown, case 0
        obtain ⟨rfl, f11⟩ := hw
        have i12 : 0 ≤ (xi (E 0) 1).toInt ∧ (xi (E 0) 1).toInt ≤ 400 := (show 0 ≤ (xi (E 0) 1).toInt ∧ (xi (E 0) 1).toInt ≤ 400 from hI0.iv 0 (Nat.le_of_ble_eq_true rfl) rfl (Nat.le_of_ble_eq_true rfl) rfl)
        try rw [hKp.ei 0 1 rfl] at f11
        have t13 : (0 : Int) ≤ a1.toInt := f11.1
        have t14 : a1.toInt ≤ (xi (E 0) 1).toInt := f11.2
        have i15 : 0 ≤ a1.toInt ∧ a1.toInt ≤ 2147483647 := iv_le_r t13 (il_ 0) (iv_all _) (by decide)
        have i16 : 0 ≤ a1.toInt ∧ a1.toInt ≤ 400 := iv_le_l t14 i15 i12 (by decide)
        refine lv_if_eq (tgt := 29) hx hb dX13_force_17 (by decide) (fun c17 => ?_) (fun c17 => ?_)
        · --17 taken
          exact absurd c17 (by decide)
        · --17 not
          refine lv_aload_n hx hb dX13_force_20 rfl (lv_at hl 0 rfl) ?_
          refine lv_iload_n hx hb dX13_force_21 rfl (lv_at hl 1 rfl) ?_
          refine lv_iload_n hx hb dX13_force_22 rfl (lv_at hl 2 rfl) ?_
          refine th_ri (va_runV (As := [.int a0, .int a1]) (rest := []) ⟨hx, hb, hml, hown, hts⟩ (q_rulesOnMX l dC dI cT ad E1 H.size a0 a1 hI) (cwV 2 hts (gi_V (in_29 _ (zs1 (zs0))) (in_29 _ (zs1 (zs1 (zs0)))) (in_29 _ (zs1 (zs1 (zs1 (zs0))))) (in_24 _ (zs4 (zs4 (zs4 (zs1 (zs1 (zs1 (zs0)))))))) (in_29 _ (zs4 (zs0)))) rfl rfl rfl (by decide +kernel) ⟨Nat.le_of_ble_eq_true rfl, Nat.le_of_ble_eq_true rfl⟩) ⟨HW_bl, va_recv hK hP (ci := 14) (q0 := 0) rfl (hI.ob 0 (Nat.le_of_ble_eq_true rfl) rfl), (HW_wi hP hK (WX_D hD) hS hA hEV)⟩ rfl rfl hl.1 rfl (lv_room (Nat.le_of_ble_eq_true rfl)) dX13_force_23 ⟨Nat.le_of_ble_eq_true rfl, Nat.le_of_ble_eq_true rfl⟩) hS hP (fun r18 H locs hw hP hS => ?_)
          obtain ⟨f19, f20⟩ := hw
          have i21 : 0 ≤ (xi (E 0) 17).toInt ∧ (xi (E 0) 17).toInt ≤ 16 := (show 0 ≤ (xi (E 0) 17).toInt ∧ (xi (E 0) 17).toInt ≤ 16 from hI0.iv 0 (Nat.le_of_ble_eq_true rfl) rfl (Nat.le_of_ble_eq_true rfl) rfl)
          try rw [hKp.ei 0 17 rfl] at f20
          try rw [hKp.ef 10 (fun _ => rfl)] at f20
          try rw [hKp.ef 11 (fun _ => rfl)] at f20
          refine lv_goto (tgt := 30) hx hb dX13_force_26 (by decide) ?_
          rw [hQ]
          exact W.iret (v := r18) hx hb hr (fun t ht hW => ⟨⟨r18, E1, rfl, ⟨hI, hKp, (by have h9 := congrArg Int32.toInt f20; all_goals omega)⟩, by show va_P (dC, dI) vwCl (WX 72 ad E1) t.heap; rw [ht]; exact hP⟩, hS.F ht⟩) hS.2.2 dX13_force_30
      · -- isKnown, case 1
        obtain ⟨rfl, f22⟩ := hw
        have i23 : 0 ≤ (xi (E 0) 1).toInt ∧ (xi (E 0) 1).toInt ≤ 400 := (show 0 ≤ (xi (E 0) 1).toInt ∧ (xi (E 0) 1).toInt ≤ 400 from hI0.iv 0 (Nat.le_of_ble_eq_true rfl) rfl (Nat.le_of_ble_eq_true rfl) rfl)
        try rw [hKp.ei 0 1 rfl] at f22
        have t24 : ¬ ((0 : Int) ≤ a1.toInt ∧ a1.toInt ≤ (xi (E 0) 1).toInt) := f22
        refine lv_if_eq (tgt := 29) hx hb dX13_force_17 (by decide) (fun c25 => ?_) (fun c25 => ?_)
        · --17 taken
          refine lv_iconst (v := -1) hx hb dX13_force_29 (by decide) ?_
          rw [hQ]
          exact W.iret (v := (-1)) hx hb hr (fun t ht hW => ⟨⟨(-1), E1, rfl, ⟨hI, hKp, (by have h8 := ln_m1; all_goals omega)⟩, by show va_P (dC, dI) vwCl (WX 72 ad E1) t.heap; rw [ht]; exact hP⟩, hS.F ht⟩) hS.2.2 dX13_force_30
        · --17 not
          exact absurd c25 (by decide)
  · -- isDay, case 1
    obtain ⟨rfl, f26⟩ := hw
    have t27 : ¬ ((0 : Int) ≤ a0.toInt ∧ a0.toInt ≤ 400) := f26
    refine lv_if_eq (tgt := 29) hx hb dX13_force_9 (by decide) (fun c28 => ?_) (fun c28 => ?_)
    · --9 taken
      refine lv_iconst (v := -1) hx hb dX13_force_29 (by decide) ?_
      rw [hQ]
      exact W.iret (v := (-1)) hx hb hr (fun t ht hW => ⟨⟨(-1), E1, rfl, ⟨hI, hKp, (by have h8 := ln_m1; all_goals omega)⟩, by show va_P (dC, dI) vwCl (WX 72 ad E1) t.heap; rw [ht]; exact hP⟩, hS.F ht⟩) hS.2.2 dX13_force_30
    · --9 not
      exact absurd c28 (by decide)
