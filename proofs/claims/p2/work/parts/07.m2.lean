theorem dX13_look_0 : decode cX13_look 0 = .ok (.aload_n 0, 1) := by decide +kernel
theorem dX13_look_1 : decode cX13_look 1 = .ok (.getfield 270, 3) := by decide +kernel
theorem dX13_look_4 : decode cX13_look 4 = .ok (.aload_n 0, 1) := by decide +kernel
theorem dX13_look_5 : decode cX13_look 5 = .ok (.getfield 273, 3) := by decide +kernel
theorem dX13_look_8 : decode cX13_look 8 = .ok (.if_icmp .ge 35, 3) := by decide +kernel
theorem dX13_look_11 : decode cX13_look 11 = .ok (.aload_n 0, 1) := by decide +kernel
theorem dX13_look_12 : decode cX13_look 12 = .ok (.getfield 47, 3) := by decide +kernel
theorem dX13_look_15 : decode cX13_look 15 = .ok (.aload_n 0, 1) := by decide +kernel
theorem dX13_look_16 : decode cX13_look 16 = .ok (.getfield 276, 3) := by decide +kernel
theorem dX13_look_19 : decode cX13_look 19 = .ok (.aload_n 0, 1) := by decide +kernel
theorem dX13_look_20 : decode cX13_look 20 = .ok (.getfield 270, 3) := by decide +kernel
theorem dX13_look_23 : decode cX13_look 23 = .ok (.iadd, 1) := by decide +kernel
theorem dX13_look_24 : decode cX13_look 24 = .ok (.baload, 1) := by decide +kernel
theorem dX13_look_25 : decode cX13_look 25 = .ok (.bipush 32, 2) := by decide +kernel
theorem dX13_look_27 : decode cX13_look 27 = .ok (.if_icmp .ne 16, 3) := by decide +kernel
theorem dX13_look_30 : decode cX13_look 30 = .ok (.aload_n 0, 1) := by decide +kernel
theorem dX13_look_31 : decode cX13_look 31 = .ok (.dup, 1) := by decide +kernel
theorem dX13_look_32 : decode cX13_look 32 = .ok (.getfield 270, 3) := by decide +kernel
theorem dX13_look_35 : decode cX13_look 35 = .ok (.iconst 1, 1) := by decide +kernel
theorem dX13_look_36 : decode cX13_look 36 = .ok (.iadd, 1) := by decide +kernel
theorem dX13_look_37 : decode cX13_look 37 = .ok (.putfield 270, 3) := by decide +kernel
theorem dX13_look_40 : decode cX13_look 40 = .ok (.goto (-40), 3) := by decide +kernel
theorem dX13_look_43 : decode cX13_look 43 = .ok (.aload_n 0, 1) := by decide +kernel
theorem dX13_look_44 : decode cX13_look 44 = .ok (.getfield 270, 3) := by decide +kernel
theorem dX13_look_47 : decode cX13_look 47 = .ok (.aload_n 0, 1) := by decide +kernel
theorem dX13_look_48 : decode cX13_look 48 = .ok (.getfield 273, 3) := by decide +kernel
theorem dX13_look_51 : decode cX13_look 51 = .ok (.if_icmp .ge 24, 3) := by decide +kernel
theorem dX13_look_54 : decode cX13_look 54 = .ok (.aload_n 0, 1) := by decide +kernel
theorem dX13_look_55 : decode cX13_look 55 = .ok (.getfield 47, 3) := by decide +kernel
theorem dX13_look_58 : decode cX13_look 58 = .ok (.aload_n 0, 1) := by decide +kernel
theorem dX13_look_59 : decode cX13_look 59 = .ok (.getfield 276, 3) := by decide +kernel
theorem dX13_look_62 : decode cX13_look 62 = .ok (.aload_n 0, 1) := by decide +kernel
theorem dX13_look_63 : decode cX13_look 63 = .ok (.getfield 270, 3) := by decide +kernel
theorem dX13_look_66 : decode cX13_look 66 = .ok (.iadd, 1) := by decide +kernel
theorem dX13_look_67 : decode cX13_look 67 = .ok (.baload, 1) := by decide +kernel
theorem dX13_look_68 : decode cX13_look 68 = .ok (.sipush 255, 3) := by decide +kernel
theorem dX13_look_71 : decode cX13_look 71 = .ok (.iand, 1) := by decide +kernel
theorem dX13_look_72 : decode cX13_look 72 = .ok (.goto 4, 3) := by decide +kernel
theorem dX13_look_75 : decode cX13_look 75 = .ok (.iconst (-1), 1) := by decide +kernel
theorem dX13_look_76 : decode cX13_look 76 = .ok (.ireturn, 1) := by decide +kernel
theorem dX13_stop_0 : decode cX13_stop 0 = .ok (.aload_n 0, 1) := by decide +kernel
theorem dX13_stop_1 : decode cX13_stop 1 = .ok (.getfield 279, 3) := by decide +kernel
theorem dX13_stop_4 : decode cX13_stop 4 = .ok (.iconst (-1), 1) := by decide +kernel
theorem dX13_stop_5 : decode cX13_stop 5 = .ok (.if_icmp .ne 11, 3) := by decide +kernel
theorem dX13_stop_8 : decode cX13_stop 8 = .ok (.aload_n 0, 1) := by decide +kernel
theorem dX13_stop_9 : decode cX13_stop 9 = .ok (.aload_n 0, 1) := by decide +kernel
theorem dX13_stop_10 : decode cX13_stop 10 = .ok (.getfield 270, 3) := by decide +kernel
theorem dX13_stop_13 : decode cX13_stop 13 = .ok (.putfield 279, 3) := by decide +kernel
theorem dX13_stop_16 : decode cX13_stop 16 = .ok (.iconst 0, 1) := by decide +kernel
theorem dX13_stop_17 : decode cX13_stop 17 = .ok (.ireturn, 1) := by decide +kernel
theorem dX13_goesIn_0 : decode cX13_goesIn 0 = .ok (.aload_n 0, 1) := by decide +kernel
theorem dX13_goesIn_1 : decode cX13_goesIn 1 = .ok (.getfield 282, 3) := by decide +kernel
theorem dX13_goesIn_4 : decode cX13_goesIn 4 = .ok (.bipush 8, 2) := by decide +kernel
theorem dX13_goesIn_6 : decode cX13_goesIn 6 = .ok (.if_icmp .ne 8, 3) := by decide +kernel
theorem dX13_goesIn_9 : decode cX13_goesIn 9 = .ok (.aload_n 0, 1) := by decide +kernel
theorem dX13_goesIn_10 : decode cX13_goesIn 10 = .ok (.invokevirtual 285, 3) := by decide +kernel
theorem dX13_goesIn_13 : decode cX13_goesIn 13 = .ok (.ireturn, 1) := by decide +kernel
theorem dX13_goesIn_14 : decode cX13_goesIn 14 = .ok (.aload_n 0, 1) := by decide +kernel
theorem dX13_goesIn_15 : decode cX13_goesIn 15 = .ok (.dup, 1) := by decide +kernel
theorem dX13_goesIn_16 : decode cX13_goesIn 16 = .ok (.getfield 282, 3) := by decide +kernel
theorem dX13_goesIn_19 : decode cX13_goesIn 19 = .ok (.iconst 1, 1) := by decide +kernel
theorem dX13_goesIn_20 : decode cX13_goesIn 20 = .ok (.iadd, 1) := by decide +kernel
theorem dX13_goesIn_21 : decode cX13_goesIn 21 = .ok (.putfield 282, 3) := by decide +kernel
theorem dX13_goesIn_24 : decode cX13_goesIn 24 = .ok (.aload_n 0, 1) := by decide +kernel
theorem dX13_goesIn_25 : decode cX13_goesIn 25 = .ok (.dup, 1) := by decide +kernel
theorem dX13_goesIn_26 : decode cX13_goesIn 26 = .ok (.getfield 270, 3) := by decide +kernel
theorem dX13_goesIn_29 : decode cX13_goesIn 29 = .ok (.iconst 1, 1) := by decide +kernel
theorem dX13_goesIn_30 : decode cX13_goesIn 30 = .ok (.iadd, 1) := by decide +kernel
theorem dX13_goesIn_31 : decode cX13_goesIn 31 = .ok (.putfield 270, 3) := by decide +kernel
theorem dX13_goesIn_34 : decode cX13_goesIn 34 = .ok (.iconst 1, 1) := by decide +kernel
theorem dX13_goesIn_35 : decode cX13_goesIn 35 = .ok (.ireturn, 1) := by decide +kernel
theorem dX13_takes_0 : decode cX13_takes 0 = .ok (.aload_n 0, 1) := by decide +kernel
theorem dX13_takes_1 : decode cX13_takes 1 = .ok (.getfield 279, 3) := by decide +kernel
theorem dX13_takes_4 : decode cX13_takes 4 = .ok (.iconst (-1), 1) := by decide +kernel
theorem dX13_takes_5 : decode cX13_takes 5 = .ok (.if_icmp .ne 11, 3) := by decide +kernel
theorem dX13_takes_8 : decode cX13_takes 8 = .ok (.aload_n 0, 1) := by decide +kernel
theorem dX13_takes_9 : decode cX13_takes 9 = .ok (.invokevirtual 289, 3) := by decide +kernel
theorem dX13_takes_12 : decode cX13_takes 12 = .ok (.iload_n 1, 1) := by decide +kernel
theorem dX13_takes_13 : decode cX13_takes 13 = .ok (.if_icmp .eq 8, 3) := by decide +kernel
theorem dX13_takes_16 : decode cX13_takes 16 = .ok (.aload_n 0, 1) := by decide +kernel
theorem dX13_takes_17 : decode cX13_takes 17 = .ok (.invokevirtual 285, 3) := by decide +kernel
theorem dX13_takes_20 : decode cX13_takes 20 = .ok (.ireturn, 1) := by decide +kernel
theorem dX13_takes_21 : decode cX13_takes 21 = .ok (.aload_n 0, 1) := by decide +kernel
theorem dX13_takes_22 : decode cX13_takes 22 = .ok (.dup, 1) := by decide +kernel
theorem dX13_takes_23 : decode cX13_takes 23 = .ok (.getfield 270, 3) := by decide +kernel
theorem dX13_takes_26 : decode cX13_takes 26 = .ok (.iconst 1, 1) := by decide +kernel
theorem dX13_takes_27 : decode cX13_takes 27 = .ok (.iadd, 1) := by decide +kernel
theorem dX13_takes_28 : decode cX13_takes 28 = .ok (.putfield 270, 3) := by decide +kernel
theorem dX13_takes_31 : decode cX13_takes 31 = .ok (.iconst 1, 1) := by decide +kernel
theorem dX13_takes_32 : decode cX13_takes 32 = .ok (.ireturn, 1) := by decide +kernel
theorem dX13_isDigit_0 : decode cX13_isDigit 0 = .ok (.aload_n 0, 1) := by decide +kernel
theorem dX13_isDigit_1 : decode cX13_isDigit 1 = .ok (.getfield 270, 3) := by decide +kernel
theorem dX13_isDigit_4 : decode cX13_isDigit 4 = .ok (.aload_n 0, 1) := by decide +kernel
theorem dX13_isDigit_5 : decode cX13_isDigit 5 = .ok (.getfield 273, 3) := by decide +kernel
theorem dX13_isDigit_8 : decode cX13_isDigit 8 = .ok (.if_icmp .ge 45, 3) := by decide +kernel
theorem dX13_isDigit_11 : decode cX13_isDigit 11 = .ok (.aload_n 0, 1) := by decide +kernel
theorem dX13_isDigit_12 : decode cX13_isDigit 12 = .ok (.getfield 47, 3) := by decide +kernel
theorem dX13_isDigit_15 : decode cX13_isDigit 15 = .ok (.aload_n 0, 1) := by decide +kernel
theorem dX13_isDigit_16 : decode cX13_isDigit 16 = .ok (.getfield 276, 3) := by decide +kernel
theorem dX13_isDigit_19 : decode cX13_isDigit 19 = .ok (.aload_n 0, 1) := by decide +kernel
theorem dX13_isDigit_20 : decode cX13_isDigit 20 = .ok (.getfield 270, 3) := by decide +kernel
theorem dX13_isDigit_23 : decode cX13_isDigit 23 = .ok (.iadd, 1) := by decide +kernel
theorem dX13_isDigit_24 : decode cX13_isDigit 24 = .ok (.baload, 1) := by decide +kernel
theorem dX13_isDigit_25 : decode cX13_isDigit 25 = .ok (.bipush 48, 2) := by decide +kernel
theorem dX13_isDigit_27 : decode cX13_isDigit 27 = .ok (.if_icmp .lt 26, 3) := by decide +kernel
theorem dX13_isDigit_30 : decode cX13_isDigit 30 = .ok (.aload_n 0, 1) := by decide +kernel
theorem dX13_isDigit_31 : decode cX13_isDigit 31 = .ok (.getfield 47, 3) := by decide +kernel
theorem dX13_isDigit_34 : decode cX13_isDigit 34 = .ok (.aload_n 0, 1) := by decide +kernel
theorem dX13_isDigit_35 : decode cX13_isDigit 35 = .ok (.getfield 276, 3) := by decide +kernel
theorem dX13_isDigit_38 : decode cX13_isDigit 38 = .ok (.aload_n 0, 1) := by decide +kernel
theorem dX13_isDigit_39 : decode cX13_isDigit 39 = .ok (.getfield 270, 3) := by decide +kernel
theorem dX13_isDigit_42 : decode cX13_isDigit 42 = .ok (.iadd, 1) := by decide +kernel
theorem dX13_isDigit_43 : decode cX13_isDigit 43 = .ok (.baload, 1) := by decide +kernel
theorem dX13_isDigit_44 : decode cX13_isDigit 44 = .ok (.bipush 57, 2) := by decide +kernel
theorem dX13_isDigit_46 : decode cX13_isDigit 46 = .ok (.if_icmp .gt 7, 3) := by decide +kernel
theorem dX13_isDigit_49 : decode cX13_isDigit 49 = .ok (.iconst 1, 1) := by decide +kernel
theorem dX13_isDigit_50 : decode cX13_isDigit 50 = .ok (.goto 4, 3) := by decide +kernel
theorem dX13_isDigit_53 : decode cX13_isDigit 53 = .ok (.iconst 0, 1) := by decide +kernel
theorem dX13_isDigit_54 : decode cX13_isDigit 54 = .ok (.ireturn, 1) := by decide +kernel
theorem dX13_bound_0 : decode cX13_bound 0 = .ok (.ldc2_w 293, 3) := by decide +kernel
theorem dX13_bound_3 : decode cX13_bound 3 = .ok (.ldc2_w 295, 3) := by decide +kernel
theorem dX13_bound_6 : decode cX13_bound 6 = .ok (.lload_n 0, 1) := by decide +kernel
theorem dX13_bound_7 : decode cX13_bound 7 = .ok (.invokestatic 297, 3) := by decide +kernel
theorem dX13_bound_10 : decode cX13_bound 10 = .ok (.invokestatic 303, 3) := by decide +kernel
theorem dX13_bound_13 : decode cX13_bound 13 = .ok (.l2i, 1) := by decide +kernel
theorem dX13_bound_14 : decode cX13_bound 14 = .ok (.ireturn, 1) := by decide +kernel
def v_isDigit : List Cond := .code yX13_isDigit cX13_isDigit 1 (some .boolean) :: vA
abbrev rm_isDigit : Room := { frames := 0, cells := 0, slots := 0, locals := 0 }
set_option maxHeartbeats 4000000 in
set_option maxRecDepth 100000 in
theorem q_isDigit (l : Launch) (dC : Nat → ClassId) (dI : Nat → Nat → Nat) (cT : Nat → ClassId) (ad : Nat → Nat) (E : Nat → va_E) (sz : Nat) (k : Nat) (nl : Nat) (hI0 : IX cT shM spM 72 ad E) (hh0 : k < 72) (hh1 : shM k = (1, 1, nl)) (hh2 : ∀ j, spM k j = (0, -128, 127)) (hh3 : xv (E 0) 18 = .ref (ad k)) (hh4 : (xi (E 0) 19).toInt + 200 ≤ (nl : Int)) : Met l yX13_isDigit v_isDigit rm_isDigit (va_Pc [.ref (ad 0)] (HW dC dI (TYM cT) 72 ad E sz)) (va_Qi (S := Unit) (fun r _ => (r = 1 ∧ ((xi (E 0) 21).toInt < (xi (E 0) 20).toInt)) ∨ (r = 0)) (fun _ _ => True) (fun _ => False)) 0 0 (fun _ => False) := by
  refine Met.ofW (cc := cX13_isDigit) (maxL := 1) (ret := (some .boolean)) (by decide) rfl ?_
  intro p e s m args below meth c s₁ B hml hv
  obtain ⟨hargs, hsz, hP, hK, hD0, hEV⟩ := hv
  subst hsz
  have hx := B.exec
  have hb := B.bytes
  have hr := B.returns
  have hts := atoms_spec (ws := v_isDigit) B.pre
  have hown : s.vm.findClass RX13 = some m.cls := findClass_of_methodNamed B.named
  have hlocks := B.notSynchronized
  have hinX13 : ∀ w ∈ u_ws RX13 TX13 97, w ∈ v_isDigit := fun w h => vA_in _ w (in_X13 w h)
  have hS : va_S (fun _ : Nat => False) s.heap s.heap [] := va_S.rf
  have hD := hD0
  have hI := hI0
  have hKp : Kp (wl [] []) E E := Kp.rf
  have hl := lv_entry ([.ref (ad 0)]) (n := 1) (Nat.le_of_ble_eq_true rfl)
  obtain ⟨Q, hQ⟩ : ∃ Q, Q = MQ below (va_Qi (S := Unit) (fun r _ => (r = 1 ∧ ((xi (E 0) 21).toInt < (xi (E 0) 20).toInt)) ∨ (r = 0)) (fun _ _ => True) (fun _ => False)) args s 0 0 (fun _ => False) := ⟨_, rfl⟩
  rw [← hQ, show entryFrame m args 1 = _ from (congrArg (fun z => entryFrame m z 1) hargs).trans (lg_entry_eq _ _ _)]
  generalize (lg_sl ([.ref (ad 0)]) ++ List.replicate (1 - (lg_sl ([.ref (ad 0)])).length) Slot.unset).toArray = ls at hl ⊢
  have hl : lv_has ls 1 [(0, .ref (ad 0))] := hl
  refine lv_aload_n hx hb dX13_isDigit_0 rfl (lv_at hl 0 rfl) ?_
  have i1 : 0 ≤ (xi (E 0) 21).toInt ∧ (xi (E 0) 21).toInt ≤ 200 := hI0.iv 0 (Nat.le_of_ble_eq_true rfl) rfl (Nat.le_of_ble_eq_true rfl) rfl
  refine th_get (ci := 14) (C := RX13) (T := TX13) (N := 97) (v := .int (xi (E 0) 21)) hx hb hts hinX13 hown hK hP hI 0 (Nat.le_of_ble_eq_true rfl) rfl rfl 21 (Nat.le_of_ble_eq_true rfl) (hts _ (vA_in _ _ (in_25 _ (List.mem_of_getElem? (i := 36) rfl)))) (fun _ h9 => h9) (th_v0 hKp hI0 0 (Nat.le_of_ble_eq_true rfl) rfl (Nat.le_of_ble_eq_true rfl) rfl rfl) dX13_isDigit_1 ?_
  refine lv_aload_n hx hb dX13_isDigit_4 rfl (lv_at hl 0 rfl) ?_
  have i2 : 0 ≤ (xi (E 0) 20).toInt ∧ (xi (E 0) 20).toInt ≤ 200 := hI0.iv 0 (Nat.le_of_ble_eq_true rfl) rfl (Nat.le_of_ble_eq_true rfl) rfl
  refine th_get (ci := 14) (C := RX13) (T := TX13) (N := 97) (v := .int (xi (E 0) 20)) hx hb hts hinX13 hown hK hP hI 0 (Nat.le_of_ble_eq_true rfl) rfl rfl 20 (Nat.le_of_ble_eq_true rfl) (hts _ (vA_in _ _ (in_26 _ (List.mem_of_getElem? (i := 6) rfl)))) (fun _ h9 => h9) (th_v0 hKp hI0 0 (Nat.le_of_ble_eq_true rfl) rfl (Nat.le_of_ble_eq_true rfl) rfl rfl) dX13_isDigit_5 ?_
  refine lv_icmp_ge (tgt := 53) hx hb dX13_isDigit_8 (by decide) (fun c3 => ?_) (fun c3 => ?_)
  · --8 taken
    have t4 : (xi (E 0) 20).toInt ≤ (xi (E 0) 21).toInt := ti_le c3
    refine lv_iconst (v := 0) hx hb dX13_isDigit_53 (by decide) ?_
    rw [hQ]
    exact W.zret (v := 0) hx hb hr rfl (fun t ht hW => ⟨⟨0, (), rfl, Or.inr (rfl), trivial⟩, hS.F ht⟩) hS.2.2 dX13_isDigit_54
  · --8 not
    have t5 : (xi (E 0) 21).toInt < (xi (E 0) 20).toInt := ti_nle c3
    have i6 : 0 ≤ (xi (E 0) 21).toInt ∧ (xi (E 0) 21).toInt ≤ 199 := iv_lt_l t5 i1 i2 (by decide)
    have i7 : 1 ≤ (xi (E 0) 20).toInt ∧ (xi (E 0) 20).toInt ≤ 200 := iv_lt_r t5 i1 i2 (by decide)
    refine lv_aload_n hx hb dX13_isDigit_11 rfl (lv_at hl 0 rfl) ?_
    refine th_get (ci := 14) (C := RX13) (T := TX13) (N := 97) (v := .ref (ad k)) hx hb hts hinX13 hown hK hP hI 0 (Nat.le_of_ble_eq_true rfl) rfl rfl 18 (Nat.le_of_ble_eq_true rfl) (hts _ (vA_in _ _ (in_26 _ (List.mem_of_getElem? (i := 0) rfl)))) (fun _ h9 => h9) ((hKp 0 18 rfl).trans hh3) dX13_isDigit_12 ?_
    refine lv_aload_n hx hb dX13_isDigit_15 rfl (lv_at hl 0 rfl) ?_
    have i8 : 0 ≤ (xi (E 0) 19).toInt ∧ (xi (E 0) 19).toInt ≤ 3000 := hI0.iv 0 (Nat.le_of_ble_eq_true rfl) rfl (Nat.le_of_ble_eq_true rfl) rfl
    refine th_get (ci := 14) (C := RX13) (T := TX13) (N := 97) (v := .int (xi (E 0) 19)) hx hb hts hinX13 hown hK hP hI 0 (Nat.le_of_ble_eq_true rfl) rfl rfl 19 (Nat.le_of_ble_eq_true rfl) (hts _ (vA_in _ _ (in_26 _ (List.mem_of_getElem? (i := 1) rfl)))) (fun _ h9 => h9) (th_v0 hKp hI0 0 (Nat.le_of_ble_eq_true rfl) rfl (Nat.le_of_ble_eq_true rfl) rfl rfl) dX13_isDigit_16 ?_
    refine lv_aload_n hx hb dX13_isDigit_19 rfl (lv_at hl 0 rfl) ?_
    refine th_get (ci := 14) (C := RX13) (T := TX13) (N := 97) (v := .int (xi (E 0) 21)) hx hb hts hinX13 hown hK hP hI 0 (Nat.le_of_ble_eq_true rfl) rfl rfl 21 (Nat.le_of_ble_eq_true rfl) (hts _ (vA_in _ _ (in_25 _ (List.mem_of_getElem? (i := 36) rfl)))) (fun _ h9 => h9) (th_v0 hKp hI0 0 (Nat.le_of_ble_eq_true rfl) rfl (Nat.le_of_ble_eq_true rfl) rfl rfl) dX13_isDigit_20 ?_
    refine lv_iadd hx hb dX13_isDigit_23 ?_
    refine lv_topi (fun y9 ey9 => ?_)
    obtain ⟨ty9, iy9⟩ := ti_add (e := 0) (f := 3199) i8 i6 ey9 (by decide)
    have ty9 : y9.toInt = (xi (E 0) 19).toInt + (xi (E 0) 21).toInt := ty9
    have iy9 : 0 ≤ y9.toInt ∧ y9.toInt ≤ 3199 := iy9
    have n11 : vp_in y9 nl := (vp_in_iff.mpr ⟨by omega, by omega⟩)
    refine th_bald hx hb hK hP hI k hh0 hh1 rfl n11 dX13_isDigit_24 (fun y10 ey10 => ?_)
    have iy10 : -128 ≤ y10.toInt ∧ y10.toInt ≤ 127 := hI.el k hh0 hh1 n11 hh2 ey10
    refine lv_bipush (v := 48) hx hb dX13_isDigit_25 (by decide) ?_
    refine lv_icmp_lt (tgt := 53) hx hb dX13_isDigit_27 (by decide) (fun c12 => ?_) (fun c12 => ?_)
    · --27 taken
      have t13 : y10.toInt < 48 := ti_lt c12
      have i14 : -128 ≤ y10.toInt ∧ y10.toInt ≤ 47 := iv_lt_l t13 iy10 (il_ 48) (by decide)
      refine lv_iconst (v := 0) hx hb dX13_isDigit_53 (by decide) ?_
      rw [hQ]
      exact W.zret (v := 0) hx hb hr rfl (fun t ht hW => ⟨⟨0, (), rfl, Or.inr (rfl), trivial⟩, hS.F ht⟩) hS.2.2 dX13_isDigit_54
    · --27 not
      have t15 : (48 : Int) ≤ y10.toInt := ti_nlt c12
      have i16 : 48 ≤ y10.toInt ∧ y10.toInt ≤ 127 := iv_le_r t15 (il_ 48) iy10 (by decide)
      refine lv_aload_n hx hb dX13_isDigit_30 rfl (lv_at hl 0 rfl) ?_
      refine th_get (ci := 14) (C := RX13) (T := TX13) (N := 97) (v := .ref (ad k)) hx hb hts hinX13 hown hK hP hI 0 (Nat.le_of_ble_eq_true rfl) rfl rfl 18 (Nat.le_of_ble_eq_true rfl) (hts _ (vA_in _ _ (in_26 _ (List.mem_of_getElem? (i := 0) rfl)))) (fun _ h9 => h9) ((hKp 0 18 rfl).trans hh3) dX13_isDigit_31 ?_
      refine lv_aload_n hx hb dX13_isDigit_34 rfl (lv_at hl 0 rfl) ?_
      refine th_get (ci := 14) (C := RX13) (T := TX13) (N := 97) (v := .int (xi (E 0) 19)) hx hb hts hinX13 hown hK hP hI 0 (Nat.le_of_ble_eq_true rfl) rfl rfl 19 (Nat.le_of_ble_eq_true rfl) (hts _ (vA_in _ _ (in_26 _ (List.mem_of_getElem? (i := 1) rfl)))) (fun _ h9 => h9) (th_v0 hKp hI0 0 (Nat.le_of_ble_eq_true rfl) rfl (Nat.le_of_ble_eq_true rfl) rfl rfl) dX13_isDigit_35 ?_
      refine lv_aload_n hx hb dX13_isDigit_38 rfl (lv_at hl 0 rfl) ?_
      refine th_get (ci := 14) (C := RX13) (T := TX13) (N := 97) (v := .int (xi (E 0) 21)) hx hb hts hinX13 hown hK hP hI 0 (Nat.le_of_ble_eq_true rfl) rfl rfl 21 (Nat.le_of_ble_eq_true rfl) (hts _ (vA_in _ _ (in_25 _ (List.mem_of_getElem? (i := 36) rfl)))) (fun _ h9 => h9) (th_v0 hKp hI0 0 (Nat.le_of_ble_eq_true rfl) rfl (Nat.le_of_ble_eq_true rfl) rfl rfl) dX13_isDigit_39 ?_
      refine lv_iadd hx hb dX13_isDigit_42 ?_
      refine lv_topi (fun y17 ey17 => ?_)
      obtain ⟨ty17, iy17⟩ := ti_add (e := 0) (f := 3199) i8 i6 ey17 (by decide)
      have ty17 : y17.toInt = (xi (E 0) 19).toInt + (xi (E 0) 21).toInt := ty17
      have iy17 : 0 ≤ y17.toInt ∧ y17.toInt ≤ 3199 := iy17
      have n19 : vp_in y17 nl := (vp_in_iff.mpr ⟨by omega, by omega⟩)
      refine th_bald hx hb hK hP hI k hh0 hh1 rfl n19 dX13_isDigit_43 (fun y18 ey18 => ?_)
      have iy18 : -128 ≤ y18.toInt ∧ y18.toInt ≤ 127 := hI.el k hh0 hh1 n19 hh2 ey18
      refine lv_bipush (v := 57) hx hb dX13_isDigit_44 (by decide) ?_
      refine lv_icmp_gt (tgt := 53) hx hb dX13_isDigit_46 (by decide) (fun c20 => ?_) (fun c20 => ?_)
      · --46 taken
        have t21 : (57 : Int) < y18.toInt := ti_lt c20
        have i22 : 58 ≤ y18.toInt ∧ y18.toInt ≤ 127 := iv_lt_r t21 (il_ 57) iy18 (by decide)
        refine lv_iconst (v := 0) hx hb dX13_isDigit_53 (by decide) ?_
        rw [hQ]
        exact W.zret (v := 0) hx hb hr rfl (fun t ht hW => ⟨⟨0, (), rfl, Or.inr (rfl), trivial⟩, hS.F ht⟩) hS.2.2 dX13_isDigit_54
      · --46 not
        have t23 : y18.toInt ≤ 57 := ti_nlt c20
        have i24 : -128 ≤ y18.toInt ∧ y18.toInt ≤ 57 := iv_le_l t23 iy18 (il_ 57) (by decide)
        refine lv_iconst (v := 1) hx hb dX13_isDigit_49 (by decide) ?_
        refine lv_goto (tgt := 54) hx hb dX13_isDigit_50 (by decide) ?_
        rw [hQ]
        exact W.zret (v := 1) hx hb hr rfl (fun t ht hW => ⟨⟨1, (), rfl, Or.inl ⟨rfl, by have h8 := ln_1; all_goals omega⟩, trivial⟩, hS.F ht⟩) hS.2.2 dX13_isDigit_54
def v_look : List Cond := .code yX13_look cX13_look 1 (some .int) :: vA
abbrev rm_look : Room := { frames := 0, cells := 0, slots := 0, locals := 0 }
def w_look : Nat → Nat → Bool := wl [] [(0, 21)]
set_option maxHeartbeats 4000000 in
set_option maxRecDepth 100000 in
theorem q_look (l : Launch) (dC : Nat → ClassId) (dI : Nat → Nat → Nat) (cT : Nat → ClassId) (ad : Nat → Nat) (E : Nat → va_E) (sz : Nat) (k : Nat) (nl : Nat) (hI0 : IX cT shM spM 72 ad E) (hh0 : k < 72) (hh1 : shM k = (1, 1, nl)) (hh2 : ∀ j, spM k j = (0, -128, 127)) (hh3 : xv (E 0) 18 = .ref (ad k)) (hh4 : (xi (E 0) 19).toInt + 200 ≤ (nl : Int)) : Met l yX13_look v_look rm_look (va_Pc [.ref (ad 0)] (HW dC dI (TYM cT) 72 ad E sz)) (va_Qi (S := Nat → va_E) (fun r u => IX cT shM spM 72 ad u ∧ Kp w_look E u ∧ ((-1 ≤ r.toInt ∧ r.toInt ≤ 255) ∧ ((xi (E 0) 21).toInt ≤ (xi (u 0) 21).toInt) ∧ (0 ≤ r.toInt → (xi (u 0) 21).toInt < (xi (E 0) 20).toInt))) (HB dC dI 72 ad) (va_A (WX 72 ad E) sz)) 0 0 (va_A (WX 72 ad E) sz) := by
  refine Met.ofW (cc := cX13_look) (maxL := 1) (ret := (some .int)) (by decide) rfl ?_
  intro p e s m args below meth c s₁ B hml hv
  obtain ⟨hargs, hsz, hP, hK, hD0, hEV⟩ := hv
  subst hsz
  have hx := B.exec
  have hb := B.bytes
  have hr := B.returns
  have hts := atoms_spec (ws := v_look) B.pre
  have hown : s.vm.findClass RX13 = some m.cls := findClass_of_methodNamed B.named
  have hlocks := B.notSynchronized
  have hinX13 : ∀ w ∈ u_ws RX13 TX13 97, w ∈ v_look := fun w h => vA_in _ w (in_X13 w h)
  generalize hAe : va_A (WX 72 ad E) s.heap.size = A at hEV ⊢
  have hA : ∀ q : Nat, s.heap.size ≤ q → A q := fun q h => by rw [← hAe]; exact Or.inr h
  have hD : va_D A (WX 72 ad E) := by rw [← hAe]; exact hD0.self
  have hS : va_S A s.heap s.heap [] := va_S.rf
  have hI := hI0
  have hKp : Kp w_look E E := Kp.rf
  have hl := lv_entry ([.ref (ad 0)]) (n := 1) (Nat.le_of_ble_eq_true rfl)
  obtain ⟨Q, hQ⟩ : ∃ Q, Q = MQ below (va_Qi (S := Nat → va_E) (fun r u => IX cT shM spM 72 ad u ∧ Kp w_look E u ∧ ((-1 ≤ r.toInt ∧ r.toInt ≤ 255) ∧ ((xi (E 0) 21).toInt ≤ (xi (u 0) 21).toInt) ∧ (0 ≤ r.toInt → (xi (u 0) 21).toInt < (xi (E 0) 20).toInt))) (HB dC dI 72 ad) (A)) args s 0 0 (A) := ⟨_, rfl⟩
  rw [← hQ, show entryFrame m args 1 = _ from (congrArg (fun z => entryFrame m z 1) hargs).trans (lg_entry_eq _ _ _)]
  generalize (lg_sl ([.ref (ad 0)]) ++ List.replicate (1 - (lg_sl ([.ref (ad 0)])).length) Slot.unset).toArray = ls at hl ⊢
  have hl : lv_has ls 1 [(0, .ref (ad 0))] := hl
  obtain ⟨y1, ey1⟩ : ∃ y, xi (E 0) 21 = y := ⟨_, rfl⟩
  have fy1 : xv (E 0) 21 = .int y1 := (hI.fi 0 (Nat.le_of_ble_eq_true rfl) rfl (Nat.le_of_ble_eq_true rfl) rfl).trans (congrArg Value.int ey1)
  have iy1 : 0 ≤ y1.toInt ∧ y1.toInt ≤ 200 := by rw [← ey1]; exact hI.iv 0 (Nat.le_of_ble_eq_true rfl) rfl (Nat.le_of_ble_eq_true rfl) rfl
  have hL0 : ∀ d : Nat, ∀ (w0_0_21 : Int32) (E0_ : Nat → va_E) (H : Heap) (locs : List Loc) (ls : Array Slot), 0 ≤ w0_0_21.toInt ∧ w0_0_21.toInt ≤ 200 → y1.toInt ≤ w0_0_21.toInt → 200 - w0_0_21.toInt < (d : Int) → IX cT shM spM 72 ad E0_ → Kp w_look E E0_ → xv (E0_ 0) 21 = .int w0_0_21 → va_P (dC, dI) vwCl (WX 72 ad E0_) H → va_S A s.heap H locs → lv_has ls 1 [(0, .ref (ad 0))] → W p l e (headSpec v_look rm_look).room s m args below meth c H locs 0 0 Q (F0 m 0 ls []) := by
    intro d
    induction d with
    | zero =>
      intro w0_0_21 E0_ H locs ls hw0_0_21 hx0_0 hx0_1 hI hKp hs0_0_21 hP hS hl
      exact absurd hx0_1 (by omega)
    | succ d ih0 =>
      intro w0_0_21 E0_ H locs ls hw0_0_21 hx0_0 hx0_1 hI hKp hs0_0_21 hP hS hl
      refine lv_aload_n hx hb dX13_look_0 rfl (lv_at hl 0 rfl) ?_
      refine th_get (ci := 14) (C := RX13) (T := TX13) (N := 97) (v := .int w0_0_21) hx hb hts hinX13 hown hK hP hI 0 (Nat.le_of_ble_eq_true rfl) rfl rfl 21 (Nat.le_of_ble_eq_true rfl) (hts _ (vA_in _ _ (in_25 _ (List.mem_of_getElem? (i := 36) rfl)))) (fun _ h9 => h9) hs0_0_21 dX13_look_1 ?_
      refine lv_aload_n hx hb dX13_look_4 rfl (lv_at hl 0 rfl) ?_
      have i2 : 0 ≤ (xi (E 0) 20).toInt ∧ (xi (E 0) 20).toInt ≤ 200 := hI0.iv 0 (Nat.le_of_ble_eq_true rfl) rfl (Nat.le_of_ble_eq_true rfl) rfl
      refine th_get (ci := 14) (C := RX13) (T := TX13) (N := 97) (v := .int (xi (E 0) 20)) hx hb hts hinX13 hown hK hP hI 0 (Nat.le_of_ble_eq_true rfl) rfl rfl 20 (Nat.le_of_ble_eq_true rfl) (hts _ (vA_in _ _ (in_26 _ (List.mem_of_getElem? (i := 6) rfl)))) (fun _ h9 => h9) (th_v0 hKp hI0 0 (Nat.le_of_ble_eq_true rfl) rfl (Nat.le_of_ble_eq_true rfl) rfl rfl) dX13_look_5 ?_
      have hJ43 : ∀ (H : Heap) (locs : List Loc) (ls : Array Slot), va_P (dC, dI) vwCl (WX 72 ad E0_) H → va_S A s.heap H locs → lv_has ls 1 [(0, .ref (ad 0))] → W p l e (headSpec v_look rm_look).room s m args below meth c H locs 0 0 Q (F0 m 43 ls []) := by
        intro H locs ls hP hS hl
        refine lv_aload_n hx hb dX13_look_43 rfl (lv_at hl 0 rfl) ?_
        refine th_get (ci := 14) (C := RX13) (T := TX13) (N := 97) (v := .int w0_0_21) hx hb hts hinX13 hown hK hP hI 0 (Nat.le_of_ble_eq_true rfl) rfl rfl 21 (Nat.le_of_ble_eq_true rfl) (hts _ (vA_in _ _ (in_25 _ (List.mem_of_getElem? (i := 36) rfl)))) (fun _ h9 => h9) hs0_0_21 dX13_look_44 ?_
        refine lv_aload_n hx hb dX13_look_47 rfl (lv_at hl 0 rfl) ?_
        refine th_get (ci := 14) (C := RX13) (T := TX13) (N := 97) (v := .int (xi (E 0) 20)) hx hb hts hinX13 hown hK hP hI 0 (Nat.le_of_ble_eq_true rfl) rfl rfl 20 (Nat.le_of_ble_eq_true rfl) (hts _ (vA_in _ _ (in_26 _ (List.mem_of_getElem? (i := 6) rfl)))) (fun _ h9 => h9) (th_v0 hKp hI0 0 (Nat.le_of_ble_eq_true rfl) rfl (Nat.le_of_ble_eq_true rfl) rfl rfl) dX13_look_48 ?_
        refine lv_icmp_ge (tgt := 75) hx hb dX13_look_51 (by decide) (fun c3 => ?_) (fun c3 => ?_)
        · --51 taken
          have t4 : (xi (E 0) 20).toInt ≤ w0_0_21.toInt := ti_le c3
          refine lv_iconst (v := -1) hx hb dX13_look_75 (by decide) ?_
          rw [hQ]
          exact W.iret (v := (-1)) hx hb hr (fun t ht hW => ⟨⟨(-1), E0_, rfl, ⟨hI, hKp, ⟨(iv_w ln_m1 (by decide)), by have h8 := ln_m1; (try rw [(show xi (E0_ 0) 21 = w0_0_21 from vi_e hs0_0_21)]); (try rw [ey1]); all_goals omega, by have h8 := ln_m1; (try rw [(show xi (E0_ 0) 21 = w0_0_21 from vi_e hs0_0_21)]); (try rw [ey1]); all_goals omega⟩⟩, by show va_P (dC, dI) vwCl (WX 72 ad E0_) t.heap; rw [ht]; exact hP⟩, hS.F ht⟩) hS.2.2 dX13_look_76
        · --51 not
          have t5 : w0_0_21.toInt < (xi (E 0) 20).toInt := ti_nle c3
          have i6 : 0 ≤ w0_0_21.toInt ∧ w0_0_21.toInt ≤ 199 := iv_lt_l t5 hw0_0_21 i2 (by decide)
          have i7 : 1 ≤ (xi (E 0) 20).toInt ∧ (xi (E 0) 20).toInt ≤ 200 := iv_lt_r t5 hw0_0_21 i2 (by decide)
          refine lv_aload_n hx hb dX13_look_54 rfl (lv_at hl 0 rfl) ?_
          refine th_get (ci := 14) (C := RX13) (T := TX13) (N := 97) (v := .ref (ad k)) hx hb hts hinX13 hown hK hP hI 0 (Nat.le_of_ble_eq_true rfl) rfl rfl 18 (Nat.le_of_ble_eq_true rfl) (hts _ (vA_in _ _ (in_26 _ (List.mem_of_getElem? (i := 0) rfl)))) (fun _ h9 => h9) ((hKp 0 18 rfl).trans hh3) dX13_look_55 ?_
          refine lv_aload_n hx hb dX13_look_58 rfl (lv_at hl 0 rfl) ?_
          have i8 : 0 ≤ (xi (E 0) 19).toInt ∧ (xi (E 0) 19).toInt ≤ 3000 := hI0.iv 0 (Nat.le_of_ble_eq_true rfl) rfl (Nat.le_of_ble_eq_true rfl) rfl
          refine th_get (ci := 14) (C := RX13) (T := TX13) (N := 97) (v := .int (xi (E 0) 19)) hx hb hts hinX13 hown hK hP hI 0 (Nat.le_of_ble_eq_true rfl) rfl rfl 19 (Nat.le_of_ble_eq_true rfl) (hts _ (vA_in _ _ (in_26 _ (List.mem_of_getElem? (i := 1) rfl)))) (fun _ h9 => h9) (th_v0 hKp hI0 0 (Nat.le_of_ble_eq_true rfl) rfl (Nat.le_of_ble_eq_true rfl) rfl rfl) dX13_look_59 ?_
          refine lv_aload_n hx hb dX13_look_62 rfl (lv_at hl 0 rfl) ?_
          refine th_get (ci := 14) (C := RX13) (T := TX13) (N := 97) (v := .int w0_0_21) hx hb hts hinX13 hown hK hP hI 0 (Nat.le_of_ble_eq_true rfl) rfl rfl 21 (Nat.le_of_ble_eq_true rfl) (hts _ (vA_in _ _ (in_25 _ (List.mem_of_getElem? (i := 36) rfl)))) (fun _ h9 => h9) hs0_0_21 dX13_look_63 ?_
          refine lv_iadd hx hb dX13_look_66 ?_
          refine lv_topi (fun y9 ey9 => ?_)
          obtain ⟨ty9, iy9⟩ := ti_add (e := 0) (f := 3199) i8 i6 ey9 (by decide)
          have ty9 : y9.toInt = (xi (E 0) 19).toInt + w0_0_21.toInt := ty9
          have iy9 : 0 ≤ y9.toInt ∧ y9.toInt ≤ 3199 := iy9
          have n11 : vp_in y9 nl := (vp_in_iff.mpr ⟨by omega, by omega⟩)
          refine th_bald hx hb hK hP hI k hh0 hh1 rfl n11 dX13_look_67 (fun y10 ey10 => ?_)
          have iy10 : -128 ≤ y10.toInt ∧ y10.toInt ≤ 127 := hI.el k hh0 hh1 n11 hh2 ey10
          refine lv_sipush (v := 255) hx hb dX13_look_68 (by decide) ?_
          refine lv_iand hx hb dX13_look_71 ?_
          refine lv_topi (fun y12 ey12 => ?_)
          have iy12 : 0 ≤ y12.toInt ∧ y12.toInt ≤ 255 := ti_and (by decide) ey12
          refine lv_goto (tgt := 76) hx hb dX13_look_72 (by decide) ?_
          rw [hQ]
          exact W.iret (v := y12) hx hb hr (fun t ht hW => ⟨⟨y12, E0_, rfl, ⟨hI, hKp, ⟨(iv_w iy12 (by decide)), by (try rw [(show xi (E0_ 0) 21 = w0_0_21 from vi_e hs0_0_21)]); (try rw [ey1]); all_goals omega, by (try rw [(show xi (E0_ 0) 21 = w0_0_21 from vi_e hs0_0_21)]); (try rw [ey1]); all_goals omega⟩⟩, by show va_P (dC, dI) vwCl (WX 72 ad E0_) t.heap; rw [ht]; exact hP⟩, hS.F ht⟩) hS.2.2 dX13_look_76
      refine lv_icmp_ge (tgt := 43) hx hb dX13_look_8 (by decide) (fun c13 => ?_) (fun c13 => ?_)
      · --8 taken
        have t14 : (xi (E 0) 20).toInt ≤ w0_0_21.toInt := ti_le c13
        exact hJ43 _ _ _ hP hS (lv_sub hl [0] rfl)
      · --8 not
        have t15 : w0_0_21.toInt < (xi (E 0) 20).toInt := ti_nle c13
        have i16 : 0 ≤ w0_0_21.toInt ∧ w0_0_21.toInt ≤ 199 := iv_lt_l t15 hw0_0_21 i2 (by decide)
        have i17 : 1 ≤ (xi (E 0) 20).toInt ∧ (xi (E 0) 20).toInt ≤ 200 := iv_lt_r t15 hw0_0_21 i2 (by decide)
        refine lv_aload_n hx hb dX13_look_11 rfl (lv_at hl 0 rfl) ?_
        refine th_get (ci := 14) (C := RX13) (T := TX13) (N := 97) (v := .ref (ad k)) hx hb hts hinX13 hown hK hP hI 0 (Nat.le_of_ble_eq_true rfl) rfl rfl 18 (Nat.le_of_ble_eq_true rfl) (hts _ (vA_in _ _ (in_26 _ (List.mem_of_getElem? (i := 0) rfl)))) (fun _ h9 => h9) ((hKp 0 18 rfl).trans hh3) dX13_look_12 ?_
        refine lv_aload_n hx hb dX13_look_15 rfl (lv_at hl 0 rfl) ?_
        have i18 : 0 ≤ (xi (E 0) 19).toInt ∧ (xi (E 0) 19).toInt ≤ 3000 := hI0.iv 0 (Nat.le_of_ble_eq_true rfl) rfl (Nat.le_of_ble_eq_true rfl) rfl
        refine th_get (ci := 14) (C := RX13) (T := TX13) (N := 97) (v := .int (xi (E 0) 19)) hx hb hts hinX13 hown hK hP hI 0 (Nat.le_of_ble_eq_true rfl) rfl rfl 19 (Nat.le_of_ble_eq_true rfl) (hts _ (vA_in _ _ (in_26 _ (List.mem_of_getElem? (i := 1) rfl)))) (fun _ h9 => h9) (th_v0 hKp hI0 0 (Nat.le_of_ble_eq_true rfl) rfl (Nat.le_of_ble_eq_true rfl) rfl rfl) dX13_look_16 ?_
        refine lv_aload_n hx hb dX13_look_19 rfl (lv_at hl 0 rfl) ?_
        refine th_get (ci := 14) (C := RX13) (T := TX13) (N := 97) (v := .int w0_0_21) hx hb hts hinX13 hown hK hP hI 0 (Nat.le_of_ble_eq_true rfl) rfl rfl 21 (Nat.le_of_ble_eq_true rfl) (hts _ (vA_in _ _ (in_25 _ (List.mem_of_getElem? (i := 36) rfl)))) (fun _ h9 => h9) hs0_0_21 dX13_look_20 ?_
        refine lv_iadd hx hb dX13_look_23 ?_
        refine lv_topi (fun y19 ey19 => ?_)
        obtain ⟨ty19, iy19⟩ := ti_add (e := 0) (f := 3199) i18 i16 ey19 (by decide)
        have ty19 : y19.toInt = (xi (E 0) 19).toInt + w0_0_21.toInt := ty19
        have iy19 : 0 ≤ y19.toInt ∧ y19.toInt ≤ 3199 := iy19
        have n21 : vp_in y19 nl := (vp_in_iff.mpr ⟨by omega, by omega⟩)
        refine th_bald hx hb hK hP hI k hh0 hh1 rfl n21 dX13_look_24 (fun y20 ey20 => ?_)
        have iy20 : -128 ≤ y20.toInt ∧ y20.toInt ≤ 127 := hI.el k hh0 hh1 n21 hh2 ey20
        refine lv_bipush (v := 32) hx hb dX13_look_25 (by decide) ?_
        refine lv_icmp_ne (tgt := 43) hx hb dX13_look_27 (by decide) (fun c22 => ?_) (fun c22 => ?_)
        · --27 taken
          have t23 : ¬ y20.toInt = 32 := ti_ne c22
          exact hJ43 _ _ _ hP hS (lv_sub hl [0] rfl)
        · --27 not
          have t24 : y20.toInt = 32 := ti_eq c22
          have i25 : 32 ≤ y20.toInt ∧ y20.toInt ≤ 32 := iv_eqi t24 iy20 (il_ 32) (by decide)
          refine lv_aload_n hx hb dX13_look_30 rfl (lv_at hl 0 rfl) ?_
          refine lv_dup hx hb dX13_look_31 rfl ?_
          refine th_get (ci := 14) (C := RX13) (T := TX13) (N := 97) (v := .int w0_0_21) hx hb hts hinX13 hown hK hP hI 0 (Nat.le_of_ble_eq_true rfl) rfl rfl 21 (Nat.le_of_ble_eq_true rfl) (hts _ (vA_in _ _ (in_25 _ (List.mem_of_getElem? (i := 36) rfl)))) (fun _ h9 => h9) hs0_0_21 dX13_look_32 ?_
          refine lv_iconst (v := 1) hx hb dX13_look_35 (by decide) ?_
          refine lv_iadd hx hb dX13_look_36 ?_
          refine lv_topi (fun y26 ey26 => ?_)
          obtain ⟨ty26, iy26⟩ := ti_add (e := 1) (f := 200) i16 ln_1 ey26 (by decide)
          have ty26 : y26.toInt = w0_0_21.toInt + 1 := ty26
          have iy26 : 1 ≤ y26.toInt ∧ y26.toInt ≤ 200 := iy26
          refine th_put (ci := 14) (C := RX13) (T := TX13) (N := 97) (v := .int y26) (ty := .int) hx hb hts hinX13 tyX13 tyX13_ok nmX13 hown hK hP (WX_D hD) hS hI 0 (Nat.le_of_ble_eq_true rfl) rfl rfl 21 (Nat.le_of_ble_eq_true rfl) (hts _ (vA_in _ _ (in_25 _ (List.mem_of_getElem? (i := 36) rfl)))) (fun _ h9 => h9) rfl (by decide +kernel) rfl rfl (okI rfl (iv_w iy26 (by decide))) dX13_look_37 (fun H locs E27 pw28 hI hP hS => ?_)
          have hKp := hKp.pw pw28 rfl
          refine lv_goto (tgt := 0) hx hb dX13_look_40 (by decide) ?_
          exact ih0 y26 E27 _ _ _ (iv_w iy26 (by decide)) (by omega) (by omega) hI hKp pw28.1 hP hS (lv_sub hl [0] rfl)
  exact hL0 (201) y1 E _ _ _ iy1 (by omega) (by have h9 := iy1; omega) hI hKp fy1 hP hS (lv_sub hl [0] rfl)
def v_stop : List Cond := .code yX13_stop cX13_stop 1 (some .boolean) :: vA
abbrev rm_stop : Room := { frames := 0, cells := 0, slots := 0, locals := 0 }
def w_stop : Nat → Nat → Bool := wl [] [(0, 22)]
set_option maxHeartbeats 4000000 in
set_option maxRecDepth 100000 in
theorem q_stop (l : Launch) (dC : Nat → ClassId) (dI : Nat → Nat → Nat) (cT : Nat → ClassId) (ad : Nat → Nat) (E : Nat → va_E) (sz : Nat)  (hI0 : IX cT shM spM 72 ad E)  : Met l yX13_stop v_stop rm_stop (va_Pc [.ref (ad 0)] (HW dC dI (TYM cT) 72 ad E sz)) (va_Qi (S := Nat → va_E) (fun r u => IX cT shM spM 72 ad u ∧ Kp w_stop E u ∧ (r = 0 ∧ (¬ (xi (u 0) 22).toInt = -1))) (HB dC dI 72 ad) (va_A (WX 72 ad E) sz)) 0 0 (va_A (WX 72 ad E) sz) := by
  refine Met.ofW (cc := cX13_stop) (maxL := 1) (ret := (some .boolean)) (by decide) rfl ?_
  intro p e s m args below meth c s₁ B hml hv
  obtain ⟨hargs, hsz, hP, hK, hD0, hEV⟩ := hv
  subst hsz
  have hx := B.exec
  have hb := B.bytes
  have hr := B.returns
  have hts := atoms_spec (ws := v_stop) B.pre
  have hown : s.vm.findClass RX13 = some m.cls := findClass_of_methodNamed B.named
  have hlocks := B.notSynchronized
  have hinX13 : ∀ w ∈ u_ws RX13 TX13 97, w ∈ v_stop := fun w h => vA_in _ w (in_X13 w h)
  generalize hAe : va_A (WX 72 ad E) s.heap.size = A at hEV ⊢
  have hA : ∀ q : Nat, s.heap.size ≤ q → A q := fun q h => by rw [← hAe]; exact Or.inr h
  have hD : va_D A (WX 72 ad E) := by rw [← hAe]; exact hD0.self
  have hS : va_S A s.heap s.heap [] := va_S.rf
  have hI := hI0
  have hKp : Kp w_stop E E := Kp.rf
  have hl := lv_entry ([.ref (ad 0)]) (n := 1) (Nat.le_of_ble_eq_true rfl)
  obtain ⟨Q, hQ⟩ : ∃ Q, Q = MQ below (va_Qi (S := Nat → va_E) (fun r u => IX cT shM spM 72 ad u ∧ Kp w_stop E u ∧ (r = 0 ∧ (¬ (xi (u 0) 22).toInt = -1))) (HB dC dI 72 ad) (A)) args s 0 0 (A) := ⟨_, rfl⟩
  rw [← hQ, show entryFrame m args 1 = _ from (congrArg (fun z => entryFrame m z 1) hargs).trans (lg_entry_eq _ _ _)]
  generalize (lg_sl ([.ref (ad 0)]) ++ List.replicate (1 - (lg_sl ([.ref (ad 0)])).length) Slot.unset).toArray = ls at hl ⊢
  have hl : lv_has ls 1 [(0, .ref (ad 0))] := hl
  have i1 : 0 ≤ (xi (E 0) 21).toInt ∧ (xi (E 0) 21).toInt ≤ 200 := (show 0 ≤ (xi (E 0) 21).toInt ∧ (xi (E 0) 21).toInt ≤ 200 from hI0.iv 0 (Nat.le_of_ble_eq_true rfl) rfl (Nat.le_of_ble_eq_true rfl) rfl)
  obtain ⟨y2, ey2⟩ : ∃ y, xi (E 0) 22 = y := ⟨_, rfl⟩
  have fy2 : xv (E 0) 22 = .int y2 := (hI.fi 0 (Nat.le_of_ble_eq_true rfl) rfl (Nat.le_of_ble_eq_true rfl) rfl).trans (congrArg Value.int ey2)
  have iy2 : -1 ≤ y2.toInt ∧ y2.toInt ≤ 200 := by rw [← ey2]; exact hI.iv 0 (Nat.le_of_ble_eq_true rfl) rfl (Nat.le_of_ble_eq_true rfl) rfl
  refine lv_aload_n hx hb dX13_stop_0 rfl (lv_at hl 0 rfl) ?_
  refine th_get (ci := 14) (C := RX13) (T := TX13) (N := 97) (v := .int y2) hx hb hts hinX13 hown hK hP hI 0 (Nat.le_of_ble_eq_true rfl) rfl rfl 22 (Nat.le_of_ble_eq_true rfl) (hts _ (vA_in _ _ (in_25 _ (List.mem_of_getElem? (i := 39) rfl)))) (fun _ h9 => h9) fy2 dX13_stop_1 ?_
  refine lv_iconst (v := -1) hx hb dX13_stop_4 (by decide) ?_
  refine lv_icmp_ne (tgt := 16) hx hb dX13_stop_5 (by decide) (fun c3 => ?_) (fun c3 => ?_)
  · --5 taken
    have t4 : ¬ y2.toInt = -1 := ti_ne c3
    have i5 : 0 ≤ y2.toInt ∧ y2.toInt ≤ 200 := iv_ne_l t4 iy2 (il_ (-1))
    refine lv_iconst (v := 0) hx hb dX13_stop_16 (by decide) ?_
    rw [hQ]
    exact W.zret (v := 0) hx hb hr rfl (fun t ht hW => ⟨⟨0, E, rfl, ⟨hI, hKp, ⟨rfl, by have h8 := ln_0; (try rw [(show xi (E 0) 22 = y2 from vi_e fy2)]); (try rw [ey2]); all_goals omega⟩⟩, by show va_P (dC, dI) vwCl (WX 72 ad E) t.heap; rw [ht]; exact hP⟩, hS.F ht⟩) hS.2.2 dX13_stop_17
  · --5 not
    have t6 : y2.toInt = -1 := ti_eq c3
    have i7 : -1 ≤ y2.toInt ∧ y2.toInt ≤ -1 := iv_eqi t6 iy2 (il_ (-1)) (by decide)
    refine lv_aload_n hx hb dX13_stop_8 rfl (lv_at hl 0 rfl) ?_
    refine lv_aload_n hx hb dX13_stop_9 rfl (lv_at hl 0 rfl) ?_
    refine th_get (ci := 14) (C := RX13) (T := TX13) (N := 97) (v := .int (xi (E 0) 21)) hx hb hts hinX13 hown hK hP hI 0 (Nat.le_of_ble_eq_true rfl) rfl rfl 21 (Nat.le_of_ble_eq_true rfl) (hts _ (vA_in _ _ (in_25 _ (List.mem_of_getElem? (i := 36) rfl)))) (fun _ h9 => h9) (th_v0 hKp hI0 0 (Nat.le_of_ble_eq_true rfl) rfl (Nat.le_of_ble_eq_true rfl) rfl rfl) dX13_stop_10 ?_
    refine th_put (ci := 14) (C := RX13) (T := TX13) (N := 97) (v := .int (xi (E 0) 21)) (ty := .int) hx hb hts hinX13 tyX13 tyX13_ok nmX13 hown hK hP (WX_D hD) hS hI 0 (Nat.le_of_ble_eq_true rfl) rfl rfl 22 (Nat.le_of_ble_eq_true rfl) (hts _ (vA_in _ _ (in_25 _ (List.mem_of_getElem? (i := 39) rfl)))) (fun _ h9 => h9) rfl (by decide +kernel) rfl rfl (okI rfl (iv_w i1 (by decide))) dX13_stop_13 (fun H locs E8 pw9 hI hP hS => ?_)
    have hKp := hKp.pw pw9 rfl
    refine lv_iconst (v := 0) hx hb dX13_stop_16 (by decide) ?_
    rw [hQ]
    exact W.zret (v := 0) hx hb hr rfl (fun t ht hW => ⟨⟨0, E8, rfl, ⟨hI, hKp, ⟨rfl, by have h8 := ln_0; (try rw [(show xi (E8 0) 22 = (xi (E 0) 21) from vi_e pw9.1)]); (try rw [ey2]); all_goals omega⟩⟩, by show va_P (dC, dI) vwCl (WX 72 ad E8) t.heap; rw [ht]; exact hP⟩, hS.F ht⟩) hS.2.2 dX13_stop_17
def v_goesIn : List Cond := .code yX13_goesIn cX13_goesIn 1 (some .boolean) :: vA
abbrev rm_goesIn : Room := { frames := 1, cells := 0, slots := 0, locals := 40 }
def w_goesIn : Nat → Nat → Bool := wl [] [(0, 21), (0, 22), (0, 23)]
set_option maxHeartbeats 4000000 in
set_option maxRecDepth 100000 in
theorem q_goesIn (l : Launch) (dC : Nat → ClassId) (dI : Nat → Nat → Nat) (cT : Nat → ClassId) (ad : Nat → Nat) (E : Nat → va_E) (sz : Nat)  (hI0 : IX cT shM spM 72 ad E) (hh0 : (xi (E 0) 21).toInt < 200) : Met l yX13_goesIn v_goesIn rm_goesIn (va_Pc [.ref (ad 0)] (HW dC dI (TYM cT) 72 ad E sz)) (va_Qi (S := Nat → va_E) (fun r u => IX cT shM spM 72 ad u ∧ Kp w_goesIn E u ∧ ((r = 1 ∧ ((xi (u 0) 21).toInt = (xi (E 0) 21).toInt + 1) ∧ ((xi (u 0) 23).toInt = (xi (E 0) 23).toInt + 1) ∧ ((xi (u 0) 22).toInt = (xi (E 0) 22).toInt) ∧ ((xi (E 0) 23).toInt < 8)) ∨ (r = 0 ∧ ((xi (u 0) 21).toInt = (xi (E 0) 21).toInt) ∧ ((xi (u 0) 23).toInt = (xi (E 0) 23).toInt) ∧ (¬ (xi (u 0) 22).toInt = -1)))) (HB dC dI 72 ad) (va_A (WX 72 ad E) sz)) 0 0 (va_A (WX 72 ad E) sz) := by
  refine Met.ofW (cc := cX13_goesIn) (maxL := 1) (ret := (some .boolean)) (by decide) rfl ?_
  intro p e s m args below meth c s₁ B hml hv
  obtain ⟨hargs, hsz, hP, hK, hD0, hEV⟩ := hv
  subst hsz
  have hx := B.exec
  have hb := B.bytes
  have hr := B.returns
  have hts := atoms_spec (ws := v_goesIn) B.pre
  have hown : s.vm.findClass RX13 = some m.cls := findClass_of_methodNamed B.named
  have hlocks := B.notSynchronized
  have hinX13 : ∀ w ∈ u_ws RX13 TX13 97, w ∈ v_goesIn := fun w h => vA_in _ w (in_X13 w h)
  generalize hAe : va_A (WX 72 ad E) s.heap.size = A at hEV ⊢
  have hA : ∀ q : Nat, s.heap.size ≤ q → A q := fun q h => by rw [← hAe]; exact Or.inr h
  have hD : va_D A (WX 72 ad E) := by rw [← hAe]; exact hD0.self
  have hS : va_S A s.heap s.heap [] := va_S.rf
  have hI := hI0
  have hKp : Kp w_goesIn E E := Kp.rf
  have hl := lv_entry ([.ref (ad 0)]) (n := 1) (Nat.le_of_ble_eq_true rfl)
  obtain ⟨Q, hQ⟩ : ∃ Q, Q = MQ below (va_Qi (S := Nat → va_E) (fun r u => IX cT shM spM 72 ad u ∧ Kp w_goesIn E u ∧ ((r = 1 ∧ ((xi (u 0) 21).toInt = (xi (E 0) 21).toInt + 1) ∧ ((xi (u 0) 23).toInt = (xi (E 0) 23).toInt + 1) ∧ ((xi (u 0) 22).toInt = (xi (E 0) 22).toInt) ∧ ((xi (E 0) 23).toInt < 8)) ∨ (r = 0 ∧ ((xi (u 0) 21).toInt = (xi (E 0) 21).toInt) ∧ ((xi (u 0) 23).toInt = (xi (E 0) 23).toInt) ∧ (¬ (xi (u 0) 22).toInt = -1)))) (HB dC dI 72 ad) (A)) args s 0 0 (A) := ⟨_, rfl⟩
  rw [← hQ, show entryFrame m args 1 = _ from (congrArg (fun z => entryFrame m z 1) hargs).trans (lg_entry_eq _ _ _)]
  generalize (lg_sl ([.ref (ad 0)]) ++ List.replicate (1 - (lg_sl ([.ref (ad 0)])).length) Slot.unset).toArray = ls at hl ⊢
  have hl : lv_has ls 1 [(0, .ref (ad 0))] := hl
  obtain ⟨y1, ey1⟩ : ∃ y, xi (E 0) 21 = y := ⟨_, rfl⟩
  have fy1 : xv (E 0) 21 = .int y1 := (hI.fi 0 (Nat.le_of_ble_eq_true rfl) rfl (Nat.le_of_ble_eq_true rfl) rfl).trans (congrArg Value.int ey1)
  have iy1 : 0 ≤ y1.toInt ∧ y1.toInt ≤ 200 := by rw [← ey1]; exact hI.iv 0 (Nat.le_of_ble_eq_true rfl) rfl (Nat.le_of_ble_eq_true rfl) rfl
  rw [ey1] at hh0
  obtain ⟨y2, ey2⟩ : ∃ y, xi (E 0) 22 = y := ⟨_, rfl⟩
  have fy2 : xv (E 0) 22 = .int y2 := (hI.fi 0 (Nat.le_of_ble_eq_true rfl) rfl (Nat.le_of_ble_eq_true rfl) rfl).trans (congrArg Value.int ey2)
  have iy2 : -1 ≤ y2.toInt ∧ y2.toInt ≤ 200 := by rw [← ey2]; exact hI.iv 0 (Nat.le_of_ble_eq_true rfl) rfl (Nat.le_of_ble_eq_true rfl) rfl
  obtain ⟨y3, ey3⟩ : ∃ y, xi (E 0) 23 = y := ⟨_, rfl⟩
  have fy3 : xv (E 0) 23 = .int y3 := (hI.fi 0 (Nat.le_of_ble_eq_true rfl) rfl (Nat.le_of_ble_eq_true rfl) rfl).trans (congrArg Value.int ey3)
  have iy3 : 0 ≤ y3.toInt ∧ y3.toInt ≤ 8 := by rw [← ey3]; exact hI.iv 0 (Nat.le_of_ble_eq_true rfl) rfl (Nat.le_of_ble_eq_true rfl) rfl
  refine lv_aload_n hx hb dX13_goesIn_0 rfl (lv_at hl 0 rfl) ?_
  refine th_get (ci := 14) (C := RX13) (T := TX13) (N := 97) (v := .int y3) hx hb hts hinX13 hown hK hP hI 0 (Nat.le_of_ble_eq_true rfl) rfl rfl 23 (Nat.le_of_ble_eq_true rfl) (hts _ (vA_in _ _ (in_25 _ (List.mem_of_getElem? (i := 38) rfl)))) (fun _ h9 => h9) fy3 dX13_goesIn_1 ?_
  refine lv_bipush (v := 8) hx hb dX13_goesIn_4 (by decide) ?_
  refine lv_icmp_ne (tgt := 14) hx hb dX13_goesIn_6 (by decide) (fun c4 => ?_) (fun c4 => ?_)
  · --6 taken
    have t5 : ¬ y3.toInt = 8 := ti_ne c4
    have i6 : 0 ≤ y3.toInt ∧ y3.toInt ≤ 7 := iv_ne_r t5 iy3 (il_ 8)
    refine lv_aload_n hx hb dX13_goesIn_14 rfl (lv_at hl 0 rfl) ?_
    refine lv_dup hx hb dX13_goesIn_15 rfl ?_
    refine th_get (ci := 14) (C := RX13) (T := TX13) (N := 97) (v := .int y3) hx hb hts hinX13 hown hK hP hI 0 (Nat.le_of_ble_eq_true rfl) rfl rfl 23 (Nat.le_of_ble_eq_true rfl) (hts _ (vA_in _ _ (in_25 _ (List.mem_of_getElem? (i := 38) rfl)))) (fun _ h9 => h9) fy3 dX13_goesIn_16 ?_
    refine lv_iconst (v := 1) hx hb dX13_goesIn_19 (by decide) ?_
    refine lv_iadd hx hb dX13_goesIn_20 ?_
    refine lv_topi (fun y7 ey7 => ?_)
    obtain ⟨ty7, iy7⟩ := ti_add (e := 1) (f := 8) i6 ln_1 ey7 (by decide)
    have ty7 : y7.toInt = y3.toInt + 1 := ty7
    have iy7 : 1 ≤ y7.toInt ∧ y7.toInt ≤ 8 := iy7
    refine th_put (ci := 14) (C := RX13) (T := TX13) (N := 97) (v := .int y7) (ty := .int) hx hb hts hinX13 tyX13 tyX13_ok nmX13 hown hK hP (WX_D hD) hS hI 0 (Nat.le_of_ble_eq_true rfl) rfl rfl 23 (Nat.le_of_ble_eq_true rfl) (hts _ (vA_in _ _ (in_25 _ (List.mem_of_getElem? (i := 38) rfl)))) (fun _ h9 => h9) rfl (by decide +kernel) rfl rfl (okI rfl (iv_w iy7 (by decide))) dX13_goesIn_21 (fun H locs E8 pw9 hI hP hS => ?_)
    have hKp := hKp.pw pw9 rfl
    refine lv_aload_n hx hb dX13_goesIn_24 rfl (lv_at hl 0 rfl) ?_
    refine lv_dup hx hb dX13_goesIn_25 rfl ?_
    refine th_get (ci := 14) (C := RX13) (T := TX13) (N := 97) (v := .int y1) hx hb hts hinX13 hown hK hP hI 0 (Nat.le_of_ble_eq_true rfl) rfl rfl 21 (Nat.le_of_ble_eq_true rfl) (hts _ (vA_in _ _ (in_25 _ (List.mem_of_getElem? (i := 36) rfl)))) (fun _ h9 => h9) ((pw9.2 0 21 (fun q9 => absurd q9.2 (Nat.ne_of_beq_eq_false rfl))).trans fy1) dX13_goesIn_26 ?_
    refine lv_iconst (v := 1) hx hb dX13_goesIn_29 (by decide) ?_
    refine lv_iadd hx hb dX13_goesIn_30 ?_
    refine lv_topi (fun y10 ey10 => ?_)
    obtain ⟨ty10, iy10⟩ := ti_add (e := 1) (f := 201) iy1 ln_1 ey10 (by decide)
    have ty10 : y10.toInt = y1.toInt + 1 := ty10
    have iy10 : 1 ≤ y10.toInt ∧ y10.toInt ≤ 201 := iy10
    refine th_put (ci := 14) (C := RX13) (T := TX13) (N := 97) (v := .int y10) (ty := .int) hx hb hts hinX13 tyX13 tyX13_ok nmX13 hown hK hP (WX_D hD) hS hI 0 (Nat.le_of_ble_eq_true rfl) rfl rfl 21 (Nat.le_of_ble_eq_true rfl) (hts _ (vA_in _ _ (in_25 _ (List.mem_of_getElem? (i := 36) rfl)))) (fun _ h9 => h9) rfl (by decide +kernel) rfl rfl (okI rfl (by omega)) dX13_goesIn_31 (fun H locs E11 pw12 hI hP hS => ?_)
    have hKp := hKp.pw pw12 rfl
    refine lv_iconst (v := 1) hx hb dX13_goesIn_34 (by decide) ?_
    rw [hQ]
    exact W.zret (v := 1) hx hb hr rfl (fun t ht hW => ⟨⟨1, E11, rfl, ⟨hI, hKp, Or.inl ⟨rfl, by have h8 := ln_1; (try rw [(show xi (E11 0) 21 = y10 from vi_e pw12.1)]); (try rw [(show xi (E11 0) 22 = y2 from vi_e ((pw12.2 0 22 (fun q9 => absurd q9.2 (Nat.ne_of_beq_eq_false rfl))).trans ((pw9.2 0 22 (fun q9 => absurd q9.2 (Nat.ne_of_beq_eq_false rfl))).trans fy2)))]); (try rw [(show xi (E11 0) 23 = y7 from vi_e ((pw12.2 0 23 (fun q9 => absurd q9.2 (Nat.ne_of_beq_eq_false rfl))).trans pw9.1))]); (try rw [ey1]); (try rw [ey2]); (try rw [ey3]); all_goals omega, by have h8 := ln_1; (try rw [(show xi (E11 0) 21 = y10 from vi_e pw12.1)]); (try rw [(show xi (E11 0) 22 = y2 from vi_e ((pw12.2 0 22 (fun q9 => absurd q9.2 (Nat.ne_of_beq_eq_false rfl))).trans ((pw9.2 0 22 (fun q9 => absurd q9.2 (Nat.ne_of_beq_eq_false rfl))).trans fy2)))]); (try rw [(show xi (E11 0) 23 = y7 from vi_e ((pw12.2 0 23 (fun q9 => absurd q9.2 (Nat.ne_of_beq_eq_false rfl))).trans pw9.1))]); (try rw [ey1]); (try rw [ey2]); (try rw [ey3]); all_goals omega, by have h8 := ln_1; (try rw [(show xi (E11 0) 21 = y10 from vi_e pw12.1)]); (try rw [(show xi (E11 0) 22 = y2 from vi_e ((pw12.2 0 22 (fun q9 => absurd q9.2 (Nat.ne_of_beq_eq_false rfl))).trans ((pw9.2 0 22 (fun q9 => absurd q9.2 (Nat.ne_of_beq_eq_false rfl))).trans fy2)))]); (try rw [(show xi (E11 0) 23 = y7 from vi_e ((pw12.2 0 23 (fun q9 => absurd q9.2 (Nat.ne_of_beq_eq_false rfl))).trans pw9.1))]); (try rw [ey1]); (try rw [ey2]); (try rw [ey3]); all_goals omega, by have h8 := ln_1; (try rw [(show xi (E11 0) 21 = y10 from vi_e pw12.1)]); (try rw [(show xi (E11 0) 22 = y2 from vi_e ((pw12.2 0 22 (fun q9 => absurd q9.2 (Nat.ne_of_beq_eq_false rfl))).trans ((pw9.2 0 22 (fun q9 => absurd q9.2 (Nat.ne_of_beq_eq_false rfl))).trans fy2)))]); (try rw [(show xi (E11 0) 23 = y7 from vi_e ((pw12.2 0 23 (fun q9 => absurd q9.2 (Nat.ne_of_beq_eq_false rfl))).trans pw9.1))]); (try rw [ey1]); (try rw [ey2]); (try rw [ey3]); all_goals omega⟩⟩, by show va_P (dC, dI) vwCl (WX 72 ad E11) t.heap; rw [ht]; exact hP⟩, hS.F ht⟩) hS.2.2 dX13_goesIn_35
  · --6 not
    have t13 : y3.toInt = 8 := ti_eq c4
    have i14 : 8 ≤ y3.toInt ∧ y3.toInt ≤ 8 := iv_eqi t13 iy3 (il_ 8) (by decide)
    refine lv_aload_n hx hb dX13_goesIn_9 rfl (lv_at hl 0 rfl) ?_
    refine th_i (va_runV (As := []) (rest := []) ⟨hx, hb, hml, hown, hts⟩ (q_stop l dC dI cT ad E s.heap.size hI) (cwV 0 hts (gi_V (in_26 _ (List.mem_of_getElem? (i := 12) rfl)) (in_26 _ (List.mem_of_getElem? (i := 13) rfl)) (in_26 _ (List.mem_of_getElem? (i := 14) rfl)) (in_24 _ (List.mem_of_getElem? (i := 15) rfl)) (in_26 _ (List.mem_of_getElem? (i := 15) rfl))) rfl rfl rfl (by decide +kernel) ⟨Nat.le_of_ble_eq_true rfl, Nat.le_of_ble_eq_true rfl⟩) ⟨HW_bl, va_recv hK hP (ci := 14) (q0 := 0) rfl (hI.ob 0 (Nat.le_of_ble_eq_true rfl) rfl), (HW_wi hP hK (WX_D hD) hS hA hEV)⟩ rfl rfl hl.1 rfl (lv_room (Nat.le_of_ble_eq_true rfl)) dX13_goesIn_10 ⟨Nat.le_of_ble_eq_true rfl, Nat.le_of_ble_eq_true rfl⟩) (WX_D hD) hS hA (fun r15 E16 H locs hw hP hS => ?_)
    obtain ⟨hI, kq17, hw⟩ := hw
    have hKb := hKp
    have hKp := hKp.tr kq17 (wl_sub rfl rfl)
    obtain ⟨y18, ey18⟩ : ∃ y, xi (E16 0) 22 = y := ⟨_, rfl⟩
    have fy18 : xv (E16 0) 22 = .int y18 := (hI.fi 0 (Nat.le_of_ble_eq_true rfl) rfl (Nat.le_of_ble_eq_true rfl) rfl).trans (congrArg Value.int ey18)
    have iy18 : -1 ≤ y18.toInt ∧ y18.toInt ≤ 200 := by rw [← ey18]; exact hI.iv 0 (Nat.le_of_ble_eq_true rfl) rfl (Nat.le_of_ble_eq_true rfl) rfl
    obtain ⟨rfl, f19⟩ := hw
    try rw [(show xi (E 0) 21 = y1 from vi_e fy1)] at f19
    try rw [(show xi (E 0) 22 = y2 from vi_e fy2)] at f19
    try rw [(show xi (E16 0) 22 = y18 from vi_e fy18)] at f19
    rw [hQ]
    exact W.zret (v := 0) hx hb hr rfl (fun t ht hW => ⟨⟨0, E16, rfl, ⟨hI, hKp, Or.inr (⟨rfl, by have h8 := ln_0; (try rw [(show xi (E16 0) 21 = y1 from vi_e ((kq17 0 21 rfl).trans fy1))]); (try rw [(show xi (E16 0) 22 = y18 from vi_e fy18)]); (try rw [(show xi (E16 0) 23 = y3 from vi_e ((kq17 0 23 rfl).trans fy3))]); (try rw [ey1]); (try rw [ey2]); (try rw [ey3]); all_goals omega, by have h8 := ln_0; (try rw [(show xi (E16 0) 21 = y1 from vi_e ((kq17 0 21 rfl).trans fy1))]); (try rw [(show xi (E16 0) 22 = y18 from vi_e fy18)]); (try rw [(show xi (E16 0) 23 = y3 from vi_e ((kq17 0 23 rfl).trans fy3))]); (try rw [ey1]); (try rw [ey2]); (try rw [ey3]); all_goals omega, by have h8 := ln_0; (try rw [(show xi (E16 0) 21 = y1 from vi_e ((kq17 0 21 rfl).trans fy1))]); (try rw [(show xi (E16 0) 22 = y18 from vi_e fy18)]); (try rw [(show xi (E16 0) 23 = y3 from vi_e ((kq17 0 23 rfl).trans fy3))]); (try rw [ey1]); (try rw [ey2]); (try rw [ey3]); all_goals omega⟩)⟩, by show va_P (dC, dI) vwCl (WX 72 ad E16) t.heap; rw [ht]; exact hP⟩, hS.F ht⟩) hS.2.2 dX13_goesIn_13
def v_takes : List Cond := .code yX13_takes cX13_takes 2 (some .boolean) :: vA
abbrev rm_takes : Room := { frames := 1, cells := 0, slots := 0, locals := 40 }
def w_takes : Nat → Nat → Bool := wl [] [(0, 21), (0, 22)]
set_option maxHeartbeats 4000000 in
set_option maxRecDepth 100000 in
theorem q_takes (l : Launch) (dC : Nat → ClassId) (dI : Nat → Nat → Nat) (cT : Nat → ClassId) (ad : Nat → Nat) (E : Nat → va_E) (sz : Nat) (a0 : Int32) (k : Nat) (nl : Nat) (hI0 : IX cT shM spM 72 ad E) (hh0 : k < 72) (hh1 : shM k = (1, 1, nl)) (hh2 : ∀ j, spM k j = (0, -128, 127)) (hh3 : xv (E 0) 18 = .ref (ad k)) (hh4 : (xi (E 0) 19).toInt + 200 ≤ (nl : Int)) (hh5 : 0 ≤ a0.toInt ∧ a0.toInt ≤ 255) : Met l yX13_takes v_takes rm_takes (va_Pc [.ref (ad 0), .int a0] (HW dC dI (TYM cT) 72 ad E sz)) (va_Qi (S := Nat → va_E) (fun r u => IX cT shM spM 72 ad u ∧ Kp w_takes E u ∧ ((r = 1 ∧ ((xi (E 0) 21).toInt ≤ (xi (u 0) 21).toInt) ∧ ((xi (E 0) 22).toInt = -1) ∧ ((xi (u 0) 22).toInt = -1) ∧ ((xi (E 0) 21).toInt + 1 ≤ (xi (u 0) 21).toInt)) ∨ (r = 0 ∧ ((xi (E 0) 21).toInt ≤ (xi (u 0) 21).toInt) ∧ (¬ (xi (u 0) 22).toInt = -1)))) (HB dC dI 72 ad) (va_A (WX 72 ad E) sz)) 0 0 (va_A (WX 72 ad E) sz) := by
  refine Met.ofW (cc := cX13_takes) (maxL := 2) (ret := (some .boolean)) (by decide) rfl ?_
  intro p e s m args below meth c s₁ B hml hv
  obtain ⟨hargs, hsz, hP, hK, hD0, hEV⟩ := hv
  subst hsz
  have hx := B.exec
  have hb := B.bytes
  have hr := B.returns
  have hts := atoms_spec (ws := v_takes) B.pre
  have hown : s.vm.findClass RX13 = some m.cls := findClass_of_methodNamed B.named
  have hlocks := B.notSynchronized
  have hinX13 : ∀ w ∈ u_ws RX13 TX13 97, w ∈ v_takes := fun w h => vA_in _ w (in_X13 w h)
  generalize hAe : va_A (WX 72 ad E) s.heap.size = A at hEV ⊢
  have hA : ∀ q : Nat, s.heap.size ≤ q → A q := fun q h => by rw [← hAe]; exact Or.inr h
  have hD : va_D A (WX 72 ad E) := by rw [← hAe]; exact hD0.self
  have hS : va_S A s.heap s.heap [] := va_S.rf
  have hI := hI0
  have hKp : Kp w_takes E E := Kp.rf
  have hl := lv_entry ([.ref (ad 0), .int a0]) (n := 2) (Nat.le_of_ble_eq_true rfl)
  obtain ⟨Q, hQ⟩ : ∃ Q, Q = MQ below (va_Qi (S := Nat → va_E) (fun r u => IX cT shM spM 72 ad u ∧ Kp w_takes E u ∧ ((r = 1 ∧ ((xi (E 0) 21).toInt ≤ (xi (u 0) 21).toInt) ∧ ((xi (E 0) 22).toInt = -1) ∧ ((xi (u 0) 22).toInt = -1) ∧ ((xi (E 0) 21).toInt + 1 ≤ (xi (u 0) 21).toInt)) ∨ (r = 0 ∧ ((xi (E 0) 21).toInt ≤ (xi (u 0) 21).toInt) ∧ (¬ (xi (u 0) 22).toInt = -1)))) (HB dC dI 72 ad) (A)) args s 0 0 (A) := ⟨_, rfl⟩
  rw [← hQ, show entryFrame m args 2 = _ from (congrArg (fun z => entryFrame m z 2) hargs).trans (lg_entry_eq _ _ _)]
  generalize (lg_sl ([.ref (ad 0), .int a0]) ++ List.replicate (2 - (lg_sl ([.ref (ad 0), .int a0])).length) Slot.unset).toArray = ls at hl ⊢
  have hl : lv_has ls 2 [(0, .ref (ad 0)), (1, .int a0)] := hl
  obtain ⟨y1, ey1⟩ : ∃ y, xi (E 0) 21 = y := ⟨_, rfl⟩
  have fy1 : xv (E 0) 21 = .int y1 := (hI.fi 0 (Nat.le_of_ble_eq_true rfl) rfl (Nat.le_of_ble_eq_true rfl) rfl).trans (congrArg Value.int ey1)
  have iy1 : 0 ≤ y1.toInt ∧ y1.toInt ≤ 200 := by rw [← ey1]; exact hI.iv 0 (Nat.le_of_ble_eq_true rfl) rfl (Nat.le_of_ble_eq_true rfl) rfl
  obtain ⟨y2, ey2⟩ : ∃ y, xi (E 0) 22 = y := ⟨_, rfl⟩
  have fy2 : xv (E 0) 22 = .int y2 := (hI.fi 0 (Nat.le_of_ble_eq_true rfl) rfl (Nat.le_of_ble_eq_true rfl) rfl).trans (congrArg Value.int ey2)
  have iy2 : -1 ≤ y2.toInt ∧ y2.toInt ≤ 200 := by rw [← ey2]; exact hI.iv 0 (Nat.le_of_ble_eq_true rfl) rfl (Nat.le_of_ble_eq_true rfl) rfl
  refine lv_aload_n hx hb dX13_takes_0 rfl (lv_at hl 0 rfl) ?_
  refine th_get (ci := 14) (C := RX13) (T := TX13) (N := 97) (v := .int y2) hx hb hts hinX13 hown hK hP hI 0 (Nat.le_of_ble_eq_true rfl) rfl rfl 22 (Nat.le_of_ble_eq_true rfl) (hts _ (vA_in _ _ (in_25 _ (List.mem_of_getElem? (i := 39) rfl)))) (fun _ h9 => h9) fy2 dX13_takes_1 ?_
  refine lv_iconst (v := -1) hx hb dX13_takes_4 (by decide) ?_
  refine lv_icmp_ne (tgt := 16) hx hb dX13_takes_5 (by decide) (fun c3 => ?_) (fun c3 => ?_)
  · --5 taken
    have t4 : ¬ y2.toInt = -1 := ti_ne c3
    have i5 : 0 ≤ y2.toInt ∧ y2.toInt ≤ 200 := iv_ne_l t4 iy2 (il_ (-1))
    refine lv_aload_n hx hb dX13_takes_16 rfl (lv_at hl 0 rfl) ?_
    refine th_i (va_runV (As := []) (rest := []) ⟨hx, hb, hml, hown, hts⟩ (q_stop l dC dI cT ad E s.heap.size hI) (cwV 0 hts (gi_V (in_26 _ (List.mem_of_getElem? (i := 12) rfl)) (in_26 _ (List.mem_of_getElem? (i := 13) rfl)) (in_26 _ (List.mem_of_getElem? (i := 14) rfl)) (in_24 _ (List.mem_of_getElem? (i := 15) rfl)) (in_26 _ (List.mem_of_getElem? (i := 15) rfl))) rfl rfl rfl (by decide +kernel) ⟨Nat.le_of_ble_eq_true rfl, Nat.le_of_ble_eq_true rfl⟩) ⟨HW_bl, va_recv hK hP (ci := 14) (q0 := 0) rfl (hI.ob 0 (Nat.le_of_ble_eq_true rfl) rfl), (HW_wi hP hK (WX_D hD) hS hA hEV)⟩ rfl rfl hl.1 rfl (lv_room (Nat.le_of_ble_eq_true rfl)) dX13_takes_17 ⟨Nat.le_of_ble_eq_true rfl, Nat.le_of_ble_eq_true rfl⟩) (WX_D hD) hS hA (fun r6 E7 H locs hw hP hS => ?_)
    obtain ⟨hI, kq8, hw⟩ := hw
    have hKb := hKp
    have hKp := hKp.tr kq8 (wl_sub rfl rfl)
    obtain ⟨y9, ey9⟩ : ∃ y, xi (E7 0) 22 = y := ⟨_, rfl⟩
    have fy9 : xv (E7 0) 22 = .int y9 := (hI.fi 0 (Nat.le_of_ble_eq_true rfl) rfl (Nat.le_of_ble_eq_true rfl) rfl).trans (congrArg Value.int ey9)
    have iy9 : -1 ≤ y9.toInt ∧ y9.toInt ≤ 200 := by rw [← ey9]; exact hI.iv 0 (Nat.le_of_ble_eq_true rfl) rfl (Nat.le_of_ble_eq_true rfl) rfl
    obtain ⟨rfl, f10⟩ := hw
    try rw [(show xi (E 0) 21 = y1 from vi_e fy1)] at f10
    try rw [(show xi (E 0) 22 = y2 from vi_e fy2)] at f10
    try rw [(show xi (E7 0) 22 = y9 from vi_e fy9)] at f10
    rw [hQ]
    exact W.zret (v := 0) hx hb hr rfl (fun t ht hW => ⟨⟨0, E7, rfl, ⟨hI, hKp, Or.inr (⟨rfl, by have h8 := ln_0; (try rw [(show xi (E7 0) 21 = y1 from vi_e ((kq8 0 21 rfl).trans fy1))]); (try rw [(show xi (E7 0) 22 = y9 from vi_e fy9)]); (try rw [ey1]); (try rw [ey2]); all_goals omega, by have h8 := ln_0; (try rw [(show xi (E7 0) 21 = y1 from vi_e ((kq8 0 21 rfl).trans fy1))]); (try rw [(show xi (E7 0) 22 = y9 from vi_e fy9)]); (try rw [ey1]); (try rw [ey2]); all_goals omega⟩)⟩, by show va_P (dC, dI) vwCl (WX 72 ad E7) t.heap; rw [ht]; exact hP⟩, hS.F ht⟩) hS.2.2 dX13_takes_20
  · --5 not
    have t11 : y2.toInt = -1 := ti_eq c3
    have i12 : -1 ≤ y2.toInt ∧ y2.toInt ≤ -1 := iv_eqi t11 iy2 (il_ (-1)) (by decide)
    refine lv_aload_n hx hb dX13_takes_8 rfl (lv_at hl 0 rfl) ?_
    refine th_i (va_runV (As := []) (rest := []) ⟨hx, hb, hml, hown, hts⟩ (q_look l dC dI cT ad E s.heap.size k nl hI (by (try rw [(show xi (E 0) 21 = y1 from vi_e fy1)]); exact hh0) (by (try rw [(show xi (E 0) 21 = y1 from vi_e fy1)]); exact hh1) (by (try rw [(show xi (E 0) 21 = y1 from vi_e fy1)]); exact hh2) (by (try rw [(show xi (E 0) 21 = y1 from vi_e fy1)]); exact hh3) (by (try rw [(show xi (E 0) 21 = y1 from vi_e fy1)]); exact hh4)) (cwV 0 hts (gi_V (in_26 _ (List.mem_of_getElem? (i := 2) rfl)) (in_26 _ (List.mem_of_getElem? (i := 3) rfl)) (in_26 _ (List.mem_of_getElem? (i := 4) rfl)) (in_24 _ (List.mem_of_getElem? (i := 15) rfl)) (in_26 _ (List.mem_of_getElem? (i := 5) rfl))) rfl rfl rfl (by decide +kernel) ⟨Nat.le_of_ble_eq_true rfl, Nat.le_of_ble_eq_true rfl⟩) ⟨HW_bl, va_recv hK hP (ci := 14) (q0 := 0) rfl (hI.ob 0 (Nat.le_of_ble_eq_true rfl) rfl), (HW_wi hP hK (WX_D hD) hS hA hEV)⟩ rfl rfl hl.1 rfl (lv_room (Nat.le_of_ble_eq_true rfl)) dX13_takes_9 ⟨Nat.le_of_ble_eq_true rfl, Nat.le_of_ble_eq_true rfl⟩) (WX_D hD) hS hA (fun r13 E14 H locs hw hP hS => ?_)
    obtain ⟨hI, kq15, hw⟩ := hw
    have hKb := hKp
    have hKp := hKp.tr kq15 (wl_sub rfl rfl)
    obtain ⟨y16, ey16⟩ : ∃ y, xi (E14 0) 21 = y := ⟨_, rfl⟩
    have fy16 : xv (E14 0) 21 = .int y16 := (hI.fi 0 (Nat.le_of_ble_eq_true rfl) rfl (Nat.le_of_ble_eq_true rfl) rfl).trans (congrArg Value.int ey16)
    have iy16 : 0 ≤ y16.toInt ∧ y16.toInt ≤ 200 := by rw [← ey16]; exact hI.iv 0 (Nat.le_of_ble_eq_true rfl) rfl (Nat.le_of_ble_eq_true rfl) rfl
    obtain ⟨f17, f18, f19⟩ := hw
    have i20 : 0 ≤ (xi (E 0) 19).toInt ∧ (xi (E 0) 19).toInt ≤ 3000 := (show 0 ≤ (xi (E 0) 19).toInt ∧ (xi (E 0) 19).toInt ≤ 3000 from hI0.iv 0 (Nat.le_of_ble_eq_true rfl) rfl (Nat.le_of_ble_eq_true rfl) rfl)
    have i21 : 0 ≤ (xi (E 0) 20).toInt ∧ (xi (E 0) 20).toInt ≤ 200 := (show 0 ≤ (xi (E 0) 20).toInt ∧ (xi (E 0) 20).toInt ≤ 200 from hI0.iv 0 (Nat.le_of_ble_eq_true rfl) rfl (Nat.le_of_ble_eq_true rfl) rfl)
    try rw [(show xi (E 0) 21 = y1 from vi_e fy1)] at f18
    try rw [(show xi (E14 0) 21 = y16 from vi_e fy16)] at f18
    try rw [(show xi (E 0) 21 = y1 from vi_e fy1)] at f19
    try rw [(show xi (E14 0) 21 = y16 from vi_e fy16)] at f19
    refine lv_iload_n hx hb dX13_takes_12 rfl (lv_at hl 1 rfl) ?_
    refine lv_icmp_eq (tgt := 21) hx hb dX13_takes_13 (by decide) (fun c22 => ?_) (fun c22 => ?_)
    · --13 taken
      have t23 : r13.toInt = a0.toInt := ti_eq c22
      have i24 : 0 ≤ r13.toInt ∧ r13.toInt ≤ 255 := iv_eqi t23 f17 hh5 (by decide)
      refine lv_aload_n hx hb dX13_takes_21 rfl (lv_at hl 0 rfl) ?_
      refine lv_dup hx hb dX13_takes_22 rfl ?_
      refine th_get (ci := 14) (C := RX13) (T := TX13) (N := 97) (v := .int y16) hx hb hts hinX13 hown hK hP hI 0 (Nat.le_of_ble_eq_true rfl) rfl rfl 21 (Nat.le_of_ble_eq_true rfl) (hts _ (vA_in _ _ (in_25 _ (List.mem_of_getElem? (i := 36) rfl)))) (fun _ h9 => h9) fy16 dX13_takes_23 ?_
      refine lv_iconst (v := 1) hx hb dX13_takes_26 (by decide) ?_
      refine lv_iadd hx hb dX13_takes_27 ?_
      refine lv_topi (fun y25 ey25 => ?_)
      obtain ⟨ty25, iy25⟩ := ti_add (e := 1) (f := 201) iy16 ln_1 ey25 (by decide)
      have ty25 : y25.toInt = y16.toInt + 1 := ty25
      have iy25 : 1 ≤ y25.toInt ∧ y25.toInt ≤ 201 := iy25
      refine th_put (ci := 14) (C := RX13) (T := TX13) (N := 97) (v := .int y25) (ty := .int) hx hb hts hinX13 tyX13 tyX13_ok nmX13 hown hK hP (WX_D hD) hS hI 0 (Nat.le_of_ble_eq_true rfl) rfl rfl 21 (Nat.le_of_ble_eq_true rfl) (hts _ (vA_in _ _ (in_25 _ (List.mem_of_getElem? (i := 36) rfl)))) (fun _ h9 => h9) rfl (by decide +kernel) rfl rfl (okI rfl (by omega)) dX13_takes_28 (fun H locs E26 pw27 hI hP hS => ?_)
      have hKp := hKp.pw pw27 rfl
      refine lv_iconst (v := 1) hx hb dX13_takes_31 (by decide) ?_
      rw [hQ]
      exact W.zret (v := 1) hx hb hr rfl (fun t ht hW => ⟨⟨1, E26, rfl, ⟨hI, hKp, Or.inl ⟨rfl, by have h8 := ln_1; (try rw [(show xi (E26 0) 21 = y25 from vi_e pw27.1)]); (try rw [(show xi (E26 0) 22 = y2 from vi_e ((pw27.2 0 22 (fun q9 => absurd q9.2 (Nat.ne_of_beq_eq_false rfl))).trans ((kq15 0 22 rfl).trans fy2)))]); (try rw [ey1]); (try rw [ey2]); all_goals omega, by have h8 := ln_1; (try rw [(show xi (E26 0) 21 = y25 from vi_e pw27.1)]); (try rw [(show xi (E26 0) 22 = y2 from vi_e ((pw27.2 0 22 (fun q9 => absurd q9.2 (Nat.ne_of_beq_eq_false rfl))).trans ((kq15 0 22 rfl).trans fy2)))]); (try rw [ey1]); (try rw [ey2]); all_goals omega, by have h8 := ln_1; (try rw [(show xi (E26 0) 21 = y25 from vi_e pw27.1)]); (try rw [(show xi (E26 0) 22 = y2 from vi_e ((pw27.2 0 22 (fun q9 => absurd q9.2 (Nat.ne_of_beq_eq_false rfl))).trans ((kq15 0 22 rfl).trans fy2)))]); (try rw [ey1]); (try rw [ey2]); all_goals omega, by have h8 := ln_1; (try rw [(show xi (E26 0) 21 = y25 from vi_e pw27.1)]); (try rw [(show xi (E26 0) 22 = y2 from vi_e ((pw27.2 0 22 (fun q9 => absurd q9.2 (Nat.ne_of_beq_eq_false rfl))).trans ((kq15 0 22 rfl).trans fy2)))]); (try rw [ey1]); (try rw [ey2]); all_goals omega⟩⟩, by show va_P (dC, dI) vwCl (WX 72 ad E26) t.heap; rw [ht]; exact hP⟩, hS.F ht⟩) hS.2.2 dX13_takes_32
    · --13 not
      have t28 : ¬ r13.toInt = a0.toInt := ti_ne c22
      refine lv_aload_n hx hb dX13_takes_16 rfl (lv_at hl 0 rfl) ?_
      refine th_i (va_runV (As := []) (rest := []) ⟨hx, hb, hml, hown, hts⟩ (q_stop l dC dI cT ad E14 H.size hI) (cwV 0 hts (gi_V (in_26 _ (List.mem_of_getElem? (i := 12) rfl)) (in_26 _ (List.mem_of_getElem? (i := 13) rfl)) (in_26 _ (List.mem_of_getElem? (i := 14) rfl)) (in_24 _ (List.mem_of_getElem? (i := 15) rfl)) (in_26 _ (List.mem_of_getElem? (i := 15) rfl))) rfl rfl rfl (by decide +kernel) ⟨Nat.le_of_ble_eq_true rfl, Nat.le_of_ble_eq_true rfl⟩) ⟨HW_bl, va_recv hK hP (ci := 14) (q0 := 0) rfl (hI.ob 0 (Nat.le_of_ble_eq_true rfl) rfl), (HW_wi hP hK (WX_D hD) hS hA hEV)⟩ rfl rfl hl.1 rfl (lv_room (Nat.le_of_ble_eq_true rfl)) dX13_takes_17 ⟨Nat.le_of_ble_eq_true rfl, Nat.le_of_ble_eq_true rfl⟩) (WX_D hD) hS hA (fun r29 E30 H locs hw hP hS => ?_)
      obtain ⟨hI, kq31, hw⟩ := hw
      have hKb := hKp
      have hKp := hKp.tr kq31 (wl_sub rfl rfl)
      obtain ⟨y32, ey32⟩ : ∃ y, xi (E30 0) 22 = y := ⟨_, rfl⟩
      have fy32 : xv (E30 0) 22 = .int y32 := (hI.fi 0 (Nat.le_of_ble_eq_true rfl) rfl (Nat.le_of_ble_eq_true rfl) rfl).trans (congrArg Value.int ey32)
      have iy32 : -1 ≤ y32.toInt ∧ y32.toInt ≤ 200 := by rw [← ey32]; exact hI.iv 0 (Nat.le_of_ble_eq_true rfl) rfl (Nat.le_of_ble_eq_true rfl) rfl
      obtain ⟨rfl, f33⟩ := hw
      try rw [(show xi (E14 0) 21 = y16 from vi_e fy16)] at f33
      try rw [(show xi (E14 0) 22 = y2 from vi_e ((kq15 0 22 rfl).trans fy2))] at f33
      try rw [(show xi (E30 0) 22 = y32 from vi_e fy32)] at f33
      rw [hQ]
      exact W.zret (v := 0) hx hb hr rfl (fun t ht hW => ⟨⟨0, E30, rfl, ⟨hI, hKp, Or.inr (⟨rfl, by have h8 := ln_0; (try rw [(show xi (E30 0) 21 = y16 from vi_e ((kq31 0 21 rfl).trans fy16))]); (try rw [(show xi (E30 0) 22 = y32 from vi_e fy32)]); (try rw [ey1]); (try rw [ey2]); all_goals omega, by have h8 := ln_0; (try rw [(show xi (E30 0) 21 = y16 from vi_e ((kq31 0 21 rfl).trans fy16))]); (try rw [(show xi (E30 0) 22 = y32 from vi_e fy32)]); (try rw [ey1]); (try rw [ey2]); all_goals omega⟩)⟩, by show va_P (dC, dI) vwCl (WX 72 ad E30) t.heap; rw [ht]; exact hP⟩, hS.F ht⟩) hS.2.2 dX13_takes_20
def v_bound : List Cond := .code yX13_bound cX13_bound 2 (some .int) :: vA
abbrev rm_bound : Room := { frames := 1, cells := 0, slots := 0, locals := 40 }
set_option maxHeartbeats 4000000 in
set_option maxRecDepth 100000 in
theorem q_bound (l : Launch) (b0 : Int64)  : Met l yX13_bound v_bound rm_bound (va_Pc [.long b0] (fun _ => True)) (va_Qi (S := Unit) (fun r _ => True) (fun _ _ => True) (fun _ => False)) 0 0 (fun _ => False) := by
  refine Met.ofW (cc := cX13_bound) (maxL := 2) (ret := (some .int)) (by decide) rfl ?_
  intro p e s m args below meth c s₁ B hml hv
  obtain ⟨hargs, -⟩ := hv
  have hx := B.exec
  have hb := B.bytes
  have hr := B.returns
  have hts := atoms_spec (ws := v_bound) B.pre
  have hown : s.vm.findClass RX13 = some m.cls := findClass_of_methodNamed B.named
  have hlocks := B.notSynchronized
  have hS : va_S (fun _ : Nat => False) s.heap s.heap [] := va_S.rf
  have hl := lv_entry ([.long b0]) (n := 2) (Nat.le_of_ble_eq_true rfl)
  obtain ⟨Q, hQ⟩ : ∃ Q, Q = MQ below (va_Qi (S := Unit) (fun r _ => True) (fun _ _ => True) (fun _ => False)) args s 0 0 (fun _ => False) := ⟨_, rfl⟩
  rw [← hQ, show entryFrame m args 2 = _ from (congrArg (fun z => entryFrame m z 2) hargs).trans (lg_entry_eq _ _ _)]
  generalize (lg_sl ([.long b0]) ++ List.replicate (2 - (lg_sl ([.long b0])).length) Slot.unset).toArray = ls at hl ⊢
  have hl : lv_has ls 2 [(0, .long b0)] := hl
  refine lv_ldc2 hx hb hown (hts _ (vA_in _ _ (in_26 _ (List.mem_of_getElem? (i := 34) rfl)))) dX13_bound_0 ?_
  refine lv_topl (fun y1 ey1 => ?_)
  refine lv_ldc2 hx hb hown (hts _ (vA_in _ _ (in_26 _ (List.mem_of_getElem? (i := 35) rfl)))) dX13_bound_3 ?_
  refine lv_topl (fun y2 ey2 => ?_)
  refine lv_lload_n hx hb dX13_bound_6 rfl (lv_at hl 0 rfl) ?_
  refine va_mmin_long hx hb (by rw [hml]; exact hl.1.symm) hown (hts _ (vA_in _ _ (in_26 _ (List.mem_of_getElem? (i := 36) rfl)))) (hts _ (vA_in _ _ (in_26 _ (List.mem_of_getElem? (i := 37) rfl)))) (hts _ (vA_in _ _ (in_0 _ (List.mem_of_getElem? (i := 33) rfl)))) (hts _ (vA_in _ _ (in_26 _ (List.mem_of_getElem? (i := 38) rfl)))) (Nat.le_of_ble_eq_true rfl) (Nat.le_of_ble_eq_true rfl) (Nat.le_of_ble_eq_true rfl) (Nat.le_of_ble_eq_true rfl) dX13_bound_7 ?_
  refine lv_topl (fun y3 ey3 => ?_)
  refine va_mmax_long hx hb (by rw [hml]; exact hl.1.symm) hown (hts _ (vA_in _ _ (in_26 _ (List.mem_of_getElem? (i := 39) rfl)))) (hts _ (vA_in _ _ (in_27 _ (List.mem_of_getElem? (i := 0) rfl)))) (hts _ (vA_in _ _ (in_0 _ (List.mem_of_getElem? (i := 33) rfl)))) (hts _ (vA_in _ _ (in_27 _ (List.mem_of_getElem? (i := 1) rfl)))) (Nat.le_of_ble_eq_true rfl) (Nat.le_of_ble_eq_true rfl) (Nat.le_of_ble_eq_true rfl) (Nat.le_of_ble_eq_true rfl) dX13_bound_10 ?_
  refine lv_topl (fun y4 ey4 => ?_)
  refine lv_l2i hx hb dX13_bound_13 rfl ?_
  refine lv_topi (fun y5 ey5 => ?_)
  rw [hQ]
  exact W.iret (v := y5) hx hb hr (fun t ht hW => ⟨⟨y5, (), rfl, trivial, trivial⟩, hS.F ht⟩) hS.2.2 dX13_bound_14
