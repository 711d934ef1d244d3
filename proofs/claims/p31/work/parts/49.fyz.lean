

def v_farFromV : List Cond := .code yX13_farFrom cX13_farFrom 6 (some .int) :: vA
abbrev rm_farFromV : Room := { frames := 1, cells := 0, slots := 0, locals := 40 }
set_option maxHeartbeats 4000000 in
set_option maxRecDepth 100000 in
theorem q_farFromV (l : Launch) (dC : Nat → ClassId) (dI : Nat → Nat → Nat) (cT : Nat → ClassId) (ad : Nat → Nat) (E : Nat → va_E) (sz : Nat) (a0 : Int32) (a1 : Int32) (a2 : Int32) (hI0 : IX cT shM spM 72 ad E) (hh0 : 0 ≤ a0.toInt ∧ a0.toInt ≤ 199) (hh1 : 0 ≤ a1.toInt ∧ a1.toInt ≤ 99) (hh2 : 0 ≤ a2.toInt ∧ a2.toInt ≤ 99) : Met l yX13_farFrom v_farFromV rm_farFromV (va_Pc [.ref (ad 0), .int a0, .int a1, .int a2] (HW dC dI (TYM cT) 72 ad E sz)) (va_Qi (S := Unit) (fun r _ => (0 ≤ r.toInt ∧ r.toInt ≤ 200) ∧ (r.toInt ≤ 0 → ((xi (E 41) a0.toNatClampNeg).toInt ≤ a1.toInt ∧ a1.toInt ≤ (xi (E 41) a0.toNatClampNeg).toInt + (xi (E 43) a0.toNatClampNeg).toInt ∧ (xi (E 42) a0.toNatClampNeg).toInt ≤ a2.toInt ∧ a2.toInt ≤ (xi (E 42) a0.toNatClampNeg).toInt + (xi (E 43) a0.toNatClampNeg).toInt)) ∧ (r.toInt = ffM (wcM E) a0.toNatClampNeg a1.toInt a2.toInt)) (fun _ _ => True) (fun _ => False)) 0 0 (fun _ => False) := by
  refine Met.ofW (cc := cX13_farFrom) (maxL := 6) (ret := (some .int)) (by decide) rfl ?_
  intro p e s m args below meth c s₁ B hml hv
  obtain ⟨hargs, hsz, hP, hK, hD0, hEV⟩ := hv
  subst hsz
  have hx := B.exec
  have hb := B.bytes
  have hr := B.returns
  have hts := atoms_spec (ws := v_farFromV) B.pre
  have hown : s.vm.findClass RX13 = some m.cls := findClass_of_methodNamed B.named
  have hlocks := B.notSynchronized
  have hinX13 : ∀ w ∈ u_ws RX13 TX13 97, w ∈ v_farFromV := fun w h => vA_in _ w (in_X13 w h)
  have hS : va_S (fun _ : Nat => False) s.heap s.heap [] := va_S.rf
  have hD := hD0
  have hI := hI0
  have hKp : Kp (wl [] []) E E := Kp.rf
  have hl := lv_entry ([.ref (ad 0), .int a0, .int a1, .int a2]) (n := 6) (Nat.le_of_ble_eq_true rfl)
  obtain ⟨Q, hQ⟩ : ∃ Q, Q = MQ below (va_Qi (S := Unit) (fun r _ => (0 ≤ r.toInt ∧ r.toInt ≤ 200) ∧ (r.toInt ≤ 0 → ((xi (E 41) a0.toNatClampNeg).toInt ≤ a1.toInt ∧ a1.toInt ≤ (xi (E 41) a0.toNatClampNeg).toInt + (xi (E 43) a0.toNatClampNeg).toInt ∧ (xi (E 42) a0.toNatClampNeg).toInt ≤ a2.toInt ∧ a2.toInt ≤ (xi (E 42) a0.toNatClampNeg).toInt + (xi (E 43) a0.toNatClampNeg).toInt)) ∧ (r.toInt = ffM (wcM E) a0.toNatClampNeg a1.toInt a2.toInt)) (fun _ _ => True) (fun _ => False)) args s 0 0 (fun _ => False) := ⟨_, rfl⟩
  rw [← hQ, show entryFrame m args 6 = _ from (congrArg (fun z => entryFrame m z 6) hargs).trans (lg_entry_eq _ _ _)]
  generalize (lg_sl ([.ref (ad 0), .int a0, .int a1, .int a2]) ++ List.replicate (6 - (lg_sl ([.ref (ad 0), .int a0, .int a1, .int a2])).length) Slot.unset).toArray = ls at hl ⊢
  have hl : lv_has ls 6 [(0, .ref (ad 0)), (1, .int a0), (2, .int a1), (3, .int a2)] := hl
  refine lv_iconst (v := 0) hx hb dX13_farFrom_0 (by decide) ?_
  refine lv_aload_n hx hb dX13_farFrom_1 rfl (lv_at hl 0 rfl) ?_
  refine th_get (ci := 14) (C := RX13) (T := TX13) (N := 97) (v := .ref (ad 41)) hx hb hts hinX13 hown hK hP hI 0 (Nat.le_of_ble_eq_true rfl) rfl rfl 59 (Nat.le_of_ble_eq_true rfl) (hts _ (vA_in _ _ (in_25 _ (zs16 (zs4 (zs4 (zs1 (zs0)))))))) (fun _ h9 => h9) (hI.fr 0 (Nat.le_of_ble_eq_true rfl) rfl (Nat.le_of_ble_eq_true rfl) 41 rfl) dX13_farFrom_2 ?_
  refine lv_iload_n hx hb dX13_farFrom_5 rfl (lv_at hl 1 rfl) ?_
  have n2 : vp_in a0 200 := (iv_in (n := 200) hh0 (by decide))
  refine th_iald hx hb hK hP hI 41 (Nat.le_of_ble_eq_true rfl) rfl rfl n2 dX13_farFrom_6 (fun y1 ey1 => ?_)
  have iy1 : 0 ≤ y1.toInt ∧ y1.toInt ≤ 99 := hI.el 41 (Nat.le_of_ble_eq_true rfl) rfl n2 (fun _ => rfl) ey1
  have ey1 := ey1.trans (hKp.ei 41 _ rfl)
  refine lv_iload_n hx hb dX13_farFrom_7 rfl (lv_at hl 2 rfl) ?_
  refine lv_isub hx hb dX13_farFrom_8 ?_
  refine lv_topi (fun y3 ey3 => ?_)
  obtain ⟨ty3, iy3⟩ := ti_sub (e := (-99)) (f := 99) iy1 hh1 ey3 (by decide)
  have ty3 : y3.toInt = y1.toInt - a1.toInt := ty3
  have iy3 : -99 ≤ y3.toInt ∧ y3.toInt ≤ 99 := iy3
  refine lv_iload_n hx hb dX13_farFrom_9 rfl (lv_at hl 2 rfl) ?_
  refine lv_aload_n hx hb dX13_farFrom_10 rfl (lv_at hl 0 rfl) ?_
  refine th_get (ci := 14) (C := RX13) (T := TX13) (N := 97) (v := .ref (ad 41)) hx hb hts hinX13 hown hK hP hI 0 (Nat.le_of_ble_eq_true rfl) rfl rfl 59 (Nat.le_of_ble_eq_true rfl) (hts _ (vA_in _ _ (in_25 _ (zs16 (zs4 (zs4 (zs1 (zs0)))))))) (fun _ h9 => h9) (hI.fr 0 (Nat.le_of_ble_eq_true rfl) rfl (Nat.le_of_ble_eq_true rfl) 41 rfl) dX13_farFrom_11 ?_
  refine lv_iload_n hx hb dX13_farFrom_14 rfl (lv_at hl 1 rfl) ?_
  have n5 : vp_in a0 200 := (iv_in (n := 200) hh0 (by decide))
  refine th_iald hx hb hK hP hI 41 (Nat.le_of_ble_eq_true rfl) rfl rfl n5 dX13_farFrom_15 (fun y4 ey4 => ?_)
  have iy4 : 0 ≤ y4.toInt ∧ y4.toInt ≤ 99 := hI.el 41 (Nat.le_of_ble_eq_true rfl) rfl n5 (fun _ => rfl) ey4
  have ey4 := ey4.trans (hKp.ei 41 _ rfl)
  refine lv_isub hx hb dX13_farFrom_16 ?_
  refine lv_topi (fun y6 ey6 => ?_)
  obtain ⟨ty6, iy6⟩ := ti_sub (e := (-99)) (f := 99) hh1 iy4 ey6 (by decide)
  have ty6 : y6.toInt = a1.toInt - y4.toInt := ty6
  have iy6 : -99 ≤ y6.toInt ∧ y6.toInt ≤ 99 := iy6
  refine lv_aload_n hx hb dX13_farFrom_17 rfl (lv_at hl 0 rfl) ?_
  refine th_get (ci := 14) (C := RX13) (T := TX13) (N := 97) (v := .ref (ad 43)) hx hb hts hinX13 hown hK hP hI 0 (Nat.le_of_ble_eq_true rfl) rfl rfl 61 (Nat.le_of_ble_eq_true rfl) (hts _ (vA_in _ _ (in_25 _ (zs16 (zs4 (zs4 (zs1 (zs1 (zs0))))))))) (fun _ h9 => h9) (hI.fr 0 (Nat.le_of_ble_eq_true rfl) rfl (Nat.le_of_ble_eq_true rfl) 43 rfl) dX13_farFrom_18 ?_
  refine lv_iload_n hx hb dX13_farFrom_21 rfl (lv_at hl 1 rfl) ?_
  have n8 : vp_in a0 200 := (iv_in (n := 200) hh0 (by decide))
  refine th_iald hx hb hK hP hI 43 (Nat.le_of_ble_eq_true rfl) rfl rfl n8 dX13_farFrom_22 (fun y7 ey7 => ?_)
  have iy7 : 0 ≤ y7.toInt ∧ y7.toInt ≤ 3 := hI.el 43 (Nat.le_of_ble_eq_true rfl) rfl n8 (fun _ => rfl) ey7
  have ey7 := ey7.trans (hKp.ei 43 _ rfl)
  refine lv_isub hx hb dX13_farFrom_23 ?_
  refine lv_topi (fun y9 ey9 => ?_)
  obtain ⟨ty9, iy9⟩ := ti_sub (e := (-102)) (f := 99) iy6 iy7 ey9 (by decide)
  have ty9 : y9.toInt = y6.toInt - y7.toInt := ty9
  have iy9 : -102 ≤ y9.toInt ∧ y9.toInt ≤ 99 := iy9
  refine va_mmax hx hb (by rw [hml]; exact hl.1.symm) hown (hts _ (vA_in _ _ (in_25 _ (zs16 (zs4 (zs4 (zs1 (zs1 (zs1 (zs0)))))))))) (hts _ (vA_in _ _ (in_0 _ (zs16 (zs16 (zs0)))))) (hts _ (vA_in _ _ (in_0 _ (zs16 (zs16 (zs1 (zs0))))))) (hts _ (vA_in _ _ (in_0 _ (zs16 (zs16 (zs1 (zs1 (zs0)))))))) (Nat.le_of_ble_eq_true rfl) (Nat.le_of_ble_eq_true rfl) (Nat.le_of_ble_eq_true rfl) (Nat.le_of_ble_eq_true rfl) dX13_farFrom_24 ?_
  refine lv_topi (fun y10 ey10 => ?_)
  obtain ⟨ty10, iy10⟩ := ti_max (e := (-99)) (f := 99) iy3 iy9 ey10 (by decide)
  have iy10 : -99 ≤ y10.toInt ∧ y10.toInt ≤ 99 := iy10
  refine va_mmax hx hb (by rw [hml]; exact hl.1.symm) hown (hts _ (vA_in _ _ (in_25 _ (zs16 (zs4 (zs4 (zs1 (zs1 (zs1 (zs0)))))))))) (hts _ (vA_in _ _ (in_0 _ (zs16 (zs16 (zs0)))))) (hts _ (vA_in _ _ (in_0 _ (zs16 (zs16 (zs1 (zs0))))))) (hts _ (vA_in _ _ (in_0 _ (zs16 (zs16 (zs1 (zs1 (zs0)))))))) (Nat.le_of_ble_eq_true rfl) (Nat.le_of_ble_eq_true rfl) (Nat.le_of_ble_eq_true rfl) (Nat.le_of_ble_eq_true rfl) dX13_farFrom_27 ?_
  have z0 := ln_0
  refine lv_topi (fun y11 ey11 => ?_)
  obtain ⟨ty11, iy11⟩ := ti_max (e := 0) (f := 99) ln_0 iy10 ey11 (by decide)
  have iy11 : 0 ≤ y11.toInt ∧ y11.toInt ≤ 99 := iy11
  refine lv_istore (lv' := [(4, .int y11), (0, .ref (ad 0)), (1, .int a0), (2, .int a1), (3, .int a2)]) hx hb dX13_farFrom_30 hl (by decide) rfl (fun ls hl => ?_)
  refine lv_iconst (v := 0) hx hb dX13_farFrom_32 (by decide) ?_
  refine lv_aload_n hx hb dX13_farFrom_33 rfl (lv_at hl 1 rfl) ?_
  refine th_get (ci := 14) (C := RX13) (T := TX13) (N := 97) (v := .ref (ad 42)) hx hb hts hinX13 hown hK hP hI 0 (Nat.le_of_ble_eq_true rfl) rfl rfl 60 (Nat.le_of_ble_eq_true rfl) (hts _ (vA_in _ _ (in_25 _ (zs16 (zs4 (zs4 (zs4 (zs0)))))))) (fun _ h9 => h9) (hI.fr 0 (Nat.le_of_ble_eq_true rfl) rfl (Nat.le_of_ble_eq_true rfl) 42 rfl) dX13_farFrom_34 ?_
  refine lv_iload_n hx hb dX13_farFrom_37 rfl (lv_at hl 2 rfl) ?_
  have n13 : vp_in a0 200 := (iv_in (n := 200) hh0 (by decide))
  refine th_iald hx hb hK hP hI 42 (Nat.le_of_ble_eq_true rfl) rfl rfl n13 dX13_farFrom_38 (fun y12 ey12 => ?_)
  have iy12 : 0 ≤ y12.toInt ∧ y12.toInt ≤ 99 := hI.el 42 (Nat.le_of_ble_eq_true rfl) rfl n13 (fun _ => rfl) ey12
  have ey12 := ey12.trans (hKp.ei 42 _ rfl)
  refine lv_iload_n hx hb dX13_farFrom_39 rfl (lv_at hl 4 rfl) ?_
  refine lv_isub hx hb dX13_farFrom_40 ?_
  refine lv_topi (fun y14 ey14 => ?_)
  obtain ⟨ty14, iy14⟩ := ti_sub (e := (-99)) (f := 99) iy12 hh2 ey14 (by decide)
  have ty14 : y14.toInt = y12.toInt - a2.toInt := ty14
  have iy14 : -99 ≤ y14.toInt ∧ y14.toInt ≤ 99 := iy14
  refine lv_iload_n hx hb dX13_farFrom_41 rfl (lv_at hl 4 rfl) ?_
  refine lv_aload_n hx hb dX13_farFrom_42 rfl (lv_at hl 1 rfl) ?_
  refine th_get (ci := 14) (C := RX13) (T := TX13) (N := 97) (v := .ref (ad 42)) hx hb hts hinX13 hown hK hP hI 0 (Nat.le_of_ble_eq_true rfl) rfl rfl 60 (Nat.le_of_ble_eq_true rfl) (hts _ (vA_in _ _ (in_25 _ (zs16 (zs4 (zs4 (zs4 (zs0)))))))) (fun _ h9 => h9) (hI.fr 0 (Nat.le_of_ble_eq_true rfl) rfl (Nat.le_of_ble_eq_true rfl) 42 rfl) dX13_farFrom_43 ?_
  refine lv_iload_n hx hb dX13_farFrom_46 rfl (lv_at hl 2 rfl) ?_
  have n16 : vp_in a0 200 := (iv_in (n := 200) hh0 (by decide))
  refine th_iald hx hb hK hP hI 42 (Nat.le_of_ble_eq_true rfl) rfl rfl n16 dX13_farFrom_47 (fun y15 ey15 => ?_)
  have iy15 : 0 ≤ y15.toInt ∧ y15.toInt ≤ 99 := hI.el 42 (Nat.le_of_ble_eq_true rfl) rfl n16 (fun _ => rfl) ey15
  have ey15 := ey15.trans (hKp.ei 42 _ rfl)
  refine lv_isub hx hb dX13_farFrom_48 ?_
  refine lv_topi (fun y17 ey17 => ?_)
  obtain ⟨ty17, iy17⟩ := ti_sub (e := (-99)) (f := 99) hh2 iy15 ey17 (by decide)
  have ty17 : y17.toInt = a2.toInt - y15.toInt := ty17
  have iy17 : -99 ≤ y17.toInt ∧ y17.toInt ≤ 99 := iy17
  refine lv_aload_n hx hb dX13_farFrom_49 rfl (lv_at hl 1 rfl) ?_
  refine th_get (ci := 14) (C := RX13) (T := TX13) (N := 97) (v := .ref (ad 43)) hx hb hts hinX13 hown hK hP hI 0 (Nat.le_of_ble_eq_true rfl) rfl rfl 61 (Nat.le_of_ble_eq_true rfl) (hts _ (vA_in _ _ (in_25 _ (zs16 (zs4 (zs4 (zs1 (zs1 (zs0))))))))) (fun _ h9 => h9) (hI.fr 0 (Nat.le_of_ble_eq_true rfl) rfl (Nat.le_of_ble_eq_true rfl) 43 rfl) dX13_farFrom_50 ?_
  refine lv_iload_n hx hb dX13_farFrom_53 rfl (lv_at hl 2 rfl) ?_
  have n19 : vp_in a0 200 := (iv_in (n := 200) hh0 (by decide))
  refine th_iald hx hb hK hP hI 43 (Nat.le_of_ble_eq_true rfl) rfl rfl n19 dX13_farFrom_54 (fun y18 ey18 => ?_)
  have iy18 : 0 ≤ y18.toInt ∧ y18.toInt ≤ 3 := hI.el 43 (Nat.le_of_ble_eq_true rfl) rfl n19 (fun _ => rfl) ey18
  have ey18 := ey18.trans (hKp.ei 43 _ rfl)
  refine lv_isub hx hb dX13_farFrom_55 ?_
  refine lv_topi (fun y20 ey20 => ?_)
  obtain ⟨ty20, iy20⟩ := ti_sub (e := (-102)) (f := 99) iy17 iy18 ey20 (by decide)
  have ty20 : y20.toInt = y17.toInt - y18.toInt := ty20
  have iy20 : -102 ≤ y20.toInt ∧ y20.toInt ≤ 99 := iy20
  refine va_mmax hx hb (by rw [hml]; exact hl.1.symm) hown (hts _ (vA_in _ _ (in_25 _ (zs16 (zs4 (zs4 (zs1 (zs1 (zs1 (zs0)))))))))) (hts _ (vA_in _ _ (in_0 _ (zs16 (zs16 (zs0)))))) (hts _ (vA_in _ _ (in_0 _ (zs16 (zs16 (zs1 (zs0))))))) (hts _ (vA_in _ _ (in_0 _ (zs16 (zs16 (zs1 (zs1 (zs0)))))))) (Nat.le_of_ble_eq_true rfl) (Nat.le_of_ble_eq_true rfl) (Nat.le_of_ble_eq_true rfl) (Nat.le_of_ble_eq_true rfl) dX13_farFrom_56 ?_
  refine lv_topi (fun y21 ey21 => ?_)
  obtain ⟨ty21, iy21⟩ := ti_max (e := (-99)) (f := 99) iy14 iy20 ey21 (by decide)
  have iy21 : -99 ≤ y21.toInt ∧ y21.toInt ≤ 99 := iy21
  refine va_mmax hx hb (by rw [hml]; exact hl.1.symm) hown (hts _ (vA_in _ _ (in_25 _ (zs16 (zs4 (zs4 (zs1 (zs1 (zs1 (zs0)))))))))) (hts _ (vA_in _ _ (in_0 _ (zs16 (zs16 (zs0)))))) (hts _ (vA_in _ _ (in_0 _ (zs16 (zs16 (zs1 (zs0))))))) (hts _ (vA_in _ _ (in_0 _ (zs16 (zs16 (zs1 (zs1 (zs0)))))))) (Nat.le_of_ble_eq_true rfl) (Nat.le_of_ble_eq_true rfl) (Nat.le_of_ble_eq_true rfl) (Nat.le_of_ble_eq_true rfl) dX13_farFrom_59 ?_
  refine lv_topi (fun y22 ey22 => ?_)
  obtain ⟨ty22, iy22⟩ := ti_max (e := 0) (f := 99) ln_0 iy21 ey22 (by decide)
  have iy22 : 0 ≤ y22.toInt ∧ y22.toInt ≤ 99 := iy22
  refine lv_istore (lv' := [(5, .int y22), (4, .int y11), (0, .ref (ad 0)), (1, .int a0), (2, .int a1), (3, .int a2)]) hx hb dX13_farFrom_62 hl (by decide) rfl (fun ls hl => ?_)
  refine lv_iload hx hb dX13_farFrom_64 (lv_at hl 1 rfl) ?_
  refine lv_iload hx hb dX13_farFrom_66 (lv_at hl 0 rfl) ?_
  refine va_mmax hx hb (by rw [hml]; exact hl.1.symm) hown (hts _ (vA_in _ _ (in_25 _ (zs16 (zs4 (zs4 (zs1 (zs1 (zs1 (zs0)))))))))) (hts _ (vA_in _ _ (in_0 _ (zs16 (zs16 (zs0)))))) (hts _ (vA_in _ _ (in_0 _ (zs16 (zs16 (zs1 (zs0))))))) (hts _ (vA_in _ _ (in_0 _ (zs16 (zs16 (zs1 (zs1 (zs0)))))))) (Nat.le_of_ble_eq_true rfl) (Nat.le_of_ble_eq_true rfl) (Nat.le_of_ble_eq_true rfl) (Nat.le_of_ble_eq_true rfl) dX13_farFrom_68 ?_
  refine lv_topi (fun y23 ey23 => ?_)
  obtain ⟨ty23, iy23⟩ := ti_max (e := 0) (f := 99) iy11 iy22 ey23 (by decide)
  have iy23 : 0 ≤ y23.toInt ∧ y23.toInt ≤ 99 := iy23
  rw [hQ]
  exact W.iret (v := y23) hx hb hr (fun t ht hW => ⟨⟨y23, (), rfl, ⟨(iv_w iy23 (by decide)), by have qy1 : y1.toInt = (xi (E 41) a0.toNatClampNeg).toInt := congrArg Int32.toInt ey1; have qy4 : y4.toInt = (xi (E 41) a0.toNatClampNeg).toInt := congrArg Int32.toInt ey4; have qy7 : y7.toInt = (xi (E 43) a0.toNatClampNeg).toInt := congrArg Int32.toInt ey7; have qy12 : y12.toInt = (xi (E 42) a0.toNatClampNeg).toInt := congrArg Int32.toInt ey12; have qy15 : y15.toInt = (xi (E 42) a0.toNatClampNeg).toInt := congrArg Int32.toInt ey15; have qy18 : y18.toInt = (xi (E 43) a0.toNatClampNeg).toInt := congrArg Int32.toInt ey18; omega, by have qy1 : y1.toInt = (xi (E 41) a0.toNatClampNeg).toInt := congrArg Int32.toInt ey1; have qy4 : y4.toInt = (xi (E 41) a0.toNatClampNeg).toInt := congrArg Int32.toInt ey4; have qy7 : y7.toInt = (xi (E 43) a0.toNatClampNeg).toInt := congrArg Int32.toInt ey7; have qy12 : y12.toInt = (xi (E 42) a0.toNatClampNeg).toInt := congrArg Int32.toInt ey12; have qy15 : y15.toInt = (xi (E 42) a0.toNatClampNeg).toInt := congrArg Int32.toInt ey15; have qy18 : y18.toInt = (xi (E 43) a0.toNatClampNeg).toInt := congrArg Int32.toInt ey18; show y23.toInt = max (max 0 (max ((xi (E 41) a0.toNatClampNeg).toInt - a1.toInt) (a1.toInt - (xi (E 41) a0.toNatClampNeg).toInt - (xi (E 43) a0.toNatClampNeg).toInt))) (max 0 (max ((xi (E 42) a0.toNatClampNeg).toInt - a2.toInt) (a2.toInt - (xi (E 42) a0.toNatClampNeg).toInt - (xi (E 43) a0.toNatClampNeg).toInt))); omega⟩, trivial⟩, hS.F ht⟩) hS.2.2 dX13_farFrom_71
def v_canBeV : List Cond := .code yX13_canBe cX13_canBe 8 (some .boolean) :: vA
abbrev rm_canBeV : Room := { frames := 2, cells := 0, slots := 0, locals := 80 }
set_option maxHeartbeats 4000000 in
set_option maxRecDepth 100000 in
theorem q_canBeV (l : Launch) (dC : Nat → ClassId) (dI : Nat → Nat → Nat) (cT : Nat → ClassId) (ad : Nat → Nat) (E : Nat → va_E) (sz : Nat) (a0 : Int32) (a1 : Int32) (a2 : Int32) (a3 : Int32) (a4 : Int32) (a5 : Int32) (hI0 : IX cT shM spM 72 ad E) (hh0 : 0 ≤ a0.toInt ∧ a0.toInt ≤ 19) (hh1 : 0 ≤ a2.toInt ∧ a2.toInt ≤ 100000) (hh2 : 0 ≤ a4.toInt ∧ a4.toInt ≤ 99) (hh3 : 0 ≤ a5.toInt ∧ a5.toInt ≤ 99) : Met l yX13_canBe v_canBeV rm_canBeV (va_Pc [.ref (ad 0), .int a0, .int a1, .int a2, .int a3, .int a4, .int a5] (HW dC dI (TYM cT) 72 ad E sz)) (va_Qi (S := Unit) (fun r _ => (r = 1 ∧ (plc (wcM E) (xi (E 0) 74).toNatClampNeg a0.toInt a1.toInt a3.toInt a2.toInt (xi (E 19) a0.toNatClampNeg).toInt a4.toInt a5.toInt)) ∨ (r = 0 ∧ (¬ plc (wcM E) (xi (E 0) 74).toNatClampNeg a0.toInt a1.toInt a3.toInt a2.toInt (xi (E 19) a0.toNatClampNeg).toInt a4.toInt a5.toInt))) (fun _ _ => True) (fun _ => False)) 0 0 (fun _ => False) := by
  refine Met.ofW (cc := cX13_canBe) (maxL := 8) (ret := (some .boolean)) (by decide) rfl ?_
  intro p e s m args below meth c s₁ B hml hv
  obtain ⟨hargs, hsz, hP, hK, hD0, hEV⟩ := hv
  subst hsz
  have hx := B.exec
  have hb := B.bytes
  have hr := B.returns
  have hts := atoms_spec (ws := v_canBeV) B.pre
  have hown : s.vm.findClass RX13 = some m.cls := findClass_of_methodNamed B.named
  have hlocks := B.notSynchronized
  have hinX13 : ∀ w ∈ u_ws RX13 TX13 97, w ∈ v_canBeV := fun w h => vA_in _ w (in_X13 w h)
  have hS : va_S (fun _ : Nat => False) s.heap s.heap [] := va_S.rf
  have hD := hD0
  have hI := hI0
  have hKp : Kp (wl [] []) E E := Kp.rf
  have hl := lv_entry ([.ref (ad 0), .int a0, .int a1, .int a2, .int a3, .int a4, .int a5]) (n := 8) (Nat.le_of_ble_eq_true rfl)
  obtain ⟨Q, hQ⟩ : ∃ Q, Q = MQ below (va_Qi (S := Unit) (fun r _ => (r = 1 ∧ (plc (wcM E) (xi (E 0) 74).toNatClampNeg a0.toInt a1.toInt a3.toInt a2.toInt (xi (E 19) a0.toNatClampNeg).toInt a4.toInt a5.toInt)) ∨ (r = 0 ∧ (¬ plc (wcM E) (xi (E 0) 74).toNatClampNeg a0.toInt a1.toInt a3.toInt a2.toInt (xi (E 19) a0.toNatClampNeg).toInt a4.toInt a5.toInt))) (fun _ _ => True) (fun _ => False)) args s 0 0 (fun _ => False) := ⟨_, rfl⟩
  rw [← hQ, show entryFrame m args 8 = _ from (congrArg (fun z => entryFrame m z 8) hargs).trans (lg_entry_eq _ _ _)]
  generalize (lg_sl ([.ref (ad 0), .int a0, .int a1, .int a2, .int a3, .int a4, .int a5]) ++ List.replicate (8 - (lg_sl ([.ref (ad 0), .int a0, .int a1, .int a2, .int a3, .int a4, .int a5])).length) Slot.unset).toArray = ls at hl ⊢
  have hl : lv_has ls 8 [(0, .ref (ad 0)), (1, .int a0), (2, .int a1), (3, .int a2), (4, .int a3), (5, .int a4), (6, .int a5)] := hl
  have z0z : (0 : Int32).toInt = 0 := rfl
  have iwd : 0 ≤ (xi (E 0) 74).toInt ∧ (xi (E 0) 74).toInt ≤ 200 := hI0.iv 0 (Nat.le_of_ble_eq_true rfl) rfl (Nat.le_of_ble_eq_true rfl) rfl
  refine lv_iconst (v := 0) hx hb dX13_canBe_0 (by decide) ?_
  refine lv_istore (lv' := [(7, .int 0), (0, .ref (ad 0)), (1, .int a0), (2, .int a1), (3, .int a2), (4, .int a3), (5, .int a4), (6, .int a5)]) hx hb dX13_canBe_1 hl (by decide) rfl (fun ls hl => ?_)
  have hL3 : ∀ d : Nat, ∀ (v3_7 : Int32) (H : Heap) (locs : List Loc) (ls : Array Slot), 0 ≤ v3_7.toInt ∧ v3_7.toInt ≤ 200 → plc (wcM E) v3_7.toNatClampNeg a0.toInt a1.toInt a3.toInt a2.toInt (xi (E 19) a0.toNatClampNeg).toInt a4.toInt a5.toInt → v3_7.toInt ≤ (xi (E 0) 74).toInt → 200 - v3_7.toInt < (d : Int) → va_P (dC, dI) vwCl (WX 72 ad E) H → va_S (fun _ : Nat => False) s.heap H locs → lv_has ls 8 [(7, .int v3_7), (0, .ref (ad 0)), (1, .int a0), (2, .int a1), (3, .int a2), (4, .int a3), (5, .int a4), (6, .int a5)] → W p l e (headSpec v_canBeV rm_canBeV).room s m args below meth c H locs 0 0 Q (F0 m 3 ls []) := by
    intro d
    induction d with
    | zero =>
      intro v3_7 H locs ls hv3_7 hx3_0 hx3_1 hx3_2 hP hS hl
      exact absurd hx3_2 (by first | exact ms_zu hv3_7.2 | omega)
    | succ d ih3 =>
      intro v3_7 H locs ls hv3_7 hx3_0 hx3_1 hx3_2 hP hS hl
      refine lv_iload hx hb dX13_canBe_3 (lv_at hl 0 rfl) ?_
      refine lv_aload_n hx hb dX13_canBe_5 rfl (lv_at hl 1 rfl) ?_
      have i1 : 0 ≤ (xi (E 0) 74).toInt ∧ (xi (E 0) 74).toInt ≤ 200 := hI0.iv 0 (Nat.le_of_ble_eq_true rfl) rfl (Nat.le_of_ble_eq_true rfl) rfl
      refine th_get (ci := 14) (C := RX13) (T := TX13) (N := 97) (v := .int (xi (E 0) 74)) hx hb hts hinX13 hown hK hP hI 0 (Nat.le_of_ble_eq_true rfl) rfl rfl 74 (Nat.le_of_ble_eq_true rfl) (hts _ (vA_in _ _ (in_25 _ (zs4 (zs4 (zs1 (zs1 (zs1 (zs0))))))))) (fun _ h9 => h9) (th_v0 hKp hI0 0 (Nat.le_of_ble_eq_true rfl) rfl (Nat.le_of_ble_eq_true rfl) rfl rfl) dX13_canBe_6 ?_
      refine lv_icmp_ge (tgt := 93) hx hb dX13_canBe_9 (by decide) (fun c2 => ?_) (fun c2 => ?_)
      · --9 taken
        have t3 : (xi (E 0) 74).toInt ≤ v3_7.toInt := ti_le c2
        refine lv_iconst (v := 1) hx hb dX13_canBe_93 (by decide) ?_
        rw [hQ]
        exact W.zret (v := 1) hx hb hr rfl (fun t ht hW => ⟨⟨1, (), rfl, Or.inl ⟨rfl, (by have h9 := hx3_0; rw [show v3_7.toNatClampNeg = (xi (E 0) 74).toNatClampNeg by rw [tn_ v3_7, tn_ (xi (E 0) 74)]; omega] at h9; exact h9)⟩, trivial⟩, hS.F ht⟩) hS.2.2 dX13_canBe_94
      · --9 not
        have t4 : v3_7.toInt < (xi (E 0) 74).toInt := ti_nle c2
        have i5 : 0 ≤ v3_7.toInt ∧ v3_7.toInt ≤ 199 := iv_lt_l t4 hv3_7 i1 (by decide)
        have i6 : 1 ≤ (xi (E 0) 74).toInt ∧ (xi (E 0) 74).toInt ≤ 200 := iv_lt_r t4 hv3_7 i1 (by decide)
        refine lv_aload_n hx hb dX13_canBe_12 rfl (lv_at hl 1 rfl) ?_
        refine th_get (ci := 14) (C := RX13) (T := TX13) (N := 97) (v := .ref (ad 38)) hx hb hts hinX13 hown hK hP hI 0 (Nat.le_of_ble_eq_true rfl) rfl rfl 56 (Nat.le_of_ble_eq_true rfl) (hts _ (vA_in _ _ (in_25 _ (zs4 (zs4 (zs4 (zs0))))))) (fun _ h9 => h9) (hI.fr 0 (Nat.le_of_ble_eq_true rfl) rfl (Nat.le_of_ble_eq_true rfl) 38 rfl) dX13_canBe_13 ?_
        refine lv_iload hx hb dX13_canBe_16 (lv_at hl 0 rfl) ?_
        have n8 : vp_in v3_7 200 := (iv_in (n := 200) i5 (by decide))
        refine th_iald hx hb hK hP hI 38 (Nat.le_of_ble_eq_true rfl) rfl rfl n8 dX13_canBe_18 (fun y7 ey7 => ?_)
        have iy7 : 0 ≤ y7.toInt ∧ y7.toInt ≤ 19 := hI.el 38 (Nat.le_of_ble_eq_true rfl) rfl n8 (fun _ => rfl) ey7
        have ey7 := ey7.trans (hKp.ei 38 _ rfl)
        refine lv_iload_n hx hb dX13_canBe_19 rfl (lv_at hl 2 rfl) ?_
        refine lv_icmp_ne (tgt := 87) hx hb dX13_canBe_20 (by decide) (fun c9 => ?_) (fun c9 => ?_)
        · --20 taken
          have t10 : ¬ y7.toInt = a0.toInt := ti_ne c9
          obtain ⟨y11, ey11⟩ : ∃ y : Int32, y = v3_7 + (1 : Int32) := ⟨_, rfl⟩
          obtain ⟨ty11, iy11⟩ := ti_add (e := 1) (f := 200) i5 ln_1 ey11 (by decide)
          have ty11 : y11.toInt = v3_7.toInt + 1 := ty11
          have iy11 : 1 ≤ y11.toInt ∧ y11.toInt ≤ 200 := iy11
          refine lv_iinc (v := y11) (lv' := [(7, .int y11), (0, .ref (ad 0)), (1, .int a0), (2, .int a1), (3, .int a2), (4, .int a3), (5, .int a4), (6, .int a5)]) hx hb dX13_canBe_87 hl (k := 0) rfl (by rw [ey11]; rfl) (by decide) rfl (fun ls hl => ?_)
          refine lv_goto (tgt := 3) hx hb dX13_canBe_90 (by decide) ?_
          exact ih3 y11 _ _ _ (iv_w iy11 (by decide)) (by rw [show y11.toNatClampNeg = v3_7.toNatClampNeg + 1 by rw [tn_ y11, tn_ v3_7]; omega]; exact (plc_skip (fun q9 => by have g1 : (xi (E 38) v3_7.toNatClampNeg).toInt = a0.toInt := q9.1; have g2 : (xi (E 39) v3_7.toNatClampNeg).toInt = a1.toInt := q9.2.1; have g3 : (xi (E 45) v3_7.toNatClampNeg).toInt ≤ a3.toInt := q9.2.2; have hy7 := congrArg Int32.toInt ey7; omega)).mpr hx3_0) (by omega) (by first | exact ms_su hx3_2 ty11 (by decide) | omega) hP hS (lv_sub hl [0, 1, 2, 3, 4, 5, 6, 7] rfl)
        · --20 not
          have t12 : y7.toInt = a0.toInt := ti_eq c9
          refine lv_aload_n hx hb dX13_canBe_23 rfl (lv_at hl 1 rfl) ?_
          refine th_get (ci := 14) (C := RX13) (T := TX13) (N := 97) (v := .ref (ad 39)) hx hb hts hinX13 hown hK hP hI 0 (Nat.le_of_ble_eq_true rfl) rfl rfl 57 (Nat.le_of_ble_eq_true rfl) (hts _ (vA_in _ _ (in_25 _ (zs4 (zs4 (zs4 (zs1 (zs0)))))))) (fun _ h9 => h9) (hI.fr 0 (Nat.le_of_ble_eq_true rfl) rfl (Nat.le_of_ble_eq_true rfl) 39 rfl) dX13_canBe_24 ?_
          refine lv_iload hx hb dX13_canBe_27 (lv_at hl 0 rfl) ?_
          have n14 : vp_in v3_7 200 := (iv_in (n := 200) i5 (by decide))
          refine th_iald hx hb hK hP hI 39 (Nat.le_of_ble_eq_true rfl) rfl rfl n14 dX13_canBe_29 (fun y13 ey13 => ?_)
          have iy13 : 0 ≤ y13.toInt ∧ y13.toInt ≤ 15 := hI.el 39 (Nat.le_of_ble_eq_true rfl) rfl n14 (fun _ => rfl) ey13
          have ey13 := ey13.trans (hKp.ei 39 _ rfl)
          refine lv_iload_n hx hb dX13_canBe_30 rfl (lv_at hl 3 rfl) ?_
          refine lv_icmp_ne (tgt := 87) hx hb dX13_canBe_31 (by decide) (fun c15 => ?_) (fun c15 => ?_)
          · --31 taken
            have t16 : ¬ y13.toInt = a1.toInt := ti_ne c15
            obtain ⟨y17, ey17⟩ : ∃ y : Int32, y = v3_7 + (1 : Int32) := ⟨_, rfl⟩
            obtain ⟨ty17, iy17⟩ := ti_add (e := 1) (f := 200) i5 ln_1 ey17 (by decide)
            have ty17 : y17.toInt = v3_7.toInt + 1 := ty17
            have iy17 : 1 ≤ y17.toInt ∧ y17.toInt ≤ 200 := iy17
            refine lv_iinc (v := y17) (lv' := [(7, .int y17), (0, .ref (ad 0)), (1, .int a0), (2, .int a1), (3, .int a2), (4, .int a3), (5, .int a4), (6, .int a5)]) hx hb dX13_canBe_87 hl (k := 0) rfl (by rw [ey17]; rfl) (by decide) rfl (fun ls hl => ?_)
            refine lv_goto (tgt := 3) hx hb dX13_canBe_90 (by decide) ?_
            exact ih3 y17 _ _ _ (iv_w iy17 (by decide)) (by rw [show y17.toNatClampNeg = v3_7.toNatClampNeg + 1 by rw [tn_ y17, tn_ v3_7]; omega]; exact (plc_skip (fun q9 => by have g1 : (xi (E 38) v3_7.toNatClampNeg).toInt = a0.toInt := q9.1; have g2 : (xi (E 39) v3_7.toNatClampNeg).toInt = a1.toInt := q9.2.1; have g3 : (xi (E 45) v3_7.toNatClampNeg).toInt ≤ a3.toInt := q9.2.2; have hy7 := congrArg Int32.toInt ey7; have hy13 := congrArg Int32.toInt ey13; omega)).mpr hx3_0) (by omega) (by first | exact ms_su hx3_2 ty17 (by decide) | omega) hP hS (lv_sub hl [0, 1, 2, 3, 4, 5, 6, 7] rfl)
          · --31 not
            have t18 : y13.toInt = a1.toInt := ti_eq c15
            have i19 : 0 ≤ a1.toInt ∧ a1.toInt ≤ 15 := iv_eqi t18.symm (iv_all _) iy13 (by decide)
            refine lv_aload_n hx hb dX13_canBe_34 rfl (lv_at hl 1 rfl) ?_
            refine th_get (ci := 14) (C := RX13) (T := TX13) (N := 97) (v := .ref (ad 45)) hx hb hts hinX13 hown hK hP hI 0 (Nat.le_of_ble_eq_true rfl) rfl rfl 63 (Nat.le_of_ble_eq_true rfl) (hts _ (vA_in _ _ (in_25 _ (zs4 (zs4 (zs4 (zs1 (zs1 (zs0))))))))) (fun _ h9 => h9) (hI.fr 0 (Nat.le_of_ble_eq_true rfl) rfl (Nat.le_of_ble_eq_true rfl) 45 rfl) dX13_canBe_35 ?_
            refine lv_iload hx hb dX13_canBe_38 (lv_at hl 0 rfl) ?_
            have n21 : vp_in v3_7 200 := (iv_in (n := 200) i5 (by decide))
            refine th_iald hx hb hK hP hI 45 (Nat.le_of_ble_eq_true rfl) rfl rfl n21 dX13_canBe_40 (fun y20 ey20 => ?_)
            have iy20 : 0 ≤ y20.toInt ∧ y20.toInt ≤ 400 := hI.el 45 (Nat.le_of_ble_eq_true rfl) rfl n21 (fun _ => rfl) ey20
            have ey20 := ey20.trans (hKp.ei 45 _ rfl)
            refine lv_iload hx hb dX13_canBe_41 (lv_at hl 5 rfl) ?_
            refine lv_icmp_le (tgt := 49) hx hb dX13_canBe_43 (by decide) (fun c22 => ?_) (fun c22 => ?_)
            · --43 taken
              have t23 : y20.toInt ≤ a3.toInt := ti_le c22
              have i24 : 0 ≤ a3.toInt ∧ a3.toInt ≤ 2147483647 := iv_le_r t23 iy20 (iv_all _) (by decide)
              refine lv_aload_n hx hb dX13_canBe_49 rfl (lv_at hl 1 rfl) ?_
              refine lv_iload hx hb dX13_canBe_50 (lv_at hl 0 rfl) ?_
              refine lv_iload hx hb dX13_canBe_52 (lv_at hl 6 rfl) ?_
              refine lv_iload hx hb dX13_canBe_54 (lv_at hl 7 rfl) ?_
              refine th_ri (va_runV (As := [.int v3_7, .int a4, .int a5]) (rest := []) ⟨hx, hb, hml, hown, hts⟩ (q_farFromV l dC dI cT ad E H.size v3_7 a4 a5 hI i5 hh2 hh3) (cwV 3 hts (gi_V (in_25 _ (zs16 (zs4 (zs1 (zs0))))) (in_25 _ (zs16 (zs4 (zs1 (zs1 (zs0)))))) (in_25 _ (zs16 (zs4 (zs1 (zs1 (zs1 (zs0))))))) (in_24 _ (zs4 (zs4 (zs4 (zs1 (zs1 (zs1 (zs0)))))))) (in_25 _ (zs16 (zs4 (zs4 (zs0)))))) rfl rfl rfl ⟨rfl, hz_yX13_farFrom_3⟩ ⟨Nat.le_of_ble_eq_true rfl, Nat.le_of_ble_eq_true rfl⟩) ⟨HW_bl, va_recv hK hP (ci := 14) (q0 := 0) rfl (hI.ob 0 (Nat.le_of_ble_eq_true rfl) rfl), (HW_wiR hP hK (WX_D hD) hS hEV)⟩ rfl rfl hl.1 rfl (lv_room (Nat.le_of_ble_eq_true rfl)) dX13_canBe_56 ⟨Nat.le_of_ble_eq_true rfl, Nat.le_of_ble_eq_true rfl⟩) hS hP (fun r25 H locs hw hP hS => ?_)
              obtain ⟨f26, f27, f28⟩ := hw
              refine lv_i2l hx hb dX13_canBe_59 rfl ?_
              refine lv_topl (fun y29 ey29 => ?_)
              refine lv_aload_n hx hb dX13_canBe_60 rfl (lv_at hl 1 rfl) ?_
              refine th_get (ci := 14) (C := RX13) (T := TX13) (N := 97) (v := .ref (ad 19)) hx hb hts hinX13 hown hK hP hI 0 (Nat.le_of_ble_eq_true rfl) rfl rfl 33 (Nat.le_of_ble_eq_true rfl) (hts _ (vA_in _ _ (in_25 _ (zs16 (zs16 (zs1 (zs0))))))) (fun _ h9 => h9) (hI.fr 0 (Nat.le_of_ble_eq_true rfl) rfl (Nat.le_of_ble_eq_true rfl) 19 rfl) dX13_canBe_61 ?_
              refine lv_iload_n hx hb dX13_canBe_64 rfl (lv_at hl 2 rfl) ?_
              have n31 : vp_in a0 20 := (iv_in (n := 20) hh0 (by decide))
              refine th_iald hx hb hK hP hI 19 (Nat.le_of_ble_eq_true rfl) rfl rfl n31 dX13_canBe_65 (fun y30 ey30 => ?_)
              have iy30 : 0 ≤ y30.toInt ∧ y30.toInt ≤ 9 := hI.el 19 (Nat.le_of_ble_eq_true rfl) rfl n31 (fun _ => rfl) ey30
              have ey30 := ey30.trans (hKp.ei 19 _ rfl)
              refine lv_i2l hx hb dX13_canBe_66 rfl ?_
              refine lv_topl (fun y32 ey32 => ?_)
              refine lv_aload_n hx hb dX13_canBe_67 rfl (lv_at hl 1 rfl) ?_
              refine th_get (ci := 14) (C := RX13) (T := TX13) (N := 97) (v := .ref (ad 40)) hx hb hts hinX13 hown hK hP hI 0 (Nat.le_of_ble_eq_true rfl) rfl rfl 58 (Nat.le_of_ble_eq_true rfl) (hts _ (vA_in _ _ (in_25 _ (zs4 (zs4 (zs4 (zs1 (zs1 (zs1 (zs0)))))))))) (fun _ h9 => h9) (hI.fr 0 (Nat.le_of_ble_eq_true rfl) rfl (Nat.le_of_ble_eq_true rfl) 40 rfl) dX13_canBe_68 ?_
              refine lv_iload hx hb dX13_canBe_71 (lv_at hl 0 rfl) ?_
              have n34 : vp_in v3_7 200 := (iv_in (n := 200) i5 (by decide))
              refine th_iald hx hb hK hP hI 40 (Nat.le_of_ble_eq_true rfl) rfl rfl n34 dX13_canBe_73 (fun y33 ey33 => ?_)
              have iy33 : 0 ≤ y33.toInt ∧ y33.toInt ≤ 100000 := hI.el 40 (Nat.le_of_ble_eq_true rfl) rfl n34 (fun _ => rfl) ey33
              have ey33 := ey33.trans (hKp.ei 40 _ rfl)
              refine lv_iload_n hx hb dX13_canBe_74 rfl (lv_at hl 4 rfl) ?_
              refine lv_isub hx hb dX13_canBe_75 ?_
              refine lv_topi (fun y35 ey35 => ?_)
              obtain ⟨ty35, iy35⟩ := ti_sub (e := (-100000)) (f := 100000) iy33 hh1 ey35 (by decide)
              have ty35 : y35.toInt = y33.toInt - a2.toInt := ty35
              have iy35 : -100000 ≤ y35.toInt ∧ y35.toInt ≤ 100000 := iy35
              refine va_mabs hx hb (by rw [hml]; exact hl.1.symm) hown (hts _ (vA_in _ _ (in_25 _ (zs16 (zs16 (zs1 (zs1 (zs0)))))))) (hts _ (vA_in _ _ (in_23 _ (zs4 (zs4 (zs1 (zs1 (zs0)))))))) (hts _ (vA_in _ _ (in_0 _ (zs16 (zs16 (zs1 (zs0))))))) (hts _ (vA_in _ _ (in_23 _ (zs4 (zs4 (zs1 (zs1 (zs1 (zs0))))))))) (Nat.le_of_ble_eq_true rfl) (Nat.le_of_ble_eq_true rfl) (Nat.le_of_ble_eq_true rfl) (Nat.le_of_ble_eq_true rfl) dX13_canBe_76 ?_
              refine lv_topi (fun y36 ey36 => ?_)
              obtain ⟨ty36, iy36⟩ := ti_abs (e := 0) (f := 100000) iy35 ey36 (by decide)
              have iy36 : 0 ≤ y36.toInt ∧ y36.toInt ≤ 100000 := iy36
              refine lv_i2l hx hb dX13_canBe_79 rfl ?_
              refine lv_topl (fun y37 ey37 => ?_)
              refine lv_lmul hx hb dX13_canBe_80 ?_
              refine lv_topl (fun y38 ey38 => ?_)
              refine W.lcmp hx hb dX13_canBe_81 ?_
              refine lv_topi (fun y39 ey39 => ?_)
              have jm : y38.toInt = y30.toInt * y36.toInt := tl_mul (ey38.trans (by rw [ey32, ey37]))
              have jf : y29.toInt = r25.toInt := (congrArg Int64.toInt ey29).trans (Int32.toInt_toInt64 _)
              have jc := lgc ey39
              have ja : y36.toInt = ab (wcM E 3 v3_7.toNatClampNeg - a2.toInt) := by show y36.toInt = ab ((xi (E 40) v3_7.toNatClampNeg).toInt - a2.toInt); have hy7 := congrArg Int32.toInt ey7; have hy13 := congrArg Int32.toInt ey13; have hy20 := congrArg Int32.toInt ey20; have hy30 := congrArg Int32.toInt ey30; have hy33 := congrArg Int32.toInt ey33; unfold ab; omega
              have js : y30.toInt = (xi (E 19) a0.toNatClampNeg).toInt := by have hy7 := congrArg Int32.toInt ey7; have hy13 := congrArg Int32.toInt ey13; have hy20 := congrArg Int32.toInt ey20; have hy30 := congrArg Int32.toInt ey30; have hy33 := congrArg Int32.toInt ey33; omega
              have jz : y38.toInt = (xi (E 19) a0.toNatClampNeg).toInt * ab (wcM E 3 v3_7.toNatClampNeg - a2.toInt) := by rw [jm, ja, js]
              have j0 : 0 ≤ y38.toInt := by rw [jm]; exact Int.mul_nonneg (by omega) (by omega)
              have jn : ffM (wcM E) v3_7.toNatClampNeg a4.toInt a5.toInt ≤ y38.toInt ↔ nearW (wcM E) a2.toInt (xi (E 19) a0.toNatClampNeg).toInt a4.toInt a5.toInt v3_7.toNatClampNeg := ff_near jz j0
              have jr : r25.toInt = ffM (wcM E) v3_7.toNatClampNeg a4.toInt a5.toInt := f28
              refine lv_if_le (tgt := 87) hx hb dX13_canBe_82 (by decide) (fun c40 => ?_) (fun c40 => ?_)
              · --82 taken
                have t41 : y39.toInt ≤ 0 := ti_le c40
                have i42 : -2147483648 ≤ y39.toInt ∧ y39.toInt ≤ 0 := iv_le_l t41 (iv_all _) (il_ 0) (by decide)
                obtain ⟨y43, ey43⟩ : ∃ y : Int32, y = v3_7 + (1 : Int32) := ⟨_, rfl⟩
                obtain ⟨ty43, iy43⟩ := ti_add (e := 1) (f := 200) i5 ln_1 ey43 (by decide)
                have ty43 : y43.toInt = v3_7.toInt + 1 := ty43
                have iy43 : 1 ≤ y43.toInt ∧ y43.toInt ≤ 200 := iy43
                refine lv_iinc (v := y43) (lv' := [(7, .int y43), (0, .ref (ad 0)), (1, .int a0), (2, .int a1), (3, .int a2), (4, .int a3), (5, .int a4), (6, .int a5)]) hx hb dX13_canBe_87 hl (k := 0) rfl (by rw [ey43]; rfl) (by decide) rfl (fun ls hl => ?_)
                refine lv_goto (tgt := 3) hx hb dX13_canBe_90 (by decide) ?_
                exact ih3 y43 _ _ _ (iv_w iy43 (by decide)) (by rw [show y43.toNatClampNeg = v3_7.toNatClampNeg + 1 by rw [tn_ y43, tn_ v3_7]; omega]; exact (plc_take (show wOf (wcM E) a0.toInt a1.toInt a3.toInt v3_7.toNatClampNeg from ⟨by show (xi (E 38) v3_7.toNatClampNeg).toInt = _; have hy7 := congrArg Int32.toInt ey7; have hy13 := congrArg Int32.toInt ey13; have hy20 := congrArg Int32.toInt ey20; have hy30 := congrArg Int32.toInt ey30; have hy33 := congrArg Int32.toInt ey33; omega, by show (xi (E 39) v3_7.toNatClampNeg).toInt = _; have hy7 := congrArg Int32.toInt ey7; have hy13 := congrArg Int32.toInt ey13; have hy20 := congrArg Int32.toInt ey20; have hy30 := congrArg Int32.toInt ey30; have hy33 := congrArg Int32.toInt ey33; omega, by show (xi (E 45) v3_7.toNatClampNeg).toInt ≤ _; have hy7 := congrArg Int32.toInt ey7; have hy13 := congrArg Int32.toInt ey13; have hy20 := congrArg Int32.toInt ey20; have hy30 := congrArg Int32.toInt ey30; have hy33 := congrArg Int32.toInt ey33; omega⟩)).mpr ⟨hx3_0, jn.mp (by omega)⟩) (by omega) (by first | exact ms_su hx3_2 ty43 (by decide) | omega) hP hS (lv_sub hl [0, 1, 2, 3, 4, 5, 6, 7] rfl)
              · --82 not
                have t44 : (0 : Int) < y39.toInt := ti_nle c40
                have i45 : 1 ≤ y39.toInt ∧ y39.toInt ≤ 2147483647 := iv_lt_r t44 (il_ 0) (iv_all _) (by decide)
                refine lv_iconst (v := 0) hx hb dX13_canBe_85 (by decide) ?_
                rw [hQ]
                exact W.zret (v := 0) hx hb hr rfl (fun t ht hW => ⟨⟨0, (), rfl, Or.inr (⟨rfl, (fun q9 => by have h9 := jn.mpr (q9.2 v3_7.toNatClampNeg (by rw [tn_ v3_7, tn_ (xi (E 0) 74)]; omega) (show wOf (wcM E) a0.toInt a1.toInt a3.toInt v3_7.toNatClampNeg from ⟨by show (xi (E 38) v3_7.toNatClampNeg).toInt = _; have hy7 := congrArg Int32.toInt ey7; have hy13 := congrArg Int32.toInt ey13; have hy20 := congrArg Int32.toInt ey20; have hy30 := congrArg Int32.toInt ey30; have hy33 := congrArg Int32.toInt ey33; omega, by show (xi (E 39) v3_7.toNatClampNeg).toInt = _; have hy7 := congrArg Int32.toInt ey7; have hy13 := congrArg Int32.toInt ey13; have hy20 := congrArg Int32.toInt ey20; have hy30 := congrArg Int32.toInt ey30; have hy33 := congrArg Int32.toInt ey33; omega, by show (xi (E 45) v3_7.toNatClampNeg).toInt ≤ _; have hy7 := congrArg Int32.toInt ey7; have hy13 := congrArg Int32.toInt ey13; have hy20 := congrArg Int32.toInt ey20; have hy30 := congrArg Int32.toInt ey30; have hy33 := congrArg Int32.toInt ey33; omega⟩)); omega)⟩), trivial⟩, hS.F ht⟩) hS.2.2 dX13_canBe_86
            · --43 not
              have t46 : a3.toInt < y20.toInt := ti_nle c22
              have i47 : -2147483648 ≤ a3.toInt ∧ a3.toInt ≤ 399 := iv_lt_l t46 (iv_all _) iy20 (by decide)
              refine lv_goto (tgt := 87) hx hb dX13_canBe_46 (by decide) ?_
              obtain ⟨y48, ey48⟩ : ∃ y : Int32, y = v3_7 + (1 : Int32) := ⟨_, rfl⟩
              obtain ⟨ty48, iy48⟩ := ti_add (e := 1) (f := 200) i5 ln_1 ey48 (by decide)
              have ty48 : y48.toInt = v3_7.toInt + 1 := ty48
              have iy48 : 1 ≤ y48.toInt ∧ y48.toInt ≤ 200 := iy48
              refine lv_iinc (v := y48) (lv' := [(7, .int y48), (0, .ref (ad 0)), (1, .int a0), (2, .int a1), (3, .int a2), (4, .int a3), (5, .int a4), (6, .int a5)]) hx hb dX13_canBe_87 hl (k := 0) rfl (by rw [ey48]; rfl) (by decide) rfl (fun ls hl => ?_)
              refine lv_goto (tgt := 3) hx hb dX13_canBe_90 (by decide) ?_
              exact ih3 y48 _ _ _ (iv_w iy48 (by decide)) (by rw [show y48.toNatClampNeg = v3_7.toNatClampNeg + 1 by rw [tn_ y48, tn_ v3_7]; omega]; exact (plc_skip (fun q9 => by have g1 : (xi (E 38) v3_7.toNatClampNeg).toInt = a0.toInt := q9.1; have g2 : (xi (E 39) v3_7.toNatClampNeg).toInt = a1.toInt := q9.2.1; have g3 : (xi (E 45) v3_7.toNatClampNeg).toInt ≤ a3.toInt := q9.2.2; have hy7 := congrArg Int32.toInt ey7; have hy13 := congrArg Int32.toInt ey13; have hy20 := congrArg Int32.toInt ey20; omega)).mpr hx3_0) (by omega) (by first | exact ms_su hx3_2 ty48 (by decide) | omega) hP hS (lv_sub hl [0, 1, 2, 3, 4, 5, 6, 7] rfl)
  exact hL3 (201) (0 : Int32) _ _ _ (iv_w ln_0 (by decide)) (show plc (wcM E) (0 : Int32).toNatClampNeg a0.toInt a1.toInt a3.toInt a2.toInt (xi (E 19) a0.toNatClampNeg).toInt a4.toInt a5.toInt from plc_0.mpr ⟨by omega, by omega, by omega, by omega⟩) (by omega) (by have h9 := ln_0; first | exact ms_bu h9.1 (by decide) | omega) hP hS (lv_sub hl [0, 1, 2, 3, 4, 5, 6, 7] rfl)
def v_findStatesV : List Cond := .code yX13_findStates cX13_findStates 13 none :: vA
abbrev rm_findStatesV : Room := { frames := 3, cells := 0, slots := 0, locals := 120 }
def w_findStatesV : Nat → Nat → Bool := wl [56, 57, 58, 59] []
set_option maxHeartbeats 4000000 in
set_option maxRecDepth 100000 in
theorem q_findStatesV (l : Launch) (dC : Nat → ClassId) (dI : Nat → Nat → Nat) (cT : Nat → ClassId) (ad : Nat → Nat) (E : Nat → va_E) (sz : Nat) (a0 : Int32) (a1 : Int32) (a2 : Int32) (a3 : Int32) (a4 : Int32) (hI0 : IX cT shM spM 72 ad E) (hh0 : 0 ≤ a0.toInt ∧ a0.toInt ≤ 1) (hh1 : 0 ≤ a1.toInt ∧ a1.toInt ≤ 19) (hh2 : 0 ≤ a3.toInt ∧ a3.toInt ≤ 100000) : Met l yX13_findStates v_findStatesV rm_findStatesV (va_Pc [.ref (ad 0), .int a0, .int a1, .int a2, .int a3, .int a4] (HW dC dI (TYM cT) 72 ad E sz)) (va_Qv (S := Nat → va_E) (fun u => IX cT shM spM 72 ad u ∧ Kp w_findStatesV E u ∧ ((StM E u a0.toNatClampNeg (StS (wcM E) (wdM E) (xi (E 0) 74).toNatClampNeg a1.toInt a2.toInt a4.toInt a3.toInt (xi (E 19) a1.toNatClampNeg).toInt)))) (HB dC dI 72 ad) (va_A (WX 72 ad E) sz)) 0 0 (va_A (WX 72 ad E) sz) := by
  refine Met.ofW (cc := cX13_findStates) (maxL := 13) (ret := none) (by decide) rfl ?_
  intro p e s m args below meth c s₁ B hml hv
  obtain ⟨hargs, hsz, hP, hK, hD0, hEV⟩ := hv
  subst hsz
  have hx := B.exec
  have hb := B.bytes
  have hr := B.returns
  have hts := atoms_spec (ws := v_findStatesV) B.pre
  have hown : s.vm.findClass RX13 = some m.cls := findClass_of_methodNamed B.named
  have hlocks := B.notSynchronized
  have hinX13 : ∀ w ∈ u_ws RX13 TX13 97, w ∈ v_findStatesV := fun w h => vA_in _ w (in_X13 w h)
  generalize hAe : va_A (WX 72 ad E) s.heap.size = A at hEV ⊢
  have hA : ∀ q : Nat, s.heap.size ≤ q → A q := fun q h => by rw [← hAe]; exact Or.inr h
  have hD : va_D A (WX 72 ad E) := by rw [← hAe]; exact hD0.self
  have hS : va_S A s.heap s.heap [] := va_S.rf
  have hI := hI0
  have hKp : Kp w_findStatesV E E := Kp.rf
  have hl := lv_entry ([.ref (ad 0), .int a0, .int a1, .int a2, .int a3, .int a4]) (n := 13) (Nat.le_of_ble_eq_true rfl)
  obtain ⟨Q, hQ⟩ : ∃ Q, Q = MQ below (va_Qv (S := Nat → va_E) (fun u => IX cT shM spM 72 ad u ∧ Kp w_findStatesV E u ∧ ((StM E u a0.toNatClampNeg (StS (wcM E) (wdM E) (xi (E 0) 74).toNatClampNeg a1.toInt a2.toInt a4.toInt a3.toInt (xi (E 19) a1.toNatClampNeg).toInt)))) (HB dC dI 72 ad) (A)) args s 0 0 (A) := ⟨_, rfl⟩
  rw [← hQ, show entryFrame m args 13 = _ from (congrArg (fun z => entryFrame m z 13) hargs).trans (lg_entry_eq _ _ _)]
  generalize (lg_sl ([.ref (ad 0), .int a0, .int a1, .int a2, .int a3, .int a4]) ++ List.replicate (13 - (lg_sl ([.ref (ad 0), .int a0, .int a1, .int a2, .int a3, .int a4])).length) Slot.unset).toArray = ls at hl ⊢
  have hl : lv_has ls 13 [(0, .ref (ad 0)), (1, .int a0), (2, .int a1), (3, .int a2), (4, .int a3), (5, .int a4)] := hl
  have z0z : (0 : Int32).toInt = 0 := rfl
  have iwd : 0 ≤ (xi (E 0) 74).toInt ∧ (xi (E 0) 74).toInt ≤ 200 := hI0.iv 0 (Nat.le_of_ble_eq_true rfl) rfl (Nat.le_of_ble_eq_true rfl) rfl
  refine lv_sipush (v := 128) hx hb dX13_findStates_0 (by decide) ?_
  refine lv_iload_n hx hb dX13_findStates_3 rfl (lv_at hl 1 rfl) ?_
  refine lv_imul hx hb dX13_findStates_4 ?_
  refine lv_topi (fun y1 ey1 => ?_)
  obtain ⟨ty1, iy1⟩ := ti_mul (e := 0) (f := 128) ln_128 hh0 ey1 (by decide)
  have ty1 : y1.toInt = 128 * a0.toInt := ty1
  have iy1 : 0 ≤ y1.toInt ∧ y1.toInt ≤ 128 := iy1
  refine lv_istore (lv' := [(6, .int y1), (0, .ref (ad 0)), (1, .int a0), (2, .int a1), (3, .int a2), (4, .int a3), (5, .int a4)]) hx hb dX13_findStates_5 hl (by decide) rfl (fun ls hl => ?_)
  refine lv_iconst (v := 0) hx hb dX13_findStates_7 (by decide) ?_
  refine lv_istore (lv' := [(7, .int 0), (6, .int y1), (0, .ref (ad 0)), (1, .int a0), (2, .int a1), (3, .int a2), (4, .int a3), (5, .int a4)]) hx hb dX13_findStates_8 hl (by decide) rfl (fun ls hl => ?_)
  refine lv_iconst (v := -1) hx hb dX13_findStates_10 (by decide) ?_
  refine lv_istore (lv' := [(8, .int (-1)), (7, .int 0), (6, .int y1), (0, .ref (ad 0)), (1, .int a0), (2, .int a1), (3, .int a2), (4, .int a3), (5, .int a4)]) hx hb dX13_findStates_11 hl (by decide) rfl (fun ls hl => ?_)
  refine lv_sipush (v := 255) hx hb dX13_findStates_13 (by decide) ?_
  refine lv_istore (lv' := [(9, .int 255), (8, .int (-1)), (7, .int 0), (6, .int y1), (0, .ref (ad 0)), (1, .int a0), (2, .int a1), (3, .int a2), (4, .int a3), (5, .int a4)]) hx hb dX13_findStates_16 hl (by decide) rfl (fun ls hl => ?_)
  refine lv_iconst (v := 0) hx hb dX13_findStates_18 (by decide) ?_
  refine lv_istore (lv' := [(10, .int 0), (9, .int 255), (8, .int (-1)), (7, .int 0), (6, .int y1), (0, .ref (ad 0)), (1, .int a0), (2, .int a1), (3, .int a2), (4, .int a3), (5, .int a4)]) hx hb dX13_findStates_19 hl (by decide) rfl (fun ls hl => ?_)
  have hL21 : ∀ d : Nat, ∀ (v21_10 : Int32) (v21_9 : Int32) (v21_8 : Int32) (H : Heap) (locs : List Loc) (ls : Array Slot), 0 ≤ v21_10.toInt ∧ v21_10.toInt ≤ 200 → -1 ≤ v21_8.toInt ∧ v21_8.toInt ≤ 199 → ((v21_8.toInt = -1 ∧ ¬ hrd (wcM E) v21_10.toNatClampNeg a1.toInt a2.toInt a4.toInt a3.toInt) ∨ (0 ≤ v21_8.toInt ∧ v21_8.toInt < v21_10.toInt ∧ wOf (wcM E) a1.toInt a2.toInt a4.toInt v21_8.toNatClampNeg ∧ wcM E 3 v21_8.toNatClampNeg = a3.toInt)) → (∀ d9, d9 < 8 → (bt v21_9 d9 = true ↔ drs (wcM E) (wdM E) v21_10.toNatClampNeg a1.toInt a2.toInt a4.toInt a3.toInt d9)) → 0 ≤ v21_9.toInt → v21_10.toInt ≤ (xi (E 0) 74).toInt → 200 - v21_10.toInt < (d : Int) → va_P (dC, dI) vwCl (WX 72 ad E) H → va_S A s.heap H locs → lv_has ls 13 [(10, .int v21_10), (9, .int v21_9), (8, .int v21_8), (7, .int 0), (6, .int y1), (0, .ref (ad 0)), (1, .int a0), (2, .int a1), (3, .int a2), (4, .int a3), (5, .int a4)] → W p l e (headSpec v_findStatesV rm_findStatesV).room s m args below meth c H locs 0 0 Q (F0 m 21 ls []) := by
    intro d
    induction d with
    | zero =>
      intro v21_10 v21_9 v21_8 H locs ls hv21_10 hv21_8 hx21_0 hx21_1 hx21_2 hx21_3 hx21_4 hP hS hl
      exact absurd hx21_4 (by first | exact ms_zu hv21_10.2 | omega)
    | succ d ih21 =>
      intro v21_10 v21_9 v21_8 H locs ls hv21_10 hv21_8 hx21_0 hx21_1 hx21_2 hx21_3 hx21_4 hP hS hl
      refine lv_iload hx hb dX13_findStates_21 (lv_at hl 0 rfl) ?_
      refine lv_aload_n hx hb dX13_findStates_23 rfl (lv_at hl 5 rfl) ?_
      have i2 : 0 ≤ (xi (E 0) 74).toInt ∧ (xi (E 0) 74).toInt ≤ 200 := hI0.iv 0 (Nat.le_of_ble_eq_true rfl) rfl (Nat.le_of_ble_eq_true rfl) rfl
      refine th_get (ci := 14) (C := RX13) (T := TX13) (N := 97) (v := .int (xi (E 0) 74)) hx hb hts hinX13 hown hK hP hI 0 (Nat.le_of_ble_eq_true rfl) rfl rfl 74 (Nat.le_of_ble_eq_true rfl) (hts _ (vA_in _ _ (in_25 _ (zs4 (zs4 (zs1 (zs1 (zs1 (zs0))))))))) (fun _ h9 => h9) (th_v0 hKp hI0 0 (Nat.le_of_ble_eq_true rfl) rfl (Nat.le_of_ble_eq_true rfl) rfl rfl) dX13_findStates_24 ?_
      refine lv_icmp_ge (tgt := 107) hx hb dX13_findStates_27 (by decide) (fun c3 => ?_) (fun c3 => ?_)
      · --27 taken
        have t4 : (xi (E 0) 74).toInt ≤ v21_10.toInt := ti_le c3
        have hFA := hx21_0
        have hFB := hx21_1
        rw [show v21_10.toNatClampNeg = (xi (E 0) 74).toNatClampNeg by rw [tn_ v21_10, tn_ (xi (E 0) 74)]; omega] at hFA hFB
        have hSb : Sbd (StS (wcM E) (wdM E) (xi (E 0) 74).toNatClampNeg a1.toInt a2.toInt a4.toInt a3.toInt (xi (E 19) a1.toNatClampNeg).toInt) := fun u v k q => q.bd
        refine lv_iconst (v := 0) hx hb dX13_findStates_107 (by decide) ?_
        refine lv_istore (lv' := [(10, .int 0), (9, .int v21_9), (8, .int v21_8), (7, .int 0), (6, .int y1), (0, .ref (ad 0)), (1, .int a0), (2, .int a1), (3, .int a2), (4, .int a3), (5, .int a4)]) hx hb dX13_findStates_108 hl (by decide) rfl (fun ls hl => ?_)
        have hL110 : ∀ d : Nat, ∀ (v110_10 : Int32) (v110_7 : Int32) (E110_ : Nat → va_E) (H : Heap) (locs : List Loc) (ls : Array Slot), 0 ≤ v110_10.toInt ∧ v110_10.toInt ≤ 100 → 0 ≤ v110_7.toInt ∧ v110_7.toInt ≤ 128 → v110_7.toInt ≤ 32 * (max 0 (min (v110_10.toInt - (xi (E 41) v21_8.toNatClampNeg).toInt) 4)) → LM (rI E110_ 56) (rI E110_ 57) (rI E110_ 58) (128 * a0.toNatClampNeg) v110_7.toNatClampNeg (adv (StS (wcM E) (wdM E) (xi (E 0) 74).toNatClampNeg a1.toInt a2.toInt a4.toInt a3.toInt (xi (E 19) a1.toNatClampNeg).toInt) v110_10.toInt 0 0) → OthM E E110_ (128 * a0.toNatClampNeg) → 100 - v110_10.toInt < (d : Int) → IX cT shM spM 72 ad E110_ → Kp w_findStatesV E E110_ → va_P (dC, dI) vwCl (WX 72 ad E110_) H → va_S A s.heap H locs → lv_has ls 13 [(10, .int v110_10), (9, .int v21_9), (8, .int v21_8), (7, .int v110_7), (6, .int y1), (0, .ref (ad 0)), (1, .int a0), (2, .int a1), (3, .int a2), (4, .int a3), (5, .int a4)] → W p l e (headSpec v_findStatesV rm_findStatesV).room s m args below meth c H locs 0 0 Q (F0 m 110 ls []) := by
          intro d
          induction d with
          | zero =>
            intro v110_10 v110_7 E110_ H locs ls hv110_10 hv110_7 hx110_0 hx110_1 hx110_2 hx110_3 hI hKp hP hS hl
            exact absurd hx110_3 (by first | exact ms_zu hv110_10.2 | omega)
          | succ d ih110 =>
            intro v110_10 v110_7 E110_ H locs ls hv110_10 hv110_7 hx110_0 hx110_1 hx110_2 hx110_3 hI hKp hP hS hl
            refine lv_iload hx hb dX13_findStates_110 (lv_at hl 0 rfl) ?_
            refine lv_bipush (v := 99) hx hb dX13_findStates_112 (by decide) ?_
            refine lv_icmp_gt (tgt := 246) hx hb dX13_findStates_114 (by decide) (fun c5 => ?_) (fun c5 => ?_)
            · --114 taken
              have t6 : (99 : Int) < v110_10.toInt := ti_lt c5
              have i7 : 100 ≤ v110_10.toInt ∧ v110_10.toInt ≤ 100 := iv_lt_r t6 (il_ 99) hv110_10 (by decide)
              refine lv_aload_n hx hb dX13_findStates_246 rfl (lv_at hl 5 rfl) ?_
              refine th_get (ci := 14) (C := RX13) (T := TX13) (N := 97) (v := .ref (ad 59)) hx hb hts hinX13 hown hK hP hI 0 (Nat.le_of_ble_eq_true rfl) rfl rfl 79 (Nat.le_of_ble_eq_true rfl) (hts _ (vA_in _ _ (in_25 _ (zs16 (zs4 (zs0)))))) (fun _ h9 => h9) (hI.fr 0 (Nat.le_of_ble_eq_true rfl) rfl (Nat.le_of_ble_eq_true rfl) 59 rfl) dX13_findStates_247 ?_
              refine lv_iload_n hx hb dX13_findStates_250 rfl (lv_at hl 6 rfl) ?_
              refine lv_iload hx hb dX13_findStates_251 (lv_at hl 3 rfl) ?_
              have n8 : vp_in a0 2 := (iv_in (n := 2) hh0 (by decide))
              refine th_iast hx hb hK hP (WX_D hD) hS hI 59 (Nat.le_of_ble_eq_true rfl) rfl rfl n8 (okI rfl hv110_7) dX13_findStates_253 (fun H locs E9 pw10 hI hP hS => ?_)
              have hKp := hKp.pw pw10 rfl
              rw [hQ]
              exact W.vret hx hb hr (fun t ht hW => ⟨⟨E9, rfl, ⟨hI, hKp, (StM.of hx110_1 hx110_2 pw10 rfl rfl (adv_all hSb (by omega)))⟩, by show va_P (dC, dI) vwCl (WX 72 ad E9) t.heap; rw [ht]; exact hP⟩, hS.F ht⟩) hS.2.2 dX13_findStates_254
            · --114 not
              have t11 : v110_10.toInt ≤ 99 := ti_nlt c5
              have i12 : 0 ≤ v110_10.toInt ∧ v110_10.toInt ≤ 99 := iv_le_l t11 hv110_10 (il_ 99) (by decide)
              refine lv_iload hx hb dX13_findStates_117 (lv_at hl 2 rfl) ?_
              refine lv_iconst (v := -1) hx hb dX13_findStates_119 (by decide) ?_
              refine lv_icmp_eq (tgt := 246) hx hb dX13_findStates_120 (by decide) (fun c13 => ?_) (fun c13 => ?_)
              · --120 taken
                have t14 : v21_8.toInt = -1 := ti_eq c13
                have i15 : -1 ≤ v21_8.toInt ∧ v21_8.toInt ≤ -1 := iv_eqi t14 hv21_8 (il_ (-1)) (by decide)
                refine lv_aload_n hx hb dX13_findStates_246 rfl (lv_at hl 5 rfl) ?_
                refine th_get (ci := 14) (C := RX13) (T := TX13) (N := 97) (v := .ref (ad 59)) hx hb hts hinX13 hown hK hP hI 0 (Nat.le_of_ble_eq_true rfl) rfl rfl 79 (Nat.le_of_ble_eq_true rfl) (hts _ (vA_in _ _ (in_25 _ (zs16 (zs4 (zs0)))))) (fun _ h9 => h9) (hI.fr 0 (Nat.le_of_ble_eq_true rfl) rfl (Nat.le_of_ble_eq_true rfl) 59 rfl) dX13_findStates_247 ?_
                refine lv_iload_n hx hb dX13_findStates_250 rfl (lv_at hl 6 rfl) ?_
                refine lv_iload hx hb dX13_findStates_251 (lv_at hl 3 rfl) ?_
                have n16 : vp_in a0 2 := (iv_in (n := 2) hh0 (by decide))
                refine th_iast hx hb hK hP (WX_D hD) hS hI 59 (Nat.le_of_ble_eq_true rfl) rfl rfl n16 (okI rfl hv110_7) dX13_findStates_253 (fun H locs E17 pw18 hI hP hS => ?_)
                have hKp := hKp.pw pw18 rfl
                rw [hQ]
                exact W.vret hx hb hr (fun t ht hW => ⟨⟨E17, rfl, ⟨hI, hKp, (StM.of hx110_1 hx110_2 pw18 rfl rfl (adv_no (fun u9 v9 k9 q9 => (hFA.elim (fun q8 => q8.2) (fun q8 => by exfalso; omega)) q9.1)))⟩, by show va_P (dC, dI) vwCl (WX 72 ad E17) t.heap; rw [ht]; exact hP⟩, hS.F ht⟩) hS.2.2 dX13_findStates_254
              · --120 not
                have t19 : ¬ v21_8.toInt = -1 := ti_ne c13
                have i20 : 0 ≤ v21_8.toInt ∧ v21_8.toInt ≤ 199 := iv_ne_l t19 hv21_8 (il_ (-1))
                have s3 : 0 ≤ (xi (E 43) v21_8.toNatClampNeg).toInt ∧ (xi (E 43) v21_8.toNatClampNeg).toInt ≤ 3 := hI0.iv 43 (Nat.le_of_ble_eq_true rfl) rfl (by rw [tn_]; omega) rfl
                have hFR := hFA.resolve_left (fun q9 => by have q8 := q9.1; omega)
                have hFl : v21_8.toNatClampNeg < (xi (E 0) 74).toNatClampNeg := by rw [tn_ v21_8, tn_ (xi (E 0) 74)]; omega
                have hHr : hrd (wcM E) (xi (E 0) 74).toNatClampNeg a1.toInt a2.toInt a4.toInt a3.toInt := ⟨v21_8.toNatClampNeg, hFl, hFR.2.2.1, hFR.2.2.2⟩
                refine lv_iconst (v := 0) hx hb dX13_findStates_123 (by decide) ?_
                refine lv_istore (lv' := [(11, .int 0), (10, .int v110_10), (9, .int v21_9), (8, .int v21_8), (7, .int v110_7), (6, .int y1), (0, .ref (ad 0)), (1, .int a0), (2, .int a1), (3, .int a2), (4, .int a3), (5, .int a4)]) hx hb dX13_findStates_124 hl (by decide) rfl (fun ls hl => ?_)
                have hL126 : ∀ d : Nat, ∀ (v126_11 : Int32) (v126_7 : Int32) (E126_ : Nat → va_E) (H : Heap) (locs : List Loc) (ls : Array Slot), 0 ≤ v126_11.toInt ∧ v126_11.toInt ≤ 100 → 0 ≤ v126_7.toInt ∧ v126_7.toInt ≤ 128 → (((xi (E 41) v21_8.toNatClampNeg).toInt ≤ v110_10.toInt ∧ v110_10.toInt ≤ (xi (E 41) v21_8.toNatClampNeg).toInt + 3) → v126_7.toInt ≤ 32 * (v110_10.toInt - (xi (E 41) v21_8.toNatClampNeg).toInt) + 8 * (max 0 (min (v126_11.toInt - (xi (E 42) v21_8.toNatClampNeg).toInt) 4))) → (¬ ((xi (E 41) v21_8.toNatClampNeg).toInt ≤ v110_10.toInt ∧ v110_10.toInt ≤ (xi (E 41) v21_8.toNatClampNeg).toInt + 3) → v126_7.toInt ≤ 32 * (max 0 (min (v110_10.toInt - (xi (E 41) v21_8.toNatClampNeg).toInt) 4))) → LM (rI E126_ 56) (rI E126_ 57) (rI E126_ 58) (128 * a0.toNatClampNeg) v126_7.toNatClampNeg (adv (StS (wcM E) (wdM E) (xi (E 0) 74).toNatClampNeg a1.toInt a2.toInt a4.toInt a3.toInt (xi (E 19) a1.toNatClampNeg).toInt) v110_10.toInt v126_11.toInt 0) → OthM E E126_ (128 * a0.toNatClampNeg) → 100 - v126_11.toInt < (d : Int) → IX cT shM spM 72 ad E126_ → Kp w_findStatesV E E126_ → va_P (dC, dI) vwCl (WX 72 ad E126_) H → va_S A s.heap H locs → lv_has ls 13 [(11, .int v126_11), (10, .int v110_10), (9, .int v21_9), (8, .int v21_8), (7, .int v126_7), (6, .int y1), (0, .ref (ad 0)), (1, .int a0), (2, .int a1), (3, .int a2), (4, .int a3), (5, .int a4)] → W p l e (headSpec v_findStatesV rm_findStatesV).room s m args below meth c H locs 0 0 Q (F0 m 126 ls []) := by
                  intro d
                  induction d with
                  | zero =>
                    intro v126_11 v126_7 E126_ H locs ls hv126_11 hv126_7 hx126_0 hx126_1 hx126_2 hx126_3 hx126_4 hI hKp hP hS hl
                    exact absurd hx126_4 (by first | exact ms_zu hv126_11.2 | omega)
                  | succ d ih126 =>
                    intro v126_11 v126_7 E126_ H locs ls hv126_11 hv126_7 hx126_0 hx126_1 hx126_2 hx126_3 hx126_4 hI hKp hP hS hl
                    refine lv_iload hx hb dX13_findStates_126 (lv_at hl 0 rfl) ?_
                    refine lv_bipush (v := 99) hx hb dX13_findStates_128 (by decide) ?_
                    refine lv_icmp_gt (tgt := 240) hx hb dX13_findStates_130 (by decide) (fun c21 => ?_) (fun c21 => ?_)
                    · --130 taken
                      have t22 : (99 : Int) < v126_11.toInt := ti_lt c21
                      have i23 : 100 ≤ v126_11.toInt ∧ v126_11.toInt ≤ 100 := iv_lt_r t22 (il_ 99) hv126_11 (by decide)
                      obtain ⟨y24, ey24⟩ : ∃ y : Int32, y = v110_10 + (1 : Int32) := ⟨_, rfl⟩
                      obtain ⟨ty24, iy24⟩ := ti_add (e := 1) (f := 100) i12 ln_1 ey24 (by decide)
                      have ty24 : y24.toInt = v110_10.toInt + 1 := ty24
                      have iy24 : 1 ≤ y24.toInt ∧ y24.toInt ≤ 100 := iy24
                      refine lv_iinc (v := y24) (lv' := [(10, .int y24), (11, .int v126_11), (9, .int v21_9), (8, .int v21_8), (7, .int v126_7), (6, .int y1), (0, .ref (ad 0)), (1, .int a0), (2, .int a1), (3, .int a2), (4, .int a3), (5, .int a4)]) hx hb dX13_findStates_240 hl (k := 1) rfl (by rw [ey24]; rfl) (by decide) rfl (fun ls hl => ?_)
                      refine lv_goto (tgt := 110) hx hb dX13_findStates_243 (by decide) ?_
                      exact ih110 y24 v126_7 E126_ _ _ _ (iv_w iy24 (by decide)) hv126_7 (by  omega) (hx126_2.cg (adv_x hSb (by omega) (by omega) (by omega) (by omega))) hx126_3 (by first | exact ms_su hx110_3 ty24 (by decide) | omega) hI hKp hP hS (lv_sub hl [0, 2, 3, 4, 5, 6, 7, 8, 9, 10, 11] rfl)
                    · --130 not
                      have t25 : v126_11.toInt ≤ 99 := ti_nlt c21
                      have i26 : 0 ≤ v126_11.toInt ∧ v126_11.toInt ≤ 99 := iv_le_l t25 hv126_11 (il_ 99) (by decide)
                      refine lv_aload_n hx hb dX13_findStates_133 rfl (lv_at hl 6 rfl) ?_
                      refine lv_iload hx hb dX13_findStates_134 (lv_at hl 3 rfl) ?_
                      refine lv_iload hx hb dX13_findStates_136 (lv_at hl 1 rfl) ?_
                      refine lv_iload hx hb dX13_findStates_138 (lv_at hl 0 rfl) ?_
                      refine th_ri (va_runV (As := [.int v21_8, .int v110_10, .int v126_11]) (rest := []) ⟨hx, hb, hml, hown, hts⟩ (q_farFromV l dC dI cT ad E126_ H.size v21_8 v110_10 v126_11 hI i20 i12 i26) (cwV 3 hts (gi_V (in_25 _ (zs16 (zs4 (zs1 (zs0))))) (in_25 _ (zs16 (zs4 (zs1 (zs1 (zs0)))))) (in_25 _ (zs16 (zs4 (zs1 (zs1 (zs1 (zs0))))))) (in_24 _ (zs4 (zs4 (zs4 (zs1 (zs1 (zs1 (zs0)))))))) (in_25 _ (zs16 (zs4 (zs4 (zs0)))))) rfl rfl rfl ⟨rfl, hz_yX13_farFrom_3⟩ ⟨Nat.le_of_ble_eq_true rfl, Nat.le_of_ble_eq_true rfl⟩) ⟨HW_bl, va_recv hK hP (ci := 14) (q0 := 0) rfl (hI.ob 0 (Nat.le_of_ble_eq_true rfl) rfl), (HW_wi hP hK (WX_D hD) hS hA hEV)⟩ rfl rfl hl.1 rfl (lv_room (Nat.le_of_ble_eq_true rfl)) dX13_findStates_140 ⟨Nat.le_of_ble_eq_true rfl, Nat.le_of_ble_eq_true rfl⟩) hS hP (fun r27 H locs hw hP hS => ?_)
                      obtain ⟨f28, f29, f30⟩ := hw
                      try rw [hKp.ef 41 (fun _ => rfl)] at f29
                      try rw [hKp.ef 42 (fun _ => rfl)] at f29
                      try rw [hKp.ef 43 (fun _ => rfl)] at f29
                      have hff : r27.toInt = ffM (wcM E) v21_8.toNatClampNeg v110_10.toInt v126_11.toInt := f30.trans (by rw [wcM_cg (E := E) (E' := E126_) (fun o9 h9 g9 i9 => by rcases (show o9 = 38 ∨ o9 = 39 ∨ o9 = 40 ∨ o9 = 41 ∨ o9 = 42 ∨ o9 = 43 ∨ o9 = 44 ∨ o9 = 45 by omega) with rfl | rfl | rfl | rfl | rfl | rfl | rfl | rfl <;> exact hKp.ei _ i9 rfl)])
                      refine lv_if_gt (tgt := 234) hx hb dX13_findStates_143 (by decide) (fun c31 => ?_) (fun c31 => ?_)
                      · --143 taken
                        have t32 : (0 : Int) < r27.toInt := ti_lt c31
                        have i33 : 1 ≤ r27.toInt ∧ r27.toInt ≤ 200 := iv_lt_r t32 (il_ 0) f28 (by decide)
                        obtain ⟨y34, ey34⟩ : ∃ y : Int32, y = v126_11 + (1 : Int32) := ⟨_, rfl⟩
                        obtain ⟨ty34, iy34⟩ := ti_add (e := 1) (f := 100) i26 ln_1 ey34 (by decide)
                        have ty34 : y34.toInt = v126_11.toInt + 1 := ty34
                        have iy34 : 1 ≤ y34.toInt ∧ y34.toInt ≤ 100 := iy34
                        refine lv_iinc (v := y34) (lv' := [(11, .int y34), (10, .int v110_10), (9, .int v21_9), (8, .int v21_8), (7, .int v126_7), (6, .int y1), (0, .ref (ad 0)), (1, .int a0), (2, .int a1), (3, .int a2), (4, .int a3), (5, .int a4)]) hx hb dX13_findStates_234 hl (k := 0) rfl (by rw [ey34]; rfl) (by decide) rfl (fun ls hl => ?_)
                        refine lv_goto (tgt := 126) hx hb dX13_findStates_237 (by decide) ?_
                        exact ih126 y34 v126_7 E126_ _ _ _ (iv_w iy34 (by decide)) hv126_7 (by  omega) (by  omega) (hx126_2.cg (adv_yn hSb (fun k9 q9 => absurd (plc_first q9.2.1 hFl hFR.2.2.1 hFR.2.2.2) (by rw [← hff]; omega)) (by omega) (by omega) (by omega))) hx126_3 (by first | exact ms_su hx126_4 ty34 (by decide) | omega) hI hKp hP hS (lv_sub hl [0, 1, 2, 3, 4, 5, 6, 7, 8, 9, 10, 11] rfl)
                      · --143 not
                        have t35 : r27.toInt ≤ 0 := ti_nlt c31
                        have i36 : 0 ≤ r27.toInt ∧ r27.toInt ≤ 0 := iv_le_l t35 f28 (il_ 0) (by decide)
                        refine lv_aload_n hx hb dX13_findStates_146 rfl (lv_at hl 6 rfl) ?_
                        refine lv_iload_n hx hb dX13_findStates_147 rfl (lv_at hl 8 rfl) ?_
                        refine lv_iload_n hx hb dX13_findStates_148 rfl (lv_at hl 9 rfl) ?_
                        refine lv_iload hx hb dX13_findStates_149 (lv_at hl 10 rfl) ?_
                        refine lv_iload hx hb dX13_findStates_151 (lv_at hl 11 rfl) ?_
                        refine lv_iload hx hb dX13_findStates_153 (lv_at hl 1 rfl) ?_
                        refine lv_iload hx hb dX13_findStates_155 (lv_at hl 0 rfl) ?_
                        refine th_ri (va_runV (As := [.int a1, .int a2, .int a3, .int a4, .int v110_10, .int v126_11]) (rest := []) ⟨hx, hb, hml, hown, hts⟩ (q_canBeV l dC dI cT ad E126_ H.size a1 a2 a3 a4 v110_10 v126_11 hI hh1 hh2 i12 i26) (cwV 6 hts (gi_V (in_25 _ (zs16 (zs4 (zs4 (zs4 (zs1 (zs0))))))) (in_25 _ (zs16 (zs4 (zs4 (zs4 (zs1 (zs1 (zs0)))))))) (in_25 _ (zs16 (zs4 (zs4 (zs4 (zs1 (zs1 (zs1 (zs0))))))))) (in_24 _ (zs4 (zs4 (zs4 (zs1 (zs1 (zs1 (zs0)))))))) (in_25 _ (zs16 (zs16 (zs0))))) rfl rfl rfl ⟨rfl, hz_yX13_canBe_6⟩ ⟨Nat.le_of_ble_eq_true rfl, Nat.le_of_ble_eq_true rfl⟩) ⟨HW_bl, va_recv hK hP (ci := 14) (q0 := 0) rfl (hI.ob 0 (Nat.le_of_ble_eq_true rfl) rfl), (HW_wi hP hK (WX_D hD) hS hA hEV)⟩ rfl rfl hl.1 rfl (lv_room (Nat.le_of_ble_eq_true rfl)) dX13_findStates_157 ⟨Nat.le_of_ble_eq_true rfl, Nat.le_of_ble_eq_true rfl⟩) hS hP (fun r37 H locs hw hP hS => ?_)
                        rcases hw with hw | hw
                        · -- canBeV, case 0
                          obtain ⟨rfl, f38⟩ := hw
                          try rw [hKp.ei 0 74 rfl] at f38
                          refine lv_if_ne (tgt := 166) hx hb dX13_findStates_160 (by decide) (fun c39 => ?_) (fun c39 => ?_)
                          · --160 taken
                            have k40 : plc (wcM E) (xi (E 0) 74).toNatClampNeg a1.toInt a2.toInt a4.toInt a3.toInt (xi (E 19) a1.toNatClampNeg).toInt v110_10.toInt v126_11.toInt := by have h9 := f38; rw [wcM_cg (E := E) (E' := E126_) (fun o9 h9 g9 i9 => by rcases (show o9 = 38 ∨ o9 = 39 ∨ o9 = 40 ∨ o9 = 41 ∨ o9 = 42 ∨ o9 = 43 ∨ o9 = 44 ∨ o9 = 45 by omega) with rfl | rfl | rfl | rfl | rfl | rfl | rfl | rfl <;> exact hKp.ei _ i9 rfl)] at h9; (try rw [show xi (E126_ 19) = xi (E 19) from hKp.ef 19 (fun _ => rfl)] at h9); (try rw [show xi (E126_ 0) 74 = xi (E 0) 74 from hKp.ei 0 74 rfl] at h9); exact h9
                            refine lv_iconst (v := 0) hx hb dX13_findStates_166 (by decide) ?_
                            refine lv_istore (lv' := [(12, .int 0), (11, .int v126_11), (10, .int v110_10), (9, .int v21_9), (8, .int v21_8), (7, .int v126_7), (6, .int y1), (0, .ref (ad 0)), (1, .int a0), (2, .int a1), (3, .int a2), (4, .int a3), (5, .int a4)]) hx hb dX13_findStates_167 hl (by decide) rfl (fun ls hl => ?_)
                            have hL169 : ∀ d : Nat, ∀ (v169_12 : Int32) (v169_7 : Int32) (E169_ : Nat → va_E) (H : Heap) (locs : List Loc) (ls : Array Slot), 0 ≤ v169_12.toInt ∧ v169_12.toInt ≤ 8 → 0 ≤ v169_7.toInt ∧ v169_7.toInt ≤ 128 → v169_7.toInt ≤ 32 * (v110_10.toInt - (xi (E 41) v21_8.toNatClampNeg).toInt) + 8 * (v126_11.toInt - (xi (E 42) v21_8.toNatClampNeg).toInt) + v169_12.toInt → LM (rI E169_ 56) (rI E169_ 57) (rI E169_ 58) (128 * a0.toNatClampNeg) v169_7.toNatClampNeg (adv (StS (wcM E) (wdM E) (xi (E 0) 74).toNatClampNeg a1.toInt a2.toInt a4.toInt a3.toInt (xi (E 19) a1.toNatClampNeg).toInt) v110_10.toInt v126_11.toInt v169_12.toInt) → OthM E E169_ (128 * a0.toNatClampNeg) → 8 - v169_12.toInt < (d : Int) → IX cT shM spM 72 ad E169_ → Kp w_findStatesV E E169_ → va_P (dC, dI) vwCl (WX 72 ad E169_) H → va_S A s.heap H locs → lv_has ls 13 [(12, .int v169_12), (11, .int v126_11), (10, .int v110_10), (9, .int v21_9), (8, .int v21_8), (7, .int v169_7), (6, .int y1), (0, .ref (ad 0)), (1, .int a0), (2, .int a1), (3, .int a2), (4, .int a3), (5, .int a4)] → W p l e (headSpec v_findStatesV rm_findStatesV).room s m args below meth c H locs 0 0 Q (F0 m 169 ls []) := by
                              intro d
                              induction d with
                              | zero =>
                                intro v169_12 v169_7 E169_ H locs ls hv169_12 hv169_7 hx169_0 hx169_1 hx169_2 hx169_3 hI hKp hP hS hl
                                exact absurd hx169_3 (by first | exact ms_zu hv169_12.2 | omega)
                              | succ d ih169 =>
                                intro v169_12 v169_7 E169_ H locs ls hv169_12 hv169_7 hx169_0 hx169_1 hx169_2 hx169_3 hI hKp hP hS hl
                                refine lv_iload hx hb dX13_findStates_169 (lv_at hl 0 rfl) ?_
                                refine lv_bipush (v := 8) hx hb dX13_findStates_171 (by decide) ?_
                                refine lv_icmp_ge (tgt := 234) hx hb dX13_findStates_173 (by decide) (fun c41 => ?_) (fun c41 => ?_)
                                · --173 taken
                                  have t42 : (8 : Int) ≤ v169_12.toInt := ti_le c41
                                  have i43 : 8 ≤ v169_12.toInt ∧ v169_12.toInt ≤ 8 := iv_le_r t42 (il_ 8) hv169_12 (by decide)
                                  obtain ⟨y44, ey44⟩ : ∃ y : Int32, y = v126_11 + (1 : Int32) := ⟨_, rfl⟩
                                  obtain ⟨ty44, iy44⟩ := ti_add (e := 1) (f := 100) i26 ln_1 ey44 (by decide)
                                  have ty44 : y44.toInt = v126_11.toInt + 1 := ty44
                                  have iy44 : 1 ≤ y44.toInt ∧ y44.toInt ≤ 100 := iy44
                                  refine lv_iinc (v := y44) (lv' := [(11, .int y44), (12, .int v169_12), (10, .int v110_10), (9, .int v21_9), (8, .int v21_8), (7, .int v169_7), (6, .int y1), (0, .ref (ad 0)), (1, .int a0), (2, .int a1), (3, .int a2), (4, .int a3), (5, .int a4)]) hx hb dX13_findStates_234 hl (k := 1) rfl (by rw [ey44]; rfl) (by decide) rfl (fun ls hl => ?_)
                                  refine lv_goto (tgt := 126) hx hb dX13_findStates_237 (by decide) ?_
                                  exact ih126 y44 v169_7 E169_ _ _ _ (iv_w iy44 (by decide)) hv169_7 (by  omega) (by  omega) (hx169_1.cg (adv_y hSb (by omega) (by omega) (by omega))) hx169_2 (by first | exact ms_su hx126_4 ty44 (by decide) | omega) hI hKp hP hS (lv_sub hl [0, 2, 3, 4, 5, 6, 7, 8, 9, 10, 11, 12] rfl)
                                · --173 not
                                  have t45 : v169_12.toInt < 8 := ti_nle c41
                                  have i46 : 0 ≤ v169_12.toInt ∧ v169_12.toInt ≤ 7 := iv_lt_l t45 hv169_12 (il_ 8) (by decide)
                                  refine lv_iload hx hb dX13_findStates_176 (lv_at hl 3 rfl) ?_
                                  refine lv_iload hx hb dX13_findStates_178 (lv_at hl 0 rfl) ?_
                                  refine lv_ishr hx hb dX13_findStates_180 ?_
                                  refine lv_topi (fun y47 ey47 => ?_)
                                  refine lv_iconst (v := 1) hx hb dX13_findStates_181 (by decide) ?_
                                  refine lv_iand hx hb dX13_findStates_182 ?_
                                  refine lv_topi (fun y48 ey48 => ?_)
                                  have iy48 : 0 ≤ y48.toInt ∧ y48.toInt ≤ 1 := ti_and (by decide) ey48
                                  refine lv_if_ne (tgt := 189) hx hb dX13_findStates_183 (by decide) (fun c49 => ?_) (fun c49 => ?_)
                                  · --183 taken
                                    have t50 : ¬ y48.toInt = 0 := ti_ne c49
                                    have i51 : 1 ≤ y48.toInt ∧ y48.toInt ≤ 1 := iv_ne_l t50 iy48 (il_ 0)
                                    have i52 : 0 ≤ v169_7.toInt ∧ v169_7.toInt ≤ 127 := by omega
                                    refine lv_aload_n hx hb dX13_findStates_189 rfl (lv_at hl 7 rfl) ?_
                                    refine th_get (ci := 14) (C := RX13) (T := TX13) (N := 97) (v := .ref (ad 56)) hx hb hts hinX13 hown hK hP hI 0 (Nat.le_of_ble_eq_true rfl) rfl rfl 76 (Nat.le_of_ble_eq_true rfl) (hts _ (vA_in _ _ (in_25 _ (zs16 (zs1 (zs0)))))) (fun _ h9 => h9) (hI.fr 0 (Nat.le_of_ble_eq_true rfl) rfl (Nat.le_of_ble_eq_true rfl) 56 rfl) dX13_findStates_190 ?_
                                    refine lv_iload hx hb dX13_findStates_193 (lv_at hl 6 rfl) ?_
                                    refine lv_iload hx hb dX13_findStates_195 (lv_at hl 5 rfl) ?_
                                    refine lv_iadd hx hb dX13_findStates_197 ?_
                                    refine lv_topi (fun y53 ey53 => ?_)
                                    obtain ⟨ty53, iy53⟩ := ti_add (e := 0) (f := 255) iy1 i52 ey53 (by decide)
                                    have ty53 : y53.toInt = y1.toInt + v169_7.toInt := ty53
                                    have iy53 : 0 ≤ y53.toInt ∧ y53.toInt ≤ 255 := iy53
                                    refine lv_iload hx hb dX13_findStates_198 (lv_at hl 2 rfl) ?_
                                    have n54 : vp_in y53 256 := (iv_in (n := 256) iy53 (by decide))
                                    refine th_iast hx hb hK hP (WX_D hD) hS hI 56 (Nat.le_of_ble_eq_true rfl) rfl rfl n54 (okI rfl i12) dX13_findStates_200 (fun H locs E55 pw56 hI hP hS => ?_)
                                    have hKp := hKp.pw pw56 rfl
                                    refine lv_aload_n hx hb dX13_findStates_201 rfl (lv_at hl 7 rfl) ?_
                                    refine th_get (ci := 14) (C := RX13) (T := TX13) (N := 97) (v := .ref (ad 57)) hx hb hts hinX13 hown hK hP hI 0 (Nat.le_of_ble_eq_true rfl) rfl rfl 77 (Nat.le_of_ble_eq_true rfl) (hts _ (vA_in _ _ (in_25 _ (zs16 (zs1 (zs1 (zs0))))))) (fun _ h9 => h9) (hI.fr 0 (Nat.le_of_ble_eq_true rfl) rfl (Nat.le_of_ble_eq_true rfl) 57 rfl) dX13_findStates_202 ?_
                                    refine lv_iload hx hb dX13_findStates_205 (lv_at hl 6 rfl) ?_
                                    refine lv_iload hx hb dX13_findStates_207 (lv_at hl 5 rfl) ?_
                                    refine lv_iadd hx hb dX13_findStates_209 ?_
                                    refine lv_topi (fun y57 ey57 => ?_)
                                    obtain ⟨ty57, iy57⟩ := ti_add (e := 0) (f := 255) iy1 i52 ey57 (by decide)
                                    have ty57 : y57.toInt = y1.toInt + v169_7.toInt := ty57
                                    have iy57 : 0 ≤ y57.toInt ∧ y57.toInt ≤ 255 := iy57
                                    refine lv_iload hx hb dX13_findStates_210 (lv_at hl 1 rfl) ?_
                                    have n58 : vp_in y57 256 := (iv_in (n := 256) iy57 (by decide))
                                    refine th_iast hx hb hK hP (WX_D hD) hS hI 57 (Nat.le_of_ble_eq_true rfl) rfl rfl n58 (okI rfl i26) dX13_findStates_212 (fun H locs E59 pw60 hI hP hS => ?_)
                                    have hKp := hKp.pw pw60 rfl
                                    refine lv_aload_n hx hb dX13_findStates_213 rfl (lv_at hl 7 rfl) ?_
                                    refine th_get (ci := 14) (C := RX13) (T := TX13) (N := 97) (v := .ref (ad 58)) hx hb hts hinX13 hown hK hP hI 0 (Nat.le_of_ble_eq_true rfl) rfl rfl 78 (Nat.le_of_ble_eq_true rfl) (hts _ (vA_in _ _ (in_25 _ (zs16 (zs1 (zs1 (zs1 (zs0)))))))) (fun _ h9 => h9) (hI.fr 0 (Nat.le_of_ble_eq_true rfl) rfl (Nat.le_of_ble_eq_true rfl) 58 rfl) dX13_findStates_214 ?_
                                    refine lv_iload hx hb dX13_findStates_217 (lv_at hl 6 rfl) ?_
                                    refine lv_iload hx hb dX13_findStates_219 (lv_at hl 5 rfl) ?_
                                    refine lv_iadd hx hb dX13_findStates_221 ?_
                                    refine lv_topi (fun y61 ey61 => ?_)
                                    obtain ⟨ty61, iy61⟩ := ti_add (e := 0) (f := 255) iy1 i52 ey61 (by decide)
                                    have ty61 : y61.toInt = y1.toInt + v169_7.toInt := ty61
                                    have iy61 : 0 ≤ y61.toInt ∧ y61.toInt ≤ 255 := iy61
                                    refine lv_iload hx hb dX13_findStates_222 (lv_at hl 0 rfl) ?_
                                    have n62 : vp_in y61 256 := (iv_in (n := 256) iy61 (by decide))
                                    refine th_iast hx hb hK hP (WX_D hD) hS hI 58 (Nat.le_of_ble_eq_true rfl) rfl rfl n62 (okI rfl i46) dX13_findStates_224 (fun H locs E63 pw64 hI hP hS => ?_)
                                    have hKp := hKp.pw pw64 rfl
                                    obtain ⟨y65, ey65⟩ : ∃ y : Int32, y = v169_7 + (1 : Int32) := ⟨_, rfl⟩
                                    obtain ⟨ty65, iy65⟩ := ti_add (e := 1) (f := 128) i52 ln_1 ey65 (by decide)
                                    have ty65 : y65.toInt = v169_7.toInt + 1 := ty65
                                    have iy65 : 1 ≤ y65.toInt ∧ y65.toInt ≤ 128 := iy65
                                    refine lv_iinc (v := y65) (lv' := [(7, .int y65), (12, .int v169_12), (11, .int v126_11), (10, .int v110_10), (9, .int v21_9), (8, .int v21_8), (6, .int y1), (0, .ref (ad 0)), (1, .int a0), (2, .int a1), (3, .int a2), (4, .int a3), (5, .int a4)]) hx hb dX13_findStates_225 hl (k := 5) rfl (by rw [ey65]; rfl) (by decide) rfl (fun ls hl => ?_)
                                    obtain ⟨y66, ey66⟩ : ∃ y : Int32, y = v169_12 + (1 : Int32) := ⟨_, rfl⟩
                                    obtain ⟨ty66, iy66⟩ := ti_add (e := 1) (f := 8) i46 ln_1 ey66 (by decide)
                                    have ty66 : y66.toInt = v169_12.toInt + 1 := ty66
                                    have iy66 : 1 ≤ y66.toInt ∧ y66.toInt ≤ 8 := iy66
                                    refine lv_iinc (v := y66) (lv' := [(12, .int y66), (7, .int y65), (11, .int v126_11), (10, .int v110_10), (9, .int v21_9), (8, .int v21_8), (6, .int y1), (0, .ref (ad 0)), (1, .int a0), (2, .int a1), (3, .int a2), (4, .int a3), (5, .int a4)]) hx hb dX13_findStates_228 hl (k := 1) rfl (by rw [ey66]; rfl) (by decide) rfl (fun ls hl => ?_)
                                    refine lv_goto (tgt := 169) hx hb dX13_findStates_231 (by decide) ?_
                                    exact ih169 y66 y65 E63 _ _ _ (iv_w iy66 (by decide)) (iv_w iy65 (by decide)) (by  omega) (push3 hx169_1 pw56 pw60 pw64 (show y53.toNatClampNeg = 128 * a0.toNatClampNeg + v169_7.toNatClampNeg by rw [tn_ y53, tn_ a0, tn_ v169_7]; omega) (show y57.toNatClampNeg = 128 * a0.toNatClampNeg + v169_7.toNatClampNeg by rw [tn_ y57, tn_ a0, tn_ v169_7]; omega) (show y61.toNatClampNeg = 128 * a0.toNatClampNeg + v169_7.toNatClampNeg by rw [tn_ y61, tn_ a0, tn_ v169_7]; omega) (adv_dy (show (StS (wcM E) (wdM E) (xi (E 0) 74).toNatClampNeg a1.toInt a2.toInt a4.toInt a3.toInt (xi (E 19) a1.toNatClampNeg).toInt) v110_10.toInt v126_11.toInt v169_12.toInt from ⟨hHr, k40, v169_12.toNatClampNeg, by rw [tn_ v169_12]; omega, by rw [tn_ v169_12]; omega, (hFB v169_12.toNatClampNeg (by rw [tn_ v169_12]; omega)).mp (bit_f (a := v21_9) (v := v169_12) (by omega) (by omega) ey47 ey48 (by omega))⟩) (by omega)) (by rw [tn_ y65, tn_ v169_7]; omega)) (hx169_2.push pw56 pw60 pw64 (show y53.toNatClampNeg = 128 * a0.toNatClampNeg + v169_7.toNatClampNeg by rw [tn_ y53, tn_ a0, tn_ v169_7]; omega) (show y57.toNatClampNeg = 128 * a0.toNatClampNeg + v169_7.toNatClampNeg by rw [tn_ y57, tn_ a0, tn_ v169_7]; omega) (show y61.toNatClampNeg = 128 * a0.toNatClampNeg + v169_7.toNatClampNeg by rw [tn_ y61, tn_ a0, tn_ v169_7]; omega) ⟨by omega, by rw [tn_ v169_7]; omega⟩) (by first | exact ms_su hx169_3 ty66 (by decide) | omega) hI hKp hP hS (lv_sub hl [0, 2, 3, 4, 5, 1, 6, 7, 8, 9, 10, 11, 12] rfl)
                                  · --183 not
                                    have t67 : y48.toInt = 0 := ti_eq c49
                                    have i68 : 0 ≤ y48.toInt ∧ y48.toInt ≤ 0 := iv_eqi t67 iy48 (il_ 0) (by decide)
                                    refine lv_goto (tgt := 228) hx hb dX13_findStates_186 (by decide) ?_
                                    obtain ⟨y69, ey69⟩ : ∃ y : Int32, y = v169_12 + (1 : Int32) := ⟨_, rfl⟩
                                    obtain ⟨ty69, iy69⟩ := ti_add (e := 1) (f := 8) i46 ln_1 ey69 (by decide)
                                    have ty69 : y69.toInt = v169_12.toInt + 1 := ty69
                                    have iy69 : 1 ≤ y69.toInt ∧ y69.toInt ≤ 8 := iy69
                                    refine lv_iinc (v := y69) (lv' := [(12, .int y69), (11, .int v126_11), (10, .int v110_10), (9, .int v21_9), (8, .int v21_8), (7, .int v169_7), (6, .int y1), (0, .ref (ad 0)), (1, .int a0), (2, .int a1), (3, .int a2), (4, .int a3), (5, .int a4)]) hx hb dX13_findStates_228 hl (k := 0) rfl (by rw [ey69]; rfl) (by decide) rfl (fun ls hl => ?_)
                                    refine lv_goto (tgt := 169) hx hb dX13_findStates_231 (by decide) ?_
                                    exact ih169 y69 v169_7 E169_ _ _ _ (iv_w iy69 (by decide)) hv169_7 (by  omega) (hx169_1.cg (adv_dn (fun q9 => by obtain ⟨-, -, k9, e9, g9, p9⟩ := q9; exact (bit_t (a := v21_9) (v := v169_12) (by omega) (by omega) ey47 ey48).mp (by omega) (by rw [show v169_12.toNatClampNeg = k9 by rw [tn_ v169_12]; omega]; exact (hFB k9 g9).mpr p9)) (by omega))) hx169_2 (by first | exact ms_su hx169_3 ty69 (by decide) | omega) hI hKp hP hS (lv_sub hl [0, 1, 2, 3, 4, 5, 6, 7, 8, 9, 10, 11, 12] rfl)
                            exact hL169 (9) (0 : Int32) v126_7 E126_ _ _ _ (iv_w ln_0 (by decide)) hv126_7 (by have h80 := ln_0; omega) (by rw [z0z]; exact hx126_2) hx126_3 (by have h9 := ln_0; first | exact ms_bu h9.1 (by decide) | omega) hI hKp hP hS (lv_sub hl [0, 1, 2, 3, 4, 5, 6, 7, 8, 9, 10, 11, 12] rfl)
                          · --160 not
                            exact absurd c39 (by decide)
                        · -- canBeV, case 1
                          obtain ⟨rfl, f70⟩ := hw
                          try rw [hKp.ei 0 74 rfl] at f70
                          refine lv_if_ne (tgt := 166) hx hb dX13_findStates_160 (by decide) (fun c71 => ?_) (fun c71 => ?_)
                          · --160 taken
                            exact absurd c71 (by decide)
                          · --160 not
                            have k72 : ¬ plc (wcM E) (xi (E 0) 74).toNatClampNeg a1.toInt a2.toInt a4.toInt a3.toInt (xi (E 19) a1.toNatClampNeg).toInt v110_10.toInt v126_11.toInt := by have h9 := f70; rw [wcM_cg (E := E) (E' := E126_) (fun o9 h9 g9 i9 => by rcases (show o9 = 38 ∨ o9 = 39 ∨ o9 = 40 ∨ o9 = 41 ∨ o9 = 42 ∨ o9 = 43 ∨ o9 = 44 ∨ o9 = 45 by omega) with rfl | rfl | rfl | rfl | rfl | rfl | rfl | rfl <;> exact hKp.ei _ i9 rfl)] at h9; (try rw [show xi (E126_ 19) = xi (E 19) from hKp.ef 19 (fun _ => rfl)] at h9); (try rw [show xi (E126_ 0) 74 = xi (E 0) 74 from hKp.ei 0 74 rfl] at h9); exact h9
                            refine lv_goto (tgt := 234) hx hb dX13_findStates_163 (by decide) ?_
                            obtain ⟨y73, ey73⟩ : ∃ y : Int32, y = v126_11 + (1 : Int32) := ⟨_, rfl⟩
                            obtain ⟨ty73, iy73⟩ := ti_add (e := 1) (f := 100) i26 ln_1 ey73 (by decide)
                            have ty73 : y73.toInt = v126_11.toInt + 1 := ty73
                            have iy73 : 1 ≤ y73.toInt ∧ y73.toInt ≤ 100 := iy73
                            refine lv_iinc (v := y73) (lv' := [(11, .int y73), (10, .int v110_10), (9, .int v21_9), (8, .int v21_8), (7, .int v126_7), (6, .int y1), (0, .ref (ad 0)), (1, .int a0), (2, .int a1), (3, .int a2), (4, .int a3), (5, .int a4)]) hx hb dX13_findStates_234 hl (k := 0) rfl (by rw [ey73]; rfl) (by decide) rfl (fun ls hl => ?_)
                            refine lv_goto (tgt := 126) hx hb dX13_findStates_237 (by decide) ?_
                            exact ih126 y73 v126_7 E126_ _ _ _ (iv_w iy73 (by decide)) hv126_7 (by  omega) (by  omega) (hx126_2.cg (adv_yn hSb (fun k9 q9 => k72 q9.2.1) (by omega) (by omega) (by omega))) hx126_3 (by first | exact ms_su hx126_4 ty73 (by decide) | omega) hI hKp hP hS (lv_sub hl [0, 1, 2, 3, 4, 5, 6, 7, 8, 9, 10, 11] rfl)
                exact hL126 (101) (0 : Int32) v110_7 E110_ _ _ _ (iv_w ln_0 (by decide)) hv110_7 (by have h80 := ln_0; omega) (by have h80 := ln_0; omega) (by rw [z0z]; exact hx110_1) hx110_2 (by have h9 := ln_0; first | exact ms_bu h9.1 (by decide) | omega) hI hKp hP hS (lv_sub hl [0, 1, 2, 3, 4, 5, 6, 7, 8, 9, 10, 11] rfl)
        exact hL110 (101) (0 : Int32) (0 : Int32) E _ _ _ (iv_w ln_0 (by decide)) (iv_w ln_0 (by decide)) (by have h80 := ln_0; have h81 := ln_0; omega) (LM.nil (adv_0 hSb (by omega) (by omega) (by omega))) OthM.rf (by have h9 := ln_0; first | exact ms_bu h9.1 (by decide) | omega) hI hKp hP hS (lv_sub hl [0, 1, 2, 3, 4, 5, 6, 7, 8, 9, 10] rfl)
      · --27 not
        have t74 : v21_10.toInt < (xi (E 0) 74).toInt := ti_nle c3
        have i75 : 0 ≤ v21_10.toInt ∧ v21_10.toInt ≤ 199 := iv_lt_l t74 hv21_10 i2 (by decide)
        have i76 : 1 ≤ (xi (E 0) 74).toInt ∧ (xi (E 0) 74).toInt ≤ 200 := iv_lt_r t74 hv21_10 i2 (by decide)
        refine lv_aload_n hx hb dX13_findStates_30 rfl (lv_at hl 5 rfl) ?_
        refine th_get (ci := 14) (C := RX13) (T := TX13) (N := 97) (v := .ref (ad 38)) hx hb hts hinX13 hown hK hP hI 0 (Nat.le_of_ble_eq_true rfl) rfl rfl 56 (Nat.le_of_ble_eq_true rfl) (hts _ (vA_in _ _ (in_25 _ (zs4 (zs4 (zs4 (zs0))))))) (fun _ h9 => h9) (hI.fr 0 (Nat.le_of_ble_eq_true rfl) rfl (Nat.le_of_ble_eq_true rfl) 38 rfl) dX13_findStates_31 ?_
        refine lv_iload hx hb dX13_findStates_34 (lv_at hl 0 rfl) ?_
        have n78 : vp_in v21_10 200 := (iv_in (n := 200) i75 (by decide))
        refine th_iald hx hb hK hP hI 38 (Nat.le_of_ble_eq_true rfl) rfl rfl n78 dX13_findStates_36 (fun y77 ey77 => ?_)
        have iy77 : 0 ≤ y77.toInt ∧ y77.toInt ≤ 19 := hI.el 38 (Nat.le_of_ble_eq_true rfl) rfl n78 (fun _ => rfl) ey77
        have ey77 := ey77.trans (hKp.ei 38 _ rfl)
        refine lv_iload_n hx hb dX13_findStates_37 rfl (lv_at hl 7 rfl) ?_
        refine lv_icmp_ne (tgt := 101) hx hb dX13_findStates_38 (by decide) (fun c79 => ?_) (fun c79 => ?_)
        · --38 taken
          have t80 : ¬ y77.toInt = a1.toInt := ti_ne c79
          obtain ⟨y81, ey81⟩ : ∃ y : Int32, y = v21_10 + (1 : Int32) := ⟨_, rfl⟩
          obtain ⟨ty81, iy81⟩ := ti_add (e := 1) (f := 200) i75 ln_1 ey81 (by decide)
          have ty81 : y81.toInt = v21_10.toInt + 1 := ty81
          have iy81 : 1 ≤ y81.toInt ∧ y81.toInt ≤ 200 := iy81
          refine lv_iinc (v := y81) (lv' := [(10, .int y81), (9, .int v21_9), (8, .int v21_8), (7, .int 0), (6, .int y1), (0, .ref (ad 0)), (1, .int a0), (2, .int a1), (3, .int a2), (4, .int a3), (5, .int a4)]) hx hb dX13_findStates_101 hl (k := 0) rfl (by rw [ey81]; rfl) (by decide) rfl (fun ls hl => ?_)
          refine lv_goto (tgt := 21) hx hb dX13_findStates_104 (by decide) ?_
          exact ih21 y81 v21_9 v21_8 _ _ _ (iv_w iy81 (by decide)) hv21_8 (by rw [show y81.toNatClampNeg = v21_10.toNatClampNeg + 1 by rw [tn_ y81, tn_ v21_10]; omega]; exact hx21_0.imp (fun q8 => ⟨q8.1, fun q7 => q8.2 ((hrd_skip (fun q9 => by have g1 : (xi (E 38) v21_10.toNatClampNeg).toInt = a1.toInt := q9.1.1; have g2 : (xi (E 39) v21_10.toNatClampNeg).toInt = a2.toInt := q9.1.2.1; have g3 : (xi (E 45) v21_10.toNatClampNeg).toInt ≤ a4.toInt := q9.1.2.2; have g4 : (xi (E 40) v21_10.toNatClampNeg).toInt = a3.toInt := q9.2; have hy77 := congrArg Int32.toInt ey77; omega)).mp q7)⟩) (fun q8 => ⟨q8.1, by omega, q8.2.2⟩)) (fun d9 hd9 => by rw [show y81.toNatClampNeg = v21_10.toNatClampNeg + 1 by rw [tn_ y81, tn_ v21_10]; omega]; exact (hx21_1 d9 hd9).trans (drs_skip (fun q9 => by have g1 : (xi (E 38) v21_10.toNatClampNeg).toInt = a1.toInt := q9.1.1; have g2 : (xi (E 39) v21_10.toNatClampNeg).toInt = a2.toInt := q9.1.2.1; have g3 : (xi (E 45) v21_10.toNatClampNeg).toInt ≤ a4.toInt := q9.1.2.2; have g4 : (xi (E 40) v21_10.toNatClampNeg).toInt = a3.toInt := q9.2; have hy77 := congrArg Int32.toInt ey77; omega)).symm) hx21_2 (by omega) (by first | exact ms_su hx21_4 ty81 (by decide) | omega) hP hS (lv_sub hl [0, 1, 2, 3, 4, 5, 6, 7, 8, 9, 10] rfl)
        · --38 not
          have t82 : y77.toInt = a1.toInt := ti_eq c79
          refine lv_aload_n hx hb dX13_findStates_41 rfl (lv_at hl 5 rfl) ?_
          refine th_get (ci := 14) (C := RX13) (T := TX13) (N := 97) (v := .ref (ad 39)) hx hb hts hinX13 hown hK hP hI 0 (Nat.le_of_ble_eq_true rfl) rfl rfl 57 (Nat.le_of_ble_eq_true rfl) (hts _ (vA_in _ _ (in_25 _ (zs4 (zs4 (zs4 (zs1 (zs0)))))))) (fun _ h9 => h9) (hI.fr 0 (Nat.le_of_ble_eq_true rfl) rfl (Nat.le_of_ble_eq_true rfl) 39 rfl) dX13_findStates_42 ?_
          refine lv_iload hx hb dX13_findStates_45 (lv_at hl 0 rfl) ?_
          have n84 : vp_in v21_10 200 := (iv_in (n := 200) i75 (by decide))
          refine th_iald hx hb hK hP hI 39 (Nat.le_of_ble_eq_true rfl) rfl rfl n84 dX13_findStates_47 (fun y83 ey83 => ?_)
          have iy83 : 0 ≤ y83.toInt ∧ y83.toInt ≤ 15 := hI.el 39 (Nat.le_of_ble_eq_true rfl) rfl n84 (fun _ => rfl) ey83
          have ey83 := ey83.trans (hKp.ei 39 _ rfl)
          refine lv_iload_n hx hb dX13_findStates_48 rfl (lv_at hl 8 rfl) ?_
          refine lv_icmp_ne (tgt := 101) hx hb dX13_findStates_49 (by decide) (fun c85 => ?_) (fun c85 => ?_)
          · --49 taken
            have t86 : ¬ y83.toInt = a2.toInt := ti_ne c85
            obtain ⟨y87, ey87⟩ : ∃ y : Int32, y = v21_10 + (1 : Int32) := ⟨_, rfl⟩
            obtain ⟨ty87, iy87⟩ := ti_add (e := 1) (f := 200) i75 ln_1 ey87 (by decide)
            have ty87 : y87.toInt = v21_10.toInt + 1 := ty87
            have iy87 : 1 ≤ y87.toInt ∧ y87.toInt ≤ 200 := iy87
            refine lv_iinc (v := y87) (lv' := [(10, .int y87), (9, .int v21_9), (8, .int v21_8), (7, .int 0), (6, .int y1), (0, .ref (ad 0)), (1, .int a0), (2, .int a1), (3, .int a2), (4, .int a3), (5, .int a4)]) hx hb dX13_findStates_101 hl (k := 0) rfl (by rw [ey87]; rfl) (by decide) rfl (fun ls hl => ?_)
            refine lv_goto (tgt := 21) hx hb dX13_findStates_104 (by decide) ?_
            exact ih21 y87 v21_9 v21_8 _ _ _ (iv_w iy87 (by decide)) hv21_8 (by rw [show y87.toNatClampNeg = v21_10.toNatClampNeg + 1 by rw [tn_ y87, tn_ v21_10]; omega]; exact hx21_0.imp (fun q8 => ⟨q8.1, fun q7 => q8.2 ((hrd_skip (fun q9 => by have g1 : (xi (E 38) v21_10.toNatClampNeg).toInt = a1.toInt := q9.1.1; have g2 : (xi (E 39) v21_10.toNatClampNeg).toInt = a2.toInt := q9.1.2.1; have g3 : (xi (E 45) v21_10.toNatClampNeg).toInt ≤ a4.toInt := q9.1.2.2; have g4 : (xi (E 40) v21_10.toNatClampNeg).toInt = a3.toInt := q9.2; have hy77 := congrArg Int32.toInt ey77; have hy83 := congrArg Int32.toInt ey83; omega)).mp q7)⟩) (fun q8 => ⟨q8.1, by omega, q8.2.2⟩)) (fun d9 hd9 => by rw [show y87.toNatClampNeg = v21_10.toNatClampNeg + 1 by rw [tn_ y87, tn_ v21_10]; omega]; exact (hx21_1 d9 hd9).trans (drs_skip (fun q9 => by have g1 : (xi (E 38) v21_10.toNatClampNeg).toInt = a1.toInt := q9.1.1; have g2 : (xi (E 39) v21_10.toNatClampNeg).toInt = a2.toInt := q9.1.2.1; have g3 : (xi (E 45) v21_10.toNatClampNeg).toInt ≤ a4.toInt := q9.1.2.2; have g4 : (xi (E 40) v21_10.toNatClampNeg).toInt = a3.toInt := q9.2; have hy77 := congrArg Int32.toInt ey77; have hy83 := congrArg Int32.toInt ey83; omega)).symm) hx21_2 (by omega) (by first | exact ms_su hx21_4 ty87 (by decide) | omega) hP hS (lv_sub hl [0, 1, 2, 3, 4, 5, 6, 7, 8, 9, 10] rfl)
          · --49 not
            have t88 : y83.toInt = a2.toInt := ti_eq c85
            have i89 : 0 ≤ a2.toInt ∧ a2.toInt ≤ 15 := iv_eqi t88.symm (iv_all _) iy83 (by decide)
            refine lv_aload_n hx hb dX13_findStates_52 rfl (lv_at hl 5 rfl) ?_
            refine th_get (ci := 14) (C := RX13) (T := TX13) (N := 97) (v := .ref (ad 45)) hx hb hts hinX13 hown hK hP hI 0 (Nat.le_of_ble_eq_true rfl) rfl rfl 63 (Nat.le_of_ble_eq_true rfl) (hts _ (vA_in _ _ (in_25 _ (zs4 (zs4 (zs4 (zs1 (zs1 (zs0))))))))) (fun _ h9 => h9) (hI.fr 0 (Nat.le_of_ble_eq_true rfl) rfl (Nat.le_of_ble_eq_true rfl) 45 rfl) dX13_findStates_53 ?_
            refine lv_iload hx hb dX13_findStates_56 (lv_at hl 0 rfl) ?_
            have n91 : vp_in v21_10 200 := (iv_in (n := 200) i75 (by decide))
            refine th_iald hx hb hK hP hI 45 (Nat.le_of_ble_eq_true rfl) rfl rfl n91 dX13_findStates_58 (fun y90 ey90 => ?_)
            have iy90 : 0 ≤ y90.toInt ∧ y90.toInt ≤ 400 := hI.el 45 (Nat.le_of_ble_eq_true rfl) rfl n91 (fun _ => rfl) ey90
            have ey90 := ey90.trans (hKp.ei 45 _ rfl)
            refine lv_iload hx hb dX13_findStates_59 (lv_at hl 10 rfl) ?_
            refine lv_icmp_gt (tgt := 101) hx hb dX13_findStates_61 (by decide) (fun c92 => ?_) (fun c92 => ?_)
            · --61 taken
              have t93 : a4.toInt < y90.toInt := ti_lt c92
              have i94 : -2147483648 ≤ a4.toInt ∧ a4.toInt ≤ 399 := iv_lt_l t93 (iv_all _) iy90 (by decide)
              obtain ⟨y95, ey95⟩ : ∃ y : Int32, y = v21_10 + (1 : Int32) := ⟨_, rfl⟩
              obtain ⟨ty95, iy95⟩ := ti_add (e := 1) (f := 200) i75 ln_1 ey95 (by decide)
              have ty95 : y95.toInt = v21_10.toInt + 1 := ty95
              have iy95 : 1 ≤ y95.toInt ∧ y95.toInt ≤ 200 := iy95
              refine lv_iinc (v := y95) (lv' := [(10, .int y95), (9, .int v21_9), (8, .int v21_8), (7, .int 0), (6, .int y1), (0, .ref (ad 0)), (1, .int a0), (2, .int a1), (3, .int a2), (4, .int a3), (5, .int a4)]) hx hb dX13_findStates_101 hl (k := 0) rfl (by rw [ey95]; rfl) (by decide) rfl (fun ls hl => ?_)
              refine lv_goto (tgt := 21) hx hb dX13_findStates_104 (by decide) ?_
              exact ih21 y95 v21_9 v21_8 _ _ _ (iv_w iy95 (by decide)) hv21_8 (by rw [show y95.toNatClampNeg = v21_10.toNatClampNeg + 1 by rw [tn_ y95, tn_ v21_10]; omega]; exact hx21_0.imp (fun q8 => ⟨q8.1, fun q7 => q8.2 ((hrd_skip (fun q9 => by have g1 : (xi (E 38) v21_10.toNatClampNeg).toInt = a1.toInt := q9.1.1; have g2 : (xi (E 39) v21_10.toNatClampNeg).toInt = a2.toInt := q9.1.2.1; have g3 : (xi (E 45) v21_10.toNatClampNeg).toInt ≤ a4.toInt := q9.1.2.2; have g4 : (xi (E 40) v21_10.toNatClampNeg).toInt = a3.toInt := q9.2; have hy77 := congrArg Int32.toInt ey77; have hy83 := congrArg Int32.toInt ey83; have hy90 := congrArg Int32.toInt ey90; omega)).mp q7)⟩) (fun q8 => ⟨q8.1, by omega, q8.2.2⟩)) (fun d9 hd9 => by rw [show y95.toNatClampNeg = v21_10.toNatClampNeg + 1 by rw [tn_ y95, tn_ v21_10]; omega]; exact (hx21_1 d9 hd9).trans (drs_skip (fun q9 => by have g1 : (xi (E 38) v21_10.toNatClampNeg).toInt = a1.toInt := q9.1.1; have g2 : (xi (E 39) v21_10.toNatClampNeg).toInt = a2.toInt := q9.1.2.1; have g3 : (xi (E 45) v21_10.toNatClampNeg).toInt ≤ a4.toInt := q9.1.2.2; have g4 : (xi (E 40) v21_10.toNatClampNeg).toInt = a3.toInt := q9.2; have hy77 := congrArg Int32.toInt ey77; have hy83 := congrArg Int32.toInt ey83; have hy90 := congrArg Int32.toInt ey90; omega)).symm) hx21_2 (by omega) (by first | exact ms_su hx21_4 ty95 (by decide) | omega) hP hS (lv_sub hl [0, 1, 2, 3, 4, 5, 6, 7, 8, 9, 10] rfl)
            · --61 not
              have t96 : y90.toInt ≤ a4.toInt := ti_nlt c92
              have i97 : 0 ≤ a4.toInt ∧ a4.toInt ≤ 2147483647 := iv_le_r t96 iy90 (iv_all _) (by decide)
              refine lv_aload_n hx hb dX13_findStates_64 rfl (lv_at hl 5 rfl) ?_
              refine th_get (ci := 14) (C := RX13) (T := TX13) (N := 97) (v := .ref (ad 40)) hx hb hts hinX13 hown hK hP hI 0 (Nat.le_of_ble_eq_true rfl) rfl rfl 58 (Nat.le_of_ble_eq_true rfl) (hts _ (vA_in _ _ (in_25 _ (zs4 (zs4 (zs4 (zs1 (zs1 (zs1 (zs0)))))))))) (fun _ h9 => h9) (hI.fr 0 (Nat.le_of_ble_eq_true rfl) rfl (Nat.le_of_ble_eq_true rfl) 40 rfl) dX13_findStates_65 ?_
              refine lv_iload hx hb dX13_findStates_68 (lv_at hl 0 rfl) ?_
              have n99 : vp_in v21_10 200 := (iv_in (n := 200) i75 (by decide))
              refine th_iald hx hb hK hP hI 40 (Nat.le_of_ble_eq_true rfl) rfl rfl n99 dX13_findStates_70 (fun y98 ey98 => ?_)
              have iy98 : 0 ≤ y98.toInt ∧ y98.toInt ≤ 100000 := hI.el 40 (Nat.le_of_ble_eq_true rfl) rfl n99 (fun _ => rfl) ey98
              have ey98 := ey98.trans (hKp.ei 40 _ rfl)
              refine lv_iload hx hb dX13_findStates_71 (lv_at hl 9 rfl) ?_
              refine lv_icmp_eq (tgt := 79) hx hb dX13_findStates_73 (by decide) (fun c100 => ?_) (fun c100 => ?_)
              · --73 taken
                have t101 : y98.toInt = a3.toInt := ti_eq c100
                refine lv_iload hx hb dX13_findStates_79 (lv_at hl 1 rfl) ?_
                refine lv_aload_n hx hb dX13_findStates_81 rfl (lv_at hl 5 rfl) ?_
                refine th_get (ci := 14) (C := RX13) (T := TX13) (N := 97) (v := .ref (ad 44)) hx hb hts hinX13 hown hK hP hI 0 (Nat.le_of_ble_eq_true rfl) rfl rfl 62 (Nat.le_of_ble_eq_true rfl) (hts _ (vA_in _ _ (in_25 _ (zs16 (zs0))))) (fun _ h9 => h9) (hI.fr 0 (Nat.le_of_ble_eq_true rfl) rfl (Nat.le_of_ble_eq_true rfl) 44 rfl) dX13_findStates_82 ?_
                refine lv_iload hx hb dX13_findStates_85 (lv_at hl 0 rfl) ?_
                have n103 : vp_in v21_10 200 := (iv_in (n := 200) i75 (by decide))
                refine th_iald hx hb hK hP hI 44 (Nat.le_of_ble_eq_true rfl) rfl rfl n103 dX13_findStates_87 (fun y102 ey102 => ?_)
                have iy102 : 0 ≤ y102.toInt ∧ y102.toInt ≤ 255 := hI.el 44 (Nat.le_of_ble_eq_true rfl) rfl n103 (fun _ => rfl) ey102
                have ey102 := ey102.trans (hKp.ei 44 _ rfl)
                refine lv_iand hx hb dX13_findStates_88 ?_
                refine lv_topi (fun y104 ey104 => ?_)
                refine lv_istore (lv' := [(9, .int y104), (10, .int v21_10), (8, .int v21_8), (7, .int 0), (6, .int y1), (0, .ref (ad 0)), (1, .int a0), (2, .int a1), (3, .int a2), (4, .int a3), (5, .int a4)]) hx hb dX13_findStates_89 hl (by decide) rfl (fun ls hl => ?_)
                refine lv_iload hx hb dX13_findStates_91 (lv_at hl 2 rfl) ?_
                refine lv_iconst (v := -1) hx hb dX13_findStates_93 (by decide) ?_
                refine lv_icmp_ne (tgt := 101) hx hb dX13_findStates_94 (by decide) (fun c105 => ?_) (fun c105 => ?_)
                · --94 taken
                  have t106 : ¬ v21_8.toInt = -1 := ti_ne c105
                  have i107 : 0 ≤ v21_8.toInt ∧ v21_8.toInt ≤ 199 := iv_ne_l t106 hv21_8 (il_ (-1))
                  obtain ⟨y108, ey108⟩ : ∃ y : Int32, y = v21_10 + (1 : Int32) := ⟨_, rfl⟩
                  obtain ⟨ty108, iy108⟩ := ti_add (e := 1) (f := 200) i75 ln_1 ey108 (by decide)
                  have ty108 : y108.toInt = v21_10.toInt + 1 := ty108
                  have iy108 : 1 ≤ y108.toInt ∧ y108.toInt ≤ 200 := iy108
                  refine lv_iinc (v := y108) (lv' := [(10, .int y108), (9, .int y104), (8, .int v21_8), (7, .int 0), (6, .int y1), (0, .ref (ad 0)), (1, .int a0), (2, .int a1), (3, .int a2), (4, .int a3), (5, .int a4)]) hx hb dX13_findStates_101 hl (k := 1) rfl (by rw [ey108]; rfl) (by decide) rfl (fun ls hl => ?_)
                  refine lv_goto (tgt := 21) hx hb dX13_findStates_104 (by decide) ?_
                  exact ih21 y108 y104 v21_8 _ _ _ (iv_w iy108 (by decide)) (iv_w i107 (by decide)) (hx21_0.elim (fun q8 => by exfalso; omega) (fun q8 => Or.inr ⟨q8.1, by omega, q8.2.2⟩)) (fun d9 hd9 => by rw [show y108.toNatClampNeg = v21_10.toNatClampNeg + 1 by rw [tn_ y108, tn_ v21_10]; omega, ey104, b_and, Bool.and_eq_true]; exact ⟨fun q8 => (drs_take (show wOf (wcM E) a1.toInt a2.toInt a4.toInt v21_10.toNatClampNeg from ⟨by show (xi (E 38) v21_10.toNatClampNeg).toInt = _; have hy77 := congrArg Int32.toInt ey77; have hy83 := congrArg Int32.toInt ey83; have hy90 := congrArg Int32.toInt ey90; have hy98 := congrArg Int32.toInt ey98; have hy102 := congrArg Int32.toInt ey102; omega, by show (xi (E 39) v21_10.toNatClampNeg).toInt = _; have hy77 := congrArg Int32.toInt ey77; have hy83 := congrArg Int32.toInt ey83; have hy90 := congrArg Int32.toInt ey90; have hy98 := congrArg Int32.toInt ey98; have hy102 := congrArg Int32.toInt ey102; omega, by show (xi (E 45) v21_10.toNatClampNeg).toInt ≤ _; have hy77 := congrArg Int32.toInt ey77; have hy83 := congrArg Int32.toInt ey83; have hy90 := congrArg Int32.toInt ey90; have hy98 := congrArg Int32.toInt ey98; have hy102 := congrArg Int32.toInt ey102; omega⟩) (show (xi (E 40) v21_10.toNatClampNeg).toInt = a3.toInt by have hy77 := congrArg Int32.toInt ey77; have hy83 := congrArg Int32.toInt ey83; have hy90 := congrArg Int32.toInt ey90; have hy98 := congrArg Int32.toInt ey98; have hy102 := congrArg Int32.toInt ey102; omega)).mpr ⟨(hx21_1 d9 hd9).mp q8.1, by rw [← show y102 = wdM E v21_10.toNatClampNeg from ey102]; exact q8.2⟩, fun q8 => ⟨(hx21_1 d9 hd9).mpr ((drs_take (show wOf (wcM E) a1.toInt a2.toInt a4.toInt v21_10.toNatClampNeg from ⟨by show (xi (E 38) v21_10.toNatClampNeg).toInt = _; have hy77 := congrArg Int32.toInt ey77; have hy83 := congrArg Int32.toInt ey83; have hy90 := congrArg Int32.toInt ey90; have hy98 := congrArg Int32.toInt ey98; have hy102 := congrArg Int32.toInt ey102; omega, by show (xi (E 39) v21_10.toNatClampNeg).toInt = _; have hy77 := congrArg Int32.toInt ey77; have hy83 := congrArg Int32.toInt ey83; have hy90 := congrArg Int32.toInt ey90; have hy98 := congrArg Int32.toInt ey98; have hy102 := congrArg Int32.toInt ey102; omega, by show (xi (E 45) v21_10.toNatClampNeg).toInt ≤ _; have hy77 := congrArg Int32.toInt ey77; have hy83 := congrArg Int32.toInt ey83; have hy90 := congrArg Int32.toInt ey90; have hy98 := congrArg Int32.toInt ey98; have hy102 := congrArg Int32.toInt ey102; omega⟩) (show (xi (E 40) v21_10.toNatClampNeg).toInt = a3.toInt by have hy77 := congrArg Int32.toInt ey77; have hy83 := congrArg Int32.toInt ey83; have hy90 := congrArg Int32.toInt ey90; have hy98 := congrArg Int32.toInt ey98; have hy102 := congrArg Int32.toInt ey102; omega)).mp q8).1, by rw [show y102 = wdM E v21_10.toNatClampNeg from ey102]; exact ((drs_take (show wOf (wcM E) a1.toInt a2.toInt a4.toInt v21_10.toNatClampNeg from ⟨by show (xi (E 38) v21_10.toNatClampNeg).toInt = _; have hy77 := congrArg Int32.toInt ey77; have hy83 := congrArg Int32.toInt ey83; have hy90 := congrArg Int32.toInt ey90; have hy98 := congrArg Int32.toInt ey98; have hy102 := congrArg Int32.toInt ey102; omega, by show (xi (E 39) v21_10.toNatClampNeg).toInt = _; have hy77 := congrArg Int32.toInt ey77; have hy83 := congrArg Int32.toInt ey83; have hy90 := congrArg Int32.toInt ey90; have hy98 := congrArg Int32.toInt ey98; have hy102 := congrArg Int32.toInt ey102; omega, by show (xi (E 45) v21_10.toNatClampNeg).toInt ≤ _; have hy77 := congrArg Int32.toInt ey77; have hy83 := congrArg Int32.toInt ey83; have hy90 := congrArg Int32.toInt ey90; have hy98 := congrArg Int32.toInt ey98; have hy102 := congrArg Int32.toInt ey102; omega⟩) (show (xi (E 40) v21_10.toNatClampNeg).toInt = a3.toInt by have hy77 := congrArg Int32.toInt ey77; have hy83 := congrArg Int32.toInt ey83; have hy90 := congrArg Int32.toInt ey90; have hy98 := congrArg Int32.toInt ey98; have hy102 := congrArg Int32.toInt ey102; omega)).mp q8).2⟩⟩) (by have h9 := ti_and (x := v21_9) (m := y102) (by omega) ey104; omega) (by omega) (by first | exact ms_su hx21_4 ty108 (by decide) | omega) hP hS (lv_sub hl [0, 1, 2, 3, 4, 5, 6, 7, 8, 9, 10] rfl)
                · --94 not
                  have t109 : v21_8.toInt = -1 := ti_eq c105
                  have i110 : -1 ≤ v21_8.toInt ∧ v21_8.toInt ≤ -1 := iv_eqi t109 hv21_8 (il_ (-1)) (by decide)
                  refine lv_iload hx hb dX13_findStates_97 (lv_at hl 1 rfl) ?_
                  refine lv_istore (lv' := [(8, .int v21_10), (9, .int y104), (10, .int v21_10), (7, .int 0), (6, .int y1), (0, .ref (ad 0)), (1, .int a0), (2, .int a1), (3, .int a2), (4, .int a3), (5, .int a4)]) hx hb dX13_findStates_99 hl (by decide) rfl (fun ls hl => ?_)
                  obtain ⟨y111, ey111⟩ : ∃ y : Int32, y = v21_10 + (1 : Int32) := ⟨_, rfl⟩
                  obtain ⟨ty111, iy111⟩ := ti_add (e := 1) (f := 200) i75 ln_1 ey111 (by decide)
                  have ty111 : y111.toInt = v21_10.toInt + 1 := ty111
                  have iy111 : 1 ≤ y111.toInt ∧ y111.toInt ≤ 200 := iy111
                  refine lv_iinc (v := y111) (lv' := [(10, .int y111), (8, .int v21_10), (9, .int y104), (7, .int 0), (6, .int y1), (0, .ref (ad 0)), (1, .int a0), (2, .int a1), (3, .int a2), (4, .int a3), (5, .int a4)]) hx hb dX13_findStates_101 hl (k := 2) rfl (by rw [ey111]; rfl) (by decide) rfl (fun ls hl => ?_)
                  refine lv_goto (tgt := 21) hx hb dX13_findStates_104 (by decide) ?_
                  exact ih21 y111 y104 v21_10 _ _ _ (iv_w iy111 (by decide)) (iv_w i75 (by decide)) (Or.inr ⟨by omega, by omega, (show wOf (wcM E) a1.toInt a2.toInt a4.toInt v21_10.toNatClampNeg from ⟨by show (xi (E 38) v21_10.toNatClampNeg).toInt = _; have hy77 := congrArg Int32.toInt ey77; have hy83 := congrArg Int32.toInt ey83; have hy90 := congrArg Int32.toInt ey90; have hy98 := congrArg Int32.toInt ey98; have hy102 := congrArg Int32.toInt ey102; omega, by show (xi (E 39) v21_10.toNatClampNeg).toInt = _; have hy77 := congrArg Int32.toInt ey77; have hy83 := congrArg Int32.toInt ey83; have hy90 := congrArg Int32.toInt ey90; have hy98 := congrArg Int32.toInt ey98; have hy102 := congrArg Int32.toInt ey102; omega, by show (xi (E 45) v21_10.toNatClampNeg).toInt ≤ _; have hy77 := congrArg Int32.toInt ey77; have hy83 := congrArg Int32.toInt ey83; have hy90 := congrArg Int32.toInt ey90; have hy98 := congrArg Int32.toInt ey98; have hy102 := congrArg Int32.toInt ey102; omega⟩), (show (xi (E 40) v21_10.toNatClampNeg).toInt = a3.toInt by have hy77 := congrArg Int32.toInt ey77; have hy83 := congrArg Int32.toInt ey83; have hy90 := congrArg Int32.toInt ey90; have hy98 := congrArg Int32.toInt ey98; have hy102 := congrArg Int32.toInt ey102; omega)⟩) (fun d9 hd9 => by rw [show y111.toNatClampNeg = v21_10.toNatClampNeg + 1 by rw [tn_ y111, tn_ v21_10]; omega, ey104, b_and, Bool.and_eq_true]; exact ⟨fun q8 => (drs_take (show wOf (wcM E) a1.toInt a2.toInt a4.toInt v21_10.toNatClampNeg from ⟨by show (xi (E 38) v21_10.toNatClampNeg).toInt = _; have hy77 := congrArg Int32.toInt ey77; have hy83 := congrArg Int32.toInt ey83; have hy90 := congrArg Int32.toInt ey90; have hy98 := congrArg Int32.toInt ey98; have hy102 := congrArg Int32.toInt ey102; omega, by show (xi (E 39) v21_10.toNatClampNeg).toInt = _; have hy77 := congrArg Int32.toInt ey77; have hy83 := congrArg Int32.toInt ey83; have hy90 := congrArg Int32.toInt ey90; have hy98 := congrArg Int32.toInt ey98; have hy102 := congrArg Int32.toInt ey102; omega, by show (xi (E 45) v21_10.toNatClampNeg).toInt ≤ _; have hy77 := congrArg Int32.toInt ey77; have hy83 := congrArg Int32.toInt ey83; have hy90 := congrArg Int32.toInt ey90; have hy98 := congrArg Int32.toInt ey98; have hy102 := congrArg Int32.toInt ey102; omega⟩) (show (xi (E 40) v21_10.toNatClampNeg).toInt = a3.toInt by have hy77 := congrArg Int32.toInt ey77; have hy83 := congrArg Int32.toInt ey83; have hy90 := congrArg Int32.toInt ey90; have hy98 := congrArg Int32.toInt ey98; have hy102 := congrArg Int32.toInt ey102; omega)).mpr ⟨(hx21_1 d9 hd9).mp q8.1, by rw [← show y102 = wdM E v21_10.toNatClampNeg from ey102]; exact q8.2⟩, fun q8 => ⟨(hx21_1 d9 hd9).mpr ((drs_take (show wOf (wcM E) a1.toInt a2.toInt a4.toInt v21_10.toNatClampNeg from ⟨by show (xi (E 38) v21_10.toNatClampNeg).toInt = _; have hy77 := congrArg Int32.toInt ey77; have hy83 := congrArg Int32.toInt ey83; have hy90 := congrArg Int32.toInt ey90; have hy98 := congrArg Int32.toInt ey98; have hy102 := congrArg Int32.toInt ey102; omega, by show (xi (E 39) v21_10.toNatClampNeg).toInt = _; have hy77 := congrArg Int32.toInt ey77; have hy83 := congrArg Int32.toInt ey83; have hy90 := congrArg Int32.toInt ey90; have hy98 := congrArg Int32.toInt ey98; have hy102 := congrArg Int32.toInt ey102; omega, by show (xi (E 45) v21_10.toNatClampNeg).toInt ≤ _; have hy77 := congrArg Int32.toInt ey77; have hy83 := congrArg Int32.toInt ey83; have hy90 := congrArg Int32.toInt ey90; have hy98 := congrArg Int32.toInt ey98; have hy102 := congrArg Int32.toInt ey102; omega⟩) (show (xi (E 40) v21_10.toNatClampNeg).toInt = a3.toInt by have hy77 := congrArg Int32.toInt ey77; have hy83 := congrArg Int32.toInt ey83; have hy90 := congrArg Int32.toInt ey90; have hy98 := congrArg Int32.toInt ey98; have hy102 := congrArg Int32.toInt ey102; omega)).mp q8).1, by rw [show y102 = wdM E v21_10.toNatClampNeg from ey102]; exact ((drs_take (show wOf (wcM E) a1.toInt a2.toInt a4.toInt v21_10.toNatClampNeg from ⟨by show (xi (E 38) v21_10.toNatClampNeg).toInt = _; have hy77 := congrArg Int32.toInt ey77; have hy83 := congrArg Int32.toInt ey83; have hy90 := congrArg Int32.toInt ey90; have hy98 := congrArg Int32.toInt ey98; have hy102 := congrArg Int32.toInt ey102; omega, by show (xi (E 39) v21_10.toNatClampNeg).toInt = _; have hy77 := congrArg Int32.toInt ey77; have hy83 := congrArg Int32.toInt ey83; have hy90 := congrArg Int32.toInt ey90; have hy98 := congrArg Int32.toInt ey98; have hy102 := congrArg Int32.toInt ey102; omega, by show (xi (E 45) v21_10.toNatClampNeg).toInt ≤ _; have hy77 := congrArg Int32.toInt ey77; have hy83 := congrArg Int32.toInt ey83; have hy90 := congrArg Int32.toInt ey90; have hy98 := congrArg Int32.toInt ey98; have hy102 := congrArg Int32.toInt ey102; omega⟩) (show (xi (E 40) v21_10.toNatClampNeg).toInt = a3.toInt by have hy77 := congrArg Int32.toInt ey77; have hy83 := congrArg Int32.toInt ey83; have hy90 := congrArg Int32.toInt ey90; have hy98 := congrArg Int32.toInt ey98; have hy102 := congrArg Int32.toInt ey102; omega)).mp q8).2⟩⟩) (by have h9 := ti_and (x := v21_9) (m := y102) (by omega) ey104; omega) (by omega) (by first | exact ms_su hx21_4 ty111 (by decide) | omega) hP hS (lv_sub hl [0, 2, 1, 3, 4, 5, 6, 7, 8, 9, 10] rfl)
              · --73 not
                have t112 : ¬ y98.toInt = a3.toInt := ti_ne c100
                refine lv_goto (tgt := 101) hx hb dX13_findStates_76 (by decide) ?_
                obtain ⟨y113, ey113⟩ : ∃ y : Int32, y = v21_10 + (1 : Int32) := ⟨_, rfl⟩
                obtain ⟨ty113, iy113⟩ := ti_add (e := 1) (f := 200) i75 ln_1 ey113 (by decide)
                have ty113 : y113.toInt = v21_10.toInt + 1 := ty113
                have iy113 : 1 ≤ y113.toInt ∧ y113.toInt ≤ 200 := iy113
                refine lv_iinc (v := y113) (lv' := [(10, .int y113), (9, .int v21_9), (8, .int v21_8), (7, .int 0), (6, .int y1), (0, .ref (ad 0)), (1, .int a0), (2, .int a1), (3, .int a2), (4, .int a3), (5, .int a4)]) hx hb dX13_findStates_101 hl (k := 0) rfl (by rw [ey113]; rfl) (by decide) rfl (fun ls hl => ?_)
                refine lv_goto (tgt := 21) hx hb dX13_findStates_104 (by decide) ?_
                exact ih21 y113 v21_9 v21_8 _ _ _ (iv_w iy113 (by decide)) hv21_8 (by rw [show y113.toNatClampNeg = v21_10.toNatClampNeg + 1 by rw [tn_ y113, tn_ v21_10]; omega]; exact hx21_0.imp (fun q8 => ⟨q8.1, fun q7 => q8.2 ((hrd_skip (fun q9 => by have g1 : (xi (E 38) v21_10.toNatClampNeg).toInt = a1.toInt := q9.1.1; have g2 : (xi (E 39) v21_10.toNatClampNeg).toInt = a2.toInt := q9.1.2.1; have g3 : (xi (E 45) v21_10.toNatClampNeg).toInt ≤ a4.toInt := q9.1.2.2; have g4 : (xi (E 40) v21_10.toNatClampNeg).toInt = a3.toInt := q9.2; have hy77 := congrArg Int32.toInt ey77; have hy83 := congrArg Int32.toInt ey83; have hy90 := congrArg Int32.toInt ey90; have hy98 := congrArg Int32.toInt ey98; omega)).mp q7)⟩) (fun q8 => ⟨q8.1, by omega, q8.2.2⟩)) (fun d9 hd9 => by rw [show y113.toNatClampNeg = v21_10.toNatClampNeg + 1 by rw [tn_ y113, tn_ v21_10]; omega]; exact (hx21_1 d9 hd9).trans (drs_skip (fun q9 => by have g1 : (xi (E 38) v21_10.toNatClampNeg).toInt = a1.toInt := q9.1.1; have g2 : (xi (E 39) v21_10.toNatClampNeg).toInt = a2.toInt := q9.1.2.1; have g3 : (xi (E 45) v21_10.toNatClampNeg).toInt ≤ a4.toInt := q9.1.2.2; have g4 : (xi (E 40) v21_10.toNatClampNeg).toInt = a3.toInt := q9.2; have hy77 := congrArg Int32.toInt ey77; have hy83 := congrArg Int32.toInt ey83; have hy90 := congrArg Int32.toInt ey90; have hy98 := congrArg Int32.toInt ey98; omega)).symm) hx21_2 (by omega) (by first | exact ms_su hx21_4 ty113 (by decide) | omega) hP hS (lv_sub hl [0, 1, 2, 3, 4, 5, 6, 7, 8, 9, 10] rfl)
  exact hL21 (201) (0 : Int32) (255 : Int32) (-1 : Int32) _ _ _ (iv_w ln_0 (by decide)) (iv_w ln_m1 (by decide)) (Or.inl ⟨rfl, hrd_0⟩) (fun d9 hd9 => ⟨fun _ => drs_0, fun _ => bt_255 d9 hd9⟩) (by decide) (by omega) (by have h9 := ln_0; first | exact ms_bu h9.1 (by decide) | omega) hP hS (lv_sub hl [0, 1, 2, 3, 4, 5, 6, 7, 8, 9, 10] rfl)
