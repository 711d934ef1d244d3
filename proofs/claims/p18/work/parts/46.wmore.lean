set_option maxRecDepth 100000 in
theorem zh_dX12_force_0_0 : zc cX12_force 0 [27, 184, 0, 70, 153, 0, 14, 42, 180, 0, 10, 28, 182, 0, 92, 154] = true := by decide +kernel
set_option maxRecDepth 100000 in
theorem zh_dX12_force_15_16 : zc cX12_force 16 [0, 5, 2, 172, 42, 180, 0, 10, 27, 28, 182, 0, 120, 172] = true := by decide +kernel
theorem dX12_force_0 : decode cX12_force 0 = .ok (.iload_n 1, 1) := zo_27 (zi_at zh_dX12_force_0_0 0 rfl)
theorem dX12_force_1 : decode cX12_force 1 = .ok (.invokestatic 70, 3) := zo_184 (zi_at zh_dX12_force_0_0 1 rfl) (zi_at zh_dX12_force_0_0 2 rfl) (zi_at zh_dX12_force_0_0 3 rfl) rfl
theorem dX12_force_4 : decode cX12_force 4 = .ok (.ifCond .eq 14, 3) := zo_153 (zi_at zh_dX12_force_0_0 4 rfl) (zi_at zh_dX12_force_0_0 5 rfl) (zi_at zh_dX12_force_0_0 6 rfl) rfl
theorem dX12_force_7 : decode cX12_force 7 = .ok (.aload_n 0, 1) := zo_42 (zi_at zh_dX12_force_0_0 7 rfl)
theorem dX12_force_8 : decode cX12_force 8 = .ok (.getfield 10, 3) := zo_180 (zi_at zh_dX12_force_0_0 8 rfl) (zi_at zh_dX12_force_0_0 9 rfl) (zi_at zh_dX12_force_0_0 10 rfl) rfl
theorem dX12_force_11 : decode cX12_force 11 = .ok (.iload_n 2, 1) := zo_28 (zi_at zh_dX12_force_0_0 11 rfl)
theorem dX12_force_12 : decode cX12_force 12 = .ok (.invokevirtual 92, 3) := zo_182 (zi_at zh_dX12_force_0_0 12 rfl) (zi_at zh_dX12_force_0_0 13 rfl) (zi_at zh_dX12_force_0_0 14 rfl) rfl
theorem dX12_force_15 : decode cX12_force 15 = .ok (.ifCond .ne 5, 3) := zo_154 (zi_at zh_dX12_force_0_0 15 rfl) (zi_at zh_dX12_force_15_16 0 rfl) (zi_at zh_dX12_force_15_16 1 rfl) rfl
theorem dX12_force_18 : decode cX12_force 18 = .ok (.iconst (-1), 1) := zo_2 (zi_at zh_dX12_force_15_16 2 rfl)
theorem dX12_force_19 : decode cX12_force 19 = .ok (.ireturn, 1) := zo_172 (zi_at zh_dX12_force_15_16 3 rfl)
theorem dX12_force_20 : decode cX12_force 20 = .ok (.aload_n 0, 1) := zo_42 (zi_at zh_dX12_force_15_16 4 rfl)
theorem dX12_force_21 : decode cX12_force 21 = .ok (.getfield 10, 3) := zo_180 (zi_at zh_dX12_force_15_16 5 rfl) (zi_at zh_dX12_force_15_16 6 rfl) (zi_at zh_dX12_force_15_16 7 rfl) rfl
theorem dX12_force_24 : decode cX12_force 24 = .ok (.iload_n 1, 1) := zo_27 (zi_at zh_dX12_force_15_16 8 rfl)
theorem dX12_force_25 : decode cX12_force 25 = .ok (.iload_n 2, 1) := zo_28 (zi_at zh_dX12_force_15_16 9 rfl)
theorem dX12_force_26 : decode cX12_force 26 = .ok (.invokevirtual 120, 3) := zo_182 (zi_at zh_dX12_force_15_16 10 rfl) (zi_at zh_dX12_force_15_16 11 rfl) (zi_at zh_dX12_force_15_16 12 rfl) rfl
theorem dX12_force_29 : decode cX12_force 29 = .ok (.ireturn, 1) := zo_172 (zi_at zh_dX12_force_15_16 13 rfl)
def v_rulesOnX : List Cond := .code yX0_rulesOn cX0_rulesOn 7 (some .int) :: vA
abbrev rm_rulesOnX : Room := { frames := 3, cells := 0, slots := 0, locals := 120 }
set_option maxHeartbeats 4000000 in
set_option maxRecDepth 100000 in
theorem q_rulesOnX (l : Launch) (dC : Nat → ClassId) (dI : Nat → Nat → Nat) (cT : Nat → ClassId) (cf : Nat → Nat) (hC : CF cf) (ad : Nat → Nat) (E : Nat → va_E) (sz : Nat) (a0 : Int32) (a1 : Int32) (hI0 : IXL cT (shC cf) (spC cf) (LC cf) ad E)  : Met l yX0_rulesOn v_rulesOnX rm_rulesOnX (va_Pc [.ref (ad 1), .int a0, .int a1] (HWL dC dI (TYC cT) cf ad E sz)) (va_Qi (S := Unit) (fun r _ => (-1 ≤ r.toInt ∧ r.toInt ≤ 15) ∧ ((r.toInt = -1 ∨ r.toInt < ((cf 1 : Nat) : Int))) ∧ (r.toInt = (cO (fun _ => 0) (fun k9 => xi (E (64 * (k9 + 1) + 1)) 0) (fun k9 => xi (E (64 * (k9 + 1) + 1)) 1) 0 a0 a1 (cf 1)).toInt)) (fun _ _ => True) (fun _ => False)) 0 0 (fun _ => False) := by
  obtain ⟨⟨hc0, hc1, hc2, hc3, hc4, hc5⟩, hcr⟩ := id hC
  refine Met.ofW (cc := cX0_rulesOn) (maxL := 7) (ret := (some .int)) (by decide) rfl ?_
  intro p e s m args below meth c s₁ B hml hv
  obtain ⟨hargs, hsz, hP, hK, hD0, hEV⟩ := hv
  subst hsz
  have hx := B.exec
  have hb := B.bytes
  have hr := B.returns
  have hts := atoms_spec (ws := v_rulesOnX) B.pre
  have hown : s.vm.findClass RX0 = some m.cls := findClass_of_methodNamed B.named
  have hlocks := B.notSynchronized
  have hinX0 : ∀ w ∈ u_ws RX0 TX0 11, w ∈ v_rulesOnX := fun w h => vA_in _ w (in_X0 w h)
  have hinX7 : ∀ w ∈ u_ws RX7 TX7 6, w ∈ v_rulesOnX := fun w h => vA_in _ w (in_X7 w h)
  have hS : va_S (fun _ : Nat => False) s.heap s.heap [] := va_S.rf
  have hD := hD0
  have hI := hI0
  have hKp : Kp (wl [] []) E E := Kp.rf
  have hl := lv_entry ([.ref (ad 1), .int a0, .int a1]) (n := 7) (Nat.le_of_ble_eq_true rfl)
  obtain ⟨Q, hQ⟩ : ∃ Q, Q = MQ below (va_Qi (S := Unit) (fun r _ => (-1 ≤ r.toInt ∧ r.toInt ≤ 15) ∧ ((r.toInt = -1 ∨ r.toInt < ((cf 1 : Nat) : Int))) ∧ (r.toInt = (cO (fun _ => 0) (fun k9 => xi (E (64 * (k9 + 1) + 1)) 0) (fun k9 => xi (E (64 * (k9 + 1) + 1)) 1) 0 a0 a1 (cf 1)).toInt)) (fun _ _ => True) (fun _ => False)) args s 0 0 (fun _ => False) := ⟨_, rfl⟩
  rw [← hQ, show entryFrame m args 7 = _ from (congrArg (fun z => entryFrame m z 7) hargs).trans (lg_entry_eq _ _ _)]
  generalize (lg_sl ([.ref (ad 1), .int a0, .int a1]) ++ List.replicate (7 - (lg_sl ([.ref (ad 1), .int a0, .int a1])).length) Slot.unset).toArray = ls at hl ⊢
  have hl : lv_has ls 7 [(0, .ref (ad 1)), (1, .int a0), (2, .int a1)] := hl
  refine lv_iconst (v := -1) hx hb dX0_rulesOn_0 (by decide) ?_
  refine lv_istore_n (lv' := [(3, .int (-1)), (0, .ref (ad 1)), (1, .int a0), (2, .int a1)]) hx hb dX0_rulesOn_1 rfl hl (by decide) rfl (fun ls hl => ?_)
  refine lv_iconst (v := 0) hx hb dX0_rulesOn_2 (by decide) ?_
  refine lv_istore (lv' := [(4, .int 0), (3, .int (-1)), (0, .ref (ad 1)), (1, .int a0), (2, .int a1)]) hx hb dX0_rulesOn_3 hl (by decide) rfl (fun ls hl => ?_)
  refine lv_iconst (v := 0) hx hb dX0_rulesOn_5 (by decide) ?_
  refine lv_istore (lv' := [(5, .int 0), (4, .int 0), (3, .int (-1)), (0, .ref (ad 1)), (1, .int a0), (2, .int a1)]) hx hb dX0_rulesOn_6 hl (by decide) rfl (fun ls hl => ?_)
  have hL8 : ∀ d : Nat, ∀ (v8_5 : Int32) (v8_4 : Int32) (v8_3 : Int32) (H : Heap) (locs : List Loc) (ls : Array Slot), 0 ≤ v8_5.toInt ∧ v8_5.toInt ≤ 16 → 0 ≤ v8_4.toInt ∧ v8_4.toInt ≤ 400 → -1 ≤ v8_3.toInt ∧ v8_3.toInt ≤ 15 → v8_3 = cO (fun _ => 0) (fun k9 => xi (E (64 * (k9 + 1) + 1)) 0) (fun k9 => xi (E (64 * (k9 + 1) + 1)) 1) 0 a0 a1 v8_5.toNatClampNeg → ((v8_3.toInt = -1 ∧ v8_4.toInt = 0) ∨ (0 ≤ v8_3.toInt ∧ v8_3.toInt < v8_5.toInt ∧ v8_4 = (xi (E (64 * (v8_3.toNatClampNeg + 1) + 1)) 0))) → (v8_3.toInt = -1 ∨ v8_3.toInt < ((cf 1 : Nat) : Int)) → v8_5.toInt ≤ ((cf 1 : Nat) : Int) → 16 - v8_5.toInt < (d : Int) → va_P (dC, dI) vwCl (WL (LC cf) ad E) H → va_S (fun _ : Nat => False) s.heap H locs → lv_has ls 7 [(5, .int v8_5), (4, .int v8_4), (3, .int v8_3), (0, .ref (ad 1)), (1, .int a0), (2, .int a1)] → W p l e (headSpec v_rulesOnX rm_rulesOnX).room s m args below meth c H locs 0 0 Q (F0 m 8 ls []) := by
    intro d
    induction d with
    | zero =>
      intro v8_5 v8_4 v8_3 H locs ls hv8_5 hv8_4 hv8_3 hx8_0 hx8_1 hx8_2 hx8_3 hx8_4 hP hS hl
      exact absurd hx8_4 (by first | exact ms_zu hv8_5.2 | omega)
    | succ d ih8 =>
      intro v8_5 v8_4 v8_3 H locs ls hv8_5 hv8_4 hv8_3 hx8_0 hx8_1 hx8_2 hx8_3 hx8_4 hP hS hl
      refine lv_iload hx hb dX0_rulesOn_8 (lv_at hl 0 rfl) ?_
      refine lv_aload_n hx hb dX0_rulesOn_10 rfl (lv_at hl 3 rfl) ?_
      refine th_getL (ci := 1) (C := RX0) (T := TX0) (N := 11) (v := .ref (ad 8)) hx hb hts hinX0 hown hK hP hI 1 (mF 1 rfl) rfl rfl 4 (Nat.le_of_ble_eq_true rfl) (hts _ (vA_in _ _ (in_5 _ (zs16 (zs4 (zs4 (zs4 (zs1 (zs1 (zs1 (zs0))))))))))) (fun _ h9 => h9) (hI.fr 1 (mF 1 rfl) rfl (Nat.le_of_ble_eq_true rfl) 8 rfl) dX0_rulesOn_11 ?_
      refine th_riL (va_runV (As := []) (rest := [.int v8_5]) ⟨hx, hb, hml, hown, hts⟩ (q_size1 l dC dI cT cf hC ad E H.size hI) (cwV 0 hts (gi_V (in_4 _ (zs16 (zs16 (zs1 (zs1 (zs0)))))) (in_4 _ (zs16 (zs16 (zs1 (zs1 (zs1 (zs0))))))) (in_4 _ (zs16 (zs16 (zs4 (zs0))))) (in_3 _ (zs16 (zs1 (zs1 (zs0))))) (in_4 _ (zs16 (zs1 (zs1 (zs1 (zs0))))))) rfl rfl rfl (by decide +kernel) ⟨Nat.le_of_ble_eq_true rfl, Nat.le_of_ble_eq_true rfl⟩) ⟨HWL_bl, va_recv hK hP (ci := 0) (q0 := posL 8 (LC cf)) rfl (hI.ob 8 (mF 8 rfl) rfl), (HWL_wiR hP hK (WL_D hD) hS hEV)⟩ rfl rfl hl.1 rfl (lv_room (Nat.le_of_ble_eq_true rfl)) dX0_rulesOn_14 ⟨Nat.le_of_ble_eq_true rfl, Nat.le_of_ble_eq_true rfl⟩) hS hP (fun r1 H locs hw hP hS => ?_)
      obtain ⟨f2, f3⟩ := hw
      refine lv_icmp_ge (tgt := 78) hx hb dX0_rulesOn_17 (by decide) (fun c4 => ?_) (fun c4 => ?_)
      · --17 taken
        have t5 : r1.toInt ≤ v8_5.toInt := ti_le c4
        refine lv_iload_n hx hb dX0_rulesOn_78 rfl (lv_at hl 2 rfl) ?_
        rw [hQ]
        exact W.iret (v := v8_3) hx hb hr (fun t ht hW => ⟨⟨v8_3, (), rfl, ⟨hv8_3, by all_goals omega, by have h9 := congrArg Int32.toInt hx8_0; rw [show v8_5.toNatClampNeg = cf 1 by rw [tn_]; omega] at h9; exact h9⟩, trivial⟩, hS.F ht⟩) hS.2.2 dX0_rulesOn_79
      · --17 not
        have t6 : v8_5.toInt < r1.toInt := ti_nle c4
        have i7 : 0 ≤ v8_5.toInt ∧ v8_5.toInt ≤ 15 := iv_lt_l t6 hv8_5 f2 (by decide)
        have i8 : 1 ≤ r1.toInt ∧ r1.toInt ≤ 16 := iv_lt_r t6 hv8_5 f2 (by decide)
        refine lv_aload_n hx hb dX0_rulesOn_20 rfl (lv_at hl 3 rfl) ?_
        refine th_getL (ci := 1) (C := RX0) (T := TX0) (N := 11) (v := .ref (ad 8)) hx hb hts hinX0 hown hK hP hI 1 (mF 1 rfl) rfl rfl 4 (Nat.le_of_ble_eq_true rfl) (hts _ (vA_in _ _ (in_5 _ (zs16 (zs4 (zs4 (zs4 (zs1 (zs1 (zs1 (zs0))))))))))) (fun _ h9 => h9) (hI.fr 1 (mF 1 rfl) rfl (Nat.le_of_ble_eq_true rfl) 8 rfl) dX0_rulesOn_21 ?_
        refine lv_iload hx hb dX0_rulesOn_24 (lv_at hl 0 rfl) ?_
        refine th_rrL (va_runV (As := [.int v8_5]) (rest := []) ⟨hx, hb, hml, hown, hts⟩ (q_get1 l dC dI cT cf hC ad E H.size v8_5 hI (by omega)) (cwV 1 hts (gi_V (in_4 _ (zs16 (zs16 (zs4 (zs1 (zs0)))))) (in_4 _ (zs16 (zs16 (zs4 (zs1 (zs1 (zs0))))))) (in_4 _ (zs16 (zs16 (zs4 (zs1 (zs1 (zs1 (zs0)))))))) (in_3 _ (zs16 (zs1 (zs1 (zs0))))) (in_3 _ (zs16 (zs16 (zs4 (zs1 (zs1 (zs1 (zs0))))))))) rfl rfl rfl (by decide +kernel) ⟨Nat.le_of_ble_eq_true rfl, Nat.le_of_ble_eq_true rfl⟩) ⟨HWL_bl, va_recv hK hP (ci := 0) (q0 := posL 8 (LC cf)) rfl (hI.ob 8 (mF 8 rfl) rfl), (HWL_wiR hP hK (WL_D hD) hS hEV)⟩ rfl rfl hl.1 rfl (lv_room (Nat.le_of_ble_eq_true rfl)) dX0_rulesOn_26 ⟨Nat.le_of_ble_eq_true rfl, Nat.le_of_ble_eq_true rfl⟩) hS hP (fun r9 H locs hw hP hS => ?_)
        obtain rfl := hw
        have lv10 : v8_5.toNatClampNeg < cf 1 := by rw [tn_]; omega
        refine va_castS (cC := dC 8) hx hb hown (hts _ (vA_in _ _ (in_6 _ (zs16 (zs4 (zs4 (zs1 (zs1 (zs0))))))))) (hK.1 8 _ rfl).2 (va_recv hK hP (ci := 8) (q0 := posL (64 * (v8_5.toNatClampNeg + 1) + 1) (LC cf)) rfl (hI.ob (64 * (v8_5.toNatClampNeg + 1) + 1) (mP 1 v8_5.toNatClampNeg (by decide) lv10 (kl_le hC 1 (by decide))) (shC_p 1 v8_5.toNatClampNeg (by decide)))) dX0_rulesOn_29 ?_
        refine lv_astore (lv' := [(6, .ref (ad (64 * (v8_5.toNatClampNeg + 1) + 1))), (5, .int v8_5), (4, .int v8_4), (3, .int v8_3), (0, .ref (ad 1)), (1, .int a0), (2, .int a1)]) hx hb dX0_rulesOn_32 hl (by decide) rfl (fun ls hl => ?_)
        refine lv_aload hx hb dX0_rulesOn_34 (lv_at hl 0 rfl) ?_
        have i11 : 0 ≤ (xi (E (64 * (v8_5.toNatClampNeg + 1) + 1)) 1).toInt ∧ (xi (E (64 * (v8_5.toNatClampNeg + 1) + 1)) 1).toInt ≤ 400 := hI0.iv (64 * (v8_5.toNatClampNeg + 1) + 1) (mP 1 v8_5.toNatClampNeg (by decide) lv10 (kl_le hC 1 (by decide))) (shC_p 1 v8_5.toNatClampNeg (by decide)) (Nat.le_of_ble_eq_true rfl) (spC_p 1 v8_5.toNatClampNeg (by decide) 1)
        refine th_getL (ci := 8) (C := RX7) (T := TX7) (N := 6) (v := .int (xi (E (64 * (v8_5.toNatClampNeg + 1) + 1)) 1)) hx hb hts hinX7 hown hK hP hI (64 * (v8_5.toNatClampNeg + 1) + 1) (mP 1 v8_5.toNatClampNeg (by decide) lv10 (kl_le hC 1 (by decide))) (shC_p 1 v8_5.toNatClampNeg (by decide)) rfl 1 (Nat.le_of_ble_eq_true rfl) (hts _ (vA_in _ _ (in_6 _ (zs16 (zs4 (zs4 (zs4 (zs1 (zs1 (zs1 (zs0))))))))))) (fun _ h9 => h9) (th_v0L hKp hI0 (64 * (v8_5.toNatClampNeg + 1) + 1) (mP 1 v8_5.toNatClampNeg (by decide) lv10 (kl_le hC 1 (by decide))) (shC_p 1 v8_5.toNatClampNeg (by decide)) (Nat.le_of_ble_eq_true rfl) (spC_p 1 v8_5.toNatClampNeg (by decide) 1) (wl_p rfl rfl (by omega))) dX0_rulesOn_36 ?_
        refine lv_iload_n hx hb dX0_rulesOn_39 rfl (lv_at hl 6 rfl) ?_
        refine lv_icmp_gt (tgt := 72) hx hb dX0_rulesOn_40 (by decide) (fun c12 => ?_) (fun c12 => ?_)
        · --40 taken
          have t13 : a1.toInt < (xi (E (64 * (v8_5.toNatClampNeg + 1) + 1)) 1).toInt := ti_lt c12
          have i14 : -2147483648 ≤ a1.toInt ∧ a1.toInt ≤ 399 := iv_lt_l t13 (iv_all _) i11 (by decide)
          obtain ⟨y15, ey15⟩ : ∃ y : Int32, y = v8_5 + (1 : Int32) := ⟨_, rfl⟩
          obtain ⟨ty15, iy15⟩ := ti_add (e := 1) (f := 16) i7 ln_1 ey15 (by decide)
          have ty15 : y15.toInt = v8_5.toInt + 1 := ty15
          have iy15 : 1 ≤ y15.toInt ∧ y15.toInt ≤ 16 := iy15
          refine lv_iinc (v := y15) (lv' := [(5, .int y15), (6, .ref (ad (64 * (v8_5.toNatClampNeg + 1) + 1))), (4, .int v8_4), (3, .int v8_3), (0, .ref (ad 1)), (1, .int a0), (2, .int a1)]) hx hb dX0_rulesOn_72 hl (k := 1) rfl (by rw [ey15]; rfl) (by decide) rfl (fun ls hl => ?_)
          refine lv_goto (tgt := 8) hx hb dX0_rulesOn_75 (by decide) ?_
          exact ih8 y15 v8_4 v8_3 _ _ _ (iv_w iy15 (by decide)) hv8_4 hv8_3 (cO_skip (gB := fun _ => 0) (gF := (fun k9 => xi (E (64 * (k9 + 1) + 1)) 0)) (gT := (fun k9 => xi (E (64 * (k9 + 1) + 1)) 1)) hx8_0 ty15 hv8_5 (by decide) (fun hh => by have z1 := ln_m1; have p5 : (v8_3.toInt = -1 ∧ v8_4.toInt = 0) ∨ (0 ≤ v8_3.toInt ∧ v8_4.toInt = (xi (E (64 * (v8_3.toNatClampNeg + 1) + 1)) 0).toInt) := hx8_1.imp id (fun h => ⟨h.1, congrArg Int32.toInt h.2.2⟩); have p2 : (xi (E (64 * (v8_5.toNatClampNeg + 1) + 1)) 1).toInt ≤ a1.toInt := ti_le hh.2.1; have p3 : (xi (E (64 * (v8_5.toNatClampNeg + 1) + 1)) 0).toInt ≤ a0.toInt := ti_le hh.2.2.1; have p4 : v8_3.toInt = (-1 : Int32).toInt ∨ (xi (E (64 * (v8_3.toNatClampNeg + 1) + 1)) 0).toInt ≤ (xi (E (64 * (v8_5.toNatClampNeg + 1) + 1)) 0).toInt := hh.2.2.2.imp (congrArg Int32.toInt) ti_le; omega)) (hx8_1.imp id (fun h => ⟨h.1, by omega, h.2.2⟩)) (by have h9 := hv8_3; omega) (by have h9 := iy15; omega) (by first | exact ms_su hx8_4 ty15 (by decide) | omega) hP hS (lv_sub hl [0, 2, 3, 4, 5, 6] rfl)
        · --40 not
          have t16 : (xi (E (64 * (v8_5.toNatClampNeg + 1) + 1)) 1).toInt ≤ a1.toInt := ti_nlt c12
          have i17 : 0 ≤ a1.toInt ∧ a1.toInt ≤ 2147483647 := iv_le_r t16 i11 (iv_all _) (by decide)
          refine lv_aload hx hb dX0_rulesOn_43 (lv_at hl 0 rfl) ?_
          have i18 : 0 ≤ (xi (E (64 * (v8_5.toNatClampNeg + 1) + 1)) 0).toInt ∧ (xi (E (64 * (v8_5.toNatClampNeg + 1) + 1)) 0).toInt ≤ 400 := hI0.iv (64 * (v8_5.toNatClampNeg + 1) + 1) (mP 1 v8_5.toNatClampNeg (by decide) lv10 (kl_le hC 1 (by decide))) (shC_p 1 v8_5.toNatClampNeg (by decide)) (Nat.le_of_ble_eq_true rfl) (spC_p 1 v8_5.toNatClampNeg (by decide) 0)
          refine th_getL (ci := 8) (C := RX7) (T := TX7) (N := 6) (v := .int (xi (E (64 * (v8_5.toNatClampNeg + 1) + 1)) 0)) hx hb hts hinX7 hown hK hP hI (64 * (v8_5.toNatClampNeg + 1) + 1) (mP 1 v8_5.toNatClampNeg (by decide) lv10 (kl_le hC 1 (by decide))) (shC_p 1 v8_5.toNatClampNeg (by decide)) rfl 0 (Nat.le_of_ble_eq_true rfl) (hts _ (vA_in _ _ (in_6 _ (zs16 (zs16 (zs0)))))) (fun _ h9 => h9) (th_v0L hKp hI0 (64 * (v8_5.toNatClampNeg + 1) + 1) (mP 1 v8_5.toNatClampNeg (by decide) lv10 (kl_le hC 1 (by decide))) (shC_p 1 v8_5.toNatClampNeg (by decide)) (Nat.le_of_ble_eq_true rfl) (spC_p 1 v8_5.toNatClampNeg (by decide) 0) (wl_p rfl rfl (by omega))) dX0_rulesOn_45 ?_
          refine lv_iload_n hx hb dX0_rulesOn_48 rfl (lv_at hl 5 rfl) ?_
          refine lv_icmp_gt (tgt := 72) hx hb dX0_rulesOn_49 (by decide) (fun c19 => ?_) (fun c19 => ?_)
          · --49 taken
            have t20 : a0.toInt < (xi (E (64 * (v8_5.toNatClampNeg + 1) + 1)) 0).toInt := ti_lt c19
            have i21 : -2147483648 ≤ a0.toInt ∧ a0.toInt ≤ 399 := iv_lt_l t20 (iv_all _) i18 (by decide)
            obtain ⟨y22, ey22⟩ : ∃ y : Int32, y = v8_5 + (1 : Int32) := ⟨_, rfl⟩
            obtain ⟨ty22, iy22⟩ := ti_add (e := 1) (f := 16) i7 ln_1 ey22 (by decide)
            have ty22 : y22.toInt = v8_5.toInt + 1 := ty22
            have iy22 : 1 ≤ y22.toInt ∧ y22.toInt ≤ 16 := iy22
            refine lv_iinc (v := y22) (lv' := [(5, .int y22), (6, .ref (ad (64 * (v8_5.toNatClampNeg + 1) + 1))), (4, .int v8_4), (3, .int v8_3), (0, .ref (ad 1)), (1, .int a0), (2, .int a1)]) hx hb dX0_rulesOn_72 hl (k := 1) rfl (by rw [ey22]; rfl) (by decide) rfl (fun ls hl => ?_)
            refine lv_goto (tgt := 8) hx hb dX0_rulesOn_75 (by decide) ?_
            exact ih8 y22 v8_4 v8_3 _ _ _ (iv_w iy22 (by decide)) hv8_4 hv8_3 (cO_skip (gB := fun _ => 0) (gF := (fun k9 => xi (E (64 * (k9 + 1) + 1)) 0)) (gT := (fun k9 => xi (E (64 * (k9 + 1) + 1)) 1)) hx8_0 ty22 hv8_5 (by decide) (fun hh => by have z1 := ln_m1; have p5 : (v8_3.toInt = -1 ∧ v8_4.toInt = 0) ∨ (0 ≤ v8_3.toInt ∧ v8_4.toInt = (xi (E (64 * (v8_3.toNatClampNeg + 1) + 1)) 0).toInt) := hx8_1.imp id (fun h => ⟨h.1, congrArg Int32.toInt h.2.2⟩); have p2 : (xi (E (64 * (v8_5.toNatClampNeg + 1) + 1)) 1).toInt ≤ a1.toInt := ti_le hh.2.1; have p3 : (xi (E (64 * (v8_5.toNatClampNeg + 1) + 1)) 0).toInt ≤ a0.toInt := ti_le hh.2.2.1; have p4 : v8_3.toInt = (-1 : Int32).toInt ∨ (xi (E (64 * (v8_3.toNatClampNeg + 1) + 1)) 0).toInt ≤ (xi (E (64 * (v8_5.toNatClampNeg + 1) + 1)) 0).toInt := hh.2.2.2.imp (congrArg Int32.toInt) ti_le; omega)) (hx8_1.imp id (fun h => ⟨h.1, by omega, h.2.2⟩)) (by have h9 := hv8_3; omega) (by have h9 := iy22; omega) (by first | exact ms_su hx8_4 ty22 (by decide) | omega) hP hS (lv_sub hl [0, 2, 3, 4, 5, 6] rfl)
          · --49 not
            have t23 : (xi (E (64 * (v8_5.toNatClampNeg + 1) + 1)) 0).toInt ≤ a0.toInt := ti_nlt c19
            have i24 : 0 ≤ a0.toInt ∧ a0.toInt ≤ 2147483647 := iv_le_r t23 i18 (iv_all _) (by decide)
            refine lv_aload hx hb dX0_rulesOn_52 (lv_at hl 0 rfl) ?_
            refine th_getL (ci := 8) (C := RX7) (T := TX7) (N := 6) (v := .int (xi (E (64 * (v8_5.toNatClampNeg + 1) + 1)) 0)) hx hb hts hinX7 hown hK hP hI (64 * (v8_5.toNatClampNeg + 1) + 1) (mP 1 v8_5.toNatClampNeg (by decide) lv10 (kl_le hC 1 (by decide))) (shC_p 1 v8_5.toNatClampNeg (by decide)) rfl 0 (Nat.le_of_ble_eq_true rfl) (hts _ (vA_in _ _ (in_6 _ (zs16 (zs16 (zs0)))))) (fun _ h9 => h9) (th_v0L hKp hI0 (64 * (v8_5.toNatClampNeg + 1) + 1) (mP 1 v8_5.toNatClampNeg (by decide) lv10 (kl_le hC 1 (by decide))) (shC_p 1 v8_5.toNatClampNeg (by decide)) (Nat.le_of_ble_eq_true rfl) (spC_p 1 v8_5.toNatClampNeg (by decide) 0) (wl_p rfl rfl (by omega))) dX0_rulesOn_54 ?_
            refine lv_iload hx hb dX0_rulesOn_57 (lv_at hl 2 rfl) ?_
            refine lv_icmp_lt (tgt := 72) hx hb dX0_rulesOn_59 (by decide) (fun c25 => ?_) (fun c25 => ?_)
            · --59 taken
              have t26 : (xi (E (64 * (v8_5.toNatClampNeg + 1) + 1)) 0).toInt < v8_4.toInt := ti_lt c25
              have i27 : 0 ≤ (xi (E (64 * (v8_5.toNatClampNeg + 1) + 1)) 0).toInt ∧ (xi (E (64 * (v8_5.toNatClampNeg + 1) + 1)) 0).toInt ≤ 399 := iv_lt_l t26 i18 hv8_4 (by decide)
              have i28 : 1 ≤ v8_4.toInt ∧ v8_4.toInt ≤ 400 := iv_lt_r t26 i18 hv8_4 (by decide)
              obtain ⟨y29, ey29⟩ : ∃ y : Int32, y = v8_5 + (1 : Int32) := ⟨_, rfl⟩
              obtain ⟨ty29, iy29⟩ := ti_add (e := 1) (f := 16) i7 ln_1 ey29 (by decide)
              have ty29 : y29.toInt = v8_5.toInt + 1 := ty29
              have iy29 : 1 ≤ y29.toInt ∧ y29.toInt ≤ 16 := iy29
              refine lv_iinc (v := y29) (lv' := [(5, .int y29), (6, .ref (ad (64 * (v8_5.toNatClampNeg + 1) + 1))), (4, .int v8_4), (3, .int v8_3), (0, .ref (ad 1)), (1, .int a0), (2, .int a1)]) hx hb dX0_rulesOn_72 hl (k := 1) rfl (by rw [ey29]; rfl) (by decide) rfl (fun ls hl => ?_)
              refine lv_goto (tgt := 8) hx hb dX0_rulesOn_75 (by decide) ?_
              exact ih8 y29 v8_4 v8_3 _ _ _ (iv_w iy29 (by decide)) (iv_w i28 (by decide)) hv8_3 (cO_skip (gB := fun _ => 0) (gF := (fun k9 => xi (E (64 * (k9 + 1) + 1)) 0)) (gT := (fun k9 => xi (E (64 * (k9 + 1) + 1)) 1)) hx8_0 ty29 hv8_5 (by decide) (fun hh => by have z1 := ln_m1; have p5 : (v8_3.toInt = -1 ∧ v8_4.toInt = 0) ∨ (0 ≤ v8_3.toInt ∧ v8_4.toInt = (xi (E (64 * (v8_3.toNatClampNeg + 1) + 1)) 0).toInt) := hx8_1.imp id (fun h => ⟨h.1, congrArg Int32.toInt h.2.2⟩); have p2 : (xi (E (64 * (v8_5.toNatClampNeg + 1) + 1)) 1).toInt ≤ a1.toInt := ti_le hh.2.1; have p3 : (xi (E (64 * (v8_5.toNatClampNeg + 1) + 1)) 0).toInt ≤ a0.toInt := ti_le hh.2.2.1; have p4 : v8_3.toInt = (-1 : Int32).toInt ∨ (xi (E (64 * (v8_3.toNatClampNeg + 1) + 1)) 0).toInt ≤ (xi (E (64 * (v8_5.toNatClampNeg + 1) + 1)) 0).toInt := hh.2.2.2.imp (congrArg Int32.toInt) ti_le; omega)) (hx8_1.imp id (fun h => ⟨h.1, by omega, h.2.2⟩)) (by have h9 := hv8_3; omega) (by have h9 := iy29; omega) (by first | exact ms_su hx8_4 ty29 (by decide) | omega) hP hS (lv_sub hl [0, 2, 3, 4, 5, 6] rfl)
            · --59 not
              have t30 : v8_4.toInt ≤ (xi (E (64 * (v8_5.toNatClampNeg + 1) + 1)) 0).toInt := ti_nlt c25
              refine lv_iload hx hb dX0_rulesOn_62 (lv_at hl 1 rfl) ?_
              refine lv_istore_n (lv' := [(3, .int v8_5), (6, .ref (ad (64 * (v8_5.toNatClampNeg + 1) + 1))), (5, .int v8_5), (4, .int v8_4), (0, .ref (ad 1)), (1, .int a0), (2, .int a1)]) hx hb dX0_rulesOn_64 rfl hl (by decide) rfl (fun ls hl => ?_)
              refine lv_aload hx hb dX0_rulesOn_65 (lv_at hl 1 rfl) ?_
              refine th_getL (ci := 8) (C := RX7) (T := TX7) (N := 6) (v := .int (xi (E (64 * (v8_5.toNatClampNeg + 1) + 1)) 0)) hx hb hts hinX7 hown hK hP hI (64 * (v8_5.toNatClampNeg + 1) + 1) (mP 1 v8_5.toNatClampNeg (by decide) lv10 (kl_le hC 1 (by decide))) (shC_p 1 v8_5.toNatClampNeg (by decide)) rfl 0 (Nat.le_of_ble_eq_true rfl) (hts _ (vA_in _ _ (in_6 _ (zs16 (zs16 (zs0)))))) (fun _ h9 => h9) (th_v0L hKp hI0 (64 * (v8_5.toNatClampNeg + 1) + 1) (mP 1 v8_5.toNatClampNeg (by decide) lv10 (kl_le hC 1 (by decide))) (shC_p 1 v8_5.toNatClampNeg (by decide)) (Nat.le_of_ble_eq_true rfl) (spC_p 1 v8_5.toNatClampNeg (by decide) 0) (wl_p rfl rfl (by omega))) dX0_rulesOn_67 ?_
              refine lv_istore (lv' := [(4, .int (xi (E (64 * (v8_5.toNatClampNeg + 1) + 1)) 0)), (3, .int v8_5), (6, .ref (ad (64 * (v8_5.toNatClampNeg + 1) + 1))), (5, .int v8_5), (0, .ref (ad 1)), (1, .int a0), (2, .int a1)]) hx hb dX0_rulesOn_70 hl (by decide) rfl (fun ls hl => ?_)
              obtain ⟨y31, ey31⟩ : ∃ y : Int32, y = v8_5 + (1 : Int32) := ⟨_, rfl⟩
              obtain ⟨ty31, iy31⟩ := ti_add (e := 1) (f := 16) i7 ln_1 ey31 (by decide)
              have ty31 : y31.toInt = v8_5.toInt + 1 := ty31
              have iy31 : 1 ≤ y31.toInt ∧ y31.toInt ≤ 16 := iy31
              refine lv_iinc (v := y31) (lv' := [(5, .int y31), (4, .int (xi (E (64 * (v8_5.toNatClampNeg + 1) + 1)) 0)), (3, .int v8_5), (6, .ref (ad (64 * (v8_5.toNatClampNeg + 1) + 1))), (0, .ref (ad 1)), (1, .int a0), (2, .int a1)]) hx hb dX0_rulesOn_72 hl (k := 3) rfl (by rw [ey31]; rfl) (by decide) rfl (fun ls hl => ?_)
              refine lv_goto (tgt := 8) hx hb dX0_rulesOn_75 (by decide) ?_
              exact ih8 y31 (xi (E (64 * (v8_5.toNatClampNeg + 1) + 1)) 0) v8_5 _ _ _ (iv_w iy31 (by decide)) i18 (iv_w i7 (by decide)) (cO_take (gB := fun _ => 0) (gF := (fun k9 => xi (E (64 * (k9 + 1) + 1)) 0)) (gT := (fun k9 => xi (E (64 * (k9 + 1) + 1)) 1)) hx8_0 ty31 hv8_5 (by decide) ⟨rfl, tr_le (show (xi (E (64 * (v8_5.toNatClampNeg + 1) + 1)) 1).toInt ≤ a1.toInt by omega), tr_le (show (xi (E (64 * (v8_5.toNatClampNeg + 1) + 1)) 0).toInt ≤ a0.toInt by omega), hx8_1.elim (fun h => Or.inl (tr_eq (by have z1 := ln_m1; omega))) (fun h => Or.inr (tr_le (show (xi (E (64 * (v8_3.toNatClampNeg + 1) + 1)) 0).toInt ≤ (xi (E (64 * (v8_5.toNatClampNeg + 1) + 1)) 0).toInt by have q9 := congrArg Int32.toInt h.2.2; omega)))⟩) (Or.inr ⟨by omega, by omega, rfl⟩) (by have h9 := i7; omega) (by have h9 := iy31; omega) (by first | exact ms_su hx8_4 ty31 (by decide) | omega) hP hS (lv_sub hl [0, 1, 2, 4, 5, 6] rfl)
  exact hL8 (17) (0 : Int32) (0 : Int32) (-1 : Int32) _ _ _ (iv_w ln_0 (by decide)) (iv_w ln_0 (by decide)) (iv_w ln_m1 (by decide)) rfl (Or.inl ⟨rfl, rfl⟩) (by have h9 := ln_m1; omega) (by have h9 := ln_0; omega) (by have h9 := ln_0; first | exact ms_bu h9.1 (by decide) | omega) hP hS (lv_sub hl [0, 1, 2, 3, 4, 5] rfl)
def v_u_forceX : List Cond := .code yX12_force cX12_force 3 (some .int) :: vA
abbrev rm_u_forceX : Room := { frames := 4, cells := 0, slots := 0, locals := 160 }
def w_u_forceX : Nat → Nat → Bool := wl [] []
set_option maxHeartbeats 4000000 in
set_option maxRecDepth 100000 in
theorem q_u_forceX (l : Launch) (dC : Nat → ClassId) (dI : Nat → Nat → Nat) (cT : Nat → ClassId) (cf : Nat → Nat) (hC : CF cf) (ad : Nat → Nat) (E : Nat → va_E) (sz : Nat) (a0 : Int32) (a1 : Int32) (hI0 : IXL cT (shC cf) (spC cf) (LC cf) ad E)  : Met l yX12_force v_u_forceX rm_u_forceX (va_Pc [.ref (ad 0), .int a0, .int a1] (HWL dC dI (TYC cT) cf ad E sz)) (va_Qi (S := Nat → va_E) (fun r u => IXL cT (shC cf) (spC cf) (LC cf) ad u ∧ Kp w_u_forceX E u ∧ ((((((0 ≤ a0.toInt ∧ a0.toInt ≤ 400) ∧ (0 ≤ a1.toInt ∧ a1.toInt ≤ (xi (E 1) 0).toInt)) → (r.toInt = (cO (fun _ => 0) (fun k9 => xi (E (64 * (k9 + 1) + 1)) 0) (fun k9 => xi (E (64 * (k9 + 1) + 1)) 1) 0 a0 a1 (cf 1)).toInt)) ∧ (¬ ((0 ≤ a0.toInt ∧ a0.toInt ≤ 400) ∧ (0 ≤ a1.toInt ∧ a1.toInt ≤ (xi (E 1) 0).toInt)) → (r.toInt = -1)))))) (HBL dC dI (LC cf) ad) (va_A (WL (LC cf) ad E) sz)) 0 0 (va_A (WL (LC cf) ad E) sz) := by
  obtain ⟨⟨hc0, hc1, hc2, hc3, hc4, hc5⟩, hcr⟩ := id hC
  refine Met.ofW (cc := cX12_force) (maxL := 3) (ret := (some .int)) (by decide) rfl ?_
  intro p e s m args below meth c s₁ B hml hv
  obtain ⟨hargs, hsz, hP, hK, hD0, hEV⟩ := hv
  subst hsz
  have hx := B.exec
  have hb := B.bytes
  have hr := B.returns
  have hts := atoms_spec (ws := v_u_forceX) B.pre
  have hown : s.vm.findClass RX12 = some m.cls := findClass_of_methodNamed B.named
  have hlocks := B.notSynchronized
  have hinX12 : ∀ w ∈ u_ws RX12 TX12 6, w ∈ v_u_forceX := fun w h => vA_in _ w (in_X12 w h)
  generalize hAe : va_A (WL (LC cf) ad E) s.heap.size = A at hEV ⊢
  have hA : ∀ q : Nat, s.heap.size ≤ q → A q := fun q h => by rw [← hAe]; exact Or.inr h
  have hD : va_D A (WL (LC cf) ad E) := by rw [← hAe]; exact hD0.self
  have hS : va_S A s.heap s.heap [] := va_S.rf
  have hI := hI0
  have hKp : Kp w_u_forceX E E := Kp.rf
  have hl := lv_entry ([.ref (ad 0), .int a0, .int a1]) (n := 3) (Nat.le_of_ble_eq_true rfl)
  obtain ⟨Q, hQ⟩ : ∃ Q, Q = MQ below (va_Qi (S := Nat → va_E) (fun r u => IXL cT (shC cf) (spC cf) (LC cf) ad u ∧ Kp w_u_forceX E u ∧ ((((((0 ≤ a0.toInt ∧ a0.toInt ≤ 400) ∧ (0 ≤ a1.toInt ∧ a1.toInt ≤ (xi (E 1) 0).toInt)) → (r.toInt = (cO (fun _ => 0) (fun k9 => xi (E (64 * (k9 + 1) + 1)) 0) (fun k9 => xi (E (64 * (k9 + 1) + 1)) 1) 0 a0 a1 (cf 1)).toInt)) ∧ (¬ ((0 ≤ a0.toInt ∧ a0.toInt ≤ 400) ∧ (0 ≤ a1.toInt ∧ a1.toInt ≤ (xi (E 1) 0).toInt)) → (r.toInt = -1)))))) (HBL dC dI (LC cf) ad) (A)) args s 0 0 (A) := ⟨_, rfl⟩
  rw [← hQ, show entryFrame m args 3 = _ from (congrArg (fun z => entryFrame m z 3) hargs).trans (lg_entry_eq _ _ _)]
  generalize (lg_sl ([.ref (ad 0), .int a0, .int a1]) ++ List.replicate (3 - (lg_sl ([.ref (ad 0), .int a0, .int a1])).length) Slot.unset).toArray = ls at hl ⊢
  have hl : lv_has ls 3 [(0, .ref (ad 0)), (1, .int a0), (2, .int a1)] := hl
  refine lv_iload_n hx hb dX12_force_0 rfl (lv_at hl 1 rfl) ?_
  refine th_pi (va_runS (As := [.int a0]) (rest := []) ⟨hx, hb, hml, hown, hts⟩ (q_cisDay l a0) (va_cwS 1 hts (gi_S (in_10 _ (zs16 (zs4 (zs4 (zs4 (zs0)))))) (in_10 _ (zs16 (zs4 (zs4 (zs4 (zs1 (zs0))))))) (in_4 _ (zs16 (zs4 (zs1 (zs1 (zs1 (zs0))))))) (in_10 _ (zs16 (zs4 (zs4 (zs4 (zs1 (zs1 (zs0))))))))) rfl rfl rfl (by decide +kernel) ⟨Nat.le_of_ble_eq_true rfl, Nat.le_of_ble_eq_true rfl⟩) ⟨fun _ _ _ _ q => q, fun _ _ _ => ⟨rfl, trivial⟩⟩ rfl rfl hl.1 rfl (lv_room (Nat.le_of_ble_eq_true rfl)) dX12_force_1 ⟨Nat.le_of_ble_eq_true rfl, Nat.le_of_ble_eq_true rfl⟩) hS (fun r1 H1 locs1 hw hk1 hS => ?_)
  have hP := ub_keep hP hk1
  generalize H1 = H at hP hS ⊢
  generalize locs1 = locs at hS ⊢
  rcases hw with hw | hw
  · -- cisDay, case 0
    obtain ⟨rfl, f2⟩ := hw
    have t3 : (0 : Int) ≤ a0.toInt := f2.1
    have t4 : a0.toInt ≤ 400 := f2.2
    have i5 : 0 ≤ a0.toInt ∧ a0.toInt ≤ 2147483647 := iv_le_r t3 (il_ 0) (iv_all _) (by decide)
    have i6 : 0 ≤ a0.toInt ∧ a0.toInt ≤ 400 := iv_le_l t4 i5 (il_ 400) (by decide)
    refine lv_if_eq (tgt := 18) hx hb dX12_force_4 (by decide) (fun c7 => ?_) (fun c7 => ?_)
    · --4 taken
      exact absurd c7 (by decide)
    · --4 not
      refine lv_aload_n hx hb dX12_force_7 rfl (lv_at hl 0 rfl) ?_
      refine th_getL (ci := 13) (C := RX12) (T := TX12) (N := 6) (v := .ref (ad 1)) hx hb hts hinX12 hown hK hP hI 0 (mF 0 rfl) rfl rfl 0 (Nat.le_of_ble_eq_true rfl) (hts _ (vA_in _ _ (in_10 _ (zs16 (zs1 (zs0)))))) (fun _ h9 => h9) (hI.fr 0 (mF 0 rfl) rfl (Nat.le_of_ble_eq_true rfl) 1 rfl) dX12_force_8 ?_
      refine lv_iload_n hx hb dX12_force_11 rfl (lv_at hl 2 rfl) ?_
      refine th_riL (va_runV (As := [.int a1]) (rest := []) ⟨hx, hb, hml, hown, hts⟩ (q_isKnownC l dC dI cT cf hC ad E H.size a1 hI) (cwV 1 hts (gi_V (in_18 _ (zs16 (zs4 (zs0)))) (in_6 _ (zs1 (zs1 (zs1 (zs0))))) (in_6 _ (zs4 (zs0))) (in_5 _ (zs4 (zs1 (zs1 (zs0))))) (in_6 _ (zs4 (zs1 (zs0))))) rfl rfl rfl (by decide +kernel) ⟨Nat.le_of_ble_eq_true rfl, Nat.le_of_ble_eq_true rfl⟩) ⟨HWL_bl, va_recv hK hP (ci := 1) (q0 := posL 1 (LC cf)) rfl (hI.ob 1 (mF 1 rfl) rfl), (HWL_wi hP hK (WL_D hD) hS hA hEV)⟩ rfl rfl hl.1 rfl (lv_room (Nat.le_of_ble_eq_true rfl)) dX12_force_12 ⟨Nat.le_of_ble_eq_true rfl, Nat.le_of_ble_eq_true rfl⟩) hS hP (fun r8 H locs hw hP hS => ?_)
      rcases hw with hw | hw
      · -- isKnownC, case 0
        obtain ⟨rfl, f9, f10⟩ := hw
        have i11 : 0 ≤ (xi (E 1) 0).toInt ∧ (xi (E 1) 0).toInt ≤ 400 := hI0.iv 1 (mF 1 rfl) rfl (Nat.le_of_ble_eq_true rfl) rfl
        refine lv_if_ne (tgt := 20) hx hb dX12_force_15 (by decide) (fun c12 => ?_) (fun c12 => ?_)
        · --15 taken
          refine lv_aload_n hx hb dX12_force_20 rfl (lv_at hl 0 rfl) ?_
          refine th_getL (ci := 13) (C := RX12) (T := TX12) (N := 6) (v := .ref (ad 1)) hx hb hts hinX12 hown hK hP hI 0 (mF 0 rfl) rfl rfl 0 (Nat.le_of_ble_eq_true rfl) (hts _ (vA_in _ _ (in_10 _ (zs16 (zs1 (zs0)))))) (fun _ h9 => h9) (hI.fr 0 (mF 0 rfl) rfl (Nat.le_of_ble_eq_true rfl) 1 rfl) dX12_force_21 ?_
          refine lv_iload_n hx hb dX12_force_24 rfl (lv_at hl 1 rfl) ?_
          refine lv_iload_n hx hb dX12_force_25 rfl (lv_at hl 2 rfl) ?_
          refine th_riL (va_runV (As := [.int a0, .int a1]) (rest := []) ⟨hx, hb, hml, hown, hts⟩ (q_rulesOnX l dC dI cT cf hC ad E H.size a0 a1 hI) (cwV 2 hts (gi_V (in_18 _ (zs16 (zs4 (zs1 (zs0))))) (in_6 _ (zs16 (zs4 (zs4 (zs4 (zs0)))))) (in_6 _ (zs16 (zs4 (zs4 (zs4 (zs1 (zs0))))))) (in_5 _ (zs4 (zs1 (zs1 (zs0))))) (in_6 _ (zs16 (zs4 (zs4 (zs4 (zs1 (zs1 (zs0))))))))) rfl rfl rfl (by decide +kernel) ⟨Nat.le_of_ble_eq_true rfl, Nat.le_of_ble_eq_true rfl⟩) ⟨HWL_bl, va_recv hK hP (ci := 1) (q0 := posL 1 (LC cf)) rfl (hI.ob 1 (mF 1 rfl) rfl), (HWL_wi hP hK (WL_D hD) hS hA hEV)⟩ rfl rfl hl.1 rfl (lv_room (Nat.le_of_ble_eq_true rfl)) dX12_force_26 ⟨Nat.le_of_ble_eq_true rfl, Nat.le_of_ble_eq_true rfl⟩) hS hP (fun r13 H locs hw hP hS => ?_)
          obtain ⟨f14, f15, f16⟩ := hw
          rw [hQ]
          exact W.iret (v := r13) hx hb hr (fun t ht hW => ⟨⟨r13, E, rfl, ⟨hI, hKp, (by all_goals omega)⟩, by show va_P (dC, dI) vwCl (WL (LC cf) ad E) t.heap; rw [ht]; exact hP⟩, hS.F ht⟩) hS.2.2 dX12_force_29
        · --15 not
          exact absurd c12 (by decide)
      · -- isKnownC, case 1
        obtain ⟨rfl, f17⟩ := hw
        have i18 : 0 ≤ (xi (E 1) 0).toInt ∧ (xi (E 1) 0).toInt ≤ 400 := hI0.iv 1 (mF 1 rfl) rfl (Nat.le_of_ble_eq_true rfl) rfl
        refine lv_if_ne (tgt := 20) hx hb dX12_force_15 (by decide) (fun c19 => ?_) (fun c19 => ?_)
        · --15 taken
          exact absurd c19 (by decide)
        · --15 not
          refine lv_iconst (v := -1) hx hb dX12_force_18 (by decide) ?_
          rw [hQ]
          exact W.iret (v := (-1)) hx hb hr (fun t ht hW => ⟨⟨(-1), E, rfl, ⟨hI, hKp, (by have h8 := ln_m1; all_goals omega)⟩, by show va_P (dC, dI) vwCl (WL (LC cf) ad E) t.heap; rw [ht]; exact hP⟩, hS.F ht⟩) hS.2.2 dX12_force_19
  · -- cisDay, case 1
    obtain ⟨rfl, f20⟩ := hw
    have t21 : ¬ ((0 : Int) ≤ a0.toInt ∧ a0.toInt ≤ 400) := f20
    refine lv_if_eq (tgt := 18) hx hb dX12_force_4 (by decide) (fun c22 => ?_) (fun c22 => ?_)
    · --4 taken
      refine lv_iconst (v := -1) hx hb dX12_force_18 (by decide) ?_
      rw [hQ]
      exact W.iret (v := (-1)) hx hb hr (fun t ht hW => ⟨⟨(-1), E, rfl, ⟨hI, hKp, (by have h8 := ln_m1; all_goals omega)⟩, by show va_P (dC, dI) vwCl (WL (LC cf) ad E) t.heap; rw [ht]; exact hP⟩, hS.F ht⟩) hS.2.2 dX12_force_19
    · --4 not
      exact absurd c22 (by decide)
