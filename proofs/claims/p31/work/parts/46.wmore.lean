set_option maxRecDepth 100000 in
theorem zh_dX12_force_0_0 : zc cX12_force 0 [27, 184, 0, 70, 153, 0, 14, 42, 180, 0, 10, 28, 182, 0, 92, 154] = true := by decide +kernel
set_option maxRecDepth 100000 in
theorem zh_dX12_force_15_16 : zc cX12_force 16 [0, 5, 2, 172, 42, 180, 0, 10, 27, 28, 182, 0, 120, 172] = true := by decide +kernel
set_option maxRecDepth 100000 in
theorem zh_dX13_force_0_0 : zc cX13_force 0 [42, 3, 181, 0, 228, 27, 184, 0, 249, 153, 0, 20, 42, 28, 182, 0] = true := by decide +kernel
set_option maxRecDepth 100000 in
theorem zh_dX13_force_14_16 : zc cX13_force 16 [252, 153, 0, 12, 42, 27, 28, 182, 1, 117, 167, 0, 4, 2, 172] = true := by decide +kernel
theorem dX12_force_0 : decode cX12_force 0 = .ok (.iload_n 1, 1) := zo_27 (zi_at zh_dX12_force_0_0 0 rfl)
theorem dX12_force_1 : decode cX12_force 1 = .ok (.invokestatic 70, 3) := zo_184 (zi_at zh_dX12_force_0_0 1 rfl) (zi_at zh_dX12_force_0_0 2 rfl) (zi_at zh_dX12_force_0_0 3 rfl) rfl
theorem dX12_force_4 : decode cX12_force 4 = .ok (.ifCond .eq 14, 3) := zo_153 (zi_at zh_dX12_force_0_0 4 rfl) (zi_at zh_dX12_force_0_0 5 rfl) (zi_at zh_dX12_force_0_0 6 rfl) rfl
theorem dX12_force_7 : decode cX12_force 7 = .ok (.aload_n 0, 1) := zo_42 (zi_at zh_dX12_force_0_0 7 rfl)
theorem dX12_force_8 : decode cX12_force 8 = .ok (.getfield 10, 3) := zo_180 (zi_at zh_dX12_force_0_0 8 rfl) (zi_at zh_dX12_force_0_0 9 rfl) (zi_at zh_dX12_force_0_0 10 rfl) rfl
theorem dX12_force_11 : decode cX12_force 11 = .ok (.iload_n 2, 1) := zo_28 (zi_at zh_dX12_force_0_0 11 rfl)
theorem dX12_force_12 : decode cX12_force 12 = .ok (.invokevirtual 92, 3) := zo_182 (zi_at zh_dX12_force_0_0 12 rfl) (zi_at zh_dX12_force_0_0 13 rfl) (zi_at zh_dX12_force_0_0 14 rfl) rfl
theorem dX12_force_15 : decode cX12_force 15 = .ok (.ifCond .ne 5, 3) := zo_154 (zi_at zh_dX12_force_0_0 15 rfl) (zi_at zh_dX12_force_15_16 0 rfl) (zi_at zh_dX12_force_15_16 1 rfl) rfl
theorem dX12_force_18 : decode cX12_force 18 = .ok (.iconst (-1), 1) := zo_2 (zi_at zh_dX12_force_15_16 2 rfl)
theorem dX12_force_19 : decode cX12_force 19 = .ok (.ireturn, 1) := zo_172 (zi_at zh_dX12_force_15_16 3 rfl)
theorem dX12_force_20 : decode cX12_force 20 = .ok (.aload_n 0, 1) := zo_42 (zi_at zh_dX12_force_15_16 4 rfl)
theorem dX12_force_21 : decode cX12_force 21 = .ok (.getfield 10, 3) := zo_180 (zi_at zh_dX12_force_15_16 5 rfl) (zi_at zh_dX12_force_15_16 6 rfl) (zi_at zh_dX12_force_15_16 7 rfl) rfl
theorem dX12_force_24 : decode cX12_force 24 = .ok (.iload_n 1, 1) := zo_27 (zi_at zh_dX12_force_15_16 8 rfl)
theorem dX12_force_25 : decode cX12_force 25 = .ok (.iload_n 2, 1) := zo_28 (zi_at zh_dX12_force_15_16 9 rfl)
theorem dX12_force_26 : decode cX12_force 26 = .ok (.invokevirtual 120, 3) := zo_182 (zi_at zh_dX12_force_15_16 10 rfl) (zi_at zh_dX12_force_15_16 11 rfl) (zi_at zh_dX12_force_15_16 12 rfl) rfl
theorem dX12_force_29 : decode cX12_force 29 = .ok (.ireturn, 1) := zo_172 (zi_at zh_dX12_force_15_16 13 rfl)
theorem dX13_force_0 : decode cX13_force 0 = .ok (.aload_n 0, 1) := zo_42 (zi_at zh_dX13_force_0_0 0 rfl)
theorem dX13_force_1 : decode cX13_force 1 = .ok (.iconst 0, 1) := zo_3 (zi_at zh_dX13_force_0_0 1 rfl)
theorem dX13_force_2 : decode cX13_force 2 = .ok (.putfield 228, 3) := zo_181 (zi_at zh_dX13_force_0_0 2 rfl) (zi_at zh_dX13_force_0_0 3 rfl) (zi_at zh_dX13_force_0_0 4 rfl) rfl
theorem dX13_force_5 : decode cX13_force 5 = .ok (.iload_n 1, 1) := zo_27 (zi_at zh_dX13_force_0_0 5 rfl)
theorem dX13_force_6 : decode cX13_force 6 = .ok (.invokestatic 249, 3) := zo_184 (zi_at zh_dX13_force_0_0 6 rfl) (zi_at zh_dX13_force_0_0 7 rfl) (zi_at zh_dX13_force_0_0 8 rfl) rfl
theorem dX13_force_9 : decode cX13_force 9 = .ok (.ifCond .eq 20, 3) := zo_153 (zi_at zh_dX13_force_0_0 9 rfl) (zi_at zh_dX13_force_0_0 10 rfl) (zi_at zh_dX13_force_0_0 11 rfl) rfl
theorem dX13_force_12 : decode cX13_force 12 = .ok (.aload_n 0, 1) := zo_42 (zi_at zh_dX13_force_0_0 12 rfl)
theorem dX13_force_13 : decode cX13_force 13 = .ok (.iload_n 2, 1) := zo_28 (zi_at zh_dX13_force_0_0 13 rfl)
theorem dX13_force_14 : decode cX13_force 14 = .ok (.invokevirtual 252, 3) := zo_182 (zi_at zh_dX13_force_0_0 14 rfl) (zi_at zh_dX13_force_0_0 15 rfl) (zi_at zh_dX13_force_14_16 0 rfl) rfl
theorem dX13_force_17 : decode cX13_force 17 = .ok (.ifCond .eq 12, 3) := zo_153 (zi_at zh_dX13_force_14_16 1 rfl) (zi_at zh_dX13_force_14_16 2 rfl) (zi_at zh_dX13_force_14_16 3 rfl) rfl
theorem dX13_force_20 : decode cX13_force 20 = .ok (.aload_n 0, 1) := zo_42 (zi_at zh_dX13_force_14_16 4 rfl)
theorem dX13_force_21 : decode cX13_force 21 = .ok (.iload_n 1, 1) := zo_27 (zi_at zh_dX13_force_14_16 5 rfl)
theorem dX13_force_22 : decode cX13_force 22 = .ok (.iload_n 2, 1) := zo_28 (zi_at zh_dX13_force_14_16 6 rfl)
theorem dX13_force_23 : decode cX13_force 23 = .ok (.invokevirtual 373, 3) := zo_182 (zi_at zh_dX13_force_14_16 7 rfl) (zi_at zh_dX13_force_14_16 8 rfl) (zi_at zh_dX13_force_14_16 9 rfl) rfl
theorem dX13_force_26 : decode cX13_force 26 = .ok (.goto 4, 3) := zo_167 (zi_at zh_dX13_force_14_16 10 rfl) (zi_at zh_dX13_force_14_16 11 rfl) (zi_at zh_dX13_force_14_16 12 rfl) rfl
theorem dX13_force_29 : decode cX13_force 29 = .ok (.iconst (-1), 1) := zo_2 (zi_at zh_dX13_force_14_16 13 rfl)
theorem dX13_force_30 : decode cX13_force 30 = .ok (.ireturn, 1) := zo_172 (zi_at zh_dX13_force_14_16 14 rfl)
def v_rulesOnX : List Cond := .code yX0_rulesOn cX0_rulesOn 7 (some .int) :: vA
abbrev rm_rulesOnX : Room := { frames := 3, cells := 0, slots := 0, locals := 120 }
set_option maxHeartbeats 4000000 in
set_option maxRecDepth 100000 in
theorem q_rulesOnX (l : Launch) (dC : Nat → ClassId) (dI : Nat → Nat → Nat) (cT : Nat → ClassId) (cf : Nat → Nat) (hC : CF cf) (ad : Nat → Nat) (E : Nat → va_E) (sz : Nat) (a0 : Int32) (a1 : Int32) (hI0 : IXL cT (shC cf) (spC cf) (LC cf) ad E)  : Met l yX0_rulesOn v_rulesOnX rm_rulesOnX (va_Pc [.ref (ad 1), .int a0, .int a1] (HWL dC dI (TYC cT) cf ad E sz)) (va_Qi (S := Unit) (fun r _ => (-1 ≤ r.toInt ∧ r.toInt ≤ 15) ∧ ((r.toInt = -1 ∨ r.toInt < ((cf 1 : Nat) : Int))) ∧ (r.toInt = (cO (fun _ => 0) (fun k9 => xi (E (64 * (k9 + 1) + 1)) 0) (fun k9 => xi (E (64 * (k9 + 1) + 1)) 1) 0 a0 a1 (cf 1)).toInt)) (fun _ _ => True) (fun _ => False)) 0 0 (fun _ => False) := by
  obtain ⟨⟨hc0, hc1, hc2, hc3, hc4, hc5⟩, hcr⟩ := id hC
  refine Met.ofW (cc := cX0_rulesOn) (maxL := 7) (ret := (some .int)) (by decide) rfl ?_
  intro p e s m args below meth c s₁ B hml hv
  obtain ⟨hargs, hsz, hP, hK, hD0, hEV⟩ := hv
  subst hsz
  have hx := B.exec
  have hb := B.bytes
  have hr := B.returns
  have hts := atoms_spec (ws := v_rulesOnX) B.pre
  have hown : s.vm.findClass RX0 = some m.cls := findClass_of_methodNamed B.named
  have hlocks := B.notSynchronized
  have hinX0 : ∀ w ∈ u_ws RX0 TX0 11, w ∈ v_rulesOnX := fun w h => vA_in _ w (in_X0 w h)
  have hinX7 : ∀ w ∈ u_ws RX7 TX7 6, w ∈ v_rulesOnX := fun w h => vA_in _ w (in_X7 w h)
  have hS : va_S (fun _ : Nat => False) s.heap s.heap [] := va_S.rf
  have hD := hD0
  have hI := hI0
  have hKp : Kp (wl [] []) E E := Kp.rf
  have hl := lv_entry ([.ref (ad 1), .int a0, .int a1]) (n := 7) (Nat.le_of_ble_eq_true rfl)
  obtain ⟨Q, hQ⟩ : ∃ Q, Q = MQ below (va_Qi (S := Unit) (fun r _ => (-1 ≤ r.toInt ∧ r.toInt ≤ 15) ∧ ((r.toInt = -1 ∨ r.toInt < ((cf 1 : Nat) : Int))) ∧ (r.toInt = (cO (fun _ => 0) (fun k9 => xi (E (64 * (k9 + 1) + 1)) 0) (fun k9 => xi (E (64 * (k9 + 1) + 1)) 1) 0 a0 a1 (cf 1)).toInt)) (fun _ _ => True) (fun _ => False)) args s 0 0 (fun _ => False) := ⟨_, rfl⟩
  rw [← hQ, show entryFrame m args 7 = _ from (congrArg (fun z => entryFrame m z 7) hargs).trans (lg_entry_eq _ _ _)]
  generalize (lg_sl ([.ref (ad 1), .int a0, .int a1]) ++ List.replicate (7 - (lg_sl ([.ref (ad 1), .int a0, .int a1])).length) Slot.unset).toArray = ls at hl ⊢
  have hl : lv_has ls 7 [(0, .ref (ad 1)), (1, .int a0), (2, .int a1)] := hl
  refine lv_iconst (v := -1) hx hb dX0_rulesOn_0 (by decide) ?_
  refine lv_istore_n (lv' := [(3, .int (-1)), (0, .ref (ad 1)), (1, .int a0), (2, .int a1)]) hx hb dX0_rulesOn_1 rfl hl (by decide) rfl (fun ls hl => ?_)
  refine lv_iconst (v := 0) hx hb dX0_rulesOn_2 (by decide) ?_
  refine lv_istore (lv' := [(4, .int 0), (3, .int (-1)), (0, .ref (ad 1)), (1, .int a0), (2, .int a1)]) hx hb dX0_rulesOn_3 hl (by decide) rfl (fun ls hl => ?_)
  refine lv_iconst (v := 0) hx hb dX0_rulesOn_5 (by decide) ?_
  refine lv_istore (lv' := [(5, .int 0), (4, .int 0), (3, .int (-1)), (0, .ref (ad 1)), (1, .int a0), (2, .int a1)]) hx hb dX0_rulesOn_6 hl (by decide) rfl (fun ls hl => ?_)
  have hL8 : ∀ d : Nat, ∀ (v8_5 : Int32) (v8_4 : Int32) (v8_3 : Int32) (H : Heap) (locs : List Loc) (ls : Array Slot), 0 ≤ v8_5.toInt ∧ v8_5.toInt ≤ 16 → 0 ≤ v8_4.toInt ∧ v8_4.toInt ≤ 400 → -1 ≤ v8_3.toInt ∧ v8_3.toInt ≤ 15 → v8_3 = cO (fun _ => 0) (fun k9 => xi (E (64 * (k9 + 1) + 1)) 0) (fun k9 => xi (E (64 * (k9 + 1) + 1)) 1) 0 a0 a1 v8_5.toNatClampNeg → ((v8_3.toInt = -1 ∧ v8_4.toInt = 0) ∨ (0 ≤ v8_3.toInt ∧ v8_3.toInt < v8_5.toInt ∧ v8_4 = (xi (E (64 * (v8_3.toNatClampNeg + 1) + 1)) 0))) → (v8_3.toInt = -1 ∨ v8_3.toInt < ((cf 1 : Nat) : Int)) → v8_5.toInt ≤ ((cf 1 : Nat) : Int) → 16 - v8_5.toInt < (d : Int) → va_P (dC, dI) vwCl (WL (LC cf) ad E) H → va_S (fun _ : Nat => False) s.heap H locs → lv_has ls 7 [(5, .int v8_5), (4, .int v8_4), (3, .int v8_3), (0, .ref (ad 1)), (1, .int a0), (2, .int a1)] → W p l e (headSpec v_rulesOnX rm_rulesOnX).room s m args below meth c H locs 0 0 Q (F0 m 8 ls []) := by
    intro d
    induction d with
    | zero =>
      intro v8_5 v8_4 v8_3 H locs ls hv8_5 hv8_4 hv8_3 hx8_0 hx8_1 hx8_2 hx8_3 hx8_4 hP hS hl
      exact absurd hx8_4 (by first | exact ms_zu hv8_5.2 | omega)
    | succ d ih8 =>
      intro v8_5 v8_4 v8_3 H locs ls hv8_5 hv8_4 hv8_3 hx8_0 hx8_1 hx8_2 hx8_3 hx8_4 hP hS hl
      refine lv_iload hx hb dX0_rulesOn_8 (lv_at hl 0 rfl) ?_
      refine lv_aload_n hx hb dX0_rulesOn_10 rfl (lv_at hl 3 rfl) ?_
      refine th_getL (ci := 1) (C := RX0) (T := TX0) (N := 11) (v := .ref (ad 8)) hx hb hts hinX0 hown hK hP hI 1 (mF 1 rfl) rfl rfl 4 (Nat.le_of_ble_eq_true rfl) (hts _ (vA_in _ _ (in_5 _ (zs16 (zs4 (zs4 (zs4 (zs1 (zs1 (zs1 (zs0))))))))))) (fun _ h9 => h9) (hI.fr 1 (mF 1 rfl) rfl (Nat.le_of_ble_eq_true rfl) 8 rfl) dX0_rulesOn_11 ?_
      refine th_riL (va_runV (As := []) (rest := [.int v8_5]) ⟨hx, hb, hml, hown, hts⟩ (q_size1 l dC dI cT cf hC ad E H.size hI) (cwV 0 hts (gi_V (in_4 _ (zs16 (zs16 (zs1 (zs1 (zs0)))))) (in_4 _ (zs16 (zs16 (zs1 (zs1 (zs1 (zs0))))))) (in_4 _ (zs16 (zs16 (zs4 (zs0))))) (in_3 _ (zs16 (zs1 (zs1 (zs0))))) (in_4 _ (zs16 (zs1 (zs1 (zs1 (zs0))))))) rfl rfl rfl ⟨rfl, hz_yJx4a65c_size_8abf5_0⟩ ⟨Nat.le_of_ble_eq_true rfl, Nat.le_of_ble_eq_true rfl⟩) ⟨HWL_bl, va_recv hK hP (ci := 0) (q0 := posL 8 (LC cf)) rfl (hI.ob 8 (mF 8 rfl) rfl), (HWL_wiR hP hK (WL_D hD) hS hEV)⟩ rfl rfl hl.1 rfl (lv_room (Nat.le_of_ble_eq_true rfl)) dX0_rulesOn_14 ⟨Nat.le_of_ble_eq_true rfl, Nat.le_of_ble_eq_true rfl⟩) hS hP (fun r1 H locs hw hP hS => ?_)
      obtain ⟨f2, f3⟩ := hw
      refine lv_icmp_ge (tgt := 78) hx hb dX0_rulesOn_17 (by decide) (fun c4 => ?_) (fun c4 => ?_)
      · --17 taken
        have t5 : r1.toInt ≤ v8_5.toInt := ti_le c4
        refine lv_iload_n hx hb dX0_rulesOn_78 rfl (lv_at hl 2 rfl) ?_
        rw [hQ]
        exact W.iret (v := v8_3) hx hb hr (fun t ht hW => ⟨⟨v8_3, (), rfl, ⟨hv8_3, by all_goals omega, by have h9 := congrArg Int32.toInt hx8_0; rw [show v8_5.toNatClampNeg = cf 1 by rw [tn_]; omega] at h9; exact h9⟩, trivial⟩, hS.F ht⟩) hS.2.2 dX0_rulesOn_79
      · --17 not
        have t6 : v8_5.toInt < r1.toInt := ti_nle c4
        have i7 : 0 ≤ v8_5.toInt ∧ v8_5.toInt ≤ 15 := iv_lt_l t6 hv8_5 f2 (by decide)
        have i8 : 1 ≤ r1.toInt ∧ r1.toInt ≤ 16 := iv_lt_r t6 hv8_5 f2 (by decide)
        refine lv_aload_n hx hb dX0_rulesOn_20 rfl (lv_at hl 3 rfl) ?_
        refine th_getL (ci := 1) (C := RX0) (T := TX0) (N := 11) (v := .ref (ad 8)) hx hb hts hinX0 hown hK hP hI 1 (mF 1 rfl) rfl rfl 4 (Nat.le_of_ble_eq_true rfl) (hts _ (vA_in _ _ (in_5 _ (zs16 (zs4 (zs4 (zs4 (zs1 (zs1 (zs1 (zs0))))))))))) (fun _ h9 => h9) (hI.fr 1 (mF 1 rfl) rfl (Nat.le_of_ble_eq_true rfl) 8 rfl) dX0_rulesOn_21 ?_
        refine lv_iload hx hb dX0_rulesOn_24 (lv_at hl 0 rfl) ?_
        refine th_rrL (va_runV (As := [.int v8_5]) (rest := []) ⟨hx, hb, hml, hown, hts⟩ (q_get1 l dC dI cT cf hC ad E H.size v8_5 hI (by omega)) (cwV 1 hts (gi_V (in_4 _ (zs16 (zs16 (zs4 (zs1 (zs0)))))) (in_4 _ (zs16 (zs16 (zs4 (zs1 (zs1 (zs0))))))) (in_4 _ (zs16 (zs16 (zs4 (zs1 (zs1 (zs1 (zs0)))))))) (in_3 _ (zs16 (zs1 (zs1 (zs0))))) (in_3 _ (zs16 (zs16 (zs4 (zs1 (zs1 (zs1 (zs0))))))))) rfl rfl rfl ⟨rfl, hz_yJx4a65c_get_915e3_1⟩ ⟨Nat.le_of_ble_eq_true rfl, Nat.le_of_ble_eq_true rfl⟩) ⟨HWL_bl, va_recv hK hP (ci := 0) (q0 := posL 8 (LC cf)) rfl (hI.ob 8 (mF 8 rfl) rfl), (HWL_wiR hP hK (WL_D hD) hS hEV)⟩ rfl rfl hl.1 rfl (lv_room (Nat.le_of_ble_eq_true rfl)) dX0_rulesOn_26 ⟨Nat.le_of_ble_eq_true rfl, Nat.le_of_ble_eq_true rfl⟩) hS hP (fun r9 H locs hw hP hS => ?_)
        obtain rfl := hw
        have lv10 : v8_5.toNatClampNeg < cf 1 := by rw [tn_]; omega
        refine va_castS (cC := dC 8) hx hb hown (hts _ (vA_in _ _ (in_6 _ (zs16 (zs4 (zs4 (zs1 (zs1 (zs0))))))))) (hK.1 8 _ rfl).2 (va_recv hK hP (ci := 8) (q0 := posL (64 * (v8_5.toNatClampNeg + 1) + 1) (LC cf)) rfl (hI.ob (64 * (v8_5.toNatClampNeg + 1) + 1) (mP 1 v8_5.toNatClampNeg (by decide) lv10 (kl_le hC 1 (by decide))) (shC_p 1 v8_5.toNatClampNeg (by decide)))) dX0_rulesOn_29 ?_
        refine lv_astore (lv' := [(6, .ref (ad (64 * (v8_5.toNatClampNeg + 1) + 1))), (5, .int v8_5), (4, .int v8_4), (3, .int v8_3), (0, .ref (ad 1)), (1, .int a0), (2, .int a1)]) hx hb dX0_rulesOn_32 hl (by decide) rfl (fun ls hl => ?_)
        refine lv_aload hx hb dX0_rulesOn_34 (lv_at hl 0 rfl) ?_
        have i11 : 0 ≤ (xi (E (64 * (v8_5.toNatClampNeg + 1) + 1)) 1).toInt ∧ (xi (E (64 * (v8_5.toNatClampNeg + 1) + 1)) 1).toInt ≤ 400 := hI0.iv (64 * (v8_5.toNatClampNeg + 1) + 1) (mP 1 v8_5.toNatClampNeg (by decide) lv10 (kl_le hC 1 (by decide))) (shC_p 1 v8_5.toNatClampNeg (by decide)) (Nat.le_of_ble_eq_true rfl) (spC_p 1 v8_5.toNatClampNeg (by decide) 1)
        refine th_getL (ci := 8) (C := RX7) (T := TX7) (N := 6) (v := .int (xi (E (64 * (v8_5.toNatClampNeg + 1) + 1)) 1)) hx hb hts hinX7 hown hK hP hI (64 * (v8_5.toNatClampNeg + 1) + 1) (mP 1 v8_5.toNatClampNeg (by decide) lv10 (kl_le hC 1 (by decide))) (shC_p 1 v8_5.toNatClampNeg (by decide)) rfl 1 (Nat.le_of_ble_eq_true rfl) (hts _ (vA_in _ _ (in_6 _ (zs16 (zs4 (zs4 (zs4 (zs1 (zs1 (zs1 (zs0))))))))))) (fun _ h9 => h9) (th_v0L hKp hI0 (64 * (v8_5.toNatClampNeg + 1) + 1) (mP 1 v8_5.toNatClampNeg (by decide) lv10 (kl_le hC 1 (by decide))) (shC_p 1 v8_5.toNatClampNeg (by decide)) (Nat.le_of_ble_eq_true rfl) (spC_p 1 v8_5.toNatClampNeg (by decide) 1) (wl_p rfl rfl (by omega))) dX0_rulesOn_36 ?_
        refine lv_iload_n hx hb dX0_rulesOn_39 rfl (lv_at hl 6 rfl) ?_
        refine lv_icmp_gt (tgt := 72) hx hb dX0_rulesOn_40 (by decide) (fun c12 => ?_) (fun c12 => ?_)
        · --40 taken
          have t13 : a1.toInt < (xi (E (64 * (v8_5.toNatClampNeg + 1) + 1)) 1).toInt := ti_lt c12
          have i14 : -2147483648 ≤ a1.toInt ∧ a1.toInt ≤ 399 := iv_lt_l t13 (iv_all _) i11 (by decide)
          obtain ⟨y15, ey15⟩ : ∃ y : Int32, y = v8_5 + (1 : Int32) := ⟨_, rfl⟩
          obtain ⟨ty15, iy15⟩ := ti_add (e := 1) (f := 16) i7 ln_1 ey15 (by decide)
          have ty15 : y15.toInt = v8_5.toInt + 1 := ty15
          have iy15 : 1 ≤ y15.toInt ∧ y15.toInt ≤ 16 := iy15
          refine lv_iinc (v := y15) (lv' := [(5, .int y15), (6, .ref (ad (64 * (v8_5.toNatClampNeg + 1) + 1))), (4, .int v8_4), (3, .int v8_3), (0, .ref (ad 1)), (1, .int a0), (2, .int a1)]) hx hb dX0_rulesOn_72 hl (k := 1) rfl (by rw [ey15]; rfl) (by decide) rfl (fun ls hl => ?_)
          refine lv_goto (tgt := 8) hx hb dX0_rulesOn_75 (by decide) ?_
          exact ih8 y15 v8_4 v8_3 _ _ _ (iv_w iy15 (by decide)) hv8_4 hv8_3 (cO_skip (gB := fun _ => 0) (gF := (fun k9 => xi (E (64 * (k9 + 1) + 1)) 0)) (gT := (fun k9 => xi (E (64 * (k9 + 1) + 1)) 1)) hx8_0 ty15 hv8_5 (by decide) (fun hh => by have z1 := ln_m1; have p5 : (v8_3.toInt = -1 ∧ v8_4.toInt = 0) ∨ (0 ≤ v8_3.toInt ∧ v8_4.toInt = (xi (E (64 * (v8_3.toNatClampNeg + 1) + 1)) 0).toInt) := hx8_1.imp id (fun h => ⟨h.1, congrArg Int32.toInt h.2.2⟩); have p2 : (xi (E (64 * (v8_5.toNatClampNeg + 1) + 1)) 1).toInt ≤ a1.toInt := ti_le hh.2.1; have p3 : (xi (E (64 * (v8_5.toNatClampNeg + 1) + 1)) 0).toInt ≤ a0.toInt := ti_le hh.2.2.1; have p4 : v8_3.toInt = (-1 : Int32).toInt ∨ (xi (E (64 * (v8_3.toNatClampNeg + 1) + 1)) 0).toInt ≤ (xi (E (64 * (v8_5.toNatClampNeg + 1) + 1)) 0).toInt := hh.2.2.2.imp (congrArg Int32.toInt) ti_le; omega)) (hx8_1.imp id (fun h => ⟨h.1, by omega, h.2.2⟩)) (by have h9 := hv8_3; omega) (by have h9 := iy15; omega) (by first | exact ms_su hx8_4 ty15 (by decide) | omega) hP hS (lv_sub hl [0, 2, 3, 4, 5, 6] rfl)
        · --40 not
          have t16 : (xi (E (64 * (v8_5.toNatClampNeg + 1) + 1)) 1).toInt ≤ a1.toInt := ti_nlt c12
          have i17 : 0 ≤ a1.toInt ∧ a1.toInt ≤ 2147483647 := iv_le_r t16 i11 (iv_all _) (by decide)
          refine lv_aload hx hb dX0_rulesOn_43 (lv_at hl 0 rfl) ?_
          have i18 : 0 ≤ (xi (E (64 * (v8_5.toNatClampNeg + 1) + 1)) 0).toInt ∧ (xi (E (64 * (v8_5.toNatClampNeg + 1) + 1)) 0).toInt ≤ 400 := hI0.iv (64 * (v8_5.toNatClampNeg + 1) + 1) (mP 1 v8_5.toNatClampNeg (by decide) lv10 (kl_le hC 1 (by decide))) (shC_p 1 v8_5.toNatClampNeg (by decide)) (Nat.le_of_ble_eq_true rfl) (spC_p 1 v8_5.toNatClampNeg (by decide) 0)
          refine th_getL (ci := 8) (C := RX7) (T := TX7) (N := 6) (v := .int (xi (E (64 * (v8_5.toNatClampNeg + 1) + 1)) 0)) hx hb hts hinX7 hown hK hP hI (64 * (v8_5.toNatClampNeg + 1) + 1) (mP 1 v8_5.toNatClampNeg (by decide) lv10 (kl_le hC 1 (by decide))) (shC_p 1 v8_5.toNatClampNeg (by decide)) rfl 0 (Nat.le_of_ble_eq_true rfl) (hts _ (vA_in _ _ (in_6 _ (zs16 (zs16 (zs0)))))) (fun _ h9 => h9) (th_v0L hKp hI0 (64 * (v8_5.toNatClampNeg + 1) + 1) (mP 1 v8_5.toNatClampNeg (by decide) lv10 (kl_le hC 1 (by decide))) (shC_p 1 v8_5.toNatClampNeg (by decide)) (Nat.le_of_ble_eq_true rfl) (spC_p 1 v8_5.toNatClampNeg (by decide) 0) (wl_p rfl rfl (by omega))) dX0_rulesOn_45 ?_
          refine lv_iload_n hx hb dX0_rulesOn_48 rfl (lv_at hl 5 rfl) ?_
          refine lv_icmp_gt (tgt := 72) hx hb dX0_rulesOn_49 (by decide) (fun c19 => ?_) (fun c19 => ?_)
          · --49 taken
            have t20 : a0.toInt < (xi (E (64 * (v8_5.toNatClampNeg + 1) + 1)) 0).toInt := ti_lt c19
            have i21 : -2147483648 ≤ a0.toInt ∧ a0.toInt ≤ 399 := iv_lt_l t20 (iv_all _) i18 (by decide)
            obtain ⟨y22, ey22⟩ : ∃ y : Int32, y = v8_5 + (1 : Int32) := ⟨_, rfl⟩
            obtain ⟨ty22, iy22⟩ := ti_add (e := 1) (f := 16) i7 ln_1 ey22 (by decide)
            have ty22 : y22.toInt = v8_5.toInt + 1 := ty22
            have iy22 : 1 ≤ y22.toInt ∧ y22.toInt ≤ 16 := iy22
            refine lv_iinc (v := y22) (lv' := [(5, .int y22), (6, .ref (ad (64 * (v8_5.toNatClampNeg + 1) + 1))), (4, .int v8_4), (3, .int v8_3), (0, .ref (ad 1)), (1, .int a0), (2, .int a1)]) hx hb dX0_rulesOn_72 hl (k := 1) rfl (by rw [ey22]; rfl) (by decide) rfl (fun ls hl => ?_)
            refine lv_goto (tgt := 8) hx hb dX0_rulesOn_75 (by decide) ?_
            exact ih8 y22 v8_4 v8_3 _ _ _ (iv_w iy22 (by decide)) hv8_4 hv8_3 (cO_skip (gB := fun _ => 0) (gF := (fun k9 => xi (E (64 * (k9 + 1) + 1)) 0)) (gT := (fun k9 => xi (E (64 * (k9 + 1) + 1)) 1)) hx8_0 ty22 hv8_5 (by decide) (fun hh => by have z1 := ln_m1; have p5 : (v8_3.toInt = -1 ∧ v8_4.toInt = 0) ∨ (0 ≤ v8_3.toInt ∧ v8_4.toInt = (xi (E (64 * (v8_3.toNatClampNeg + 1) + 1)) 0).toInt) := hx8_1.imp id (fun h => ⟨h.1, congrArg Int32.toInt h.2.2⟩); have p2 : (xi (E (64 * (v8_5.toNatClampNeg + 1) + 1)) 1).toInt ≤ a1.toInt := ti_le hh.2.1; have p3 : (xi (E (64 * (v8_5.toNatClampNeg + 1) + 1)) 0).toInt ≤ a0.toInt := ti_le hh.2.2.1; have p4 : v8_3.toInt = (-1 : Int32).toInt ∨ (xi (E (64 * (v8_3.toNatClampNeg + 1) + 1)) 0).toInt ≤ (xi (E (64 * (v8_5.toNatClampNeg + 1) + 1)) 0).toInt := hh.2.2.2.imp (congrArg Int32.toInt) ti_le; omega)) (hx8_1.imp id (fun h => ⟨h.1, by omega, h.2.2⟩)) (by have h9 := hv8_3; omega) (by have h9 := iy22; omega) (by first | exact ms_su hx8_4 ty22 (by decide) | omega) hP hS (lv_sub hl [0, 2, 3, 4, 5, 6] rfl)
          · --49 not
            have t23 : (xi (E (64 * (v8_5.toNatClampNeg + 1) + 1)) 0).toInt ≤ a0.toInt := ti_nlt c19
            have i24 : 0 ≤ a0.toInt ∧ a0.toInt ≤ 2147483647 := iv_le_r t23 i18 (iv_all _) (by decide)
            refine lv_aload hx hb dX0_rulesOn_52 (lv_at hl 0 rfl) ?_
            refine th_getL (ci := 8) (C := RX7) (T := TX7) (N := 6) (v := .int (xi (E (64 * (v8_5.toNatClampNeg + 1) + 1)) 0)) hx hb hts hinX7 hown hK hP hI (64 * (v8_5.toNatClampNeg + 1) + 1) (mP 1 v8_5.toNatClampNeg (by decide) lv10 (kl_le hC 1 (by decide))) (shC_p 1 v8_5.toNatClampNeg (by decide)) rfl 0 (Nat.le_of_ble_eq_true rfl) (hts _ (vA_in _ _ (in_6 _ (zs16 (zs16 (zs0)))))) (fun _ h9 => h9) (th_v0L hKp hI0 (64 * (v8_5.toNatClampNeg + 1) + 1) (mP 1 v8_5.toNatClampNeg (by decide) lv10 (kl_le hC 1 (by decide))) (shC_p 1 v8_5.toNatClampNeg (by decide)) (Nat.le_of_ble_eq_true rfl) (spC_p 1 v8_5.toNatClampNeg (by decide) 0) (wl_p rfl rfl (by omega))) dX0_rulesOn_54 ?_
            refine lv_iload hx hb dX0_rulesOn_57 (lv_at hl 2 rfl) ?_
            refine lv_icmp_lt (tgt := 72) hx hb dX0_rulesOn_59 (by decide) (fun c25 => ?_) (fun c25 => ?_)
            · --59 taken
              have t26 : (xi (E (64 * (v8_5.toNatClampNeg + 1) + 1)) 0).toInt < v8_4.toInt := ti_lt c25
              have i27 : 0 ≤ (xi (E (64 * (v8_5.toNatClampNeg + 1) + 1)) 0).toInt ∧ (xi (E (64 * (v8_5.toNatClampNeg + 1) + 1)) 0).toInt ≤ 399 := iv_lt_l t26 i18 hv8_4 (by decide)
              have i28 : 1 ≤ v8_4.toInt ∧ v8_4.toInt ≤ 400 := iv_lt_r t26 i18 hv8_4 (by decide)
              obtain ⟨y29, ey29⟩ : ∃ y : Int32, y = v8_5 + (1 : Int32) := ⟨_, rfl⟩
              obtain ⟨ty29, iy29⟩ := ti_add (e := 1) (f := 16) i7 ln_1 ey29 (by decide)
              have ty29 : y29.toInt = v8_5.toInt + 1 := ty29
              have iy29 : 1 ≤ y29.toInt ∧ y29.toInt ≤ 16 := iy29
              refine lv_iinc (v := y29) (lv' := [(5, .int y29), (6, .ref (ad (64 * (v8_5.toNatClampNeg + 1) + 1))), (4, .int v8_4), (3, .int v8_3), (0, .ref (ad 1)), (1, .int a0), (2, .int a1)]) hx hb dX0_rulesOn_72 hl (k := 1) rfl (by rw [ey29]; rfl) (by decide) rfl (fun ls hl => ?_)
              refine lv_goto (tgt := 8) hx hb dX0_rulesOn_75 (by decide) ?_
              exact ih8 y29 v8_4 v8_3 _ _ _ (iv_w iy29 (by decide)) (iv_w i28 (by decide)) hv8_3 (cO_skip (gB := fun _ => 0) (gF := (fun k9 => xi (E (64 * (k9 + 1) + 1)) 0)) (gT := (fun k9 => xi (E (64 * (k9 + 1) + 1)) 1)) hx8_0 ty29 hv8_5 (by decide) (fun hh => by have z1 := ln_m1; have p5 : (v8_3.toInt = -1 ∧ v8_4.toInt = 0) ∨ (0 ≤ v8_3.toInt ∧ v8_4.toInt = (xi (E (64 * (v8_3.toNatClampNeg + 1) + 1)) 0).toInt) := hx8_1.imp id (fun h => ⟨h.1, congrArg Int32.toInt h.2.2⟩); have p2 : (xi (E (64 * (v8_5.toNatClampNeg + 1) + 1)) 1).toInt ≤ a1.toInt := ti_le hh.2.1; have p3 : (xi (E (64 * (v8_5.toNatClampNeg + 1) + 1)) 0).toInt ≤ a0.toInt := ti_le hh.2.2.1; have p4 : v8_3.toInt = (-1 : Int32).toInt ∨ (xi (E (64 * (v8_3.toNatClampNeg + 1) + 1)) 0).toInt ≤ (xi (E (64 * (v8_5.toNatClampNeg + 1) + 1)) 0).toInt := hh.2.2.2.imp (congrArg Int32.toInt) ti_le; omega)) (hx8_1.imp id (fun h => ⟨h.1, by omega, h.2.2⟩)) (by have h9 := hv8_3; omega) (by have h9 := iy29; omega) (by first | exact ms_su hx8_4 ty29 (by decide) | omega) hP hS (lv_sub hl [0, 2, 3, 4, 5, 6] rfl)
            · --59 not
              have t30 : v8_4.toInt ≤ (xi (E (64 * (v8_5.toNatClampNeg + 1) + 1)) 0).toInt := ti_nlt c25
              refine lv_iload hx hb dX0_rulesOn_62 (lv_at hl 1 rfl) ?_
              refine lv_istore_n (lv' := [(3, .int v8_5), (6, .ref (ad (64 * (v8_5.toNatClampNeg + 1) + 1))), (5, .int v8_5), (4, .int v8_4), (0, .ref (ad 1)), (1, .int a0), (2, .int a1)]) hx hb dX0_rulesOn_64 rfl hl (by decide) rfl (fun ls hl => ?_)
              refine lv_aload hx hb dX0_rulesOn_65 (lv_at hl 1 rfl) ?_
              refine th_getL (ci := 8) (C := RX7) (T := TX7) (N := 6) (v := .int (xi (E (64 * (v8_5.toNatClampNeg + 1) + 1)) 0)) hx hb hts hinX7 hown hK hP hI (64 * (v8_5.toNatClampNeg + 1) + 1) (mP 1 v8_5.toNatClampNeg (by decide) lv10 (kl_le hC 1 (by decide))) (shC_p 1 v8_5.toNatClampNeg (by decide)) rfl 0 (Nat.le_of_ble_eq_true rfl) (hts _ (vA_in _ _ (in_6 _ (zs16 (zs16 (zs0)))))) (fun _ h9 => h9) (th_v0L hKp hI0 (64 * (v8_5.toNatClampNeg + 1) + 1) (mP 1 v8_5.toNatClampNeg (by decide) lv10 (kl_le hC 1 (by decide))) (shC_p 1 v8_5.toNatClampNeg (by decide)) (Nat.le_of_ble_eq_true rfl) (spC_p 1 v8_5.toNatClampNeg (by decide) 0) (wl_p rfl rfl (by omega))) dX0_rulesOn_67 ?_
              refine lv_istore (lv' := [(4, .int (xi (E (64 * (v8_5.toNatClampNeg + 1) + 1)) 0)), (3, .int v8_5), (6, .ref (ad (64 * (v8_5.toNatClampNeg + 1) + 1))), (5, .int v8_5), (0, .ref (ad 1)), (1, .int a0), (2, .int a1)]) hx hb dX0_rulesOn_70 hl (by decide) rfl (fun ls hl => ?_)
              obtain ⟨y31, ey31⟩ : ∃ y : Int32, y = v8_5 + (1 : Int32) := ⟨_, rfl⟩
              obtain ⟨ty31, iy31⟩ := ti_add (e := 1) (f := 16) i7 ln_1 ey31 (by decide)
              have ty31 : y31.toInt = v8_5.toInt + 1 := ty31
              have iy31 : 1 ≤ y31.toInt ∧ y31.toInt ≤ 16 := iy31
              refine lv_iinc (v := y31) (lv' := [(5, .int y31), (4, .int (xi (E (64 * (v8_5.toNatClampNeg + 1) + 1)) 0)), (3, .int v8_5), (6, .ref (ad (64 * (v8_5.toNatClampNeg + 1) + 1))), (0, .ref (ad 1)), (1, .int a0), (2, .int a1)]) hx hb dX0_rulesOn_72 hl (k := 3) rfl (by rw [ey31]; rfl) (by decide) rfl (fun ls hl => ?_)
              refine lv_goto (tgt := 8) hx hb dX0_rulesOn_75 (by decide) ?_
              exact ih8 y31 (xi (E (64 * (v8_5.toNatClampNeg + 1) + 1)) 0) v8_5 _ _ _ (iv_w iy31 (by decide)) i18 (iv_w i7 (by decide)) (cO_take (gB := fun _ => 0) (gF := (fun k9 => xi (E (64 * (k9 + 1) + 1)) 0)) (gT := (fun k9 => xi (E (64 * (k9 + 1) + 1)) 1)) hx8_0 ty31 hv8_5 (by decide) ⟨rfl, tr_le (show (xi (E (64 * (v8_5.toNatClampNeg + 1) + 1)) 1).toInt ≤ a1.toInt by omega), tr_le (show (xi (E (64 * (v8_5.toNatClampNeg + 1) + 1)) 0).toInt ≤ a0.toInt by omega), hx8_1.elim (fun h => Or.inl (tr_eq (by have z1 := ln_m1; omega))) (fun h => Or.inr (tr_le (show (xi (E (64 * (v8_3.toNatClampNeg + 1) + 1)) 0).toInt ≤ (xi (E (64 * (v8_5.toNatClampNeg + 1) + 1)) 0).toInt by have q9 := congrArg Int32.toInt h.2.2; omega)))⟩) (Or.inr ⟨by omega, by omega, rfl⟩) (by have h9 := i7; omega) (by have h9 := iy31; omega) (by first | exact ms_su hx8_4 ty31 (by decide) | omega) hP hS (lv_sub hl [0, 1, 2, 4, 5, 6] rfl)
  exact hL8 (17) (0 : Int32) (0 : Int32) (-1 : Int32) _ _ _ (iv_w ln_0 (by decide)) (iv_w ln_0 (by decide)) (iv_w ln_m1 (by decide)) rfl (Or.inl ⟨rfl, rfl⟩) (by have h9 := ln_m1; omega) (by have h9 := ln_0; omega) (by have h9 := ln_0; first | exact ms_bu h9.1 (by decide) | omega) hP hS (lv_sub hl [0, 1, 2, 3, 4, 5] rfl)
def v_u_forceX : List Cond := .code yX12_force cX12_force 3 (some .int) :: vA
abbrev rm_u_forceX : Room := { frames := 4, cells := 0, slots := 0, locals := 160 }
def w_u_forceX : Nat → Nat → Bool := wl [] []
set_option maxHeartbeats 4000000 in
set_option maxRecDepth 100000 in
theorem q_u_forceX (l : Launch) (dC : Nat → ClassId) (dI : Nat → Nat → Nat) (cT : Nat → ClassId) (cf : Nat → Nat) (hC : CF cf) (ad : Nat → Nat) (E : Nat → va_E) (sz : Nat) (a0 : Int32) (a1 : Int32) (hI0 : IXL cT (shC cf) (spC cf) (LC cf) ad E)  : Met l yX12_force v_u_forceX rm_u_forceX (va_Pc [.ref (ad 0), .int a0, .int a1] (HWL dC dI (TYC cT) cf ad E sz)) (va_Qi (S := Nat → va_E) (fun r u => IXL cT (shC cf) (spC cf) (LC cf) ad u ∧ Kp w_u_forceX E u ∧ ((((((0 ≤ a0.toInt ∧ a0.toInt ≤ 400) ∧ (0 ≤ a1.toInt ∧ a1.toInt ≤ (xi (E 1) 0).toInt)) → (r.toInt = (cO (fun _ => 0) (fun k9 => xi (E (64 * (k9 + 1) + 1)) 0) (fun k9 => xi (E (64 * (k9 + 1) + 1)) 1) 0 a0 a1 (cf 1)).toInt)) ∧ (¬ ((0 ≤ a0.toInt ∧ a0.toInt ≤ 400) ∧ (0 ≤ a1.toInt ∧ a1.toInt ≤ (xi (E 1) 0).toInt)) → (r.toInt = -1)))))) (HBL dC dI (LC cf) ad) (va_A (WL (LC cf) ad E) sz)) 0 0 (va_A (WL (LC cf) ad E) sz) := by
  obtain ⟨⟨hc0, hc1, hc2, hc3, hc4, hc5⟩, hcr⟩ := id hC
  refine Met.ofW (cc := cX12_force) (maxL := 3) (ret := (some .int)) (by decide) rfl ?_
  intro p e s m args below meth c s₁ B hml hv
  obtain ⟨hargs, hsz, hP, hK, hD0, hEV⟩ := hv
  subst hsz
  have hx := B.exec
  have hb := B.bytes
  have hr := B.returns
  have hts := atoms_spec (ws := v_u_forceX) B.pre
  have hown : s.vm.findClass RX12 = some m.cls := findClass_of_methodNamed B.named
  have hlocks := B.notSynchronized
  have hinX12 : ∀ w ∈ u_ws RX12 TX12 6, w ∈ v_u_forceX := fun w h => vA_in _ w (in_X12 w h)
  generalize hAe : va_A (WL (LC cf) ad E) s.heap.size = A at hEV ⊢
  have hA : ∀ q : Nat, s.heap.size ≤ q → A q := fun q h => by rw [← hAe]; exact Or.inr h
  have hD : va_D A (WL (LC cf) ad E) := by rw [← hAe]; exact hD0.self
  have hS : va_S A s.heap s.heap [] := va_S.rf
  have hI := hI0
  have hKp : Kp w_u_forceX E E := Kp.rf
  have hl := lv_entry ([.ref (ad 0), .int a0, .int a1]) (n := 3) (Nat.le_of_ble_eq_true rfl)
  obtain ⟨Q, hQ⟩ : ∃ Q, Q = MQ below (va_Qi (S := Nat → va_E) (fun r u => IXL cT (shC cf) (spC cf) (LC cf) ad u ∧ Kp w_u_forceX E u ∧ ((((((0 ≤ a0.toInt ∧ a0.toInt ≤ 400) ∧ (0 ≤ a1.toInt ∧ a1.toInt ≤ (xi (E 1) 0).toInt)) → (r.toInt = (cO (fun _ => 0) (fun k9 => xi (E (64 * (k9 + 1) + 1)) 0) (fun k9 => xi (E (64 * (k9 + 1) + 1)) 1) 0 a0 a1 (cf 1)).toInt)) ∧ (¬ ((0 ≤ a0.toInt ∧ a0.toInt ≤ 400) ∧ (0 ≤ a1.toInt ∧ a1.toInt ≤ (xi (E 1) 0).toInt)) → (r.toInt = -1)))))) (HBL dC dI (LC cf) ad) (A)) args s 0 0 (A) := ⟨_, rfl⟩
  rw [← hQ, show entryFrame m args 3 = _ from (congrArg (fun z => entryFrame m z 3) hargs).trans (lg_entry_eq _ _ _)]
  generalize (lg_sl ([.ref (ad 0), .int a0, .int a1]) ++ List.replicate (3 - (lg_sl ([.ref (ad 0), .int a0, .int a1])).length) Slot.unset).toArray = ls at hl ⊢
  have hl : lv_has ls 3 [(0, .ref (ad 0)), (1, .int a0), (2, .int a1)] := hl
  refine lv_iload_n hx hb dX12_force_0 rfl (lv_at hl 1 rfl) ?_
  refine th_pi (va_runS (As := [.int a0]) (rest := []) ⟨hx, hb, hml, hown, hts⟩ (q_cisDay l a0) (va_cwS 1 hts (gi_S (in_10 _ (zs16 (zs4 (zs4 (zs4 (zs0)))))) (in_10 _ (zs16 (zs4 (zs4 (zs4 (zs1 (zs0))))))) (in_4 _ (zs16 (zs4 (zs1 (zs1 (zs1 (zs0))))))) (in_10 _ (zs16 (zs4 (zs4 (zs4 (zs1 (zs1 (zs0))))))))) rfl rfl rfl hz_yX12_isDay_1 ⟨Nat.le_of_ble_eq_true rfl, Nat.le_of_ble_eq_true rfl⟩) ⟨fun _ _ _ _ q => q, fun _ _ _ => ⟨rfl, trivial⟩⟩ rfl rfl hl.1 rfl (lv_room (Nat.le_of_ble_eq_true rfl)) dX12_force_1 ⟨Nat.le_of_ble_eq_true rfl, Nat.le_of_ble_eq_true rfl⟩) hS (fun r1 H1 locs1 hw hk1 hS => ?_)
  have hP := ub_keep hP hk1
  generalize H1 = H at hP hS ⊢
  generalize locs1 = locs at hS ⊢
  rcases hw with hw | hw
  · -- cisDay, case 0
    obtain ⟨rfl, f2⟩ := hw
    have t3 : (0 : Int) ≤ a0.toInt := f2.1
    have t4 : a0.toInt ≤ 400 := f2.2
    have i5 : 0 ≤ a0.toInt ∧ a0.toInt ≤ 2147483647 := iv_le_r t3 (il_ 0) (iv_all _) (by decide)
    have i6 : 0 ≤ a0.toInt ∧ a0.toInt ≤ 400 := iv_le_l t4 i5 (il_ 400) (by decide)
    refine lv_if_eq (tgt := 18) hx hb dX12_force_4 (by decide) (fun c7 => ?_) (fun c7 => ?_)
    · --4 taken
      exact absurd c7 (by decide)
    · --4 not
      refine lv_aload_n hx hb dX12_force_7 rfl (lv_at hl 0 rfl) ?_
      refine th_getL (ci := 13) (C := RX12) (T := TX12) (N := 6) (v := .ref (ad 1)) hx hb hts hinX12 hown hK hP hI 0 (mF 0 rfl) rfl rfl 0 (Nat.le_of_ble_eq_true rfl) (hts _ (vA_in _ _ (in_10 _ (zs16 (zs1 (zs0)))))) (fun _ h9 => h9) (hI.fr 0 (mF 0 rfl) rfl (Nat.le_of_ble_eq_true rfl) 1 rfl) dX12_force_8 ?_
      refine lv_iload_n hx hb dX12_force_11 rfl (lv_at hl 2 rfl) ?_
      refine th_riL (va_runV (As := [.int a1]) (rest := []) ⟨hx, hb, hml, hown, hts⟩ (q_isKnownC l dC dI cT cf hC ad E H.size a1 hI) (cwV 1 hts (gi_V (in_18 _ (zs16 (zs4 (zs0)))) (in_6 _ (zs1 (zs1 (zs1 (zs0))))) (in_6 _ (zs4 (zs0))) (in_5 _ (zs4 (zs1 (zs1 (zs0))))) (in_6 _ (zs4 (zs1 (zs0))))) rfl rfl rfl ⟨rfl, hz_yX0_isKnown_1⟩ ⟨Nat.le_of_ble_eq_true rfl, Nat.le_of_ble_eq_true rfl⟩) ⟨HWL_bl, va_recv hK hP (ci := 1) (q0 := posL 1 (LC cf)) rfl (hI.ob 1 (mF 1 rfl) rfl), (HWL_wi hP hK (WL_D hD) hS hA hEV)⟩ rfl rfl hl.1 rfl (lv_room (Nat.le_of_ble_eq_true rfl)) dX12_force_12 ⟨Nat.le_of_ble_eq_true rfl, Nat.le_of_ble_eq_true rfl⟩) hS hP (fun r8 H locs hw hP hS => ?_)
      rcases hw with hw | hw
      · -- isKnownC, case 0
        obtain ⟨rfl, f9, f10⟩ := hw
        have i11 : 0 ≤ (xi (E 1) 0).toInt ∧ (xi (E 1) 0).toInt ≤ 400 := hI0.iv 1 (mF 1 rfl) rfl (Nat.le_of_ble_eq_true rfl) rfl
        refine lv_if_ne (tgt := 20) hx hb dX12_force_15 (by decide) (fun c12 => ?_) (fun c12 => ?_)
        · --15 taken
          refine lv_aload_n hx hb dX12_force_20 rfl (lv_at hl 0 rfl) ?_
          refine th_getL (ci := 13) (C := RX12) (T := TX12) (N := 6) (v := .ref (ad 1)) hx hb hts hinX12 hown hK hP hI 0 (mF 0 rfl) rfl rfl 0 (Nat.le_of_ble_eq_true rfl) (hts _ (vA_in _ _ (in_10 _ (zs16 (zs1 (zs0)))))) (fun _ h9 => h9) (hI.fr 0 (mF 0 rfl) rfl (Nat.le_of_ble_eq_true rfl) 1 rfl) dX12_force_21 ?_
          refine lv_iload_n hx hb dX12_force_24 rfl (lv_at hl 1 rfl) ?_
          refine lv_iload_n hx hb dX12_force_25 rfl (lv_at hl 2 rfl) ?_
          refine th_riL (va_runV (As := [.int a0, .int a1]) (rest := []) ⟨hx, hb, hml, hown, hts⟩ (q_rulesOnX l dC dI cT cf hC ad E H.size a0 a1 hI) (cwV 2 hts (gi_V (in_18 _ (zs16 (zs4 (zs1 (zs0))))) (in_6 _ (zs16 (zs4 (zs4 (zs4 (zs0)))))) (in_6 _ (zs16 (zs4 (zs4 (zs4 (zs1 (zs0))))))) (in_5 _ (zs4 (zs1 (zs1 (zs0))))) (in_6 _ (zs16 (zs4 (zs4 (zs4 (zs1 (zs1 (zs0))))))))) rfl rfl rfl ⟨rfl, hz_yX0_rulesOn_2⟩ ⟨Nat.le_of_ble_eq_true rfl, Nat.le_of_ble_eq_true rfl⟩) ⟨HWL_bl, va_recv hK hP (ci := 1) (q0 := posL 1 (LC cf)) rfl (hI.ob 1 (mF 1 rfl) rfl), (HWL_wi hP hK (WL_D hD) hS hA hEV)⟩ rfl rfl hl.1 rfl (lv_room (Nat.le_of_ble_eq_true rfl)) dX12_force_26 ⟨Nat.le_of_ble_eq_true rfl, Nat.le_of_ble_eq_true rfl⟩) hS hP (fun r13 H locs hw hP hS => ?_)
          obtain ⟨f14, f15, f16⟩ := hw
          rw [hQ]
          exact W.iret (v := r13) hx hb hr (fun t ht hW => ⟨⟨r13, E, rfl, ⟨hI, hKp, (by all_goals omega)⟩, by show va_P (dC, dI) vwCl (WL (LC cf) ad E) t.heap; rw [ht]; exact hP⟩, hS.F ht⟩) hS.2.2 dX12_force_29
        · --15 not
          exact absurd c12 (by decide)
      · -- isKnownC, case 1
        obtain ⟨rfl, f17⟩ := hw
        have i18 : 0 ≤ (xi (E 1) 0).toInt ∧ (xi (E 1) 0).toInt ≤ 400 := hI0.iv 1 (mF 1 rfl) rfl (Nat.le_of_ble_eq_true rfl) rfl
        refine lv_if_ne (tgt := 20) hx hb dX12_force_15 (by decide) (fun c19 => ?_) (fun c19 => ?_)
        · --15 taken
          exact absurd c19 (by decide)
        · --15 not
          refine lv_iconst (v := -1) hx hb dX12_force_18 (by decide) ?_
          rw [hQ]
          exact W.iret (v := (-1)) hx hb hr (fun t ht hW => ⟨⟨(-1), E, rfl, ⟨hI, hKp, (by have h8 := ln_m1; all_goals omega)⟩, by show va_P (dC, dI) vwCl (WL (LC cf) ad E) t.heap; rw [ht]; exact hP⟩, hS.F ht⟩) hS.2.2 dX12_force_19
  · -- cisDay, case 1
    obtain ⟨rfl, f20⟩ := hw
    have t21 : ¬ ((0 : Int) ≤ a0.toInt ∧ a0.toInt ≤ 400) := f20
    refine lv_if_eq (tgt := 18) hx hb dX12_force_4 (by decide) (fun c22 => ?_) (fun c22 => ?_)
    · --4 taken
      refine lv_iconst (v := -1) hx hb dX12_force_18 (by decide) ?_
      rw [hQ]
      exact W.iret (v := (-1)) hx hb hr (fun t ht hW => ⟨⟨(-1), E, rfl, ⟨hI, hKp, (by have h8 := ln_m1; all_goals omega)⟩, by show va_P (dC, dI) vwCl (WL (LC cf) ad E) t.heap; rw [ht]; exact hP⟩, hS.F ht⟩) hS.2.2 dX12_force_19
    · --4 not
      exact absurd c22 (by decide)
section
def v_rulesOnMX : List Cond := .code yX13_rulesOn cX13_rulesOn 5 (some .int) :: vA
abbrev rm_rulesOnMX : Room := { frames := 0, cells := 0, slots := 0, locals := 0 }
set_option maxHeartbeats 4000000 in
set_option maxRecDepth 100000 in
theorem q_rulesOnMX (l : Launch) (dC : Nat → ClassId) (dI : Nat → Nat → Nat) (cT : Nat → ClassId) (ad : Nat → Nat) (E : Nat → va_E) (sz : Nat) (a0 : Int32) (a1 : Int32) (hI0 : IX cT shM spM 72 ad E)  : Met l yX13_rulesOn v_rulesOnMX rm_rulesOnMX (va_Pc [.ref (ad 0), .int a0, .int a1] (HW dC dI (TYM cT) 72 ad E sz)) (va_Qi (S := Unit) (fun r _ => (-1 ≤ r.toInt ∧ r.toInt ≤ 15) ∧ (r = cO (fun _ => 0) (xi (E 10)) (xi (E 11)) 0 a0 a1 (xi (E 0) 17).toNatClampNeg)) (fun _ _ => True) (fun _ => False)) 0 0 (fun _ => False) := by
  refine Met.ofW (cc := cX13_rulesOn) (maxL := 5) (ret := (some .int)) (by decide) rfl ?_
  intro p e s m args below meth c s₁ B hml hv
  obtain ⟨hargs, hsz, hP, hK, hD0, hEV⟩ := hv
  subst hsz
  have hx := B.exec
  have hb := B.bytes
  have hr := B.returns
  have hts := atoms_spec (ws := v_rulesOnMX) B.pre
  have hown : s.vm.findClass RX13 = some m.cls := findClass_of_methodNamed B.named
  have hlocks := B.notSynchronized
  have hinX13 : ∀ w ∈ u_ws RX13 TX13 97, w ∈ v_rulesOnMX := fun w h => vA_in _ w (in_X13 w h)
  have hS : va_S (fun _ : Nat => False) s.heap s.heap [] := va_S.rf
  have hD := hD0
  have hI := hI0
  have hKp : Kp (wl [] []) E E := Kp.rf
  have hl := lv_entry ([.ref (ad 0), .int a0, .int a1]) (n := 5) (Nat.le_of_ble_eq_true rfl)
  obtain ⟨Q, hQ⟩ : ∃ Q, Q = MQ below (va_Qi (S := Unit) (fun r _ => (-1 ≤ r.toInt ∧ r.toInt ≤ 15) ∧ (r = cO (fun _ => 0) (xi (E 10)) (xi (E 11)) 0 a0 a1 (xi (E 0) 17).toNatClampNeg)) (fun _ _ => True) (fun _ => False)) args s 0 0 (fun _ => False) := ⟨_, rfl⟩
  rw [← hQ, show entryFrame m args 5 = _ from (congrArg (fun z => entryFrame m z 5) hargs).trans (lg_entry_eq _ _ _)]
  generalize (lg_sl ([.ref (ad 0), .int a0, .int a1]) ++ List.replicate (5 - (lg_sl ([.ref (ad 0), .int a0, .int a1])).length) Slot.unset).toArray = ls at hl ⊢
  have hl : lv_has ls 5 [(0, .ref (ad 0)), (1, .int a0), (2, .int a1)] := hl
  refine lv_iconst (v := -1) hx hb dX13_rulesOn_0 (by decide) ?_
  refine lv_istore_n (lv' := [(3, .int (-1)), (0, .ref (ad 0)), (1, .int a0), (2, .int a1)]) hx hb dX13_rulesOn_1 rfl hl (by decide) rfl (fun ls hl => ?_)
  refine lv_iconst (v := 0) hx hb dX13_rulesOn_2 (by decide) ?_
  refine lv_istore (lv' := [(4, .int 0), (3, .int (-1)), (0, .ref (ad 0)), (1, .int a0), (2, .int a1)]) hx hb dX13_rulesOn_3 hl (by decide) rfl (fun ls hl => ?_)
  have hL5 : ∀ d : Nat, ∀ (v5_4 : Int32) (v5_3 : Int32) (H : Heap) (locs : List Loc) (ls : Array Slot), 0 ≤ v5_4.toInt ∧ v5_4.toInt ≤ 16 → -1 ≤ v5_3.toInt ∧ v5_3.toInt ≤ 15 → v5_3 = cO (fun _ => 0) (xi (E 10)) (xi (E 11)) 0 a0 a1 v5_4.toNatClampNeg → v5_4.toInt ≤ (xi (E 0) 17).toInt → 16 - v5_4.toInt < (d : Int) → va_P (dC, dI) vwCl (WX 72 ad E) H → va_S (fun _ : Nat => False) s.heap H locs → lv_has ls 5 [(4, .int v5_4), (3, .int v5_3), (0, .ref (ad 0)), (1, .int a0), (2, .int a1)] → W p l e (headSpec v_rulesOnMX rm_rulesOnMX).room s m args below meth c H locs 0 0 Q (F0 m 5 ls []) := by
    intro d
    induction d with
    | zero =>
      intro v5_4 v5_3 H locs ls hv5_4 hv5_3 hx5_0 hx5_1 hx5_2 hP hS hl
      exact absurd hx5_2 (by first | exact ms_zu hv5_4.2 | omega)
    | succ d ih5 =>
      intro v5_4 v5_3 H locs ls hv5_4 hv5_3 hx5_0 hx5_1 hx5_2 hP hS hl
      refine lv_iload hx hb dX13_rulesOn_5 (lv_at hl 0 rfl) ?_
      refine lv_aload_n hx hb dX13_rulesOn_7 rfl (lv_at hl 2 rfl) ?_
      have i1 : 0 ≤ (xi (E 0) 17).toInt ∧ (xi (E 0) 17).toInt ≤ 16 := hI0.iv 0 (Nat.le_of_ble_eq_true rfl) rfl (Nat.le_of_ble_eq_true rfl) rfl
      refine th_get (ci := 14) (C := RX13) (T := TX13) (N := 97) (v := .int (xi (E 0) 17)) hx hb hts hinX13 hown hK hP hI 0 (Nat.le_of_ble_eq_true rfl) rfl rfl 17 (Nat.le_of_ble_eq_true rfl) (hts _ (vA_in _ _ (in_29 _ (zs4 (zs1 (zs0)))))) (fun _ h9 => h9) (th_v0 hKp hI0 0 (Nat.le_of_ble_eq_true rfl) rfl (Nat.le_of_ble_eq_true rfl) rfl rfl) dX13_rulesOn_8 ?_
      refine lv_icmp_ge (tgt := 66) hx hb dX13_rulesOn_11 (by decide) (fun c2 => ?_) (fun c2 => ?_)
      · --11 taken
        have t3 : (xi (E 0) 17).toInt ≤ v5_4.toInt := ti_le c2
        refine lv_iload_n hx hb dX13_rulesOn_66 rfl (lv_at hl 1 rfl) ?_
        rw [hQ]
        exact W.iret (v := v5_3) hx hb hr (fun t ht hW => ⟨⟨v5_3, (), rfl, ⟨hv5_3, by have h9 := hx5_0; rw [tn_ge (x := v5_4) (y := xi (E 0) 17) (by omega) (by omega)] at h9; exact h9⟩, trivial⟩, hS.F ht⟩) hS.2.2 dX13_rulesOn_67
      · --11 not
        have t4 : v5_4.toInt < (xi (E 0) 17).toInt := ti_nle c2
        have i5 : 0 ≤ v5_4.toInt ∧ v5_4.toInt ≤ 15 := iv_lt_l t4 hv5_4 i1 (by decide)
        have i6 : 1 ≤ (xi (E 0) 17).toInt ∧ (xi (E 0) 17).toInt ≤ 16 := iv_lt_r t4 hv5_4 i1 (by decide)
        refine lv_aload_n hx hb dX13_rulesOn_14 rfl (lv_at hl 2 rfl) ?_
        refine th_get (ci := 14) (C := RX13) (T := TX13) (N := 97) (v := .ref (ad 11)) hx hb hts hinX13 hown hK hP hI 0 (Nat.le_of_ble_eq_true rfl) rfl rfl 14 (Nat.le_of_ble_eq_true rfl) (hts _ (vA_in _ _ (in_29 _ (zs4 (zs1 (zs1 (zs0))))))) (fun _ h9 => h9) (hI.fr 0 (Nat.le_of_ble_eq_true rfl) rfl (Nat.le_of_ble_eq_true rfl) 11 rfl) dX13_rulesOn_15 ?_
        refine lv_iload hx hb dX13_rulesOn_18 (lv_at hl 0 rfl) ?_
        have n8 : vp_in v5_4 16 := (iv_in (n := 16) i5 (by decide))
        refine th_iald hx hb hK hP hI 11 (Nat.le_of_ble_eq_true rfl) rfl rfl n8 dX13_rulesOn_20 (fun y7 ey7 => ?_)
        have iy7 : 0 ≤ y7.toInt ∧ y7.toInt ≤ 400 := hI.el 11 (Nat.le_of_ble_eq_true rfl) rfl n8 (fun _ => rfl) ey7
        have ey7 := ey7.trans (hKp.ei 11 _ rfl)
        refine lv_iload_n hx hb dX13_rulesOn_21 rfl (lv_at hl 4 rfl) ?_
        refine lv_icmp_gt (tgt := 60) hx hb dX13_rulesOn_22 (by decide) (fun c9 => ?_) (fun c9 => ?_)
        · --22 taken
          have t10 : a1.toInt < y7.toInt := ti_lt c9
          have i11 : -2147483648 ≤ a1.toInt ∧ a1.toInt ≤ 399 := iv_lt_l t10 (iv_all _) iy7 (by decide)
          obtain ⟨y12, ey12⟩ : ∃ y : Int32, y = v5_4 + (1 : Int32) := ⟨_, rfl⟩
          obtain ⟨ty12, iy12⟩ := ti_add (e := 1) (f := 16) i5 ln_1 ey12 (by decide)
          have ty12 : y12.toInt = v5_4.toInt + 1 := ty12
          have iy12 : 1 ≤ y12.toInt ∧ y12.toInt ≤ 16 := iy12
          refine lv_iinc (v := y12) (lv' := [(4, .int y12), (3, .int v5_3), (0, .ref (ad 0)), (1, .int a0), (2, .int a1)]) hx hb dX13_rulesOn_60 hl (k := 0) rfl (by rw [ey12]; rfl) (by decide) rfl (fun ls hl => ?_)
          refine lv_goto (tgt := 5) hx hb dX13_rulesOn_63 (by decide) ?_
          exact ih5 y12 v5_3 _ _ _ (iv_w iy12 (by decide)) hv5_3 (cO_skip (gB := fun _ => 0) (gF := xi (E 10)) (gT := xi (E 11)) hx5_0 ty12 hv5_4 (by decide) (fun hh => ub_nle c9 (by rw [ey7]; exact hh.2.1))) (by have h9 := iy12; have h8 := i6; omega) (by first | exact ms_su hx5_2 ty12 (by decide) | omega) hP hS (lv_sub hl [0, 1, 2, 3, 4] rfl)
        · --22 not
          have t13 : y7.toInt ≤ a1.toInt := ti_nlt c9
          have i14 : 0 ≤ a1.toInt ∧ a1.toInt ≤ 2147483647 := iv_le_r t13 iy7 (iv_all _) (by decide)
          refine lv_aload_n hx hb dX13_rulesOn_25 rfl (lv_at hl 2 rfl) ?_
          refine th_get (ci := 14) (C := RX13) (T := TX13) (N := 97) (v := .ref (ad 10)) hx hb hts hinX13 hown hK hP hI 0 (Nat.le_of_ble_eq_true rfl) rfl rfl 13 (Nat.le_of_ble_eq_true rfl) (hts _ (vA_in _ _ (in_29 _ (zs4 (zs1 (zs1 (zs1 (zs0)))))))) (fun _ h9 => h9) (hI.fr 0 (Nat.le_of_ble_eq_true rfl) rfl (Nat.le_of_ble_eq_true rfl) 10 rfl) dX13_rulesOn_26 ?_
          refine lv_iload hx hb dX13_rulesOn_29 (lv_at hl 0 rfl) ?_
          have n16 : vp_in v5_4 16 := (iv_in (n := 16) i5 (by decide))
          refine th_iald hx hb hK hP hI 10 (Nat.le_of_ble_eq_true rfl) rfl rfl n16 dX13_rulesOn_31 (fun y15 ey15 => ?_)
          have iy15 : 0 ≤ y15.toInt ∧ y15.toInt ≤ 400 := hI.el 10 (Nat.le_of_ble_eq_true rfl) rfl n16 (fun _ => rfl) ey15
          have ey15 := ey15.trans (hKp.ei 10 _ rfl)
          refine lv_iload_n hx hb dX13_rulesOn_32 rfl (lv_at hl 3 rfl) ?_
          refine lv_icmp_gt (tgt := 60) hx hb dX13_rulesOn_33 (by decide) (fun c17 => ?_) (fun c17 => ?_)
          · --33 taken
            have t18 : a0.toInt < y15.toInt := ti_lt c17
            have i19 : -2147483648 ≤ a0.toInt ∧ a0.toInt ≤ 399 := iv_lt_l t18 (iv_all _) iy15 (by decide)
            obtain ⟨y20, ey20⟩ : ∃ y : Int32, y = v5_4 + (1 : Int32) := ⟨_, rfl⟩
            obtain ⟨ty20, iy20⟩ := ti_add (e := 1) (f := 16) i5 ln_1 ey20 (by decide)
            have ty20 : y20.toInt = v5_4.toInt + 1 := ty20
            have iy20 : 1 ≤ y20.toInt ∧ y20.toInt ≤ 16 := iy20
            refine lv_iinc (v := y20) (lv' := [(4, .int y20), (3, .int v5_3), (0, .ref (ad 0)), (1, .int a0), (2, .int a1)]) hx hb dX13_rulesOn_60 hl (k := 0) rfl (by rw [ey20]; rfl) (by decide) rfl (fun ls hl => ?_)
            refine lv_goto (tgt := 5) hx hb dX13_rulesOn_63 (by decide) ?_
            exact ih5 y20 v5_3 _ _ _ (iv_w iy20 (by decide)) hv5_3 (cO_skip (gB := fun _ => 0) (gF := xi (E 10)) (gT := xi (E 11)) hx5_0 ty20 hv5_4 (by decide) (fun hh => ub_nle c17 (by rw [ey15]; exact hh.2.2.1))) (by have h9 := iy20; have h8 := i6; omega) (by first | exact ms_su hx5_2 ty20 (by decide) | omega) hP hS (lv_sub hl [0, 1, 2, 3, 4] rfl)
          · --33 not
            have t21 : y15.toInt ≤ a0.toInt := ti_nlt c17
            have i22 : 0 ≤ a0.toInt ∧ a0.toInt ≤ 2147483647 := iv_le_r t21 iy15 (iv_all _) (by decide)
            refine lv_iload_n hx hb dX13_rulesOn_36 rfl (lv_at hl 1 rfl) ?_
            refine lv_iconst (v := -1) hx hb dX13_rulesOn_37 (by decide) ?_
            refine lv_icmp_eq (tgt := 57) hx hb dX13_rulesOn_38 (by decide) (fun c23 => ?_) (fun c23 => ?_)
            · --38 taken
              have t24 : v5_3.toInt = -1 := ti_eq c23
              have i25 : -1 ≤ v5_3.toInt ∧ v5_3.toInt ≤ -1 := iv_eqi t24 hv5_3 (il_ (-1)) (by decide)
              refine lv_iload hx hb dX13_rulesOn_57 (lv_at hl 0 rfl) ?_
              refine lv_istore_n (lv' := [(3, .int v5_4), (4, .int v5_4), (0, .ref (ad 0)), (1, .int a0), (2, .int a1)]) hx hb dX13_rulesOn_59 rfl hl (by decide) rfl (fun ls hl => ?_)
              obtain ⟨y26, ey26⟩ : ∃ y : Int32, y = v5_4 + (1 : Int32) := ⟨_, rfl⟩
              obtain ⟨ty26, iy26⟩ := ti_add (e := 1) (f := 16) i5 ln_1 ey26 (by decide)
              have ty26 : y26.toInt = v5_4.toInt + 1 := ty26
              have iy26 : 1 ≤ y26.toInt ∧ y26.toInt ≤ 16 := iy26
              refine lv_iinc (v := y26) (lv' := [(4, .int y26), (3, .int v5_4), (0, .ref (ad 0)), (1, .int a0), (2, .int a1)]) hx hb dX13_rulesOn_60 hl (k := 1) rfl (by rw [ey26]; rfl) (by decide) rfl (fun ls hl => ?_)
              refine lv_goto (tgt := 5) hx hb dX13_rulesOn_63 (by decide) ?_
              exact ih5 y26 v5_4 _ _ _ (iv_w iy26 (by decide)) (iv_w i5 (by decide)) (cO_take (gB := fun _ => 0) (gF := xi (E 10)) (gT := xi (E 11)) hx5_0 ty26 hv5_4 (by decide) ⟨rfl, (by rw [← ey7]; exact ub_le c9), (by rw [← ey15]; exact ub_le c17), Or.inl c23⟩) (by have h9 := iy26; have h8 := i6; omega) (by first | exact ms_su hx5_2 ty26 (by decide) | omega) hP hS (lv_sub hl [0, 1, 2, 3, 4] rfl)
            · --38 not
              have t27 : ¬ v5_3.toInt = -1 := ti_ne c23
              have i28 : 0 ≤ v5_3.toInt ∧ v5_3.toInt ≤ 15 := iv_ne_l t27 hv5_3 (il_ (-1))
              refine lv_aload_n hx hb dX13_rulesOn_41 rfl (lv_at hl 2 rfl) ?_
              refine th_get (ci := 14) (C := RX13) (T := TX13) (N := 97) (v := .ref (ad 10)) hx hb hts hinX13 hown hK hP hI 0 (Nat.le_of_ble_eq_true rfl) rfl rfl 13 (Nat.le_of_ble_eq_true rfl) (hts _ (vA_in _ _ (in_29 _ (zs4 (zs1 (zs1 (zs1 (zs0)))))))) (fun _ h9 => h9) (hI.fr 0 (Nat.le_of_ble_eq_true rfl) rfl (Nat.le_of_ble_eq_true rfl) 10 rfl) dX13_rulesOn_42 ?_
              refine lv_iload hx hb dX13_rulesOn_45 (lv_at hl 0 rfl) ?_
              have n30 : vp_in v5_4 16 := (iv_in (n := 16) i5 (by decide))
              refine th_iald hx hb hK hP hI 10 (Nat.le_of_ble_eq_true rfl) rfl rfl n30 dX13_rulesOn_47 (fun y29 ey29 => ?_)
              have iy29 : 0 ≤ y29.toInt ∧ y29.toInt ≤ 400 := hI.el 10 (Nat.le_of_ble_eq_true rfl) rfl n30 (fun _ => rfl) ey29
              have ey29 := ey29.trans (hKp.ei 10 _ rfl)
              refine lv_aload_n hx hb dX13_rulesOn_48 rfl (lv_at hl 2 rfl) ?_
              refine th_get (ci := 14) (C := RX13) (T := TX13) (N := 97) (v := .ref (ad 10)) hx hb hts hinX13 hown hK hP hI 0 (Nat.le_of_ble_eq_true rfl) rfl rfl 13 (Nat.le_of_ble_eq_true rfl) (hts _ (vA_in _ _ (in_29 _ (zs4 (zs1 (zs1 (zs1 (zs0)))))))) (fun _ h9 => h9) (hI.fr 0 (Nat.le_of_ble_eq_true rfl) rfl (Nat.le_of_ble_eq_true rfl) 10 rfl) dX13_rulesOn_49 ?_
              refine lv_iload_n hx hb dX13_rulesOn_52 rfl (lv_at hl 1 rfl) ?_
              have n32 : vp_in v5_3 16 := (iv_in (n := 16) i28 (by decide))
              refine th_iald hx hb hK hP hI 10 (Nat.le_of_ble_eq_true rfl) rfl rfl n32 dX13_rulesOn_53 (fun y31 ey31 => ?_)
              have iy31 : 0 ≤ y31.toInt ∧ y31.toInt ≤ 400 := hI.el 10 (Nat.le_of_ble_eq_true rfl) rfl n32 (fun _ => rfl) ey31
              have ey31 := ey31.trans (hKp.ei 10 _ rfl)
              refine lv_icmp_lt (tgt := 60) hx hb dX13_rulesOn_54 (by decide) (fun c33 => ?_) (fun c33 => ?_)
              · --54 taken
                have t34 : y29.toInt < y31.toInt := ti_lt c33
                have i35 : 0 ≤ y29.toInt ∧ y29.toInt ≤ 399 := iv_lt_l t34 iy29 iy31 (by decide)
                have i36 : 1 ≤ y31.toInt ∧ y31.toInt ≤ 400 := iv_lt_r t34 iy29 iy31 (by decide)
                obtain ⟨y37, ey37⟩ : ∃ y : Int32, y = v5_4 + (1 : Int32) := ⟨_, rfl⟩
                obtain ⟨ty37, iy37⟩ := ti_add (e := 1) (f := 16) i5 ln_1 ey37 (by decide)
                have ty37 : y37.toInt = v5_4.toInt + 1 := ty37
                have iy37 : 1 ≤ y37.toInt ∧ y37.toInt ≤ 16 := iy37
                refine lv_iinc (v := y37) (lv' := [(4, .int y37), (3, .int v5_3), (0, .ref (ad 0)), (1, .int a0), (2, .int a1)]) hx hb dX13_rulesOn_60 hl (k := 0) rfl (by rw [ey37]; rfl) (by decide) rfl (fun ls hl => ?_)
                refine lv_goto (tgt := 5) hx hb dX13_rulesOn_63 (by decide) ?_
                exact ih5 y37 v5_3 _ _ _ (iv_w iy37 (by decide)) (iv_w i28 (by decide)) (cO_skip (gB := fun _ => 0) (gF := xi (E 10)) (gT := xi (E 11)) hx5_0 ty37 hv5_4 (by decide) (fun hh => hh.2.2.2.elim (fun h9 => c23 h9) (fun h9 => ub_nle c33 (by rw [ey31, ey29]; exact h9)))) (by have h9 := iy37; have h8 := i6; omega) (by first | exact ms_su hx5_2 ty37 (by decide) | omega) hP hS (lv_sub hl [0, 1, 2, 3, 4] rfl)
              · --54 not
                have t38 : y31.toInt ≤ y29.toInt := ti_nlt c33
                refine lv_iload hx hb dX13_rulesOn_57 (lv_at hl 0 rfl) ?_
                refine lv_istore_n (lv' := [(3, .int v5_4), (4, .int v5_4), (0, .ref (ad 0)), (1, .int a0), (2, .int a1)]) hx hb dX13_rulesOn_59 rfl hl (by decide) rfl (fun ls hl => ?_)
                obtain ⟨y39, ey39⟩ : ∃ y : Int32, y = v5_4 + (1 : Int32) := ⟨_, rfl⟩
                obtain ⟨ty39, iy39⟩ := ti_add (e := 1) (f := 16) i5 ln_1 ey39 (by decide)
                have ty39 : y39.toInt = v5_4.toInt + 1 := ty39
                have iy39 : 1 ≤ y39.toInt ∧ y39.toInt ≤ 16 := iy39
                refine lv_iinc (v := y39) (lv' := [(4, .int y39), (3, .int v5_4), (0, .ref (ad 0)), (1, .int a0), (2, .int a1)]) hx hb dX13_rulesOn_60 hl (k := 1) rfl (by rw [ey39]; rfl) (by decide) rfl (fun ls hl => ?_)
                refine lv_goto (tgt := 5) hx hb dX13_rulesOn_63 (by decide) ?_
                exact ih5 y39 v5_4 _ _ _ (iv_w iy39 (by decide)) (iv_w i5 (by decide)) (cO_take (gB := fun _ => 0) (gF := xi (E 10)) (gT := xi (E 11)) hx5_0 ty39 hv5_4 (by decide) ⟨rfl, (by rw [← ey7]; exact ub_le c9), (by rw [← ey15]; exact ub_le c17), Or.inr (by rw [← ey31, ← ey29]; exact ub_le c33)⟩) (by have h9 := iy39; have h8 := i6; omega) (by first | exact ms_su hx5_2 ty39 (by decide) | omega) hP hS (lv_sub hl [0, 1, 2, 3, 4] rfl)
  exact hL5 (17) (0 : Int32) (-1 : Int32) _ _ _ (iv_w ln_0 (by decide)) (iv_w ln_m1 (by decide)) rfl (by have h9 := ln_0; have h8 := (show 0 ≤ (xi (E 0) 17).toInt ∧ (xi (E 0) 17).toInt ≤ 16 from hI0.iv 0 (Nat.le_of_ble_eq_true rfl) rfl (Nat.le_of_ble_eq_true rfl) rfl); omega) (by have h9 := ln_0; first | exact ms_bu h9.1 (by decide) | omega) hP hS (lv_sub hl [0, 1, 2, 3, 4] rfl)
def v_forceX : List Cond := .code yX13_force cX13_force 3 (some .int) :: vA
abbrev rm_forceX : Room := { frames := 2, cells := 0, slots := 0, locals := 80 }
def w_forceX : Nat → Nat → Bool := wl [] [(0, 0)]
set_option maxHeartbeats 4000000 in
set_option maxRecDepth 100000 in
theorem q_forceX (l : Launch) (dC : Nat → ClassId) (dI : Nat → Nat → Nat) (cT : Nat → ClassId) (ad : Nat → Nat) (E : Nat → va_E) (sz : Nat) (a0 : Int32) (a1 : Int32) (hI0 : IX cT shM spM 72 ad E)  : Met l yX13_force v_forceX rm_forceX (va_Pc [.ref (ad 0), .int a0, .int a1] (HW dC dI (TYM cT) 72 ad E sz)) (va_Qi (S := Nat → va_E) (fun r u => IX cT shM spM 72 ad u ∧ Kp w_forceX E u ∧ ((((((0 ≤ a0.toInt ∧ a0.toInt ≤ 400) ∧ (0 ≤ a1.toInt ∧ a1.toInt ≤ (xi (E 0) 1).toInt)) → (r.toInt = (cO (fun _ => 0) (xi (E 10)) (xi (E 11)) 0 a0 a1 (xi (E 0) 17).toNatClampNeg).toInt)) ∧ (¬ ((0 ≤ a0.toInt ∧ a0.toInt ≤ 400) ∧ (0 ≤ a1.toInt ∧ a1.toInt ≤ (xi (E 0) 1).toInt)) → (r.toInt = -1)))))) (HB dC dI 72 ad) (va_A (WX 72 ad E) sz)) 0 0 (va_A (WX 72 ad E) sz) := by
  refine Met.ofW (cc := cX13_force) (maxL := 3) (ret := (some .int)) (by decide) rfl ?_
  intro p e s m args below meth c s₁ B hml hv
  obtain ⟨hargs, hsz, hP, hK, hD0, hEV⟩ := hv
  subst hsz
  have hx := B.exec
  have hb := B.bytes
  have hr := B.returns
  have hts := atoms_spec (ws := v_forceX) B.pre
  have hown : s.vm.findClass RX13 = some m.cls := findClass_of_methodNamed B.named
  have hlocks := B.notSynchronized
  have hinX13 : ∀ w ∈ u_ws RX13 TX13 97, w ∈ v_forceX := fun w h => vA_in _ w (in_X13 w h)
  generalize hAe : va_A (WX 72 ad E) s.heap.size = A at hEV ⊢
  have hA : ∀ q : Nat, s.heap.size ≤ q → A q := fun q h => by rw [← hAe]; exact Or.inr h
  have hD : va_D A (WX 72 ad E) := by rw [← hAe]; exact hD0.self
  have hS : va_S A s.heap s.heap [] := va_S.rf
  have hI := hI0
  have hKp : Kp w_forceX E E := Kp.rf
  have hl := lv_entry ([.ref (ad 0), .int a0, .int a1]) (n := 3) (Nat.le_of_ble_eq_true rfl)
  obtain ⟨Q, hQ⟩ : ∃ Q, Q = MQ below (va_Qi (S := Nat → va_E) (fun r u => IX cT shM spM 72 ad u ∧ Kp w_forceX E u ∧ ((((((0 ≤ a0.toInt ∧ a0.toInt ≤ 400) ∧ (0 ≤ a1.toInt ∧ a1.toInt ≤ (xi (E 0) 1).toInt)) → (r.toInt = (cO (fun _ => 0) (xi (E 10)) (xi (E 11)) 0 a0 a1 (xi (E 0) 17).toNatClampNeg).toInt)) ∧ (¬ ((0 ≤ a0.toInt ∧ a0.toInt ≤ 400) ∧ (0 ≤ a1.toInt ∧ a1.toInt ≤ (xi (E 0) 1).toInt)) → (r.toInt = -1)))))) (HB dC dI 72 ad) (A)) args s 0 0 (A) := ⟨_, rfl⟩
  rw [← hQ, show entryFrame m args 3 = _ from (congrArg (fun z => entryFrame m z 3) hargs).trans (lg_entry_eq _ _ _)]
  generalize (lg_sl ([.ref (ad 0), .int a0, .int a1]) ++ List.replicate (3 - (lg_sl ([.ref (ad 0), .int a0, .int a1])).length) Slot.unset).toArray = ls at hl ⊢
  have hl : lv_has ls 3 [(0, .ref (ad 0)), (1, .int a0), (2, .int a1)] := hl
  refine lv_aload_n hx hb dX13_force_0 rfl (lv_at hl 0 rfl) ?_
  refine lv_iconst (v := 0) hx hb dX13_force_1 (by decide) ?_
  refine th_put (ci := 14) (C := RX13) (T := TX13) (N := 97) (v := .int 0) (ty := .int) hx hb hts hinX13 tyX13 tyX13_ok nmX13 hown hK hP (WX_D hD) hS hI 0 (Nat.le_of_ble_eq_true rfl) rfl rfl 0 (Nat.le_of_ble_eq_true rfl) (hts _ (vA_in _ _ (in_24 _ (zs4 (zs4 (zs1 (zs1 (zs0)))))))) (fun _ h9 => h9) rfl (by decide +kernel) rfl rfl (okI rfl (iv_w ln_0 (by decide))) dX13_force_2 (fun H locs E1 pw2 hI hP hS => ?_)
  have hKp := hKp.pw pw2 rfl
  refine lv_iload_n hx hb dX13_force_5 rfl (lv_at hl 1 rfl) ?_
  refine th_pi (va_runS (As := [.int a0]) (rest := []) ⟨hx, hb, hml, hown, hts⟩ (q_isDay l a0) (va_cwS 1 hts (gi_S (in_27 _ (zs16 (zs1 (zs0)))) (in_27 _ (zs16 (zs1 (zs1 (zs0))))) (in_24 _ (zs4 (zs4 (zs4 (zs1 (zs1 (zs1 (zs0)))))))) (in_27 _ (zs16 (zs1 (zs1 (zs1 (zs0))))))) rfl rfl rfl hz_yX13_isDay_1 ⟨Nat.le_of_ble_eq_true rfl, Nat.le_of_ble_eq_true rfl⟩) ⟨fun _ _ _ _ q => q, fun _ _ _ => ⟨rfl, trivial⟩⟩ rfl rfl hl.1 rfl (lv_room (Nat.le_of_ble_eq_true rfl)) dX13_force_6 ⟨Nat.le_of_ble_eq_true rfl, Nat.le_of_ble_eq_true rfl⟩) hS (fun r3 H1 locs1 hw hk1 hS => ?_)
  have hP := ub_keep hP hk1
  generalize H1 = H at hP hS ⊢
  generalize locs1 = locs at hS ⊢
  rcases hw with hw | hw
  · -- isDay, case 0
    obtain ⟨rfl, f4⟩ := hw
    have t5 : (0 : Int) ≤ a0.toInt := f4.1
    have t6 : a0.toInt ≤ 400 := f4.2
    have i7 : 0 ≤ a0.toInt ∧ a0.toInt ≤ 2147483647 := iv_le_r t5 (il_ 0) (iv_all _) (by decide)
    have i8 : 0 ≤ a0.toInt ∧ a0.toInt ≤ 400 := iv_le_l t6 i7 (il_ 400) (by decide)
    refine lv_if_eq (tgt := 29) hx hb dX13_force_9 (by decide) (fun c9 => ?_) (fun c9 => ?_)
    · --9 taken
      exact absurd c9 (by decide)
    · --9 not
      refine lv_aload_n hx hb dX13_force_12 rfl (lv_at hl 0 rfl) ?_
      refine lv_iload_n hx hb dX13_force_13 rfl (lv_at hl 2 rfl) ?_
      refine th_ri (va_runV (As := [.int a1]) (rest := []) ⟨hx, hb, hml, hown, hts⟩ (q_isKnown l dC dI cT ad E1 H.size a1 hI) (cwV 1 hts (gi_V (in_24 _ (zs16 (zs4 (zs1 (zs1 (zs1 (zs0))))))) (in_24 _ (zs16 (zs4 (zs4 (zs0))))) (in_24 _ (zs16 (zs4 (zs4 (zs1 (zs0)))))) (in_24 _ (zs4 (zs4 (zs4 (zs1 (zs1 (zs1 (zs0)))))))) (in_24 _ (zs16 (zs4 (zs4 (zs1 (zs1 (zs0)))))))) rfl rfl rfl ⟨rfl, hz_yX13_isKnown_1⟩ ⟨Nat.le_of_ble_eq_true rfl, Nat.le_of_ble_eq_true rfl⟩) ⟨HW_bl, va_recv hK hP (ci := 14) (q0 := 0) rfl (hI.ob 0 (Nat.le_of_ble_eq_true rfl) rfl), (HW_wi hP hK (WX_D hD) hS hA hEV)⟩ rfl rfl hl.1 rfl (lv_room (Nat.le_of_ble_eq_true rfl)) dX13_force_14 ⟨Nat.le_of_ble_eq_true rfl, Nat.le_of_ble_eq_true rfl⟩) hS hP (fun r10 H locs hw hP hS => ?_)
      rcases hw with hw | hw
      · -- isKnown, case 0
        obtain ⟨rfl, f11⟩ := hw
        have i12 : 0 ≤ (xi (E 0) 1).toInt ∧ (xi (E 0) 1).toInt ≤ 400 := (show 0 ≤ (xi (E 0) 1).toInt ∧ (xi (E 0) 1).toInt ≤ 400 from hI0.iv 0 (Nat.le_of_ble_eq_true rfl) rfl (Nat.le_of_ble_eq_true rfl) rfl)
        try rw [hKp.ei 0 1 rfl] at f11
        have t13 : (0 : Int) ≤ a1.toInt := f11.1
        have t14 : a1.toInt ≤ (xi (E 0) 1).toInt := f11.2
        have i15 : 0 ≤ a1.toInt ∧ a1.toInt ≤ 2147483647 := iv_le_r t13 (il_ 0) (iv_all _) (by decide)
        have i16 : 0 ≤ a1.toInt ∧ a1.toInt ≤ 400 := iv_le_l t14 i15 i12 (by decide)
        refine lv_if_eq (tgt := 29) hx hb dX13_force_17 (by decide) (fun c17 => ?_) (fun c17 => ?_)
        · --17 taken
          exact absurd c17 (by decide)
        · --17 not
          refine lv_aload_n hx hb dX13_force_20 rfl (lv_at hl 0 rfl) ?_
          refine lv_iload_n hx hb dX13_force_21 rfl (lv_at hl 1 rfl) ?_
          refine lv_iload_n hx hb dX13_force_22 rfl (lv_at hl 2 rfl) ?_
          refine th_ri (va_runV (As := [.int a0, .int a1]) (rest := []) ⟨hx, hb, hml, hown, hts⟩ (q_rulesOnMX l dC dI cT ad E1 H.size a0 a1 hI) (cwV 2 hts (gi_V (in_29 _ (zs1 (zs0))) (in_29 _ (zs1 (zs1 (zs0)))) (in_29 _ (zs1 (zs1 (zs1 (zs0))))) (in_24 _ (zs4 (zs4 (zs4 (zs1 (zs1 (zs1 (zs0)))))))) (in_29 _ (zs4 (zs0)))) rfl rfl rfl ⟨rfl, hz_yX13_rulesOn_2⟩ ⟨Nat.le_of_ble_eq_true rfl, Nat.le_of_ble_eq_true rfl⟩) ⟨HW_bl, va_recv hK hP (ci := 14) (q0 := 0) rfl (hI.ob 0 (Nat.le_of_ble_eq_true rfl) rfl), (HW_wi hP hK (WX_D hD) hS hA hEV)⟩ rfl rfl hl.1 rfl (lv_room (Nat.le_of_ble_eq_true rfl)) dX13_force_23 ⟨Nat.le_of_ble_eq_true rfl, Nat.le_of_ble_eq_true rfl⟩) hS hP (fun r18 H locs hw hP hS => ?_)
          obtain ⟨f19, f20⟩ := hw
          have i21 : 0 ≤ (xi (E 0) 17).toInt ∧ (xi (E 0) 17).toInt ≤ 16 := (show 0 ≤ (xi (E 0) 17).toInt ∧ (xi (E 0) 17).toInt ≤ 16 from hI0.iv 0 (Nat.le_of_ble_eq_true rfl) rfl (Nat.le_of_ble_eq_true rfl) rfl)
          try rw [hKp.ei 0 17 rfl] at f20
          try rw [hKp.ef 10 (fun _ => rfl)] at f20
          try rw [hKp.ef 11 (fun _ => rfl)] at f20
          refine lv_goto (tgt := 30) hx hb dX13_force_26 (by decide) ?_
          rw [hQ]
          exact W.iret (v := r18) hx hb hr (fun t ht hW => ⟨⟨r18, E1, rfl, ⟨hI, hKp, (by have h9 := congrArg Int32.toInt f20; all_goals omega)⟩, by show va_P (dC, dI) vwCl (WX 72 ad E1) t.heap; rw [ht]; exact hP⟩, hS.F ht⟩) hS.2.2 dX13_force_30
      · -- isKnown, case 1
        obtain ⟨rfl, f22⟩ := hw
        have i23 : 0 ≤ (xi (E 0) 1).toInt ∧ (xi (E 0) 1).toInt ≤ 400 := (show 0 ≤ (xi (E 0) 1).toInt ∧ (xi (E 0) 1).toInt ≤ 400 from hI0.iv 0 (Nat.le_of_ble_eq_true rfl) rfl (Nat.le_of_ble_eq_true rfl) rfl)
        try rw [hKp.ei 0 1 rfl] at f22
        have t24 : ¬ ((0 : Int) ≤ a1.toInt ∧ a1.toInt ≤ (xi (E 0) 1).toInt) := f22
        refine lv_if_eq (tgt := 29) hx hb dX13_force_17 (by decide) (fun c25 => ?_) (fun c25 => ?_)
        · --17 taken
          refine lv_iconst (v := -1) hx hb dX13_force_29 (by decide) ?_
          rw [hQ]
          exact W.iret (v := (-1)) hx hb hr (fun t ht hW => ⟨⟨(-1), E1, rfl, ⟨hI, hKp, (by have h8 := ln_m1; all_goals omega)⟩, by show va_P (dC, dI) vwCl (WX 72 ad E1) t.heap; rw [ht]; exact hP⟩, hS.F ht⟩) hS.2.2 dX13_force_30
        · --17 not
          exact absurd c25 (by decide)
  · -- isDay, case 1
    obtain ⟨rfl, f26⟩ := hw
    have t27 : ¬ ((0 : Int) ≤ a0.toInt ∧ a0.toInt ≤ 400) := f26
    refine lv_if_eq (tgt := 29) hx hb dX13_force_9 (by decide) (fun c28 => ?_) (fun c28 => ?_)
    · --9 taken
      refine lv_iconst (v := -1) hx hb dX13_force_29 (by decide) ?_
      rw [hQ]
      exact W.iret (v := (-1)) hx hb hr (fun t ht hW => ⟨⟨(-1), E1, rfl, ⟨hI, hKp, (by have h8 := ln_m1; all_goals omega)⟩, by show va_P (dC, dI) vwCl (WX 72 ad E1) t.heap; rw [ht]; exact hP⟩, hS.F ht⟩) hS.2.2 dX13_force_30
    · --9 not
      exact absurd c28 (by decide)
end
section
/-! ===== the steps that are written (class) ===== -/
def tS (E : Nat → va_E) : Nat := (xi (E 2) 5).toNatClampNeg
def sT (E : Nat → va_E) : Nat → Int := fun j => (xi (E 22) j).toInt
def SZ (E E' : Nat → va_E) : Prop := tS E' = tS E ∧ sT E' = sT E
theorem SZ.rf {E : Nat → va_E} : SZ E E := ⟨rfl, rfl⟩
theorem SZ.tr {E E1 E2 : Nat → va_E} (h : SZ E E1) (h1 : SZ E1 E2) : SZ E E2 := ⟨h1.1.trans h.1, h1.2.trans h.2⟩
theorem SZ.kp {w : Nat → Nat → Bool} {E E' : Nat → va_E} (hk : Kp w E E') (h1 : ∀ j, w 22 j = false) (h2 : w 2 5 = false) : SZ E E' := ⟨congrArg Int32.toNatClampNeg (congrArg vi (hk 2 5 h2)), funext (fun j => congrArg Int32.toInt (congrArg vi (hk 22 j (h1 j))))⟩
theorem SZ.pw {o j : Nat} {v : Value} {E E' : Nat → va_E} (p : Pw E E' o j v) (h1 : ¬ o = 22) (h2 : o = 2 → ¬ j = 5) : SZ E E' := ⟨congrArg Int32.toNatClampNeg (congrArg vi (p.2 2 5 (fun q => h2 q.1.symm q.2.symm))), funext (fun i => congrArg Int32.toInt (congrArg vi (p.2 22 i (fun q => h1 q.1.symm))))⟩
/-- code written behind, where there is room -/
def CD (c : List Int) (E E' : Nat → va_E) : Prop := tS E + c.length ≤ 200 → Fed (sT E) (sT E') (tS E) (tS E') c
theorem CD.tr {c1 c2 : List Int} {E E1 E2 : Nat → va_E} (h : CD c1 E E1) (h2 : CD c2 E1 E2) : CD (c1 ++ c2) E E2 := fun hb => by
  rw [List.length_append] at hb
  have a := h (by omega)
  have e := a.1
  exact a.tr (h2 (by omega))
theorem CD.sz {c : List Int} {E E1 E2 : Nat → va_E} (h : CD c E E1) (h2 : SZ E1 E2) : CD c E E2 := fun hb => by
  rw [h2.1, h2.2]
  exact h hb
theorem CD.sz0 {c : List Int} {E E1 E2 : Nat → va_E} (h : SZ E E1) (h2 : CD c E1 E2) : CD c E E2 := fun hb => by
  have a := h2 (by rw [h.1]; exact hb)
  rw [h.1, h.2] at a
  exact a
theorem CD.nil {E E' : Nat → va_E} (h : SZ E E') : CD [] E E' := fun _ => by
  rw [h.1, h.2]
  exact Fed.rf
/-- what a reader that comes through has written -/
def RdV (P : (Nat → Int) → Nat → Nat → PR (List Int)) (E E' : Nat → va_E) : Prop := tF E = -1 → tF E' = -1 → ∃ c, P (tT E) (tN E) (tA E) = .good (tA E') c ∧ CD c E E'
theorem RdC.f0 {α : Type} {P : (Nat → Int) → Nat → Nat → PR α} {E E' : Nat → va_E} (h : RdC P E E') (hf : tF E' = -1) : tF E = -1 := by
  by_cases q : tF E = -1
  · exact q
  · exact absurd ((h.2.1 q).symm.trans hf) q
theorem AtP.f0 {E E' : Nat → va_E} (h : AtP E E') (hf : tF E' = -1) : tF E = -1 := h.2.1.symm.trans hf
theorem RdF.nf {E E' : Nat → va_E} (h : RdF E E') (hf : tF E' = -1) : False := by
  by_cases q : tF E = -1
  · have := h.2.2 q
    omega
  · exact q ((h.2.1 q).symm.trans hf)
theorem good_c {α : Type} {a a2 : Nat} {c c2 : α} (h : PR.good a c = PR.good a2 c2) : c = c2 := congrArg Prod.snd (Sum.inr.inj h)
theorem clo_c {α : Type} {t : Nat → Int} {n : Nat} {s : Int} {a a2 : Nat} {c c2 : α} (h : clo t n s a c = .good a2 c2) : c = c2 ∧ pk t n a = s ∧ a2 = sk t n a + 1 := by
  unfold clo at h
  by_cases e : pk t n a = s
  · rw [if_pos e] at h
    exact ⟨good_c h, e, (good_inj h).symm⟩
  · rw [if_neg e] at h
    exact (bad_no h).elim
section RV
variable {d : Nat} {E E1 E2 E3 E4 E5 : Nat → va_E} {r : Int32}
theorem atV_num (hN : RdN E E1 r) (z : SZ E E1) (h : dgt r.toInt) (hn : RdC (fun t n a => numS false t n a) E1 E2) (hv : RdV (fun t n a => numS false t n a) E1 E2) : RdV (fun t n a => atomS false t n d a) E E2 := fun q q2 => by
  have f1 := hn.f0 q2
  obtain ⟨r1, r2⟩ := hN.2.2.2 q
  obtain ⟨c, hc, hd⟩ := hv f1 q2
  refine ⟨c, ?_, CD.sz0 z hd⟩
  show atomS false (tT E) (tN E) d (tA E) = _
  unfold atomS atomO
  rw [if_pos (by rw [← r1]; exact h)]
  have hc' : numS false (tT E1) (tN E1) (tA E1) = .good (tA E2) c := hc
  rw [hN.1.1, hN.1.2, r2] at hc'
  exact hc'
theorem atV_let (hN : RdN E E1 r) (z : SZ E E1) (h : ¬ dgt r.toInt) (h1 : isLet r.toInt = true) (ha : AtP E1 E2) (z2 : SZ E1 E2) (hk : KS E2 E3) {x : Int} (hx : x = -1 - (lets.idxOf r.toInt : Int)) (hd : CD [x] E2 E3) : RdV (fun t n a => atomS false t n d a) E E3 := fun q q2 => by
  obtain ⟨r1, r2⟩ := hN.2.2.2 q
  refine ⟨[x], ?_, CD.sz0 (z.tr z2) hd⟩
  show atomS false (tT E) (tN E) d (tA E) = _
  unfold atomS atomO
  rw [if_neg (by rw [← r1]; exact h), if_pos (by rw [← r1]; exact h1), ← r1, ← hx, hk.2.2, ha.2.2, r2]
theorem atV_in {k : Nat} (hN : RdN E E1 r) (z : SZ E E1) (h : r.toInt = 91) (ha : AtP E1 E2) (z2 : SZ E1 E2) (hs : RdC (fun t n a => sumS false t n k a) E2 E3) (hv : RdV (fun t n a => sumS false t n k a) E2 E3) (ht : RdC (fun t n a => clo t n 93 a ()) E3 E4) (z4 : SZ E3 E4) (hd : d = k + 1) : RdV (fun t n a => atomS false t n d a) E E4 := fun q q2 => by
  have f3 := ht.f0 q2
  have f2 := hs.f0 f3
  obtain ⟨r1, r2⟩ := hN.2.2.2 q
  obtain ⟨c, hc, hc2⟩ := hv f2 f3
  refine ⟨c, ?_, CD.sz0 (z.tr z2) (hc2.sz z4)⟩
  obtain ⟨u, hu⟩ := (ht.2.2 f3).f q2
  obtain ⟨-, u2, u3⟩ := clo_c hu
  have hc' : sumS false (tT E2) (tN E2) k (tA E2) = .good (tA E3) c := hc
  rw [ha.1.1, ha.1.2, hN.1.1, hN.1.2, ha.2.2, r2] at hc'
  rw [hs.1.1, hs.1.2, ha.1.1, ha.1.2, hN.1.1, hN.1.2] at u2 u3
  show atomS false (tT E) (tN E) d (tA E) = _
  unfold atomS atomO
  rw [← r1, h, if_neg in91.1, if_neg in91.2, if_pos rfl, hd]
  show (sumS false (tT E) (tN E) k (sk (tT E) (tN E) (tA E) + 1)).andThen (clo (tT E) (tN E) 93) = _
  rw [hc']
  show clo (tT E) (tN E) 93 (tA E3) c = _
  unfold clo
  rw [if_pos u2, u3]
theorem RdV.no {P : (Nat → Int) → Nat → Nat → PR (List Int)} (hf : RdF E1 E2) : RdV P E E2 := fun _ q2 => (hf.nf q2).elim
/-- loops -/
def LpV (P : (Nat → Int) → Nat → Nat → PR (List Int)) (K : (Nat → Int) → Nat → Nat → List Int → PR (List Int)) (E E1 : Nat → va_E) : Prop := tF E = -1 → tF E1 = -1 → ∃ c, P (tT E) (tN E) (tA E) = K (tT E) (tN E) (tA E1) c ∧ CD c E E1
theorem LpV.start {P P0 : (Nat → Int) → Nat → Nat → PR (List Int)} {K : (Nat → Int) → Nat → Nat → List Int → PR (List Int)} (h : RdV P0 E E1) (hP : ∀ t n a, P t n a = (P0 t n a).andThen (K t n)) : LpV P K E E1 := fun q q1 => by
  obtain ⟨c, hc, hd⟩ := h q q1
  exact ⟨c, by rw [hP, hc]; rfl, hd⟩
theorem LpV.step {P P0 : (Nat → Int) → Nat → Nat → PR (List Int)} {K : (Nat → Int) → Nat → Nat → List Int → PR (List Int)} {op : Int → Bool} {i : Int} {x : Int} (hl : Lp P K i E E1) (hv : LpV P K E E1) (hN : RdN E1 E2 r) (z : SZ E1 E2) (ho : op r.toInt = true) (ha : AtP E2 E3) (z3 : SZ E2 E3) (hr : RdC P0 E3 E4) (hw : RdV P0 E3 E4) (hk : KS E4 E5) (hx : x = -100 - r.toInt) (hd : CD [x] E4 E5) (hK : ∀ t n a c, op (pk t n a) = true → K t n a c = (P0 t n (sk t n a + 1)).andThen (fun a2 c2 => K t n a2 (jb c (pk t n a) c2))) : LpV P K E E5 := fun q q5 => by
  have f4 : tF E4 = -1 := hk.2.1.symm.trans q5
  have f3 := hr.f0 f4
  have f2 := ha.f0 f3
  have f1 : tF E1 = -1 := hN.2.1.symm.trans f2
  obtain ⟨r1, r2⟩ := hN.2.2.2 f1
  obtain ⟨c, hc, hcd⟩ := hv q f1
  obtain ⟨c2, hc2, hcd2⟩ := hw f3 f4
  rw [ha.1.1, ha.1.2, hN.1.1, hN.1.2, ha.2.2, r2, hl.1.1, hl.1.2] at hc2
  rw [r1, hl.1.1, hl.1.2] at ho
  refine ⟨jb c (pk (tT E) (tN E) (tA E1)) c2, ?_, ?_⟩
  · rw [hc, hK _ _ _ _ ho, hc2, hk.2.2]
    rfl
  · have e : x = -100 - pk (tT E) (tN E) (tA E1) := by rw [hx, r1, hl.1.1, hl.1.2]
    show CD (c ++ c2 ++ [-100 - pk (tT E) (tN E) (tA E1)]) E E5
    rw [← e]
    exact (hcd.tr (CD.sz0 (z.tr z3) hcd2)).tr hd
theorem LpV.exit {P : (Nat → Int) → Nat → Nat → PR (List Int)} {K : (Nat → Int) → Nat → Nat → List Int → PR (List Int)} {op : Int → Bool} {i : Int} (hl : Lp P K i E E1) (hv : LpV P K E E1) (hN : RdN E1 E2 r) (z : SZ E1 E2) (ho : ¬ op r.toInt = true) (hK : ∀ t n a c, ¬ op (pk t n a) = true → K t n a c = .good (sk t n a) c) : RdV P E E2 := fun q q2 => by
  have f1 : tF E1 = -1 := hN.2.1.symm.trans q2
  obtain ⟨r1, r2⟩ := hN.2.2.2 f1
  obtain ⟨c, hc, hd⟩ := hv q f1
  rw [r1, hl.1.1, hl.1.2] at ho
  exact ⟨c, by rw [hc, hK _ _ _ _ ho, r2, hl.1.1, hl.1.2], hd.sz z⟩
theorem LpV.fin {P : (Nat → Int) → Nat → Nat → PR (List Int)} {K : (Nat → Int) → Nat → Nat → List Int → PR (List Int)} {op : Int → Bool} {i : Int} (hl : Lp P K i E E1) (hv : LpV P K E E1) (hn : (tN E : Int) ≤ i) (hop : op (-1) = false) (hK : ∀ t n a c, ¬ op (pk t n a) = true → K t n a c = .good (sk t n a) c) : RdV P E E1 := fun q q1 => by
  obtain ⟨h8, _⟩ := (hl.2.2 q).2 q1
  obtain ⟨c, hc, hd⟩ := hv q q1
  have h9 : tN E ≤ tA E1 := by omega
  exact ⟨c, by rw [hc, hK _ _ _ _ (by rw [pk_ge h9, hop]; decide), sk_0 (by omega)], hd⟩
theorem cmV (hN : RdN E E1 r) (z : SZ E E1) (h : isCmp r.toInt = true) (ha : AtP E1 E2) (z2 : SZ E1 E2) (hs : RdC (fun t n a => sumS false t n d a) E2 E3) (hv : RdV (fun t n a => sumS false t n d a) E2 E3) (hk : KS E3 E4) {x : Int} (hx : x = -100 - r.toInt) (hd : CD [x] E3 E4) : RdV (fun t n a => cmpS false t n d a) E E4 := fun q q4 => by
  have f3 : tF E3 = -1 := hk.2.1.symm.trans q4
  have f2 := hs.f0 f3
  obtain ⟨r1, r2⟩ := hN.2.2.2 q
  obtain ⟨c, hc, hcd⟩ := hv f2 f3
  have hc' : sumS false (tT E2) (tN E2) d (tA E2) = .good (tA E3) c := hc
  rw [ha.1.1, ha.1.2, hN.1.1, hN.1.2, ha.2.2, r2] at hc'
  refine ⟨c ++ [x], ?_, (CD.sz0 (z.tr z2) hcd).tr hd⟩
  show cmpS false (tT E) (tN E) d (tA E) = _
  unfold cmpS
  rw [if_pos (by rw [← r1]; exact h), hc', ← r1, ← hx, hk.2.2]
  rfl
end RV
/-! ===== the stack that runs the code ===== -/
def cl (n : Int) : Int32 := Int32.ofInt (max (-10000000) (min 10000000 n))
def jn (s : Int) (a b : Int32) : Int32 := if s = 43 then cl (a.toInt + b.toInt) else if s = 45 then cl (a.toInt - b.toInt) else if s = 42 then cl (a.toInt * b.toInt) else if s = 47 then (if b = 0 then 0 else cl (a.toInt.tdiv b.toInt)) else if s = 61 then (if a = b then 1 else 0) else if s = 60 then (if a.toInt < b.toInt then 1 else 0) else if s = 62 then (if b.toInt < a.toInt then 1 else 0) else if s = 38 then a &&& b else a ||| b
def x1 (L : Nat → Int32) (c : Int) (st : List Int32) : List Int32 := if c ≤ -100 then (if -100 - c = 33 then (match st with
  | a :: r => (if a = 0 then 1 else 0) :: r
  | [] => []) else (match st with
  | b :: a :: r => jn (-100 - c) a b :: r
  | r => r)) else (if 0 ≤ c then Int32.ofInt c else L (-1 - c).toNat) :: st
def X (L : Nat → Int32) : List Int → List Int32 → List Int32
  | [], st => st
  | c :: cs, st => X L cs (x1 L c st)
theorem X_app (L : Nat → Int32) (c2 : List Int) : ∀ (c1 : List Int) (st : List Int32), X L (c1 ++ c2) st = X L c2 (X L c1 st) := by
  intro c1
  induction c1 with
  | nil => exact fun st => rfl
  | cons c cs ih => exact fun st => ih _
/-- code of one number more -/
def Vl (L : Nat → Int32) (c : List Int) (v : Int32) : Prop := ∀ st, X L c st = v :: st
theorem Vl.bin {L : Nat → Int32} {c c2 : List Int} {v w : Int32} {s : Int} (h : Vl L c v) (h2 : Vl L c2 w) (hs : 0 ≤ s) (h33 : ¬ s = 33) : Vl L (jb c s c2) (jn s v w) := fun st => by
  show X L (c ++ c2 ++ [-100 - s]) st = _
  rw [X_app, X_app, h, h2]
  show x1 L (-100 - s) (w :: v :: st) = _
  unfold x1
  rw [if_pos (by omega), if_neg (by omega), show -100 - (-100 - s) = s by omega]
theorem Vl.not {L : Nat → Int32} {c : List Int} {v : Int32} (h : Vl L c v) : Vl L (c ++ [-133]) (if v = 0 then 1 else 0) := fun st => by
  rw [X_app, h]
  show x1 L (-133) (v :: st) = _
  unfold x1
  rw [if_pos (by decide), if_pos (by decide)]
theorem Vl.num {L : Nat → Int32} {n : Int} (h : 0 ≤ n) : Vl L [n] (Int32.ofInt n) := fun st => by
  show x1 L n st = _
  unfold x1
  rw [if_neg (by omega), if_pos h]
theorem Vl.let {L : Nat → Int32} {p : Nat} (h : p < 99) : Vl L [-1 - (p : Int)] (L p) := fun st => by
  show x1 L (-1 - (p : Int)) st = _
  unfold x1
  rw [if_neg (by omega), if_neg (by omega), show (-1 - (-1 - (p : Int))).toNat = p by omega]
theorem letx {r y z x : Int32} (h : 0 ≤ (ixF r tLET 0).toInt) (f : z = ixF y tLET 0) (e : y = (r.toUInt32 % 65536).toInt32) (hr : 0 ≤ r.toInt ∧ r.toInt ≤ 255) (hx : x.toInt = -1 - z.toInt) : x.toInt = -1 - (lets.idxOf r.toInt : Int) := by
  have hm := ixF_mem tLET 0 (by decide) h
  have h1 := (show ∀ b ∈ tLET, (ixF b tLET 0).toInt = (lets.idxOf b.toInt : Int) by decide) r hm
  rw [hx, f, e, i2c_s hr, h1]
theorem cd_e {E E' : Nat → va_E} {x y : Int} (h : CD [x] E E') (e : x = y) : CD [y] E E' := by
  rw [← e]
  exact h
theorem sgn_e {α : Type} {P : (Nat → Int) → Nat → Nat → PR α} {K : (Nat → Int) → Nat → Nat → α → PR α} {i : Int} {E E1 E2 : Nat → va_E} {r y : Int32} {x : Int} (hN : RdN E1 E2 r) (h0 : 0 ≤ r.toInt) (hl : Lp P K i E E1) (hb : tT E (tA E2) = y.toInt) (hx : x = -100 - y.toInt) : x = -100 - r.toInt := by
  obtain ⟨r1, r2⟩ := hN.2.2.2 (hN.nf h0)
  have h2 := pkt_lt (t := tT E1) (n := tN E1) (a := tA E1) (by omega)
  have h3 : tT E (tA E2) = r.toInt := by
    rw [r2, r1, ← h2.2, hl.1.1]
  omega
section RV2
variable {d : Nat} {E E1 E2 E3 E4 E5 : Nat → va_E} {r : Int32} {w : Int32}
theorem unV_b (h : ¬ w.toInt = 0) (hc : RdV (fun t n a => cmpS false t n d a) E E1) : RdV (unX w d) E E1 := fun q q1 => by
  obtain ⟨c, hc1, hd⟩ := hc q q1
  refine ⟨c, ?_, hd⟩
  unfold unX
  rw [if_neg h]
  exact hc1
theorem unV_n {k : Nat} (hw : w.toInt = 0) (hN : RdN E E1 r) (z : SZ E E1) (h : r.toInt = 33) (ha : AtP E1 E2) (z2 : SZ E1 E2) (hu : RdC (unX 0 k) E2 E3) (hv : RdV (unX 0 k) E2 E3) (hk : KS E3 E4) (hcd : CD [-133] E3 E4) (hd : d = k + 1) : RdV (unX w d) E E4 := fun q q4 => by
  have f3 : tF E3 = -1 := hk.2.1.symm.trans q4
  have f2 := hu.f0 f3
  obtain ⟨r1, r2⟩ := hN.2.2.2 q
  obtain ⟨c, hc, hc2⟩ := hv f2 f3
  have hc' : unitS false (tT E2) (tN E2) k (tA E2) = .good (tA E3) c := hc
  rw [ha.1.1, ha.1.2, hN.1.1, hN.1.2, ha.2.2, r2] at hc'
  refine ⟨c ++ [-133], ?_, (CD.sz0 (z.tr z2) hc2).tr hcd⟩
  unfold unX
  rw [if_pos hw, hd]
  show unitO false _ _ (k + 1) _ _ _ = _
  unfold unitO
  rw [← r1, h, if_pos rfl]
  show (unitS false (tT E) (tN E) k (sk (tT E) (tN E) (tA E) + 1)).andThen _ = _
  rw [hc', hk.2.2]
  rfl
theorem unV_p {k : Nat} (hw : w.toInt = 0) (hN : RdN E E1 r) (z : SZ E E1) (h : r.toInt = 40) (ha : AtP E1 E2) (z2 : SZ E1 E2) (hu : RdC (coX 0 k) E2 E3) (hv : RdV (coX 0 k) E2 E3) (ht : RdC (fun t n a => clo t n 41 a ()) E3 E4) (z4 : SZ E3 E4) (hd : d = k + 1) : RdV (unX w d) E E4 := fun q q4 => by
  have f3 := ht.f0 q4
  have f2 := hu.f0 f3
  obtain ⟨r1, r2⟩ := hN.2.2.2 q
  obtain ⟨c, hc, hc2⟩ := hv f2 f3
  obtain ⟨u, hu2⟩ := (ht.2.2 f3).f q4
  obtain ⟨-, u2, u3⟩ := clo_c hu2
  have hc' : condS false (tT E2) (tN E2) k (tA E2) = .good (tA E3) c := hc
  rw [ha.1.1, ha.1.2, hN.1.1, hN.1.2, ha.2.2, r2] at hc'
  rw [hu.1.1, hu.1.2, ha.1.1, ha.1.2, hN.1.1, hN.1.2] at u2 u3
  refine ⟨c, ?_, CD.sz0 (z.tr z2) (hc2.sz z4)⟩
  unfold unX
  rw [if_pos hw, hd]
  show unitO false _ _ (k + 1) _ _ _ = _
  unfold unitO
  rw [← r1, h, if_neg (by decide), if_pos rfl]
  show (condS false (tT E) (tN E) k (sk (tT E) (tN E) (tA E) + 1)).andThen (clo (tT E) (tN E) 41) = _
  rw [hc']
  show clo (tT E) (tN E) 41 (tA E3) c = _
  unfold clo
  rw [if_pos u2, u3]
theorem unV_c (hw : w.toInt = 0) (hN : RdN E E1 r) (z : SZ E E1) (h : ¬ r.toInt = 33) (h1 : ¬ r.toInt = 40) (hs : RdC (fun t n a => sumS false t n d a) E1 E2) (hv : RdV (fun t n a => sumS false t n d a) E1 E2) (hc : RdC (fun t n a => cmpS false t n d a) E2 E3) (hcv : RdV (fun t n a => cmpS false t n d a) E2 E3) : RdV (unX w d) E E3 := fun q q3 => by
  have f2 := hc.f0 q3
  have f1 := hs.f0 f2
  obtain ⟨r1, r2⟩ := hN.2.2.2 q
  obtain ⟨c, hc1, hd1⟩ := hv f1 f2
  obtain ⟨c2, hc2, hd2⟩ := hcv f2 q3
  have h8 : sumS false (tT E1) (tN E1) d (tA E1) = .good (tA E2) c := hc1
  have h9 : cmpS false (tT E2) (tN E2) d (tA E2) = .good (tA E3) c2 := hc2
  rw [hN.1.1, hN.1.2, r2] at h8
  rw [hs.1.1, hs.1.2, hN.1.1, hN.1.2] at h9
  refine ⟨c ++ c2, ?_, (CD.sz0 z hd1).tr hd2⟩
  unfold unX
  rw [if_pos hw]
  have key : unitS false (tT E) (tN E) d (tA E) = (sumS false (tT E) (tN E) d (sk (tT E) (tN E) (tA E))).andThen (fun a1 c1 => (cmpS false (tT E) (tN E) d a1).andThen (fun a2 c2 => .good a2 (c1 ++ c2))) := by
    cases d with
    | zero =>
      show unitO false _ _ 0 _ _ _ = _
      unfold unitO
      rw [← r1, if_neg h, if_neg h1]
    | succ d =>
      show unitO false _ _ (d + 1) _ _ _ = _
      unfold unitO
      rw [← r1, if_neg h, if_neg h1]
  rw [key, h8]
  show (cmpS false (tT E) (tN E) d (tA E2)).andThen _ = _
  rw [h9]
  rfl
end RV2
theorem CD.push {E E1 E2 : Nat → va_E} {x y y' : Int32} (p : Pw E E1 22 y.toNatClampNeg (.int x)) (q : Pw E1 E2 2 5 (.int y')) (hy : xi (E 2) 5 = y) (t : y'.toInt = y.toInt + 1) (h0 : 0 ≤ y.toInt) : CD [x.toInt] E E2 := fun _ => by
  refine Fed.one ?_ (fun j hj => ?_) ?_
  · show (xi (E2 2) 5).toNatClampNeg = (xi (E 2) 5).toNatClampNeg + 1
    rw [show xi (E2 2) 5 = y' from vi_e q.1, hy, tn_, tn_]
    omega
  · show (xi (E2 22) j).toInt = (xi (E 22) j).toInt
    have hj' : ¬ j = (xi (E 2) 5).toNatClampNeg := hj
    rw [hy] at hj'
    rw [show xi (E2 22) j = xi (E1 22) j from congrArg vi (q.2 22 j (by omega)), show xi (E1 22) j = xi (E 22) j from congrArg vi (p.2 22 j (by omega))]
  · show (xi (E2 22) (xi (E 2) 5).toNatClampNeg).toInt = x.toInt
    rw [hy, show xi (E2 22) y.toNatClampNeg = xi (E1 22) y.toNatClampNeg from congrArg vi (q.2 22 _ (by omega)), show xi (E1 22) y.toNatClampNeg = x from vi_e p.1]
theorem CD.full {E : Nat → va_E} {x : Int} (h : 200 ≤ (xi (E 2) 5).toInt) : CD [x] E E := fun hb => by
  have h1 : tS E = (xi (E 2) 5).toInt.toNat := rfl
  simp only [List.length_singleton] at hb
  omega
/-- numbers with their worth -/
def p10 (d : Nat) : Int := [1, 10, 100, 1000, 10000, 100000].getD d 0
def NumW (d v : Int32) (E E1 : Nat → va_E) : Prop := numF (tT E) (tN E) 5 (tA E) 0 = numF (tT E) (tN E) (5 - d.toNatClampNeg) (tA E1) v.toInt ∧ 0 ≤ v.toInt ∧ v.toInt < p10 d.toNatClampNeg
theorem NumW.rf {E : Nat → va_E} : NumW 0 0 E E := ⟨rfl, by decide, by decide⟩
theorem p10_s {d : Nat} (h : d < 5) : p10 (d + 1) = 10 * p10 d := by
  rcases (show d = 0 ∨ d = 1 ∨ d = 2 ∨ d = 3 ∨ d = 4 by omega) with rfl | rfl | rfl | rfl | rfl <;> rfl
theorem p10_le {d : Nat} (h : d < 5) : p10 d ≤ 10000 := by
  rcases (show d = 0 ∨ d = 1 ∨ d = 2 ∨ d = 3 ∨ d = 4 by omega) with rfl | rfl | rfl | rfl | rfl <;> decide
theorem numv {v b y1 y2 y3 : Int32} (hv : 0 ≤ v.toInt ∧ v.toInt ≤ 9999) (hb : 48 ≤ b.toInt ∧ b.toInt ≤ 57) (e1 : y1 = v * 10) (e2 : y2 = y1 + b) (e3 : y3 = y2 - 48) : y3.toInt = 10 * v.toInt + (b.toInt - 48) := by
  have l10 : (10 : Int32).toInt = 10 := rfl
  have l48 : (48 : Int32).toInt = 48 := rfl
  obtain ⟨t1, i1⟩ := ti_mul (a := 0) (b := 9999) (c := 10) (d := 10) (e := 0) (f := 99990) hv (by decide) e1 (by decide)
  obtain ⟨t2, i2⟩ := ti_add (a := 0) (b := 99990) (c := 48) (d := 57) (e := 48) (f := 100047) i1 hb e2 (by decide)
  obtain ⟨t3, i3⟩ := ti_sub (a := 48) (b := 100047) (c := 48) (d := 48) (e := 0) (f := 99999) i2 (by decide) e3 (by decide)
  rw [l10] at t1
  rw [l48] at t3
  omega
theorem NumW.step {d d' v b y1 y2 y3 : Int32} {E E1 E2 : Nat → va_E} (h : NumW d v E E1) (ha : AtP E1 E2) (h1 : tA E1 < tN E) (hb : tT E (tA E1) = b.toInt) (h2 : dgt b.toInt) (hd : 0 ≤ d.toInt ∧ d.toInt < 5) (t : d'.toInt = d.toInt + 1) (e1 : y1 = v * 10) (e2 : y2 = y1 + b) (e3 : y3 = y2 - 48) : NumW d' y3 E E2 := by
  obtain ⟨a1, a2, a3⟩ := h
  have hd5 : d.toNatClampNeg < 5 := by
    rw [tn_]
    omega
  have hd' : d'.toNatClampNeg = d.toNatClampNeg + 1 := by
    rw [tn_, tn_]
    omega
  have hp := p10_le hd5
  have hs := p10_s hd5
  have hv := numv (v := v) (b := b) ⟨a2, by omega⟩ h2 e1 e2 e3
  unfold dgt at h2
  refine ⟨?_, by omega, by rw [hd', hs]; omega⟩
  rw [a1, ha.2.2, show 5 - d.toNatClampNeg = (5 - d'.toNatClampNeg) + 1 by omega]
  rw [show numF (tT E) (tN E) ((5 - d'.toNatClampNeg) + 1) (tA E1) v.toInt = numF (tT E) (tN E) (5 - d'.toNatClampNeg) (tA E1 + 1) (10 * v.toInt + (tT E (tA E1) - 48)) from if_pos ⟨h1, by rw [hb]; exact h2⟩, hb, hv]
theorem numF_e {t : Nat → Int} {n f a : Nat} {v : Int} (h : f = 0 ∨ ¬ (a < n ∧ dgt (t a))) : numF t n f a v = (a, v) := by
  cases f with
  | zero => rfl
  | succ f => exact if_neg (h.elim (fun q => absurd q (by omega)) id)
theorem NumW.out {d v : Int32} {E E1 E2 : Nat → va_E} (h : NumW d v E E1) (z : SZ E E1) (hk : KS E1 E2) (hd : CD [v.toInt] E1 E2) (hx : 5 ≤ d.toInt ∨ ¬ (tA E1 < tN E ∧ dgt (tT E (tA E1)))) : RdV (fun t n a => numS false t n a) E E2 := fun _ _ => by
  refine ⟨[v.toInt], ?_, CD.sz0 z hd⟩
  show numS false (tT E) (tN E) (tA E) = _
  rw [show numS false (tT E) (tN E) (tA E) = .good (numF (tT E) (tN E) 5 (tA E) 0).1 [(numF (tT E) (tN E) 5 (tA E) 0).2] from if_neg (fun q9 => absurd q9.1 (by decide)), h.1, numF_e (hx.imp (fun q9 => by rw [tn_]; omega) id), hk.2.2]
end

