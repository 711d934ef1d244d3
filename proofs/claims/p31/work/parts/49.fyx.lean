

def v_worthInX : List Cond := .code yX0_worthIn cX0_worthIn 3 (some .int) :: vA
abbrev rm_worthInX : Room := { frames := 3, cells := 0, slots := 0, locals := 120 }
def w_worthInX : Nat → Nat → Bool := wl [20] []
set_option maxHeartbeats 4000000 in
set_option maxRecDepth 100000 in
theorem q_worthInX (l : Launch) (dC : Nat → ClassId) (dI : Nat → Nat → Nat) (cT : Nat → ClassId) (cf : Nat → Nat) (hC : CF cf) (ad : Nat → Nat) (E : Nat → va_E) (sz : Nat) (a0 : Int32) (a1 : Int32) (hI0 : IXL cT (shC cf) (spC cf) (LC cf) ad E) (hh0 : RulAll cf E) (hh1 : ∀ p9, B7 (cL E p9)) (hh2 : -1 ≤ a0.toInt ∧ a0.toInt ≤ 15) (hh3 : (a0.toInt = -1 ∨ a0.toInt < ((cf 1 : Nat) : Int))) (hh4 : 0 ≤ a1.toInt ∧ a1.toInt ≤ 127) : Met l yX0_worthIn v_worthInX rm_worthInX (va_Pc [.ref (ad 1), .int a0, .int a1] (HWL dC dI (TYC cT) cf ad E sz)) (va_Qi (S := Nat → va_E) (fun r u => IXL cT (shC cf) (spC cf) (LC cf) ad u ∧ Kp w_worthInX E u ∧ ((r = wV cf E a1.toInt a0 (cL E)))) (HBL dC dI (LC cf) ad) (va_A (WL (LC cf) ad E) sz)) 0 0 (va_A (WL (LC cf) ad E) sz) := by
  obtain ⟨⟨hc0, hc1, hc2, hc3, hc4, hc5⟩, hcr⟩ := id hC
  refine Met.ofW (cc := cX0_worthIn) (maxL := 3) (ret := (some .int)) (by decide) rfl ?_
  intro p e s m args below meth c s₁ B hml hv
  obtain ⟨hargs, hsz, hP, hK, hD0, hEV⟩ := hv
  subst hsz
  have hx := B.exec
  have hb := B.bytes
  have hr := B.returns
  have hts := atoms_spec (ws := v_worthInX) B.pre
  have hown : s.vm.findClass RX0 = some m.cls := findClass_of_methodNamed B.named
  have hlocks := B.notSynchronized
  have hinX0 : ∀ w ∈ u_ws RX0 TX0 11, w ∈ v_worthInX := fun w h => vA_in _ w (in_X0 w h)
  generalize hAe : va_A (WL (LC cf) ad E) s.heap.size = A at hEV ⊢
  have hA : ∀ q : Nat, s.heap.size ≤ q → A q := fun q h => by rw [← hAe]; exact Or.inr h
  have hD : va_D A (WL (LC cf) ad E) := by rw [← hAe]; exact hD0.self
  have hS : va_S A s.heap s.heap [] := va_S.rf
  have hI := hI0
  have hKp : Kp w_worthInX E E := Kp.rf
  have hl := lv_entry ([.ref (ad 1), .int a0, .int a1]) (n := 3) (Nat.le_of_ble_eq_true rfl)
  obtain ⟨Q, hQ⟩ : ∃ Q, Q = MQ below (va_Qi (S := Nat → va_E) (fun r u => IXL cT (shC cf) (spC cf) (LC cf) ad u ∧ Kp w_worthInX E u ∧ ((r = wV cf E a1.toInt a0 (cL E)))) (HBL dC dI (LC cf) ad) (A)) args s 0 0 (A) := ⟨_, rfl⟩
  rw [← hQ, show entryFrame m args 3 = _ from (congrArg (fun z => entryFrame m z 3) hargs).trans (lg_entry_eq _ _ _)]
  generalize (lg_sl ([.ref (ad 1), .int a0, .int a1]) ++ List.replicate (3 - (lg_sl ([.ref (ad 1), .int a0, .int a1])).length) Slot.unset).toArray = ls at hl ⊢
  have hl : lv_has ls 3 [(0, .ref (ad 1)), (1, .int a0), (2, .int a1)] := hl
  have z0z : (0 : Int32).toInt = 0 := rfl
  refine lv_iload_n hx hb dX0_worthIn_0 rfl (lv_at hl 1 rfl) ?_
  refine lv_iconst (v := -1) hx hb dX0_worthIn_1 (by decide) ?_
  refine lv_icmp_ne (tgt := 9) hx hb dX0_worthIn_2 (by decide) (fun c1 => ?_) (fun c1 => ?_)
  · --2 taken
    have t2 : ¬ a0.toInt = -1 := ti_ne c1
    have i3 : 0 ≤ a0.toInt ∧ a0.toInt ≤ 15 := iv_ne_l t2 hh2 (il_ (-1))
    refine lv_aload_n hx hb dX0_worthIn_9 rfl (lv_at hl 0 rfl) ?_
    refine th_getL (ci := 1) (C := RX0) (T := TX0) (N := 11) (v := .ref (ad 8)) hx hb hts hinX0 hown hK hP hI 1 (mF 1 rfl) rfl rfl 4 (Nat.le_of_ble_eq_true rfl) (hts _ (vA_in _ _ (in_5 _ (zs16 (zs4 (zs4 (zs4 (zs1 (zs1 (zs1 (zs0))))))))))) (fun _ h9 => h9) (hI.fr 1 (mF 1 rfl) rfl (Nat.le_of_ble_eq_true rfl) 8 rfl) dX0_worthIn_10 ?_
    refine lv_iload_n hx hb dX0_worthIn_13 rfl (lv_at hl 1 rfl) ?_
    refine th_rrL (va_runV (As := [.int a0]) (rest := []) ⟨hx, hb, hml, hown, hts⟩ (q_get1 l dC dI cT cf hC ad E s.heap.size a0 hI (by omega)) (cwV 1 hts (gi_V (in_4 _ (zs16 (zs16 (zs4 (zs1 (zs0)))))) (in_4 _ (zs16 (zs16 (zs4 (zs1 (zs1 (zs0))))))) (in_4 _ (zs16 (zs16 (zs4 (zs1 (zs1 (zs1 (zs0)))))))) (in_3 _ (zs16 (zs1 (zs1 (zs0))))) (in_3 _ (zs16 (zs16 (zs4 (zs1 (zs1 (zs1 (zs0))))))))) rfl rfl rfl ⟨rfl, hz_yJx4a65c_get_915e3_1⟩ ⟨Nat.le_of_ble_eq_true rfl, Nat.le_of_ble_eq_true rfl⟩) ⟨HWL_bl, va_recv hK hP (ci := 0) (q0 := posL 8 (LC cf)) rfl (hI.ob 8 (mF 8 rfl) rfl), (HWL_wi hP hK (WL_D hD) hS hA hEV)⟩ rfl rfl hl.1 rfl (lv_room (Nat.le_of_ble_eq_true rfl)) dX0_worthIn_14 ⟨Nat.le_of_ble_eq_true rfl, Nat.le_of_ble_eq_true rfl⟩) hS hP (fun r4 H locs hw hP hS => ?_)
    obtain rfl := hw
    have lv5 : a0.toNatClampNeg < cf 1 := by rw [tn_]; omega
    refine va_castS (cC := dC 8) hx hb hown (hts _ (vA_in _ _ (in_6 _ (zs16 (zs4 (zs4 (zs1 (zs1 (zs0))))))))) (hK.1 8 _ rfl).2 (va_recv hK hP (ci := 8) (q0 := posL (64 * (a0.toNatClampNeg + 1) + 1) (LC cf)) rfl (hI.ob (64 * (a0.toNatClampNeg + 1) + 1) (mP 1 a0.toNatClampNeg (by decide) lv5 (kl_le hC 1 (by decide))) (shC_p 1 a0.toNatClampNeg (by decide)))) dX0_worthIn_17 ?_
    refine lv_iload_n hx hb dX0_worthIn_20 rfl (lv_at hl 2 rfl) ?_
    refine lv_aload_n hx hb dX0_worthIn_21 rfl (lv_at hl 0 rfl) ?_
    refine th_getL (ci := 1) (C := RX0) (T := TX0) (N := 11) (v := .ref (ad 19)) hx hb hts hinX0 hown hK hP hI 1 (mF 1 rfl) rfl rfl 9 (Nat.le_of_ble_eq_true rfl) (hts _ (vA_in _ _ (in_5 _ (zs16 (zs4 (zs4 (zs0))))))) (fun _ h9 => h9) (hI.fr 1 (mF 1 rfl) rfl (Nat.le_of_ble_eq_true rfl) 19 rfl) dX0_worthIn_22 ?_
    refine lv_aload_n hx hb dX0_worthIn_25 rfl (lv_at hl 0 rfl) ?_
    refine th_getL (ci := 1) (C := RX0) (T := TX0) (N := 11) (v := .ref (ad 20)) hx hb hts hinX0 hown hK hP hI 1 (mF 1 rfl) rfl rfl 10 (Nat.le_of_ble_eq_true rfl) (hts _ (vA_in _ _ (in_5 _ (zs16 (zs16 (zs1 (zs1 (zs0)))))))) (fun _ h9 => h9) (hI.fr 1 (mF 1 rfl) rfl (Nat.le_of_ble_eq_true rfl) 20 rfl) dX0_worthIn_26 ?_
    refine th_iL (va_runV (As := [.int a1, .ref (ad 19), .ref (ad 20)]) (rest := []) ⟨hx, hb, hml, hown, hts⟩ (q_worthOfX l dC dI cT cf hC ad E H.size a1 a0.toNatClampNeg hI (by omega) (by exact hh0 _ (by rw [tn_]; omega)) (by exact hh1) hh4) (cwV 3 hts (gi_V (in_6 _ (zs16 (zs16 (zs4 (zs1 (zs1 (zs1 (zs0)))))))) (in_7 _ zs0) (in_7 _ (zs1 (zs0))) (in_7 _ (zs1 (zs1 (zs0)))) (in_7 _ (zs1 (zs1 (zs1 (zs0)))))) rfl rfl rfl ⟨rfl, hz_yX7_worthOf_3⟩ ⟨Nat.le_of_ble_eq_true rfl, Nat.le_of_ble_eq_true rfl⟩) ⟨HWL_bl, va_recv hK hP (ci := 8) (q0 := posL (64 * (a0.toNatClampNeg + 1) + 1) (LC cf)) rfl (hI.ob (64 * (a0.toNatClampNeg + 1) + 1) (mP 1 a0.toNatClampNeg (by decide) lv5 (kl_le hC 1 (by decide))) (shC_p 1 a0.toNatClampNeg (by decide))), (HWL_wi hP hK (WL_D hD) hS hA hEV)⟩ rfl rfl hl.1 rfl (lv_room (Nat.le_of_ble_eq_true rfl)) dX0_worthIn_29 ⟨Nat.le_of_ble_eq_true rfl, Nat.le_of_ble_eq_true rfl⟩) (WL_D hD) hS hA (fun r6 E7 H locs hw hP hS => ?_)
    obtain ⟨hI, kq8, hw⟩ := hw
    have hKb := hKp
    have hKp := hKp.tr kq8 (wl_sub rfl rfl)
    have f9 := hw
    rw [hQ]
    exact W.iret (v := r6) hx hb hr (fun t ht hW => ⟨⟨r6, E7, rfl, ⟨hI, hKp, (show r6 = wV cf E a1.toInt a0 (cL E) from f9.trans (if_neg (by omega)).symm)⟩, by show va_P (dC, dI) vwCl (WL (LC cf) ad E7) t.heap; rw [ht]; exact hP⟩, hS.F ht⟩) hS.2.2 dX0_worthIn_32
  · --2 not
    have t10 : a0.toInt = -1 := ti_eq c1
    have i11 : -1 ≤ a0.toInt ∧ a0.toInt ≤ -1 := iv_eqi t10 hh2 (il_ (-1)) (by decide)
    refine lv_iconst (v := 0) hx hb dX0_worthIn_5 (by decide) ?_
    refine lv_goto (tgt := 32) hx hb dX0_worthIn_6 (by decide) ?_
    rw [hQ]
    exact W.iret (v := 0) hx hb hr (fun t ht hW => ⟨⟨0, E, rfl, ⟨hI, hKp, (show (0 : Int32) = wV cf E a1.toInt a0 (cL E) from (if_pos (by omega)).symm)⟩, by show va_P (dC, dI) vwCl (WL (LC cf) ad E) t.heap; rw [ht]; exact hP⟩, hS.F ht⟩) hS.2.2 dX0_worthIn_32
def v_farX : List Cond := .code yX2_far cX2_far 4 (some .int) :: vA
abbrev rm_farX : Room := { frames := 1, cells := 0, slots := 0, locals := 40 }
set_option maxHeartbeats 4000000 in
set_option maxRecDepth 100000 in
theorem q_farX (l : Launch) (a0 : Int32) (a1 : Int32) (a2 : Int32) (a3 : Int32) (hh0 : 0 ≤ a0.toInt ∧ a0.toInt ≤ 99) (hh1 : 0 ≤ a1.toInt ∧ a1.toInt ≤ 99) (hh2 : 0 ≤ a2.toInt ∧ a2.toInt ≤ 99) (hh3 : 0 ≤ a3.toInt ∧ a3.toInt ≤ 99) : Met l yX2_far v_farX rm_farX (va_Pc [.int a0, .int a1, .int a2, .int a3] (fun U => NXc U)) (va_Qi (S := Unit) (fun r _ => (0 ≤ r.toInt ∧ r.toInt ≤ 99) ∧ (r.toInt = far4 a0.toInt a1.toInt a2.toInt a3.toInt)) (fun _ _ => True) (fun _ => False)) 0 0 (fun _ => False) := by
  refine Met.ofW (cc := cX2_far) (maxL := 4) (ret := (some .int)) (by decide) rfl ?_
  intro p e s m args below meth c s₁ B hml hv
  obtain ⟨hargs, hNX⟩ := hv
  have hNX : NXc s := hNX
  have hx := B.exec
  have hb := B.bytes
  have hr := B.returns
  have hts := atoms_spec (ws := v_farX) B.pre
  have hown : s.vm.findClass RX2 = some m.cls := findClass_of_methodNamed B.named
  have hlocks := B.notSynchronized
  have hS : va_S (fun _ : Nat => False) s.heap s.heap [] := va_S.rf
  have hl := lv_entry ([.int a0, .int a1, .int a2, .int a3]) (n := 4) (Nat.le_of_ble_eq_true rfl)
  obtain ⟨Q, hQ⟩ : ∃ Q, Q = MQ below (va_Qi (S := Unit) (fun r _ => (0 ≤ r.toInt ∧ r.toInt ≤ 99) ∧ (r.toInt = far4 a0.toInt a1.toInt a2.toInt a3.toInt)) (fun _ _ => True) (fun _ => False)) args s 0 0 (fun _ => False) := ⟨_, rfl⟩
  rw [← hQ, show entryFrame m args 4 = _ from (congrArg (fun z => entryFrame m z 4) hargs).trans (lg_entry_eq _ _ _)]
  generalize (lg_sl ([.int a0, .int a1, .int a2, .int a3]) ++ List.replicate (4 - (lg_sl ([.int a0, .int a1, .int a2, .int a3])).length) Slot.unset).toArray = ls at hl ⊢
  have hl : lv_has ls 4 [(0, .int a0), (1, .int a1), (2, .int a2), (3, .int a3)] := hl
  refine lv_iload_n hx hb dX2_far_0 rfl (lv_at hl 0 rfl) ?_
  refine lv_iload_n hx hb dX2_far_1 rfl (lv_at hl 2 rfl) ?_
  refine th_pi (va_runSN (As := [.int a0, .int a2]) (rest := []) ⟨hx, hb, hml, hown, hts⟩ (q_capartX l a0 a2 (iv_w hh0 (by decide)) (iv_w hh2 (by decide))) ⟨va_cnB 2 hts (gi_0 (in_10 _ (zs4 (zs4 (zs4 (zs1 (zs1 (zs1 (zs0))))))))) rfl rfl rfl (hNX.1 _ (List.mem_of_getElem? (i := 4) rfl)) (hts _ (vA_in _ _ (in_4 _ (zs16 (zs4 (zs1 (zs1 (zs1 (zs0))))))))) hz_yX12_apart_2 ⟨Nat.le_of_ble_eq_true rfl, Nat.le_of_ble_eq_true rfl⟩, (hts _ (vA_in _ _ (in_13 _ (zs16 (zs4 (zs4 (zs1 (zs0)))))))), trivial⟩ ⟨fun _ _ _ _ q => q, fun _ _ _ => ⟨rfl, trivial⟩⟩ rfl rfl hl.1 rfl (lv_room (Nat.le_of_ble_eq_true rfl)) dX2_far_2 ⟨Nat.le_of_ble_eq_true rfl, Nat.le_of_ble_eq_true rfl⟩) hS (fun r1 H1 locs1 hw hk1 hS => ?_)
  generalize H1 = H at hS ⊢
  generalize locs1 = locs at hS ⊢
  have f2 := hw
  have i3 : 0 ≤ r1.toInt ∧ r1.toInt ≤ 99 := by have h9 := f2; unfold ab at h9; omega
  refine lv_iload_n hx hb dX2_far_5 rfl (lv_at hl 1 rfl) ?_
  refine lv_iload_n hx hb dX2_far_6 rfl (lv_at hl 3 rfl) ?_
  refine th_pi (va_runSN (As := [.int a1, .int a3]) (rest := [.int r1]) ⟨hx, hb, hml, hown, hts⟩ (q_capartX l a1 a3 (iv_w hh1 (by decide)) (iv_w hh3 (by decide))) ⟨va_cnB 2 hts (gi_0 (in_10 _ (zs4 (zs4 (zs4 (zs1 (zs1 (zs1 (zs0))))))))) rfl rfl rfl (hNX.1 _ (List.mem_of_getElem? (i := 4) rfl)) (hts _ (vA_in _ _ (in_4 _ (zs16 (zs4 (zs1 (zs1 (zs1 (zs0))))))))) hz_yX12_apart_2 ⟨Nat.le_of_ble_eq_true rfl, Nat.le_of_ble_eq_true rfl⟩, (hts _ (vA_in _ _ (in_13 _ (zs16 (zs4 (zs4 (zs1 (zs0)))))))), trivial⟩ ⟨fun _ _ _ _ q => q, fun _ _ _ => ⟨rfl, trivial⟩⟩ rfl rfl hl.1 rfl (lv_room (Nat.le_of_ble_eq_true rfl)) dX2_far_7 ⟨Nat.le_of_ble_eq_true rfl, Nat.le_of_ble_eq_true rfl⟩) hS (fun r4 H1 locs1 hw hk1 hS => ?_)
  generalize H1 = H at hS ⊢
  generalize locs1 = locs at hS ⊢
  have f5 := hw
  have i6 : 0 ≤ r4.toInt ∧ r4.toInt ≤ 99 := by have h9 := f5; unfold ab at h9; omega
  refine va_mmax hx hb (by rw [hml]; exact hl.1.symm) hown (hts _ (vA_in _ _ (in_15 _ (zs16 (zs16 (zs1 (zs1 (zs0)))))))) (hts _ (vA_in _ _ (in_0 _ (zs16 (zs16 (zs0)))))) (hts _ (vA_in _ _ (in_0 _ (zs16 (zs16 (zs1 (zs0))))))) (hts _ (vA_in _ _ (in_0 _ (zs16 (zs16 (zs1 (zs1 (zs0)))))))) (Nat.le_of_ble_eq_true rfl) (Nat.le_of_ble_eq_true rfl) (Nat.le_of_ble_eq_true rfl) (Nat.le_of_ble_eq_true rfl) dX2_far_10 ?_
  refine lv_topi (fun y7 ey7 => ?_)
  obtain ⟨ty7, iy7⟩ := ti_max (e := 0) (f := 99) i3 i6 ey7 (by decide)
  have iy7 : 0 ≤ y7.toInt ∧ y7.toInt ≤ 99 := iy7
  rw [hQ]
  exact W.iret (v := y7) hx hb hr (fun t ht hW => ⟨⟨y7, (), rfl, ⟨iy7, (by unfold far4; omega)⟩, trivial⟩, hS.F ht⟩) hS.2.2 dX2_far_13
def v_starboardX : List Cond := .code yX2_starboard cX2_starboard 2 (some .int) :: vA
abbrev rm_starboardX : Room := { frames := 0, cells := 0, slots := 0, locals := 0 }
set_option maxHeartbeats 4000000 in
set_option maxRecDepth 100000 in
theorem q_starboardX (l : Launch) (dC : Nat → ClassId) (dI : Nat → Nat → Nat) (cT : Nat → ClassId) (cf : Nat → Nat) (hC : CF cf) (ad : Nat → Nat) (E : Nat → va_E) (sz : Nat) (a0 : Int32) (ri : Nat) (hI0 : IXL cT (shC cf) (spC cf) (LC cf) ad E) (hh0 : ri < cf 2) (hh1 : xv (E 5) 6 = .ref (ad (64 * (ri + 1) + 6))) (hh2 : 0 ≤ a0.toInt ∧ a0.toInt ≤ 7) : Met l yX2_starboard v_starboardX rm_starboardX (va_Pc [.ref (ad 5), .int a0] (HWL dC dI (TYC cT) cf ad E sz)) (va_Qi (S := Unit) (fun r _ => (0 ≤ r.toInt ∧ r.toInt ≤ 1) ∧ (r.toInt = sb a0.toInt (xi (E (64 * (ri + 1) + 6)) 4).toInt)) (fun _ _ => True) (fun _ => False)) 0 0 (fun _ => False) := by
  obtain ⟨⟨hc0, hc1, hc2, hc3, hc4, hc5⟩, hcr⟩ := id hC
  refine Met.ofW (cc := cX2_starboard) (maxL := 2) (ret := (some .int)) (by decide) rfl ?_
  intro p e s m args below meth c s₁ B hml hv
  obtain ⟨hargs, hsz, hP, hK, hD0, hEV⟩ := hv
  subst hsz
  have hx := B.exec
  have hb := B.bytes
  have hr := B.returns
  have hts := atoms_spec (ws := v_starboardX) B.pre
  have hown : s.vm.findClass RX2 = some m.cls := findClass_of_methodNamed B.named
  have hlocks := B.notSynchronized
  have hinX2 : ∀ w ∈ u_ws RX2 TX2 10, w ∈ v_starboardX := fun w h => vA_in _ w (in_X2 w h)
  have hinX5 : ∀ w ∈ u_ws RX5 TX5 12, w ∈ v_starboardX := fun w h => vA_in _ w (in_X5 w h)
  have hS : va_S (fun _ : Nat => False) s.heap s.heap [] := va_S.rf
  have hD := hD0
  have hI := hI0
  have hKp : Kp (wl [] []) E E := Kp.rf
  have hl := lv_entry ([.ref (ad 5), .int a0]) (n := 2) (Nat.le_of_ble_eq_true rfl)
  obtain ⟨Q, hQ⟩ : ∃ Q, Q = MQ below (va_Qi (S := Unit) (fun r _ => (0 ≤ r.toInt ∧ r.toInt ≤ 1) ∧ (r.toInt = sb a0.toInt (xi (E (64 * (ri + 1) + 6)) 4).toInt)) (fun _ _ => True) (fun _ => False)) args s 0 0 (fun _ => False) := ⟨_, rfl⟩
  rw [← hQ, show entryFrame m args 2 = _ from (congrArg (fun z => entryFrame m z 2) hargs).trans (lg_entry_eq _ _ _)]
  generalize (lg_sl ([.ref (ad 5), .int a0]) ++ List.replicate (2 - (lg_sl ([.ref (ad 5), .int a0])).length) Slot.unset).toArray = ls at hl ⊢
  have hl : lv_has ls 2 [(0, .ref (ad 5)), (1, .int a0)] := hl
  refine lv_iload_n hx hb dX2_starboard_0 rfl (lv_at hl 1 rfl) ?_
  refine lv_aload_n hx hb dX2_starboard_1 rfl (lv_at hl 0 rfl) ?_
  refine th_getL (ci := 3) (C := RX2) (T := TX2) (N := 10) (v := .ref (ad (64 * (ri + 1) + 6))) hx hb hts hinX2 hown hK hP hI 5 (mF 5 rfl) rfl rfl 6 (Nat.le_of_ble_eq_true rfl) (hts _ (vA_in _ _ (in_14 _ (zs16 (zs16 (zs4 (zs1 (zs1 (zs0))))))))) (fun _ h9 => h9) ((hKp 5 6 rfl).trans hh1) dX2_starboard_2 ?_
  have i1 : 0 ≤ (xi (E (64 * (ri + 1) + 6)) 4).toInt ∧ (xi (E (64 * (ri + 1) + 6)) 4).toInt ≤ 7 := hI0.iv (64 * (ri + 1) + 6) (mP 6 ri (by decide) hh0 (kl_le hC 2 (by decide))) (shC_p 6 ri (by decide)) (Nat.le_of_ble_eq_true rfl) (spC_p 6 ri (by decide) 4)
  refine th_getL (ci := 6) (C := RX5) (T := TX5) (N := 12) (v := .int (xi (E (64 * (ri + 1) + 6)) 4)) hx hb hts hinX5 hown hK hP hI (64 * (ri + 1) + 6) (mP 6 ri (by decide) hh0 (kl_le hC 2 (by decide))) (shC_p 6 ri (by decide)) rfl 4 (Nat.le_of_ble_eq_true rfl) (hts _ (vA_in _ _ (in_16 _ (zs4 (zs4 (zs1 (zs0))))))) (fun _ h9 => h9) (th_v0L hKp hI0 (64 * (ri + 1) + 6) (mP 6 ri (by decide) hh0 (kl_le hC 2 (by decide))) (shC_p 6 ri (by decide)) (Nat.le_of_ble_eq_true rfl) (spC_p 6 ri (by decide) 4) (wl_p rfl rfl (by omega))) dX2_starboard_5 ?_
  refine lv_isub hx hb dX2_starboard_8 ?_
  refine lv_topi (fun y2 ey2 => ?_)
  obtain ⟨ty2, iy2⟩ := ti_sub (e := (-7)) (f := 7) hh2 i1 ey2 (by decide)
  have ty2 : y2.toInt = a0.toInt - (xi (E (64 * (ri + 1) + 6)) 4).toInt := ty2
  have iy2 : -7 ≤ y2.toInt ∧ y2.toInt ≤ 7 := iy2
  refine lv_bipush (v := 8) hx hb dX2_starboard_9 (by decide) ?_
  refine lv_iadd hx hb dX2_starboard_11 ?_
  refine lv_topi (fun y3 ey3 => ?_)
  obtain ⟨ty3, iy3⟩ := ti_add (e := 1) (f := 15) iy2 ln_8 ey3 (by decide)
  have ty3 : y3.toInt = y2.toInt + 8 := ty3
  have iy3 : 1 ≤ y3.toInt ∧ y3.toInt ≤ 15 := iy3
  refine lv_bipush (v := 8) hx hb dX2_starboard_12 (by decide) ?_
  refine lv_irem hx hb dX2_starboard_14 (by decide) ?_
  refine lv_topi (fun y4 ey4 => ?_)
  obtain ⟨ty4, iy4⟩ := ti_irem (e := 0) (f := 7) iy3 ln_8 ey4 (by decide)
  have iy4 : 0 ≤ y4.toInt ∧ y4.toInt ≤ 7 := iy4
  refine lv_iconst (v := 5) hx hb dX2_starboard_15 (by decide) ?_
  refine lv_icmp_lt (tgt := 23) hx hb dX2_starboard_16 (by decide) (fun c5 => ?_) (fun c5 => ?_)
  · --16 taken
    have t6 : y4.toInt < 5 := ti_lt c5
    have i7 : 0 ≤ y4.toInt ∧ y4.toInt ≤ 4 := iv_lt_l t6 iy4 (il_ 5) (by decide)
    refine lv_iconst (v := 0) hx hb dX2_starboard_23 (by decide) ?_
    rw [hQ]
    exact W.iret (v := 0) hx hb hr (fun t ht hW => ⟨⟨0, (), rfl, ⟨(iv_w ln_0 (by decide)), (by have q9 := ty4; rw [show (8 : Int32).toInt = 8 from rfl] at q9; exact Eq.trans (b := (0 : Int)) rfl (by unfold sb; rw [if_neg (by omega)]))⟩, trivial⟩, hS.F ht⟩) hS.2.2 dX2_starboard_24
  · --16 not
    have t8 : (5 : Int) ≤ y4.toInt := ti_nlt c5
    have i9 : 5 ≤ y4.toInt ∧ y4.toInt ≤ 7 := iv_le_r t8 (il_ 5) iy4 (by decide)
    refine lv_iconst (v := 1) hx hb dX2_starboard_19 (by decide) ?_
    refine lv_goto (tgt := 24) hx hb dX2_starboard_20 (by decide) ?_
    rw [hQ]
    exact W.iret (v := 1) hx hb hr (fun t ht hW => ⟨⟨1, (), rfl, ⟨(iv_w ln_1 (by decide)), (by have q9 := ty4; rw [show (8 : Int32).toInt = 8 from rfl] at q9; exact Eq.trans (b := (1 : Int)) rfl (by unfold sb; rw [if_pos (by omega)]))⟩, trivial⟩, hS.F ht⟩) hS.2.2 dX2_starboard_24
def v_gatherTacksX : List Cond := .code yX2_gatherTacks cX2_gatherTacks 3 none :: vA
abbrev rm_gatherTacksX : Room := { frames := 1, cells := 0, slots := 0, locals := 40 }
def w_gatherTacksX : Nat → Nat → Bool := wl [] [(5, 9)]
set_option maxHeartbeats 4000000 in
set_option maxRecDepth 100000 in
theorem q_gatherTacksX (l : Launch) (dC : Nat → ClassId) (dI : Nat → Nat → Nat) (cT : Nat → ClassId) (cf : Nat → Nat) (hC : CF cf) (ad : Nat → Nat) (E : Nat → va_E) (sz : Nat) (ri : Nat) (hI0 : IXL cT (shC cf) (spC cf) (LC cf) ad E) (hh0 : ri < cf 2) (hh1 : xv (E 5) 6 = .ref (ad (64 * (ri + 1) + 6))) : Met l yX2_gatherTacks v_gatherTacksX rm_gatherTacksX (va_Pc [.ref (ad 5)] (HWL dC dI (TYC cT) cf ad E sz)) (va_Qv (S := Nat → va_E) (fun u => IXL cT (shC cf) (spC cf) (LC cf) ad u ∧ Kp w_gatherTacksX E u ∧ ((TkS (xi (E 42) 0) (xi (E 42) 1) (xi (E (64 * (ri + 1) + 6)) 4).toInt 64 (xi (u 5) 9)))) (HBL dC dI (LC cf) ad) (va_A (WL (LC cf) ad E) sz)) 0 0 (va_A (WL (LC cf) ad E) sz) := by
  obtain ⟨⟨hc0, hc1, hc2, hc3, hc4, hc5⟩, hcr⟩ := id hC
  refine Met.ofW (cc := cX2_gatherTacks) (maxL := 3) (ret := none) (by decide) rfl ?_
  intro p e s m args below meth c s₁ B hml hv
  obtain ⟨hargs, hsz, hP, hK, hD0, hEV⟩ := hv
  subst hsz
  have hx := B.exec
  have hb := B.bytes
  have hr := B.returns
  have hts := atoms_spec (ws := v_gatherTacksX) B.pre
  have hown : s.vm.findClass RX2 = some m.cls := findClass_of_methodNamed B.named
  have hlocks := B.notSynchronized
  have hinX2 : ∀ w ∈ u_ws RX2 TX2 10, w ∈ v_gatherTacksX := fun w h => vA_in _ w (in_X2 w h)
  generalize hAe : va_A (WL (LC cf) ad E) s.heap.size = A at hEV ⊢
  have hA : ∀ q : Nat, s.heap.size ≤ q → A q := fun q h => by rw [← hAe]; exact Or.inr h
  have hD : va_D A (WL (LC cf) ad E) := by rw [← hAe]; exact hD0.self
  have hS : va_S A s.heap s.heap [] := va_S.rf
  have hI := hI0
  have hKp : Kp w_gatherTacksX E E := Kp.rf
  have hl := lv_entry ([.ref (ad 5)]) (n := 3) (Nat.le_of_ble_eq_true rfl)
  obtain ⟨Q, hQ⟩ : ∃ Q, Q = MQ below (va_Qv (S := Nat → va_E) (fun u => IXL cT (shC cf) (spC cf) (LC cf) ad u ∧ Kp w_gatherTacksX E u ∧ ((TkS (xi (E 42) 0) (xi (E 42) 1) (xi (E (64 * (ri + 1) + 6)) 4).toInt 64 (xi (u 5) 9)))) (HBL dC dI (LC cf) ad) (A)) args s 0 0 (A) := ⟨_, rfl⟩
  rw [← hQ, show entryFrame m args 3 = _ from (congrArg (fun z => entryFrame m z 3) hargs).trans (lg_entry_eq _ _ _)]
  generalize (lg_sl ([.ref (ad 5)]) ++ List.replicate (3 - (lg_sl ([.ref (ad 5)])).length) Slot.unset).toArray = ls at hl ⊢
  have hl : lv_has ls 3 [(0, .ref (ad 5))] := hl
  refine lv_aload_n hx hb dX2_gatherTacks_0 rfl (lv_at hl 0 rfl) ?_
  refine lv_iconst (v := 0) hx hb dX2_gatherTacks_1 (by decide) ?_
  refine th_putL (ci := 3) (C := RX2) (T := TX2) (N := 10) (v := .int 0) (ty := .int) hx hb hts hinX2 tyX2 tyX2_ok nmX2 hown hK hP (WL_D hD) hS hI 5 (mF 5 rfl) rfl rfl 9 (Nat.le_of_ble_eq_true rfl) (hts _ (vA_in _ _ (in_16 _ (zs4 (zs0))))) (fun _ h9 => h9) rfl (by decide +kernel) rfl rfl (okI rfl (iv_w ln_0 (by decide))) dX2_gatherTacks_2 (fun H locs E1 pw2 hI hP hS => ?_)
  have hKp := hKp.pw pw2 rfl
  refine lv_iconst (v := 0) hx hb dX2_gatherTacks_5 (by decide) ?_
  refine lv_istore_n (lv' := [(1, .int 0), (0, .ref (ad 5))]) hx hb dX2_gatherTacks_6 rfl hl (by decide) rfl (fun ls hl => ?_)
  have hL7 : ∀ d : Nat, ∀ (w7_5_9 : Int32) (v7_1 : Int32) (E7_ : Nat → va_E) (H : Heap) (locs : List Loc) (ls : Array Slot), 0 ≤ w7_5_9.toInt ∧ w7_5_9.toInt ≤ 255 → 0 ≤ v7_1.toInt ∧ v7_1.toInt ≤ 8 → TkS (xi (E 42) 0) (xi (E 42) 1) (xi (E (64 * (ri + 1) + 6)) 4).toInt (8 * v7_1.toNatClampNeg) w7_5_9 → 8 - v7_1.toInt < (d : Int) → IXL cT (shC cf) (spC cf) (LC cf) ad E7_ → Kp w_gatherTacksX E E7_ → xv (E7_ 5) 9 = .int w7_5_9 → va_P (dC, dI) vwCl (WL (LC cf) ad E7_) H → va_S A s.heap H locs → lv_has ls 3 [(1, .int v7_1), (0, .ref (ad 5))] → W p l e (headSpec v_gatherTacksX rm_gatherTacksX).room s m args below meth c H locs 0 0 Q (F0 m 7 ls []) := by
    intro d
    induction d with
    | zero =>
      intro w7_5_9 v7_1 E7_ H locs ls hw7_5_9 hv7_1 hx7_0 hx7_1 hI hKp hs7_5_9 hP hS hl
      exact absurd hx7_1 (by first | exact ms_zu hv7_1.2 | omega)
    | succ d ih7 =>
      intro w7_5_9 v7_1 E7_ H locs ls hw7_5_9 hv7_1 hx7_0 hx7_1 hI hKp hs7_5_9 hP hS hl
      refine lv_iload_n hx hb dX2_gatherTacks_7 rfl (lv_at hl 0 rfl) ?_
      refine lv_bipush (v := 8) hx hb dX2_gatherTacks_8 (by decide) ?_
      refine lv_icmp_ge (tgt := 99) hx hb dX2_gatherTacks_10 (by decide) (fun c3 => ?_) (fun c3 => ?_)
      · --10 taken
        have t4 : (8 : Int) ≤ v7_1.toInt := ti_le c3
        have i5 : 8 ≤ v7_1.toInt ∧ v7_1.toInt ≤ 8 := iv_le_r t4 (il_ 8) hv7_1 (by decide)
        rw [hQ]
        exact W.vret hx hb hr (fun t ht hW => ⟨⟨E7_, rfl, ⟨hI, hKp, (by rw [show xi (E7_ 5) 9 = w7_5_9 from vi_e hs7_5_9]; exact hx7_0.cg (by rw [tn_]; omega))⟩, by show va_P (dC, dI) vwCl (WL (LC cf) ad E7_) t.heap; rw [ht]; exact hP⟩, hS.F ht⟩) hS.2.2 dX2_gatherTacks_99
      · --10 not
        have t6 : v7_1.toInt < 8 := ti_nle c3
        have i7 : 0 ≤ v7_1.toInt ∧ v7_1.toInt ≤ 7 := iv_lt_l t6 hv7_1 (il_ 8) (by decide)
        refine lv_iconst (v := 0) hx hb dX2_gatherTacks_13 (by decide) ?_
        refine lv_istore_n (lv' := [(2, .int 0), (1, .int v7_1), (0, .ref (ad 5))]) hx hb dX2_gatherTacks_14 rfl hl (by decide) rfl (fun ls hl => ?_)
        have hL15 : ∀ d : Nat, ∀ (w15_5_9 : Int32) (v15_2 : Int32) (E15_ : Nat → va_E) (H : Heap) (locs : List Loc) (ls : Array Slot), 0 ≤ w15_5_9.toInt ∧ w15_5_9.toInt ≤ 255 → 0 ≤ v15_2.toInt ∧ v15_2.toInt ≤ 8 → TkS (xi (E 42) 0) (xi (E 42) 1) (xi (E (64 * (ri + 1) + 6)) 4).toInt (8 * v7_1.toNatClampNeg + v15_2.toNatClampNeg) w15_5_9 → 8 - v15_2.toInt < (d : Int) → IXL cT (shC cf) (spC cf) (LC cf) ad E15_ → Kp w_gatherTacksX E E15_ → xv (E15_ 5) 9 = .int w15_5_9 → va_P (dC, dI) vwCl (WL (LC cf) ad E15_) H → va_S A s.heap H locs → lv_has ls 3 [(2, .int v15_2), (1, .int v7_1), (0, .ref (ad 5))] → W p l e (headSpec v_gatherTacksX rm_gatherTacksX).room s m args below meth c H locs 0 0 Q (F0 m 15 ls []) := by
          intro d
          induction d with
          | zero =>
            intro w15_5_9 v15_2 E15_ H locs ls hw15_5_9 hv15_2 hx15_0 hx15_1 hI hKp hs15_5_9 hP hS hl
            exact absurd hx15_1 (by first | exact ms_zu hv15_2.2 | omega)
          | succ d ih15 =>
            intro w15_5_9 v15_2 E15_ H locs ls hw15_5_9 hv15_2 hx15_0 hx15_1 hI hKp hs15_5_9 hP hS hl
            refine lv_iload_n hx hb dX2_gatherTacks_15 rfl (lv_at hl 0 rfl) ?_
            refine lv_bipush (v := 8) hx hb dX2_gatherTacks_16 (by decide) ?_
            refine lv_icmp_ge (tgt := 93) hx hb dX2_gatherTacks_18 (by decide) (fun c8 => ?_) (fun c8 => ?_)
            · --18 taken
              have t9 : (8 : Int) ≤ v15_2.toInt := ti_le c8
              have i10 : 8 ≤ v15_2.toInt ∧ v15_2.toInt ≤ 8 := iv_le_r t9 (il_ 8) hv15_2 (by decide)
              obtain ⟨y11, ey11⟩ : ∃ y : Int32, y = v7_1 + (1 : Int32) := ⟨_, rfl⟩
              obtain ⟨ty11, iy11⟩ := ti_add (e := 1) (f := 8) i7 ln_1 ey11 (by decide)
              have ty11 : y11.toInt = v7_1.toInt + 1 := ty11
              have iy11 : 1 ≤ y11.toInt ∧ y11.toInt ≤ 8 := iy11
              refine lv_iinc (v := y11) (lv' := [(1, .int y11), (2, .int v15_2), (0, .ref (ad 5))]) hx hb dX2_gatherTacks_93 hl (k := 1) rfl (by rw [ey11]; rfl) (by decide) rfl (fun ls hl => ?_)
              refine lv_goto (tgt := 7) hx hb dX2_gatherTacks_96 (by decide) ?_
              exact ih7 w15_5_9 y11 E15_ _ _ _ hw15_5_9 (iv_w iy11 (by decide)) (hx15_0.cg (by rw [tn_ y11, tn_ v7_1, tn_ v15_2]; omega)) (by first | exact ms_su hx7_1 ty11 (by decide) | omega) hI hKp hs15_5_9 hP hS (lv_sub hl [0, 2] rfl)
            · --18 not
              have t12 : v15_2.toInt < 8 := ti_nle c8
              have i13 : 0 ≤ v15_2.toInt ∧ v15_2.toInt ≤ 7 := iv_lt_l t12 hv15_2 (il_ 8) (by decide)
              refine lv_aload_n hx hb dX2_gatherTacks_21 rfl (lv_at hl 2 rfl) ?_
              refine th_getL (ci := 3) (C := RX2) (T := TX2) (N := 10) (v := .ref (ad 42)) hx hb hts hinX2 hown hK hP hI 5 (mF 5 rfl) rfl rfl 5 (Nat.le_of_ble_eq_true rfl) (hts _ (vA_in _ _ (in_15 _ (zs4 (zs4 (zs4 (zs0))))))) (fun _ h9 => h9) (hI.fr 5 (mF 5 rfl) rfl (Nat.le_of_ble_eq_true rfl) 42 rfl) dX2_gatherTacks_22 ?_
              refine lv_iconst (v := 0) hx hb dX2_gatherTacks_25 (by decide) ?_
              have n15 : vp_in (0 : Int32) 2 := (iv_in (n := 2) ln_0 (by decide))
              refine th_ialdL hx hb hK hP hI 42 (mF 42 rfl) rfl rfl n15 dX2_gatherTacks_26 (fun y14 ey14 => ?_)
              have iy14 : 0 ≤ y14.toInt ∧ y14.toInt ≤ 255 := hI.el 42 (mF 42 rfl) rfl n15 (fun _ => rfl) ey14
              have ey14 := ey14.trans (hKp.ei 42 _ rfl)
              refine lv_iload_n hx hb dX2_gatherTacks_27 rfl (lv_at hl 1 rfl) ?_
              refine lv_ishr hx hb dX2_gatherTacks_28 ?_
              refine lv_topi (fun y16 ey16 => ?_)
              refine lv_iconst (v := 1) hx hb dX2_gatherTacks_29 (by decide) ?_
              refine lv_iand hx hb dX2_gatherTacks_30 ?_
              refine lv_topi (fun y17 ey17 => ?_)
              have iy17 : 0 ≤ y17.toInt ∧ y17.toInt ≤ 1 := ti_and (by decide) ey17
              refine lv_if_eq (tgt := 87) hx hb dX2_gatherTacks_31 (by decide) (fun c18 => ?_) (fun c18 => ?_)
              · --31 taken
                have t19 : y17.toInt = 0 := ti_eq c18
                have i20 : 0 ≤ y17.toInt ∧ y17.toInt ≤ 0 := iv_eqi t19 iy17 (il_ 0) (by decide)
                obtain ⟨y21, ey21⟩ : ∃ y : Int32, y = v15_2 + (1 : Int32) := ⟨_, rfl⟩
                obtain ⟨ty21, iy21⟩ := ti_add (e := 1) (f := 8) i13 ln_1 ey21 (by decide)
                have ty21 : y21.toInt = v15_2.toInt + 1 := ty21
                have iy21 : 1 ≤ y21.toInt ∧ y21.toInt ≤ 8 := iy21
                refine lv_iinc (v := y21) (lv' := [(2, .int y21), (1, .int v7_1), (0, .ref (ad 5))]) hx hb dX2_gatherTacks_87 hl (k := 0) rfl (by rw [ey21]; rfl) (by decide) rfl (fun ls hl => ?_)
                refine lv_goto (tgt := 15) hx hb dX2_gatherTacks_90 (by decide) ?_
                exact ih15 w15_5_9 y21 E15_ _ _ _ hw15_5_9 (iv_w iy21 (by decide)) (hx15_0.skip (a := v7_1.toNatClampNeg) (b := v15_2.toNatClampNeg) (by rw [tn_]; omega) (by rw [tn_]; omega) rfl (by rw [tn_ y21, tn_ v15_2]; omega) (fun q9 => (bit_t (a := y14) (v := v7_1) (by omega) (by omega) ey16 ey17).mp (by omega) (by rw [(show y14 = xi (E 42) 0 from ey14)]; exact q9.1))) (by first | exact ms_su hx15_1 ty21 (by decide) | omega) hI hKp hs15_5_9 hP hS (lv_sub hl [0, 1, 2] rfl)
              · --31 not
                have t22 : ¬ y17.toInt = 0 := ti_ne c18
                have i23 : 1 ≤ y17.toInt ∧ y17.toInt ≤ 1 := iv_ne_l t22 iy17 (il_ 0)
                refine lv_aload_n hx hb dX2_gatherTacks_34 rfl (lv_at hl 2 rfl) ?_
                refine th_getL (ci := 3) (C := RX2) (T := TX2) (N := 10) (v := .ref (ad 42)) hx hb hts hinX2 hown hK hP hI 5 (mF 5 rfl) rfl rfl 5 (Nat.le_of_ble_eq_true rfl) (hts _ (vA_in _ _ (in_15 _ (zs4 (zs4 (zs4 (zs0))))))) (fun _ h9 => h9) (hI.fr 5 (mF 5 rfl) rfl (Nat.le_of_ble_eq_true rfl) 42 rfl) dX2_gatherTacks_35 ?_
                refine lv_iconst (v := 1) hx hb dX2_gatherTacks_38 (by decide) ?_
                have n25 : vp_in (1 : Int32) 2 := (iv_in (n := 2) ln_1 (by decide))
                refine th_ialdL hx hb hK hP hI 42 (mF 42 rfl) rfl rfl n25 dX2_gatherTacks_39 (fun y24 ey24 => ?_)
                have iy24 : 0 ≤ y24.toInt ∧ y24.toInt ≤ 255 := hI.el 42 (mF 42 rfl) rfl n25 (fun _ => rfl) ey24
                have ey24 := ey24.trans (hKp.ei 42 _ rfl)
                refine lv_iload_n hx hb dX2_gatherTacks_40 rfl (lv_at hl 0 rfl) ?_
                refine lv_ishr hx hb dX2_gatherTacks_41 ?_
                refine lv_topi (fun y26 ey26 => ?_)
                refine lv_iconst (v := 1) hx hb dX2_gatherTacks_42 (by decide) ?_
                refine lv_iand hx hb dX2_gatherTacks_43 ?_
                refine lv_topi (fun y27 ey27 => ?_)
                have iy27 : 0 ≤ y27.toInt ∧ y27.toInt ≤ 1 := ti_and (by decide) ey27
                refine lv_if_ne (tgt := 50) hx hb dX2_gatherTacks_44 (by decide) (fun c28 => ?_) (fun c28 => ?_)
                · --44 taken
                  have t29 : ¬ y27.toInt = 0 := ti_ne c28
                  have i30 : 1 ≤ y27.toInt ∧ y27.toInt ≤ 1 := iv_ne_l t29 iy27 (il_ 0)
                  refine lv_aload_n hx hb dX2_gatherTacks_50 rfl (lv_at hl 2 rfl) ?_
                  refine lv_dup hx hb dX2_gatherTacks_51 rfl ?_
                  refine th_getL (ci := 3) (C := RX2) (T := TX2) (N := 10) (v := .int w15_5_9) hx hb hts hinX2 hown hK hP hI 5 (mF 5 rfl) rfl rfl 9 (Nat.le_of_ble_eq_true rfl) (hts _ (vA_in _ _ (in_16 _ (zs4 (zs0))))) (fun _ h9 => h9) hs15_5_9 dX2_gatherTacks_52 ?_
                  refine lv_iconst (v := 1) hx hb dX2_gatherTacks_55 (by decide) ?_
                  refine lv_iconst (v := 4) hx hb dX2_gatherTacks_56 (by decide) ?_
                  refine lv_aload_n hx hb dX2_gatherTacks_57 rfl (lv_at hl 2 rfl) ?_
                  refine lv_iload_n hx hb dX2_gatherTacks_58 rfl (lv_at hl 1 rfl) ?_
                  refine th_riL (va_runV (As := [.int v7_1]) (rest := [.int 4, .int 1, .int w15_5_9, .ref (ad 5)]) ⟨hx, hb, hml, hown, hts⟩ (q_starboardX l dC dI cT cf hC ad E15_ H.size v7_1 ri hI (by omega) (by exact (hKp 5 6 rfl).trans hh1) i7) (cwV 1 hts (gi_V (in_16 _ (zs4 (zs1 (zs0)))) (in_16 _ (zs4 (zs1 (zs1 (zs0))))) (in_16 _ (zs4 (zs1 (zs1 (zs1 (zs0)))))) (in_14 _ (zs16 (zs16 (zs0)))) (in_16 _ (zs4 (zs4 (zs0))))) rfl rfl rfl ⟨rfl, hz_yX2_starboard_1⟩ ⟨Nat.le_of_ble_eq_true rfl, Nat.le_of_ble_eq_true rfl⟩) ⟨HWL_bl, va_recv hK hP (ci := 3) (q0 := posL 5 (LC cf)) rfl (hI.ob 5 (mF 5 rfl) rfl), (HWL_wi hP hK (WL_D hD) hS hA hEV)⟩ rfl rfl hl.1 rfl (lv_room (Nat.le_of_ble_eq_true rfl)) dX2_gatherTacks_59 ⟨Nat.le_of_ble_eq_true rfl, Nat.le_of_ble_eq_true rfl⟩) hS hP (fun r31 H locs hw hP hS => ?_)
                  obtain ⟨f32, f33⟩ := hw
                  have k34 : r31.toInt = sb v7_1.toInt (xi (E (64 * (ri + 1) + 6)) 4).toInt := f33.trans (by rw [show xi (E15_ (64 * (ri + 1) + 6)) 4 = xi (E (64 * (ri + 1) + 6)) 4 from hKp.ei _ 4 (wl_p rfl rfl (by omega))])
                  refine lv_imul hx hb dX2_gatherTacks_62 ?_
                  refine lv_topi (fun y35 ey35 => ?_)
                  obtain ⟨ty35, iy35⟩ := ti_mul (e := 0) (f := 4) ln_4 f32 ey35 (by decide)
                  have ty35 : y35.toInt = 4 * r31.toInt := ty35
                  have iy35 : 0 ≤ y35.toInt ∧ y35.toInt ≤ 4 := iy35
                  refine lv_iconst (v := 2) hx hb dX2_gatherTacks_63 (by decide) ?_
                  refine lv_aload_n hx hb dX2_gatherTacks_64 rfl (lv_at hl 2 rfl) ?_
                  refine lv_iload_n hx hb dX2_gatherTacks_65 rfl (lv_at hl 0 rfl) ?_
                  refine th_riL (va_runV (As := [.int v15_2]) (rest := [.int 2, .int y35, .int 1, .int w15_5_9, .ref (ad 5)]) ⟨hx, hb, hml, hown, hts⟩ (q_starboardX l dC dI cT cf hC ad E15_ H.size v15_2 ri hI (by omega) (by exact (hKp 5 6 rfl).trans hh1) i13) (cwV 1 hts (gi_V (in_16 _ (zs4 (zs1 (zs0)))) (in_16 _ (zs4 (zs1 (zs1 (zs0))))) (in_16 _ (zs4 (zs1 (zs1 (zs1 (zs0)))))) (in_14 _ (zs16 (zs16 (zs0)))) (in_16 _ (zs4 (zs4 (zs0))))) rfl rfl rfl ⟨rfl, hz_yX2_starboard_1⟩ ⟨Nat.le_of_ble_eq_true rfl, Nat.le_of_ble_eq_true rfl⟩) ⟨HWL_bl, va_recv hK hP (ci := 3) (q0 := posL 5 (LC cf)) rfl (hI.ob 5 (mF 5 rfl) rfl), (HWL_wi hP hK (WL_D hD) hS hA hEV)⟩ rfl rfl hl.1 rfl (lv_room (Nat.le_of_ble_eq_true rfl)) dX2_gatherTacks_66 ⟨Nat.le_of_ble_eq_true rfl, Nat.le_of_ble_eq_true rfl⟩) hS hP (fun r36 H locs hw hP hS => ?_)
                  obtain ⟨f37, f38⟩ := hw
                  have k39 : r36.toInt = sb v15_2.toInt (xi (E (64 * (ri + 1) + 6)) 4).toInt := f38.trans (by rw [show xi (E15_ (64 * (ri + 1) + 6)) 4 = xi (E (64 * (ri + 1) + 6)) 4 from hKp.ei _ 4 (wl_p rfl rfl (by omega))])
                  refine lv_imul hx hb dX2_gatherTacks_69 ?_
                  refine lv_topi (fun y40 ey40 => ?_)
                  obtain ⟨ty40, iy40⟩ := ti_mul (e := 0) (f := 2) ln_2 f37 ey40 (by decide)
                  have ty40 : y40.toInt = 2 * r36.toInt := ty40
                  have iy40 : 0 ≤ y40.toInt ∧ y40.toInt ≤ 2 := iy40
                  refine lv_iadd hx hb dX2_gatherTacks_70 ?_
                  refine lv_topi (fun y41 ey41 => ?_)
                  obtain ⟨ty41, iy41⟩ := ti_add (e := 0) (f := 6) iy35 iy40 ey41 (by decide)
                  have ty41 : y41.toInt = y35.toInt + y40.toInt := ty41
                  have iy41 : 0 ≤ y41.toInt ∧ y41.toInt ≤ 6 := iy41
                  refine lv_iload_n hx hb dX2_gatherTacks_71 rfl (lv_at hl 1 rfl) ?_
                  refine lv_iload_n hx hb dX2_gatherTacks_72 rfl (lv_at hl 0 rfl) ?_
                  refine lv_icmp_ne (tgt := 80) hx hb dX2_gatherTacks_73 (by decide) (fun c42 => ?_) (fun c42 => ?_)
                  · --73 taken
                    have t43 : ¬ v7_1.toInt = v15_2.toInt := ti_ne c42
                    refine lv_iconst (v := 0) hx hb dX2_gatherTacks_80 (by decide) ?_
                    refine lv_iadd hx hb dX2_gatherTacks_81 ?_
                    refine lv_topi (fun y44 ey44 => ?_)
                    obtain ⟨ty44, iy44⟩ := ti_add (e := 0) (f := 6) iy41 ln_0 ey44 (by decide)
                    have ty44 : y44.toInt = y41.toInt + 0 := ty44
                    have iy44 : 0 ≤ y44.toInt ∧ y44.toInt ≤ 6 := iy44
                    refine lv_ishl hx hb dX2_gatherTacks_82 ?_
                    refine lv_topi (fun y45 ey45 => ?_)
                    have iy45 : 1 ≤ y45.toInt ∧ y45.toInt ≤ 128 := ti_shl8 iy44 ey45 (by decide)
                    refine lv_ior hx hb dX2_gatherTacks_83 ?_
                    refine lv_topi (fun y46 ey46 => ?_)
                    have iy46 : 0 ≤ y46.toInt ∧ y46.toInt ≤ 255 := ti_or255 ey46 (by omega) (by omega)
                    refine th_putL (ci := 3) (C := RX2) (T := TX2) (N := 10) (v := .int y46) (ty := .int) hx hb hts hinX2 tyX2 tyX2_ok nmX2 hown hK hP (WL_D hD) hS hI 5 (mF 5 rfl) rfl rfl 9 (Nat.le_of_ble_eq_true rfl) (hts _ (vA_in _ _ (in_16 _ (zs4 (zs0))))) (fun _ h9 => h9) rfl (by decide +kernel) rfl rfl (okI rfl iy46) dX2_gatherTacks_84 (fun H locs E47 pw48 hI hP hS => ?_)
                    have hKp := hKp.pw pw48 rfl
                    obtain ⟨y49, ey49⟩ : ∃ y : Int32, y = v15_2 + (1 : Int32) := ⟨_, rfl⟩
                    obtain ⟨ty49, iy49⟩ := ti_add (e := 1) (f := 8) i13 ln_1 ey49 (by decide)
                    have ty49 : y49.toInt = v15_2.toInt + 1 := ty49
                    have iy49 : 1 ≤ y49.toInt ∧ y49.toInt ≤ 8 := iy49
                    refine lv_iinc (v := y49) (lv' := [(2, .int y49), (1, .int v7_1), (0, .ref (ad 5))]) hx hb dX2_gatherTacks_87 hl (k := 0) rfl (by rw [ey49]; rfl) (by decide) rfl (fun ls hl => ?_)
                    refine lv_goto (tgt := 15) hx hb dX2_gatherTacks_90 (by decide) ?_
                    exact ih15 y46 y49 E47 _ _ _ iy46 (iv_w iy49 (by decide)) (hx15_0.take (k0 := y44) (z := y45) (a := v7_1.toNatClampNeg) (b := v15_2.toNatClampNeg) (by rw [tn_]; omega) (by rw [tn_]; omega) rfl (by rw [tn_ y49, tn_ v15_2]; omega) (by rw [← (show y14 = xi (E 42) 0 from ey14)]; exact bit_f (a := y14) (v := v7_1) (by omega) (by omega) ey16 ey17 (by omega)) (by rw [← (show y24 = xi (E 42) 1 from ey24)]; exact bit_f (a := y24) (v := v15_2) (by omega) (by omega) ey26 ey27 (by omega)) (by rw [show ((v7_1.toNatClampNeg : Nat) : Int) = v7_1.toInt by rw [tn_]; omega, show ((v15_2.toNatClampNeg : Nat) : Int) = v15_2.toInt by rw [tn_]; omega, show eqI v7_1.toInt v15_2.toInt = 0 from if_neg (by omega), ← k34, ← k39]; omega) ey45 ey46) (by first | exact ms_su hx15_1 ty49 (by decide) | omega) hI hKp pw48.1 hP hS (lv_sub hl [0, 1, 2] rfl)
                  · --73 not
                    have t50 : v7_1.toInt = v15_2.toInt := ti_eq c42
                    refine lv_iconst (v := 1) hx hb dX2_gatherTacks_76 (by decide) ?_
                    refine lv_goto (tgt := 81) hx hb dX2_gatherTacks_77 (by decide) ?_
                    refine lv_iadd hx hb dX2_gatherTacks_81 ?_
                    refine lv_topi (fun y51 ey51 => ?_)
                    obtain ⟨ty51, iy51⟩ := ti_add (e := 1) (f := 7) iy41 ln_1 ey51 (by decide)
                    have ty51 : y51.toInt = y41.toInt + 1 := ty51
                    have iy51 : 1 ≤ y51.toInt ∧ y51.toInt ≤ 7 := iy51
                    refine lv_ishl hx hb dX2_gatherTacks_82 ?_
                    refine lv_topi (fun y52 ey52 => ?_)
                    have iy52 : 1 ≤ y52.toInt ∧ y52.toInt ≤ 128 := ti_shl8 iy51 ey52 (by decide)
                    refine lv_ior hx hb dX2_gatherTacks_83 ?_
                    refine lv_topi (fun y53 ey53 => ?_)
                    have iy53 : 0 ≤ y53.toInt ∧ y53.toInt ≤ 255 := ti_or255 ey53 (by omega) (by omega)
                    refine th_putL (ci := 3) (C := RX2) (T := TX2) (N := 10) (v := .int y53) (ty := .int) hx hb hts hinX2 tyX2 tyX2_ok nmX2 hown hK hP (WL_D hD) hS hI 5 (mF 5 rfl) rfl rfl 9 (Nat.le_of_ble_eq_true rfl) (hts _ (vA_in _ _ (in_16 _ (zs4 (zs0))))) (fun _ h9 => h9) rfl (by decide +kernel) rfl rfl (okI rfl iy53) dX2_gatherTacks_84 (fun H locs E54 pw55 hI hP hS => ?_)
                    have hKp := hKp.pw pw55 rfl
                    obtain ⟨y56, ey56⟩ : ∃ y : Int32, y = v15_2 + (1 : Int32) := ⟨_, rfl⟩
                    obtain ⟨ty56, iy56⟩ := ti_add (e := 1) (f := 8) i13 ln_1 ey56 (by decide)
                    have ty56 : y56.toInt = v15_2.toInt + 1 := ty56
                    have iy56 : 1 ≤ y56.toInt ∧ y56.toInt ≤ 8 := iy56
                    refine lv_iinc (v := y56) (lv' := [(2, .int y56), (1, .int v7_1), (0, .ref (ad 5))]) hx hb dX2_gatherTacks_87 hl (k := 0) rfl (by rw [ey56]; rfl) (by decide) rfl (fun ls hl => ?_)
                    refine lv_goto (tgt := 15) hx hb dX2_gatherTacks_90 (by decide) ?_
                    exact ih15 y53 y56 E54 _ _ _ iy53 (iv_w iy56 (by decide)) (hx15_0.take (k0 := y51) (z := y52) (a := v7_1.toNatClampNeg) (b := v15_2.toNatClampNeg) (by rw [tn_]; omega) (by rw [tn_]; omega) rfl (by rw [tn_ y56, tn_ v15_2]; omega) (by rw [← (show y14 = xi (E 42) 0 from ey14)]; exact bit_f (a := y14) (v := v7_1) (by omega) (by omega) ey16 ey17 (by omega)) (by rw [← (show y24 = xi (E 42) 1 from ey24)]; exact bit_f (a := y24) (v := v15_2) (by omega) (by omega) ey26 ey27 (by omega)) (by rw [show ((v7_1.toNatClampNeg : Nat) : Int) = v7_1.toInt by rw [tn_]; omega, show ((v15_2.toNatClampNeg : Nat) : Int) = v15_2.toInt by rw [tn_]; omega, show eqI v7_1.toInt v15_2.toInt = 1 from if_pos (by omega), ← k34, ← k39]; omega) ey52 ey53) (by first | exact ms_su hx15_1 ty56 (by decide) | omega) hI hKp pw55.1 hP hS (lv_sub hl [0, 1, 2] rfl)
                · --44 not
                  have t57 : y27.toInt = 0 := ti_eq c28
                  have i58 : 0 ≤ y27.toInt ∧ y27.toInt ≤ 0 := iv_eqi t57 iy27 (il_ 0) (by decide)
                  refine lv_goto (tgt := 87) hx hb dX2_gatherTacks_47 (by decide) ?_
                  obtain ⟨y59, ey59⟩ : ∃ y : Int32, y = v15_2 + (1 : Int32) := ⟨_, rfl⟩
                  obtain ⟨ty59, iy59⟩ := ti_add (e := 1) (f := 8) i13 ln_1 ey59 (by decide)
                  have ty59 : y59.toInt = v15_2.toInt + 1 := ty59
                  have iy59 : 1 ≤ y59.toInt ∧ y59.toInt ≤ 8 := iy59
                  refine lv_iinc (v := y59) (lv' := [(2, .int y59), (1, .int v7_1), (0, .ref (ad 5))]) hx hb dX2_gatherTacks_87 hl (k := 0) rfl (by rw [ey59]; rfl) (by decide) rfl (fun ls hl => ?_)
                  refine lv_goto (tgt := 15) hx hb dX2_gatherTacks_90 (by decide) ?_
                  exact ih15 w15_5_9 y59 E15_ _ _ _ hw15_5_9 (iv_w iy59 (by decide)) (hx15_0.skip (a := v7_1.toNatClampNeg) (b := v15_2.toNatClampNeg) (by rw [tn_]; omega) (by rw [tn_]; omega) rfl (by rw [tn_ y59, tn_ v15_2]; omega) (fun q9 => (bit_t (a := y24) (v := v15_2) (by omega) (by omega) ey26 ey27).mp (by omega) (by rw [(show y24 = xi (E 42) 1 from ey24)]; exact q9.2))) (by first | exact ms_su hx15_1 ty59 (by decide) | omega) hI hKp hs15_5_9 hP hS (lv_sub hl [0, 1, 2] rfl)
        exact hL15 (9) w7_5_9 (0 : Int32) E7_ _ _ _ hw7_5_9 (iv_w ln_0 (by decide)) (hx7_0.cg (by have z9 : (0 : Int32).toNatClampNeg = 0 := rfl; omega)) (by have h9 := ln_0; first | exact ms_bu h9.1 (by decide) | omega) hI hKp hs7_5_9 hP hS (lv_sub hl [0, 1, 2] rfl)
  exact hL7 (9) (0 : Int32) (0 : Int32) E1 _ _ _ (iv_w ln_0 (by decide)) (iv_w ln_0 (by decide)) (TkS.start rfl) (by have h9 := ln_0; first | exact ms_bu h9.1 (by decide) | omega) hI hKp pw2.1 hP hS (lv_sub hl [0, 1] rfl)
def v_faultsOnTacksX : List Cond := .code yX2_faultsOnTacks cX2_faultsOnTacks 3 (some .int) :: vA
abbrev rm_faultsOnTacksX : Room := { frames := 4, cells := 0, slots := 0, locals := 160 }
def w_faultsOnTacksX : Nat → Nat → Bool := wl [19, 20] []
set_option maxHeartbeats 4000000 in
set_option maxRecDepth 100000 in
theorem q_faultsOnTacksX (l : Launch) (dC : Nat → ClassId) (dI : Nat → Nat → Nat) (cT : Nat → ClassId) (cf : Nat → Nat) (hC : CF cf) (ad : Nat → Nat) (E : Nat → va_E) (sz : Nat) (ri : Nat) (hI0 : IXL cT (shC cf) (spC cf) (LC cf) ad E) (hh0 : ri < cf 2) (hh1 : xv (E 5) 6 = .ref (ad (64 * (ri + 1) + 6))) (hh2 : (xi (E 5) 7).toInt < ((cf 1 : Nat) : Int)) (hh3 : ∀ p9, B7 (cL E p9)) (hh4 : RulAll cf E) (hh5 : (0 ≤ (xi (E 5) 8).toInt ∧ (xi (E 5) 8).toInt ≤ 127)) : Met l yX2_faultsOnTacks v_faultsOnTacksX rm_faultsOnTacksX (va_Pc [.ref (ad 5)] (HWL dC dI (TYC cT) cf ad E sz)) (va_Qi (S := Nat → va_E) (fun r u => IXL cT (shC cf) (spC cf) (LC cf) ad u ∧ Kp w_faultsOnTacksX E u ∧ ((0 ≤ r.toInt ∧ r.toInt ≤ 3) ∧ (SnP r.toInt (exF (zT (hWo cf E) (xi (E 5) 9) (cL E)) 8) (exF (nT (hWo cf E) (xi (E 5) 9) (cL E)) 8)))) (HBL dC dI (LC cf) ad) (va_A (WL (LC cf) ad E) sz)) 0 0 (va_A (WL (LC cf) ad E) sz) := by
  obtain ⟨⟨hc0, hc1, hc2, hc3, hc4, hc5⟩, hcr⟩ := id hC
  refine Met.ofW (cc := cX2_faultsOnTacks) (maxL := 3) (ret := (some .int)) (by decide) rfl ?_
  intro p e s m args below meth c s₁ B hml hv
  obtain ⟨hargs, hsz, hP, hK, hD0, hEV⟩ := hv
  subst hsz
  have hx := B.exec
  have hb := B.bytes
  have hr := B.returns
  have hts := atoms_spec (ws := v_faultsOnTacksX) B.pre
  have hown : s.vm.findClass RX2 = some m.cls := findClass_of_methodNamed B.named
  have hlocks := B.notSynchronized
  have hinX0 : ∀ w ∈ u_ws RX0 TX0 11, w ∈ v_faultsOnTacksX := fun w h => vA_in _ w (in_X0 w h)
  have hinX2 : ∀ w ∈ u_ws RX2 TX2 10, w ∈ v_faultsOnTacksX := fun w h => vA_in _ w (in_X2 w h)
  generalize hAe : va_A (WL (LC cf) ad E) s.heap.size = A at hEV ⊢
  have hA : ∀ q : Nat, s.heap.size ≤ q → A q := fun q h => by rw [← hAe]; exact Or.inr h
  have hD : va_D A (WL (LC cf) ad E) := by rw [← hAe]; exact hD0.self
  have hS : va_S A s.heap s.heap [] := va_S.rf
  have hI := hI0
  have hKp : Kp w_faultsOnTacksX E E := Kp.rf
  have hl := lv_entry ([.ref (ad 5)]) (n := 3) (Nat.le_of_ble_eq_true rfl)
  obtain ⟨Q, hQ⟩ : ∃ Q, Q = MQ below (va_Qi (S := Nat → va_E) (fun r u => IXL cT (shC cf) (spC cf) (LC cf) ad u ∧ Kp w_faultsOnTacksX E u ∧ ((0 ≤ r.toInt ∧ r.toInt ≤ 3) ∧ (SnP r.toInt (exF (zT (hWo cf E) (xi (E 5) 9) (cL E)) 8) (exF (nT (hWo cf E) (xi (E 5) 9) (cL E)) 8)))) (HBL dC dI (LC cf) ad) (A)) args s 0 0 (A) := ⟨_, rfl⟩
  rw [← hQ, show entryFrame m args 3 = _ from (congrArg (fun z => entryFrame m z 3) hargs).trans (lg_entry_eq _ _ _)]
  generalize (lg_sl ([.ref (ad 5)]) ++ List.replicate (3 - (lg_sl ([.ref (ad 5)])).length) Slot.unset).toArray = ls at hl ⊢
  have hl : lv_has ls 3 [(0, .ref (ad 5))] := hl
  have z0z : (0 : Int32).toInt = 0 := rfl
  refine lv_iconst (v := 0) hx hb dX2_faultsOnTacks_0 (by decide) ?_
  refine lv_istore_n (lv' := [(1, .int 0), (0, .ref (ad 5))]) hx hb dX2_faultsOnTacks_1 rfl hl (by decide) rfl (fun ls hl => ?_)
  refine lv_iconst (v := 0) hx hb dX2_faultsOnTacks_2 (by decide) ?_
  refine lv_istore_n (lv' := [(2, .int 0), (1, .int 0), (0, .ref (ad 5))]) hx hb dX2_faultsOnTacks_3 rfl hl (by decide) rfl (fun ls hl => ?_)
  have hL4 : ∀ d : Nat, ∀ (v4_2 : Int32) (v4_1 : Int32) (E4_ : Nat → va_E) (H : Heap) (locs : List Loc) (ls : Array Slot), 0 ≤ v4_2.toInt ∧ v4_2.toInt ≤ 8 → 0 ≤ v4_1.toInt ∧ v4_1.toInt ≤ 3 → SnP v4_1.toInt (exF (zT (hWo cf E) (xi (E 5) 9) (cL E)) v4_2.toNatClampNeg) (exF (nT (hWo cf E) (xi (E 5) 9) (cL E)) v4_2.toNatClampNeg) → (∀ g9 h9 o9 : Int, gL (cL E4_) g9 h9 o9 = gL (cL E) g9 h9 o9) → (∀ p9, B7 (cL E4_ p9)) → 8 - v4_2.toInt < (d : Int) → IXL cT (shC cf) (spC cf) (LC cf) ad E4_ → Kp w_faultsOnTacksX E E4_ → va_P (dC, dI) vwCl (WL (LC cf) ad E4_) H → va_S A s.heap H locs → lv_has ls 3 [(2, .int v4_2), (1, .int v4_1), (0, .ref (ad 5))] → W p l e (headSpec v_faultsOnTacksX rm_faultsOnTacksX).room s m args below meth c H locs 0 0 Q (F0 m 4 ls []) := by
    intro d
    induction d with
    | zero =>
      intro v4_2 v4_1 E4_ H locs ls hv4_2 hv4_1 hx4_0 hx4_1 hx4_2 hx4_3 hI hKp hP hS hl
      exact absurd hx4_3 (by first | exact ms_zu hv4_2.2 | omega)
    | succ d ih4 =>
      intro v4_2 v4_1 E4_ H locs ls hv4_2 hv4_1 hx4_0 hx4_1 hx4_2 hx4_3 hI hKp hP hS hl
      refine lv_iload_n hx hb dX2_faultsOnTacks_4 rfl (lv_at hl 0 rfl) ?_
      refine lv_bipush (v := 8) hx hb dX2_faultsOnTacks_5 (by decide) ?_
      refine lv_icmp_ge (tgt := 102) hx hb dX2_faultsOnTacks_7 (by decide) (fun c1 => ?_) (fun c1 => ?_)
      · --7 taken
        have t2 : (8 : Int) ≤ v4_2.toInt := ti_le c1
        have i3 : 8 ≤ v4_2.toInt ∧ v4_2.toInt ≤ 8 := iv_le_r t2 (il_ 8) hv4_2 (by decide)
        refine lv_iload_n hx hb dX2_faultsOnTacks_102 rfl (lv_at hl 1 rfl) ?_
        rw [hQ]
        exact W.iret (v := v4_1) hx hb hr (fun t ht hW => ⟨⟨v4_1, E4_, rfl, ⟨hI, hKp, ⟨hv4_1, (by have h9 := hx4_0; rw [show v4_2.toNatClampNeg = 8 by rw [tn_]; omega] at h9; exact h9)⟩⟩, by show va_P (dC, dI) vwCl (WL (LC cf) ad E4_) t.heap; rw [ht]; exact hP⟩, hS.F ht⟩) hS.2.2 dX2_faultsOnTacks_103
      · --7 not
        have t4 : v4_2.toInt < 8 := ti_nle c1
        have i5 : 0 ≤ v4_2.toInt ∧ v4_2.toInt ≤ 7 := iv_lt_l t4 hv4_2 (il_ 8) (by decide)
        refine lv_iload_n hx hb dX2_faultsOnTacks_10 rfl (lv_at hl 1 rfl) ?_
        refine lv_iconst (v := 3) hx hb dX2_faultsOnTacks_11 (by decide) ?_
        refine lv_icmp_eq (tgt := 102) hx hb dX2_faultsOnTacks_12 (by decide) (fun c6 => ?_) (fun c6 => ?_)
        · --12 taken
          have t7 : v4_1.toInt = 3 := ti_eq c6
          have i8 : 3 ≤ v4_1.toInt ∧ v4_1.toInt ≤ 3 := iv_eqi t7 hv4_1 (il_ 3) (by decide)
          refine lv_iload_n hx hb dX2_faultsOnTacks_102 rfl (lv_at hl 1 rfl) ?_
          rw [hQ]
          exact W.iret (v := v4_1) hx hb hr (fun t ht hW => ⟨⟨v4_1, E4_, rfl, ⟨hI, hKp, ⟨(iv_w i8 (by decide)), (hx4_0.m3 (by omega) (exF_mono (by rw [tn_]; omega)) (exF_mono (by rw [tn_]; omega)))⟩⟩, by show va_P (dC, dI) vwCl (WL (LC cf) ad E4_) t.heap; rw [ht]; exact hP⟩, hS.F ht⟩) hS.2.2 dX2_faultsOnTacks_103
        · --12 not
          have t9 : ¬ v4_1.toInt = 3 := ti_ne c6
          have i10 : 0 ≤ v4_1.toInt ∧ v4_1.toInt ≤ 2 := iv_ne_r t9 hv4_1 (il_ 3)
          refine lv_aload_n hx hb dX2_faultsOnTacks_15 rfl (lv_at hl 2 rfl) ?_
          have i11 : 0 ≤ (xi (E 5) 9).toInt ∧ (xi (E 5) 9).toInt ≤ 255 := hI0.iv 5 (mF 5 rfl) rfl (Nat.le_of_ble_eq_true rfl) rfl
          refine th_getL (ci := 3) (C := RX2) (T := TX2) (N := 10) (v := .int (xi (E 5) 9)) hx hb hts hinX2 hown hK hP hI 5 (mF 5 rfl) rfl rfl 9 (Nat.le_of_ble_eq_true rfl) (hts _ (vA_in _ _ (in_16 _ (zs4 (zs0))))) (fun _ h9 => h9) (th_v0L hKp hI0 5 (mF 5 rfl) rfl (Nat.le_of_ble_eq_true rfl) rfl rfl) dX2_faultsOnTacks_16 ?_
          refine lv_iload_n hx hb dX2_faultsOnTacks_19 rfl (lv_at hl 0 rfl) ?_
          refine lv_ishr hx hb dX2_faultsOnTacks_20 ?_
          refine lv_topi (fun y12 ey12 => ?_)
          refine lv_iconst (v := 1) hx hb dX2_faultsOnTacks_21 (by decide) ?_
          refine lv_iand hx hb dX2_faultsOnTacks_22 ?_
          refine lv_topi (fun y13 ey13 => ?_)
          have iy13 : 0 ≤ y13.toInt ∧ y13.toInt ≤ 1 := ti_and (by decide) ey13
          refine lv_if_ne (tgt := 29) hx hb dX2_faultsOnTacks_23 (by decide) (fun c14 => ?_) (fun c14 => ?_)
          · --23 taken
            have t15 : ¬ y13.toInt = 0 := ti_ne c14
            have i16 : 1 ≤ y13.toInt ∧ y13.toInt ≤ 1 := iv_ne_l t15 iy13 (il_ 0)
            refine lv_aload_n hx hb dX2_faultsOnTacks_29 rfl (lv_at hl 2 rfl) ?_
            refine th_getL (ci := 3) (C := RX2) (T := TX2) (N := 10) (v := .ref (ad 1)) hx hb hts hinX2 hown hK hP hI 5 (mF 5 rfl) rfl rfl 0 (Nat.le_of_ble_eq_true rfl) (hts _ (vA_in _ _ (in_14 _ (zs16 (zs16 (zs1 (zs1 (zs0)))))))) (fun _ h9 => h9) (hI.fr 5 (mF 5 rfl) rfl (Nat.le_of_ble_eq_true rfl) 1 rfl) dX2_faultsOnTacks_30 ?_
            refine th_getL (ci := 1) (C := RX0) (T := TX0) (N := 11) (v := .ref (ad 19)) hx hb hts hinX0 hown hK hP hI 1 (mF 1 rfl) rfl rfl 9 (Nat.le_of_ble_eq_true rfl) (hts _ (vA_in _ _ (in_16 _ (zs4 (zs4 (zs4 (zs1 (zs1 (zs0))))))))) (fun _ h9 => h9) (hI.fr 1 (mF 1 rfl) rfl (Nat.le_of_ble_eq_true rfl) 19 rfl) dX2_faultsOnTacks_33 ?_
            refine lv_bipush (v := 9) hx hb dX2_faultsOnTacks_36 (by decide) ?_
            refine lv_iload_n hx hb dX2_faultsOnTacks_38 rfl (lv_at hl 0 rfl) ?_
            refine lv_iconst (v := 2) hx hb dX2_faultsOnTacks_39 (by decide) ?_
            refine lv_ishr hx hb dX2_faultsOnTacks_40 ?_
            refine lv_topi (fun y17 ey17 => ?_)
            have n18 : vp_in (9 : Int32) 14 := (iv_in (n := 14) ln_9 (by decide))
            refine th_iastL hx hb hK hP (WL_D hD) hS hI 19 (mF 19 rfl) rfl rfl n18 (okI rfl (iv_all _)) dX2_faultsOnTacks_41 (fun H locs E19 pw20 hI hP hS => ?_)
            have hKp := hKp.pw pw20 rfl
            have k21 : cL E19 = lset (cL E4_) 9 y17 := cL_set (k := 9) pw20 rfl (by decide)
            refine lv_aload_n hx hb dX2_faultsOnTacks_42 rfl (lv_at hl 2 rfl) ?_
            refine th_getL (ci := 3) (C := RX2) (T := TX2) (N := 10) (v := .ref (ad 1)) hx hb hts hinX2 hown hK hP hI 5 (mF 5 rfl) rfl rfl 0 (Nat.le_of_ble_eq_true rfl) (hts _ (vA_in _ _ (in_14 _ (zs16 (zs16 (zs1 (zs1 (zs0)))))))) (fun _ h9 => h9) (hI.fr 5 (mF 5 rfl) rfl (Nat.le_of_ble_eq_true rfl) 1 rfl) dX2_faultsOnTacks_43 ?_
            refine th_getL (ci := 1) (C := RX0) (T := TX0) (N := 11) (v := .ref (ad 19)) hx hb hts hinX0 hown hK hP hI 1 (mF 1 rfl) rfl rfl 9 (Nat.le_of_ble_eq_true rfl) (hts _ (vA_in _ _ (in_16 _ (zs4 (zs4 (zs4 (zs1 (zs1 (zs0))))))))) (fun _ h9 => h9) (hI.fr 1 (mF 1 rfl) rfl (Nat.le_of_ble_eq_true rfl) 19 rfl) dX2_faultsOnTacks_46 ?_
            refine lv_bipush (v := 10) hx hb dX2_faultsOnTacks_49 (by decide) ?_
            refine lv_iload_n hx hb dX2_faultsOnTacks_51 rfl (lv_at hl 0 rfl) ?_
            refine lv_iconst (v := 1) hx hb dX2_faultsOnTacks_52 (by decide) ?_
            refine lv_ishr hx hb dX2_faultsOnTacks_53 ?_
            refine lv_topi (fun y22 ey22 => ?_)
            refine lv_iconst (v := 1) hx hb dX2_faultsOnTacks_54 (by decide) ?_
            refine lv_iand hx hb dX2_faultsOnTacks_55 ?_
            refine lv_topi (fun y23 ey23 => ?_)
            have iy23 : 0 ≤ y23.toInt ∧ y23.toInt ≤ 1 := ti_and (by decide) ey23
            have n24 : vp_in (10 : Int32) 14 := (iv_in (n := 14) ln_10 (by decide))
            refine th_iastL hx hb hK hP (WL_D hD) hS hI 19 (mF 19 rfl) rfl rfl n24 (okI rfl (iv_w iy23 (by decide))) dX2_faultsOnTacks_56 (fun H locs E25 pw26 hI hP hS => ?_)
            have hKp := hKp.pw pw26 rfl
            have k27 : cL E25 = lset (lset (cL E4_) 9 y17) 10 y23 := (cL_set (k := 10) pw26 rfl (by decide)).trans (by rw [k21])
            refine lv_aload_n hx hb dX2_faultsOnTacks_57 rfl (lv_at hl 2 rfl) ?_
            refine th_getL (ci := 3) (C := RX2) (T := TX2) (N := 10) (v := .ref (ad 1)) hx hb hts hinX2 hown hK hP hI 5 (mF 5 rfl) rfl rfl 0 (Nat.le_of_ble_eq_true rfl) (hts _ (vA_in _ _ (in_14 _ (zs16 (zs16 (zs1 (zs1 (zs0)))))))) (fun _ h9 => h9) (hI.fr 5 (mF 5 rfl) rfl (Nat.le_of_ble_eq_true rfl) 1 rfl) dX2_faultsOnTacks_58 ?_
            refine th_getL (ci := 1) (C := RX0) (T := TX0) (N := 11) (v := .ref (ad 19)) hx hb hts hinX0 hown hK hP hI 1 (mF 1 rfl) rfl rfl 9 (Nat.le_of_ble_eq_true rfl) (hts _ (vA_in _ _ (in_16 _ (zs4 (zs4 (zs4 (zs1 (zs1 (zs0))))))))) (fun _ h9 => h9) (hI.fr 1 (mF 1 rfl) rfl (Nat.le_of_ble_eq_true rfl) 19 rfl) dX2_faultsOnTacks_61 ?_
            refine lv_bipush (v := 13) hx hb dX2_faultsOnTacks_64 (by decide) ?_
            refine lv_iload_n hx hb dX2_faultsOnTacks_66 rfl (lv_at hl 0 rfl) ?_
            refine lv_iconst (v := 1) hx hb dX2_faultsOnTacks_67 (by decide) ?_
            refine lv_iand hx hb dX2_faultsOnTacks_68 ?_
            refine lv_topi (fun y28 ey28 => ?_)
            have iy28 : 0 ≤ y28.toInt ∧ y28.toInt ≤ 1 := ti_and (by decide) ey28
            have n29 : vp_in (13 : Int32) 14 := (iv_in (n := 14) ln_13 (by decide))
            refine th_iastL hx hb hK hP (WL_D hD) hS hI 19 (mF 19 rfl) rfl rfl n29 (okI rfl (iv_w iy28 (by decide))) dX2_faultsOnTacks_69 (fun H locs E30 pw31 hI hP hS => ?_)
            have hKp := hKp.pw pw31 rfl
            have k32 : cL E30 = lset (lset (lset (cL E4_) 9 y17) 10 y23) 13 y28 := (cL_set (k := 13) pw31 rfl (by decide)).trans (by rw [k27])
            refine lv_iload_n hx hb dX2_faultsOnTacks_70 rfl (lv_at hl 1 rfl) ?_
            refine lv_aload_n hx hb dX2_faultsOnTacks_71 rfl (lv_at hl 2 rfl) ?_
            refine th_getL (ci := 3) (C := RX2) (T := TX2) (N := 10) (v := .ref (ad 1)) hx hb hts hinX2 hown hK hP hI 5 (mF 5 rfl) rfl rfl 0 (Nat.le_of_ble_eq_true rfl) (hts _ (vA_in _ _ (in_14 _ (zs16 (zs16 (zs1 (zs1 (zs0)))))))) (fun _ h9 => h9) (hI.fr 5 (mF 5 rfl) rfl (Nat.le_of_ble_eq_true rfl) 1 rfl) dX2_faultsOnTacks_72 ?_
            refine lv_aload_n hx hb dX2_faultsOnTacks_75 rfl (lv_at hl 2 rfl) ?_
            have i33 : -1 ≤ (xi (E 5) 7).toInt ∧ (xi (E 5) 7).toInt ≤ 15 := hI0.iv 5 (mF 5 rfl) rfl (Nat.le_of_ble_eq_true rfl) rfl
            refine th_getL (ci := 3) (C := RX2) (T := TX2) (N := 10) (v := .int (xi (E 5) 7)) hx hb hts hinX2 hown hK hP hI 5 (mF 5 rfl) rfl rfl 7 (Nat.le_of_ble_eq_true rfl) (hts _ (vA_in _ _ (in_15 _ zs0))) (fun _ h9 => h9) (th_v0L hKp hI0 5 (mF 5 rfl) rfl (Nat.le_of_ble_eq_true rfl) rfl rfl) dX2_faultsOnTacks_76 ?_
            refine lv_aload_n hx hb dX2_faultsOnTacks_79 rfl (lv_at hl 2 rfl) ?_
            have i34 : 0 ≤ (xi (E 5) 8).toInt ∧ (xi (E 5) 8).toInt ≤ 255 := hI0.iv 5 (mF 5 rfl) rfl (Nat.le_of_ble_eq_true rfl) rfl
            refine th_getL (ci := 3) (C := RX2) (T := TX2) (N := 10) (v := .int (xi (E 5) 8)) hx hb hts hinX2 hown hK hP hI 5 (mF 5 rfl) rfl rfl 8 (Nat.le_of_ble_eq_true rfl) (hts _ (vA_in _ _ (in_15 _ (zs1 (zs0))))) (fun _ h9 => h9) (th_v0L hKp hI0 5 (mF 5 rfl) rfl (Nat.le_of_ble_eq_true rfl) rfl rfl) dX2_faultsOnTacks_80 ?_
            have hgho := gho_ (v := v4_2) (a := y17) (b1 := y22) (b := y23) (c := y28) (by omega) ey17 ey22 ey23 ey28
            have k35 : cL E30 = gL (cL E4_) ((v4_2.toNatClampNeg : Int) / 4) ((v4_2.toNatClampNeg : Int) / 2 % 2) ((v4_2.toNatClampNeg : Int) % 2) := gL3 k32 hgho.1 hgho.2.1 hgho.2.2.1
            have hgb := hgho.2.2.2
            refine th_iL (va_runV (As := [.int (xi (E 5) 7), .int (xi (E 5) 8)]) (rest := [.int v4_1]) ⟨hx, hb, hml, hown, hts⟩ (q_worthInX l dC dI cT cf hC ad E30 H.size (xi (E 5) 7) (xi (E 5) 8) hI (by exact fun i9 hi9 => (hh4 i9 hi9).cg (kp_rul hKp (fun o9 ho9 j9 => wl_p rfl rfl ho9) i9)) (by rw [k32]; exact ls_b (ls_b (ls_b hx4_2 ⟨by omega, by omega⟩) ⟨by omega, by omega⟩) ⟨by omega, by omega⟩) i33 (by omega) (by omega)) (cwV 2 hts (gi_V (in_16 _ (zs16 (zs4 (zs4 (zs1 (zs0)))))) (in_16 _ (zs16 (zs4 (zs4 (zs1 (zs1 (zs0))))))) (in_16 _ (zs16 (zs4 (zs4 (zs1 (zs1 (zs1 (zs0)))))))) (in_5 _ (zs4 (zs1 (zs1 (zs0))))) (in_7 _ (zs16 (zs4 (zs4 (zs4 (zs0))))))) rfl rfl rfl ⟨rfl, hz_yX0_worthIn_2⟩ ⟨Nat.le_of_ble_eq_true rfl, Nat.le_of_ble_eq_true rfl⟩) ⟨HWL_bl, va_recv hK hP (ci := 1) (q0 := posL 1 (LC cf)) rfl (hI.ob 1 (mF 1 rfl) rfl), (HWL_wi hP hK (WL_D hD) hS hA hEV)⟩ rfl rfl hl.1 rfl (lv_room (Nat.le_of_ble_eq_true rfl)) dX2_faultsOnTacks_83 ⟨Nat.le_of_ble_eq_true rfl, Nat.le_of_ble_eq_true rfl⟩) (WL_D hD) hS hA (fun r36 E37 H locs hw hP hS => ?_)
            obtain ⟨hI, kq38, hw⟩ := hw
            have hKb := hKp
            have hKp := hKp.tr kq38 (wl_sub rfl rfl)
            have f39 := hw
            have k40 : r36 = hWo cf E (gL (cL E) ((v4_2.toNatClampNeg : Int) / 4) ((v4_2.toNatClampNeg : Int) / 2 % 2) ((v4_2.toNatClampNeg : Int) % 2)) := f39.trans (by rw [k35, hx4_1]; exact wV_cg (fun i9 t9 ht9 hu9 j9 => kp_rul hKb (fun o9 ho9 j9 => wl_p rfl rfl ho9) i9 t9 ht9 hu9 j9))
            refine lv_if_ne (tgt := 93) hx hb dX2_faultsOnTacks_86 (by decide) (fun c41 => ?_) (fun c41 => ?_)
            · --86 taken
              have t42 : ¬ r36.toInt = 0 := ti_ne c41
              refine lv_iconst (v := 2) hx hb dX2_faultsOnTacks_93 (by decide) ?_
              have z2 := ln_2
              refine lv_ior hx hb dX2_faultsOnTacks_94 ?_
              refine lv_topi (fun y43 ey43 => ?_)
              have iy43 : 0 ≤ y43.toInt ∧ y43.toInt ≤ 3 := ti_or3 ey43 (by omega) (by omega)
              refine lv_istore_n (lv' := [(1, .int y43), (2, .int v4_2), (0, .ref (ad 5))]) hx hb dX2_faultsOnTacks_95 rfl hl (by decide) rfl (fun ls hl => ?_)
              obtain ⟨y44, ey44⟩ : ∃ y : Int32, y = v4_2 + (1 : Int32) := ⟨_, rfl⟩
              obtain ⟨ty44, iy44⟩ := ti_add (e := 1) (f := 8) i5 ln_1 ey44 (by decide)
              have ty44 : y44.toInt = v4_2.toInt + 1 := ty44
              have iy44 : 1 ≤ y44.toInt ∧ y44.toInt ≤ 8 := iy44
              refine lv_iinc (v := y44) (lv' := [(2, .int y44), (1, .int y43), (0, .ref (ad 5))]) hx hb dX2_faultsOnTacks_96 hl (k := 1) rfl (by rw [ey44]; rfl) (by decide) rfl (fun ls hl => ?_)
              refine lv_goto (tgt := 4) hx hb dX2_faultsOnTacks_99 (by decide) ?_
              exact ih4 y44 y43 E37 _ _ _ (iv_w iy44 (by decide)) iy43 (hx4_0.next (SnP.two (fun q9 => absurd (k40.trans q9.2) (fun q8 => by have q7 := congrArg Int32.toInt q8; omega)) ⟨(bit_f (a := xi (E 5) 9) (v := v4_2) (by omega) (by omega) ey12 ey13 (by omega)), fun q9 => by have q7 := congrArg Int32.toInt (k40.trans q9); omega⟩) ey43 (by rw [tn_ y44, tn_ v4_2]; omega)) (fun g9 h9 o9 => by rw [show cL E37 = cL E30 from cL_k (E := E30) (fun j9 => kq38.ei 19 j9 rfl), k35, gL_gL]; exact hx4_1 g9 h9 o9) (by rw [show cL E37 = cL E30 from cL_k (E := E30) (fun j9 => kq38.ei 19 j9 rfl), k32]; exact ls_b (ls_b (ls_b hx4_2 ⟨by omega, by omega⟩) ⟨by omega, by omega⟩) ⟨by omega, by omega⟩) (by first | exact ms_su hx4_3 ty44 (by decide) | omega) hI hKp hP hS (lv_sub hl [0, 1, 2] rfl)
            · --86 not
              have t45 : r36.toInt = 0 := ti_eq c41
              have i46 : 0 ≤ r36.toInt ∧ r36.toInt ≤ 0 := iv_eqi t45 (iv_all _) (il_ 0) (by decide)
              refine lv_iconst (v := 1) hx hb dX2_faultsOnTacks_89 (by decide) ?_
              refine lv_goto (tgt := 94) hx hb dX2_faultsOnTacks_90 (by decide) ?_
              have z1 := ln_1
              refine lv_ior hx hb dX2_faultsOnTacks_94 ?_
              refine lv_topi (fun y47 ey47 => ?_)
              have iy47 : 0 ≤ y47.toInt ∧ y47.toInt ≤ 3 := ti_or3 ey47 (by omega) (by omega)
              refine lv_istore_n (lv' := [(1, .int y47), (2, .int v4_2), (0, .ref (ad 5))]) hx hb dX2_faultsOnTacks_95 rfl hl (by decide) rfl (fun ls hl => ?_)
              obtain ⟨y48, ey48⟩ : ∃ y : Int32, y = v4_2 + (1 : Int32) := ⟨_, rfl⟩
              obtain ⟨ty48, iy48⟩ := ti_add (e := 1) (f := 8) i5 ln_1 ey48 (by decide)
              have ty48 : y48.toInt = v4_2.toInt + 1 := ty48
              have iy48 : 1 ≤ y48.toInt ∧ y48.toInt ≤ 8 := iy48
              refine lv_iinc (v := y48) (lv' := [(2, .int y48), (1, .int y47), (0, .ref (ad 5))]) hx hb dX2_faultsOnTacks_96 hl (k := 1) rfl (by rw [ey48]; rfl) (by decide) rfl (fun ls hl => ?_)
              refine lv_goto (tgt := 4) hx hb dX2_faultsOnTacks_99 (by decide) ?_
              exact ih4 y48 y47 E37 _ _ _ (iv_w iy48 (by decide)) iy47 (hx4_0.next (SnP.one (v := r36) (by omega) ⟨(bit_f (a := xi (E 5) 9) (v := v4_2) (by omega) (by omega) ey12 ey13 (by omega)), k40.symm.trans (Int32.toInt_inj.mp (by omega))⟩ (fun q9 => q9.2 (k40.symm.trans (Int32.toInt_inj.mp (by omega))))) ey47 (by rw [tn_ y48, tn_ v4_2]; omega)) (fun g9 h9 o9 => by rw [show cL E37 = cL E30 from cL_k (E := E30) (fun j9 => kq38.ei 19 j9 rfl), k35, gL_gL]; exact hx4_1 g9 h9 o9) (by rw [show cL E37 = cL E30 from cL_k (E := E30) (fun j9 => kq38.ei 19 j9 rfl), k32]; exact ls_b (ls_b (ls_b hx4_2 ⟨by omega, by omega⟩) ⟨by omega, by omega⟩) ⟨by omega, by omega⟩) (by first | exact ms_su hx4_3 ty48 (by decide) | omega) hI hKp hP hS (lv_sub hl [0, 1, 2] rfl)
          · --23 not
            have t49 : y13.toInt = 0 := ti_eq c14
            have i50 : 0 ≤ y13.toInt ∧ y13.toInt ≤ 0 := iv_eqi t49 iy13 (il_ 0) (by decide)
            refine lv_goto (tgt := 96) hx hb dX2_faultsOnTacks_26 (by decide) ?_
            obtain ⟨y51, ey51⟩ : ∃ y : Int32, y = v4_2 + (1 : Int32) := ⟨_, rfl⟩
            obtain ⟨ty51, iy51⟩ := ti_add (e := 1) (f := 8) i5 ln_1 ey51 (by decide)
            have ty51 : y51.toInt = v4_2.toInt + 1 := ty51
            have iy51 : 1 ≤ y51.toInt ∧ y51.toInt ≤ 8 := iy51
            refine lv_iinc (v := y51) (lv' := [(2, .int y51), (1, .int v4_1), (0, .ref (ad 5))]) hx hb dX2_faultsOnTacks_96 hl (k := 0) rfl (by rw [ey51]; rfl) (by decide) rfl (fun ls hl => ?_)
            refine lv_goto (tgt := 4) hx hb dX2_faultsOnTacks_99 (by decide) ?_
            exact ih4 y51 v4_1 E4_ _ _ _ (iv_w iy51 (by decide)) (iv_w i10 (by decide)) (hx4_0.skip (by rw [tn_ y51, tn_ v4_2]; omega) (fun q9 => (bit_t (a := xi (E 5) 9) (v := v4_2) (by omega) (by omega) ey12 ey13).mp (by omega) q9.1) (fun q9 => (bit_t (a := xi (E 5) 9) (v := v4_2) (by omega) (by omega) ey12 ey13).mp (by omega) q9.1)) hx4_1 hx4_2 (by first | exact ms_su hx4_3 ty51 (by decide) | omega) hI hKp hP hS (lv_sub hl [0, 1, 2] rfl)
  exact hL4 (9) (0 : Int32) (0 : Int32) E _ _ _ (iv_w ln_0 (by decide)) (iv_w ln_0 (by decide)) (SnP.start exF_0 exF_0) (fun _ _ _ => rfl) hh3 (by have h9 := ln_0; first | exact ms_bu h9.1 (by decide) | omega) hI hKp hP hS (lv_sub hl [0, 1, 2] rfl)
def v_faultsFromX : List Cond := .code yX2_faultsFrom cX2_faultsFrom 7 (some .int) :: vA
abbrev rm_faultsFromX : Room := { frames := 5, cells := 0, slots := 0, locals := 200 }
def w_faultsFromX : Nat → Nat → Bool := wl [19, 20] []
set_option maxHeartbeats 4000000 in
set_option maxRecDepth 100000 in
theorem q_faultsFromX (l : Launch) (dC : Nat → ClassId) (dI : Nat → Nat → Nat) (cT : Nat → ClassId) (cf : Nat → Nat) (hC : CF cf) (ad : Nat → Nat) (E : Nat → va_E) (sz : Nat) (a0 : Int32) (a1 : Int32) (ri : Nat) (hI0 : IXL cT (shC cf) (spC cf) (LC cf) ad E) (hh0 : ri < cf 2) (hh1 : xv (E 5) 6 = .ref (ad (64 * (ri + 1) + 6))) (hh2 : (xi (E 5) 7).toInt < ((cf 1 : Nat) : Int)) (hh3 : 0 ≤ a0.toInt ∧ a0.toInt ≤ 99) (hh4 : 0 ≤ a1.toInt ∧ a1.toInt ≤ 99) (hh5 : RulAll cf E) (hh6 : (0 ≤ (xi (E 5) 8).toInt ∧ (xi (E 5) 8).toInt ≤ 127)) : Met l yX2_faultsFrom v_faultsFromX rm_faultsFromX (va_Pc [.ref (ad 5), .int a0, .int a1] (HWL dC dI (TYC cT) cf ad E sz)) (va_Qi (S := Nat → va_E) (fun r u => IXL cT (shC cf) (spC cf) (LC cf) ad u ∧ Kp w_faultsFromX E u ∧ ((0 ≤ r.toInt ∧ r.toInt ≤ 3) ∧ (SnP r.toInt (∃ x8 y8 : Int, spn E 1 x8 y8 ∧ hZr cf E (hLe E ri a0.toInt a1.toInt x8 y8)) (∃ x8 y8 : Int, spn E 1 x8 y8 ∧ hNz cf E (hLe E ri a0.toInt a1.toInt x8 y8))))) (HBL dC dI (LC cf) ad) (va_A (WL (LC cf) ad E) sz)) 0 0 (va_A (WL (LC cf) ad E) sz) := by
  obtain ⟨⟨hc0, hc1, hc2, hc3, hc4, hc5⟩, hcr⟩ := id hC
  refine Met.ofW (cc := cX2_faultsFrom) (maxL := 7) (ret := (some .int)) (by decide) rfl ?_
  intro p e s m args below meth c s₁ B hml hv
  obtain ⟨hargs, hsz, hP, hK, hD0, hEV⟩ := hv
  subst hsz
  have hx := B.exec
  have hb := B.bytes
  have hr := B.returns
  have hts := atoms_spec (ws := v_faultsFromX) B.pre
  have hown : s.vm.findClass RX2 = some m.cls := findClass_of_methodNamed B.named
  have hlocks := B.notSynchronized
  have hinX0 : ∀ w ∈ u_ws RX0 TX0 11, w ∈ v_faultsFromX := fun w h => vA_in _ w (in_X0 w h)
  have hinX2 : ∀ w ∈ u_ws RX2 TX2 10, w ∈ v_faultsFromX := fun w h => vA_in _ w (in_X2 w h)
  have hinX5 : ∀ w ∈ u_ws RX5 TX5 12, w ∈ v_faultsFromX := fun w h => vA_in _ w (in_X5 w h)
  generalize hAe : va_A (WL (LC cf) ad E) s.heap.size = A at hEV ⊢
  have hA : ∀ q : Nat, s.heap.size ≤ q → A q := fun q h => by rw [← hAe]; exact Or.inr h
  have hD : va_D A (WL (LC cf) ad E) := by rw [← hAe]; exact hD0.self
  have hS : va_S A s.heap s.heap [] := va_S.rf
  have hI := hI0
  have hKp : Kp w_faultsFromX E E := Kp.rf
  have hl := lv_entry ([.ref (ad 5), .int a0, .int a1]) (n := 7) (Nat.le_of_ble_eq_true rfl)
  obtain ⟨Q, hQ⟩ : ∃ Q, Q = MQ below (va_Qi (S := Nat → va_E) (fun r u => IXL cT (shC cf) (spC cf) (LC cf) ad u ∧ Kp w_faultsFromX E u ∧ ((0 ≤ r.toInt ∧ r.toInt ≤ 3) ∧ (SnP r.toInt (∃ x8 y8 : Int, spn E 1 x8 y8 ∧ hZr cf E (hLe E ri a0.toInt a1.toInt x8 y8)) (∃ x8 y8 : Int, spn E 1 x8 y8 ∧ hNz cf E (hLe E ri a0.toInt a1.toInt x8 y8))))) (HBL dC dI (LC cf) ad) (A)) args s 0 0 (A) := ⟨_, rfl⟩
  rw [← hQ, show entryFrame m args 7 = _ from (congrArg (fun z => entryFrame m z 7) hargs).trans (lg_entry_eq _ _ _)]
  generalize (lg_sl ([.ref (ad 5), .int a0, .int a1]) ++ List.replicate (7 - (lg_sl ([.ref (ad 5), .int a0, .int a1])).length) Slot.unset).toArray = ls at hl ⊢
  have hl : lv_has ls 7 [(0, .ref (ad 5)), (1, .int a0), (2, .int a1)] := hl
  have z0z : (0 : Int32).toInt = 0 := rfl
  refine lv_iconst (v := 0) hx hb dX2_faultsFrom_0 (by decide) ?_
  refine lv_istore_n (lv' := [(3, .int 0), (0, .ref (ad 5)), (1, .int a0), (2, .int a1)]) hx hb dX2_faultsFrom_1 rfl hl (by decide) rfl (fun ls hl => ?_)
  refine lv_aload_n hx hb dX2_faultsFrom_2 rfl (lv_at hl 1 rfl) ?_
  refine th_getL (ci := 3) (C := RX2) (T := TX2) (N := 10) (v := .ref (ad 38)) hx hb hts hinX2 hown hK hP hI 5 (mF 5 rfl) rfl rfl 1 (Nat.le_of_ble_eq_true rfl) (hts _ (vA_in _ _ (in_15 _ (zs1 (zs1 (zs0)))))) (fun _ h9 => h9) (hI.fr 5 (mF 5 rfl) rfl (Nat.le_of_ble_eq_true rfl) 38 rfl) dX2_faultsFrom_3 ?_
  refine lv_iconst (v := 1) hx hb dX2_faultsFrom_6 (by decide) ?_
  have n2 : vp_in (1 : Int32) 2 := (iv_in (n := 2) ln_1 (by decide))
  refine th_ialdL hx hb hK hP hI 38 (mF 38 rfl) rfl rfl n2 dX2_faultsFrom_7 (fun y1 ey1 => ?_)
  have iy1 : 0 ≤ y1.toInt ∧ y1.toInt ≤ 99 := hI.el 38 (mF 38 rfl) rfl n2 (fun _ => rfl) ey1
  have ey1 := ey1.trans (hKp.ei 38 _ rfl)
  have k3 : y1.toInt = (xi (E 38) 1).toInt := congrArg Int32.toInt (show y1 = xi (E 38) 1 from ey1)
  refine lv_istore (lv' := [(4, .int y1), (3, .int 0), (0, .ref (ad 5)), (1, .int a0), (2, .int a1)]) hx hb dX2_faultsFrom_8 hl (by decide) rfl (fun ls hl => ?_)
  have hL10 : ∀ d : Nat, ∀ (v10_4 : Int32) (v10_3 : Int32) (E10_ : Nat → va_E) (H : Heap) (locs : List Loc) (ls : Array Slot), 0 ≤ v10_4.toInt ∧ v10_4.toInt ≤ 100 → 0 ≤ v10_3.toInt ∧ v10_3.toInt ≤ 3 → SnP v10_3.toInt (exR (rng (xi (E 38) 1).toInt (xi (E 39) 1).toInt (xi (E 40) 1).toInt (xi (E 41) 1).toInt) (fun x8 y8 => hZr cf E (hLe E ri a0.toInt a1.toInt x8 y8)) v10_4.toInt (xi (E 40) 1).toInt) (exR (rng (xi (E 38) 1).toInt (xi (E 39) 1).toInt (xi (E 40) 1).toInt (xi (E 41) 1).toInt) (fun x8 y8 => hNz cf E (hLe E ri a0.toInt a1.toInt x8 y8)) v10_4.toInt (xi (E 40) 1).toInt) → (xi (E 38) 1).toInt ≤ v10_4.toInt → 100 - v10_4.toInt < (d : Int) → IXL cT (shC cf) (spC cf) (LC cf) ad E10_ → Kp w_faultsFromX E E10_ → va_P (dC, dI) vwCl (WL (LC cf) ad E10_) H → va_S A s.heap H locs → lv_has ls 7 [(4, .int v10_4), (3, .int v10_3), (0, .ref (ad 5)), (1, .int a0), (2, .int a1)] → W p l e (headSpec v_faultsFromX rm_faultsFromX).room s m args below meth c H locs 0 0 Q (F0 m 10 ls []) := by
    intro d
    induction d with
    | zero =>
      intro v10_4 v10_3 E10_ H locs ls hv10_4 hv10_3 hx10_0 hx10_1 hx10_2 hI hKp hP hS hl
      exact absurd hx10_2 (by first | exact ms_zu hv10_4.2 | omega)
    | succ d ih10 =>
      intro v10_4 v10_3 E10_ H locs ls hv10_4 hv10_3 hx10_0 hx10_1 hx10_2 hI hKp hP hS hl
      refine lv_iload hx hb dX2_faultsFrom_10 (lv_at hl 0 rfl) ?_
      refine lv_aload_n hx hb dX2_faultsFrom_12 rfl (lv_at hl 2 rfl) ?_
      refine th_getL (ci := 3) (C := RX2) (T := TX2) (N := 10) (v := .ref (ad 39)) hx hb hts hinX2 hown hK hP hI 5 (mF 5 rfl) rfl rfl 2 (Nat.le_of_ble_eq_true rfl) (hts _ (vA_in _ _ (in_15 _ (zs1 (zs1 (zs1 (zs0))))))) (fun _ h9 => h9) (hI.fr 5 (mF 5 rfl) rfl (Nat.le_of_ble_eq_true rfl) 39 rfl) dX2_faultsFrom_13 ?_
      refine lv_iconst (v := 1) hx hb dX2_faultsFrom_16 (by decide) ?_
      have n5 : vp_in (1 : Int32) 2 := (iv_in (n := 2) ln_1 (by decide))
      refine th_ialdL hx hb hK hP hI 39 (mF 39 rfl) rfl rfl n5 dX2_faultsFrom_17 (fun y4 ey4 => ?_)
      have iy4 : 0 ≤ y4.toInt ∧ y4.toInt ≤ 99 := hI.el 39 (mF 39 rfl) rfl n5 (fun _ => rfl) ey4
      have ey4 := ey4.trans (hKp.ei 39 _ rfl)
      have k6 : y4.toInt = (xi (E 39) 1).toInt := congrArg Int32.toInt (show y4 = xi (E 39) 1 from ey4)
      refine lv_icmp_gt (tgt := 209) hx hb dX2_faultsFrom_18 (by decide) (fun c7 => ?_) (fun c7 => ?_)
      · --18 taken
        have t8 : y4.toInt < v10_4.toInt := ti_lt c7
        have i9 : 1 ≤ v10_4.toInt ∧ v10_4.toInt ≤ 100 := iv_lt_r t8 iy4 hv10_4 (by decide)
        refine lv_iload_n hx hb dX2_faultsFrom_209 rfl (lv_at hl 1 rfl) ?_
        rw [hQ]
        exact W.iret (v := v10_3) hx hb hr (fun t ht hW => ⟨⟨v10_3, E10_, rfl, ⟨hI, hKp, ⟨hv10_3, (hx10_0.cg (exR_all (by omega)) (exR_all (by omega)))⟩⟩, by show va_P (dC, dI) vwCl (WL (LC cf) ad E10_) t.heap; rw [ht]; exact hP⟩, hS.F ht⟩) hS.2.2 dX2_faultsFrom_210
      · --18 not
        have t10 : v10_4.toInt ≤ y4.toInt := ti_nlt c7
        have i11 : 0 ≤ v10_4.toInt ∧ v10_4.toInt ≤ 99 := iv_le_l t10 hv10_4 iy4 (by decide)
        refine lv_iload_n hx hb dX2_faultsFrom_21 rfl (lv_at hl 1 rfl) ?_
        refine lv_iconst (v := 3) hx hb dX2_faultsFrom_22 (by decide) ?_
        refine lv_icmp_eq (tgt := 209) hx hb dX2_faultsFrom_23 (by decide) (fun c12 => ?_) (fun c12 => ?_)
        · --23 taken
          have t13 : v10_3.toInt = 3 := ti_eq c12
          have i14 : 3 ≤ v10_3.toInt ∧ v10_3.toInt ≤ 3 := iv_eqi t13 hv10_3 (il_ 3) (by decide)
          refine lv_iload_n hx hb dX2_faultsFrom_209 rfl (lv_at hl 1 rfl) ?_
          rw [hQ]
          exact W.iret (v := v10_3) hx hb hr (fun t ht hW => ⟨⟨v10_3, E10_, rfl, ⟨hI, hKp, ⟨(iv_w i14 (by decide)), (hx10_0.m3 (by omega) exR_w exR_w)⟩⟩, by show va_P (dC, dI) vwCl (WL (LC cf) ad E10_) t.heap; rw [ht]; exact hP⟩, hS.F ht⟩) hS.2.2 dX2_faultsFrom_210
        · --23 not
          have t15 : ¬ v10_3.toInt = 3 := ti_ne c12
          have i16 : 0 ≤ v10_3.toInt ∧ v10_3.toInt ≤ 2 := iv_ne_r t15 hv10_3 (il_ 3)
          refine lv_aload_n hx hb dX2_faultsFrom_26 rfl (lv_at hl 2 rfl) ?_
          refine th_getL (ci := 3) (C := RX2) (T := TX2) (N := 10) (v := .ref (ad 40)) hx hb hts hinX2 hown hK hP hI 5 (mF 5 rfl) rfl rfl 3 (Nat.le_of_ble_eq_true rfl) (hts _ (vA_in _ _ (in_15 _ (zs4 (zs0))))) (fun _ h9 => h9) (hI.fr 5 (mF 5 rfl) rfl (Nat.le_of_ble_eq_true rfl) 40 rfl) dX2_faultsFrom_27 ?_
          refine lv_iconst (v := 1) hx hb dX2_faultsFrom_30 (by decide) ?_
          have n18 : vp_in (1 : Int32) 2 := (iv_in (n := 2) ln_1 (by decide))
          refine th_ialdL hx hb hK hP hI 40 (mF 40 rfl) rfl rfl n18 dX2_faultsFrom_31 (fun y17 ey17 => ?_)
          have iy17 : 0 ≤ y17.toInt ∧ y17.toInt ≤ 99 := hI.el 40 (mF 40 rfl) rfl n18 (fun _ => rfl) ey17
          have ey17 := ey17.trans (hKp.ei 40 _ rfl)
          have k19 : y17.toInt = (xi (E 40) 1).toInt := congrArg Int32.toInt (show y17 = xi (E 40) 1 from ey17)
          refine lv_istore (lv' := [(5, .int y17), (4, .int v10_4), (3, .int v10_3), (0, .ref (ad 5)), (1, .int a0), (2, .int a1)]) hx hb dX2_faultsFrom_32 hl (by decide) rfl (fun ls hl => ?_)
          have hL34 : ∀ d : Nat, ∀ (v34_5 : Int32) (v34_3 : Int32) (E34_ : Nat → va_E) (H : Heap) (locs : List Loc) (ls : Array Slot), 0 ≤ v34_5.toInt ∧ v34_5.toInt ≤ 100 → 0 ≤ v34_3.toInt ∧ v34_3.toInt ≤ 3 → SnP v34_3.toInt (exR (rng (xi (E 38) 1).toInt (xi (E 39) 1).toInt (xi (E 40) 1).toInt (xi (E 41) 1).toInt) (fun x8 y8 => hZr cf E (hLe E ri a0.toInt a1.toInt x8 y8)) v10_4.toInt v34_5.toInt) (exR (rng (xi (E 38) 1).toInt (xi (E 39) 1).toInt (xi (E 40) 1).toInt (xi (E 41) 1).toInt) (fun x8 y8 => hNz cf E (hLe E ri a0.toInt a1.toInt x8 y8)) v10_4.toInt v34_5.toInt) → (xi (E 40) 1).toInt ≤ v34_5.toInt → 100 - v34_5.toInt < (d : Int) → IXL cT (shC cf) (spC cf) (LC cf) ad E34_ → Kp w_faultsFromX E E34_ → va_P (dC, dI) vwCl (WL (LC cf) ad E34_) H → va_S A s.heap H locs → lv_has ls 7 [(5, .int v34_5), (4, .int v10_4), (3, .int v34_3), (0, .ref (ad 5)), (1, .int a0), (2, .int a1)] → W p l e (headSpec v_faultsFromX rm_faultsFromX).room s m args below meth c H locs 0 0 Q (F0 m 34 ls []) := by
            intro d
            induction d with
            | zero =>
              intro v34_5 v34_3 E34_ H locs ls hv34_5 hv34_3 hx34_0 hx34_1 hx34_2 hI hKp hP hS hl
              exact absurd hx34_2 (by first | exact ms_zu hv34_5.2 | omega)
            | succ d ih34 =>
              intro v34_5 v34_3 E34_ H locs ls hv34_5 hv34_3 hx34_0 hx34_1 hx34_2 hI hKp hP hS hl
              refine lv_iload hx hb dX2_faultsFrom_34 (lv_at hl 0 rfl) ?_
              refine lv_aload_n hx hb dX2_faultsFrom_36 rfl (lv_at hl 3 rfl) ?_
              refine th_getL (ci := 3) (C := RX2) (T := TX2) (N := 10) (v := .ref (ad 41)) hx hb hts hinX2 hown hK hP hI 5 (mF 5 rfl) rfl rfl 4 (Nat.le_of_ble_eq_true rfl) (hts _ (vA_in _ _ (in_15 _ (zs4 (zs1 (zs0)))))) (fun _ h9 => h9) (hI.fr 5 (mF 5 rfl) rfl (Nat.le_of_ble_eq_true rfl) 41 rfl) dX2_faultsFrom_37 ?_
              refine lv_iconst (v := 1) hx hb dX2_faultsFrom_40 (by decide) ?_
              have n21 : vp_in (1 : Int32) 2 := (iv_in (n := 2) ln_1 (by decide))
              refine th_ialdL hx hb hK hP hI 41 (mF 41 rfl) rfl rfl n21 dX2_faultsFrom_41 (fun y20 ey20 => ?_)
              have iy20 : 0 ≤ y20.toInt ∧ y20.toInt ≤ 99 := hI.el 41 (mF 41 rfl) rfl n21 (fun _ => rfl) ey20
              have ey20 := ey20.trans (hKp.ei 41 _ rfl)
              have k22 : y20.toInt = (xi (E 41) 1).toInt := congrArg Int32.toInt (show y20 = xi (E 41) 1 from ey20)
              refine lv_icmp_gt (tgt := 203) hx hb dX2_faultsFrom_42 (by decide) (fun c23 => ?_) (fun c23 => ?_)
              · --42 taken
                have t24 : y20.toInt < v34_5.toInt := ti_lt c23
                have i25 : 1 ≤ v34_5.toInt ∧ v34_5.toInt ≤ 100 := iv_lt_r t24 iy20 hv34_5 (by decide)
                obtain ⟨y26, ey26⟩ : ∃ y : Int32, y = v10_4 + (1 : Int32) := ⟨_, rfl⟩
                obtain ⟨ty26, iy26⟩ := ti_add (e := 1) (f := 100) i11 ln_1 ey26 (by decide)
                have ty26 : y26.toInt = v10_4.toInt + 1 := ty26
                have iy26 : 1 ≤ y26.toInt ∧ y26.toInt ≤ 100 := iy26
                refine lv_iinc (v := y26) (lv' := [(4, .int y26), (5, .int v34_5), (3, .int v34_3), (0, .ref (ad 5)), (1, .int a0), (2, .int a1)]) hx hb dX2_faultsFrom_203 hl (k := 1) rfl (by rw [ey26]; rfl) (by decide) rfl (fun ls hl => ?_)
                refine lv_goto (tgt := 10) hx hb dX2_faultsFrom_206 (by decide) ?_
                exact ih10 y26 v34_3 E34_ _ _ _ (iv_w iy26 (by decide)) hv34_3 (hx34_0.cg (exR_out (by omega) (by omega) (by omega)) (exR_out (by omega) (by omega) (by omega))) (by omega) (by first | exact ms_su hx10_2 ty26 (by decide) | omega) hI hKp hP hS (lv_sub hl [0, 2, 3, 4, 5] rfl)
              · --42 not
                have t27 : v34_5.toInt ≤ y20.toInt := ti_nlt c23
                have i28 : 0 ≤ v34_5.toInt ∧ v34_5.toInt ≤ 99 := iv_le_l t27 hv34_5 iy20 (by decide)
                refine lv_iload_n hx hb dX2_faultsFrom_45 rfl (lv_at hl 2 rfl) ?_
                refine lv_iconst (v := 3) hx hb dX2_faultsFrom_46 (by decide) ?_
                refine lv_icmp_eq (tgt := 203) hx hb dX2_faultsFrom_47 (by decide) (fun c29 => ?_) (fun c29 => ?_)
                · --47 taken
                  have t30 : v34_3.toInt = 3 := ti_eq c29
                  have i31 : 3 ≤ v34_3.toInt ∧ v34_3.toInt ≤ 3 := iv_eqi t30 hv34_3 (il_ 3) (by decide)
                  obtain ⟨y32, ey32⟩ : ∃ y : Int32, y = v10_4 + (1 : Int32) := ⟨_, rfl⟩
                  obtain ⟨ty32, iy32⟩ := ti_add (e := 1) (f := 100) i11 ln_1 ey32 (by decide)
                  have ty32 : y32.toInt = v10_4.toInt + 1 := ty32
                  have iy32 : 1 ≤ y32.toInt ∧ y32.toInt ≤ 100 := iy32
                  refine lv_iinc (v := y32) (lv' := [(4, .int y32), (5, .int v34_5), (3, .int v34_3), (0, .ref (ad 5)), (1, .int a0), (2, .int a1)]) hx hb dX2_faultsFrom_203 hl (k := 1) rfl (by rw [ey32]; rfl) (by decide) rfl (fun ls hl => ?_)
                  refine lv_goto (tgt := 10) hx hb dX2_faultsFrom_206 (by decide) ?_
                  exact ih10 y32 v34_3 E34_ _ _ _ (iv_w iy32 (by decide)) (iv_w i31 (by decide)) (hx34_0.m3 (by omega) (exR_up (by omega)) (exR_up (by omega))) (by omega) (by first | exact ms_su hx10_2 ty32 (by decide) | omega) hI hKp hP hS (lv_sub hl [0, 2, 3, 4, 5] rfl)
                · --47 not
                  have t33 : ¬ v34_3.toInt = 3 := ti_ne c29
                  have i34 : 0 ≤ v34_3.toInt ∧ v34_3.toInt ≤ 2 := iv_ne_r t33 hv34_3 (il_ 3)
                  refine lv_aload_n hx hb dX2_faultsFrom_50 rfl (lv_at hl 3 rfl) ?_
                  refine th_getL (ci := 3) (C := RX2) (T := TX2) (N := 10) (v := .ref (ad 1)) hx hb hts hinX2 hown hK hP hI 5 (mF 5 rfl) rfl rfl 0 (Nat.le_of_ble_eq_true rfl) (hts _ (vA_in _ _ (in_14 _ (zs16 (zs16 (zs1 (zs1 (zs0)))))))) (fun _ h9 => h9) (hI.fr 5 (mF 5 rfl) rfl (Nat.le_of_ble_eq_true rfl) 1 rfl) dX2_faultsFrom_51 ?_
                  refine th_vL (va_runV (As := []) (rest := []) ⟨hx, hb, hml, hown, hts⟩ (q_forgetX l dC dI cT cf hC ad E34_ H.size hI) (cwV 0 hts (gi_V (in_16 _ (zs16 (zs1 (zs0)))) (in_6 _ (zs16 (zs16 (zs4 (zs1 (zs0)))))) (in_6 _ (zs16 (zs16 (zs4 (zs1 (zs1 (zs0))))))) (in_5 _ (zs4 (zs1 (zs1 (zs0))))) (in_5 _ (zs16 (zs4 (zs1 (zs1 (zs1 (zs0)))))))) rfl rfl rfl ⟨rfl, hz_yX0_forgetLetters_0⟩ ⟨Nat.le_of_ble_eq_true rfl, Nat.le_of_ble_eq_true rfl⟩) ⟨HWL_bl, va_recv hK hP (ci := 1) (q0 := posL 1 (LC cf)) rfl (hI.ob 1 (mF 1 rfl) rfl), (HWL_wi hP hK (WL_D hD) hS hA hEV)⟩ rfl rfl hl.1 rfl (lv_room (Nat.le_of_ble_eq_true rfl)) dX2_faultsFrom_54 ⟨Nat.le_of_ble_eq_true rfl, Nat.le_of_ble_eq_true rfl⟩) (WL_D hD) hS hA (fun E36 H locs hw hP hS => ?_)
                  obtain ⟨hI, kq37, hw⟩ := hw
                  have hKb := hKp
                  have hKp := hKp.tr kq37 (wl_sub rfl rfl)
                  have f38 := hw
                  refine lv_iload_n hx hb dX2_faultsFrom_57 rfl (lv_at hl 4 rfl) ?_
                  refine lv_iload hx hb dX2_faultsFrom_58 (lv_at hl 1 rfl) ?_
                  refine lv_isub hx hb dX2_faultsFrom_60 ?_
                  refine lv_topi (fun y39 ey39 => ?_)
                  obtain ⟨ty39, iy39⟩ := ti_sub (e := (-99)) (f := 99) hh3 i11 ey39 (by decide)
                  have ty39 : y39.toInt = a0.toInt - v10_4.toInt := ty39
                  have iy39 : -99 ≤ y39.toInt ∧ y39.toInt ≤ 99 := iy39
                  obtain ⟨q40, hZq40, hTq40⟩ := hEV.2.2.1.1
                  have hSx := hS
                  refine va_getsN hx hb hZq40 hSx hown (va_Nw.use rfl hEV.1.2.1.1) (fun _ h9 => h9) dX2_faultsFrom_61 ?_
                  refine lv_aload_n hx hb dX2_faultsFrom_64 rfl (lv_at hl 3 rfl) ?_
                  refine th_getL (ci := 3) (C := RX2) (T := TX2) (N := 10) (v := .ref (ad (64 * (ri + 1) + 6))) hx hb hts hinX2 hown hK hP hI 5 (mF 5 rfl) rfl rfl 6 (Nat.le_of_ble_eq_true rfl) (hts _ (vA_in _ _ (in_14 _ (zs16 (zs16 (zs4 (zs1 (zs1 (zs0))))))))) (fun _ h9 => h9) ((hKp 5 6 rfl).trans hh1) dX2_faultsFrom_65 ?_
                  have i41 : 0 ≤ (xi (E (64 * (ri + 1) + 6)) 4).toInt ∧ (xi (E (64 * (ri + 1) + 6)) 4).toInt ≤ 7 := hI0.iv (64 * (ri + 1) + 6) (mP 6 ri (by decide) hh0 (kl_le hC 2 (by decide))) (shC_p 6 ri (by decide)) (Nat.le_of_ble_eq_true rfl) (spC_p 6 ri (by decide) 4)
                  refine th_getL (ci := 6) (C := RX5) (T := TX5) (N := 12) (v := .int (xi (E (64 * (ri + 1) + 6)) 4)) hx hb hts hinX5 hown hK hP hI (64 * (ri + 1) + 6) (mP 6 ri (by decide) hh0 (kl_le hC 2 (by decide))) (shC_p 6 ri (by decide)) rfl 4 (Nat.le_of_ble_eq_true rfl) (hts _ (vA_in _ _ (in_16 _ (zs4 (zs4 (zs1 (zs0))))))) (fun _ h9 => h9) (th_v0L hKp hI0 (64 * (ri + 1) + 6) (mP 6 ri (by decide) hh0 (kl_le hC 2 (by decide))) (shC_p 6 ri (by decide)) (Nat.le_of_ble_eq_true rfl) (spC_p 6 ri (by decide) 4) (wl_p rfl rfl (by omega))) dX2_faultsFrom_68 ?_
                  refine va_ti hx hb hTq40 hSx (i := (xi (E (64 * (ri + 1) + 6)) 4)) (iv_in (n := 8) i41 (by decide)) rfl dX2_faultsFrom_71 ?_
                  refine lv_topi (fun y42 ey42 => ?_)
                  have iy42 : -1 ≤ y42.toInt ∧ y42.toInt ≤ 1 := by rw [ey42]; exact tSX_iv _
                  refine lv_imul hx hb dX2_faultsFrom_72 ?_
                  refine lv_topi (fun y43 ey43 => ?_)
                  obtain ⟨ty43, iy43⟩ := ti_mul (e := (-99)) (f := 99) iy39 iy42 ey43 (by decide)
                  have ty43 : y43.toInt = y39.toInt * y42.toInt := ty43
                  have iy43 : -99 ≤ y43.toInt ∧ y43.toInt ≤ 99 := iy43
                  refine lv_iload_n hx hb dX2_faultsFrom_73 rfl (lv_at hl 5 rfl) ?_
                  refine lv_iload hx hb dX2_faultsFrom_74 (lv_at hl 0 rfl) ?_
                  refine lv_isub hx hb dX2_faultsFrom_76 ?_
                  refine lv_topi (fun y44 ey44 => ?_)
                  obtain ⟨ty44, iy44⟩ := ti_sub (e := (-99)) (f := 99) hh4 i28 ey44 (by decide)
                  have ty44 : y44.toInt = a1.toInt - v34_5.toInt := ty44
                  have iy44 : -99 ≤ y44.toInt ∧ y44.toInt ≤ 99 := iy44
                  obtain ⟨q45, hZq45, hTq45⟩ := hEV.2.2.1.2
                  have hSx := hS
                  refine va_getsN hx hb hZq45 hSx hown (va_Nw.use rfl hEV.1.2.1.2) (fun _ h9 => h9) dX2_faultsFrom_77 ?_
                  refine lv_aload_n hx hb dX2_faultsFrom_80 rfl (lv_at hl 3 rfl) ?_
                  refine th_getL (ci := 3) (C := RX2) (T := TX2) (N := 10) (v := .ref (ad (64 * (ri + 1) + 6))) hx hb hts hinX2 hown hK hP hI 5 (mF 5 rfl) rfl rfl 6 (Nat.le_of_ble_eq_true rfl) (hts _ (vA_in _ _ (in_14 _ (zs16 (zs16 (zs4 (zs1 (zs1 (zs0))))))))) (fun _ h9 => h9) ((hKp 5 6 rfl).trans hh1) dX2_faultsFrom_81 ?_
                  refine th_getL (ci := 6) (C := RX5) (T := TX5) (N := 12) (v := .int (xi (E (64 * (ri + 1) + 6)) 4)) hx hb hts hinX5 hown hK hP hI (64 * (ri + 1) + 6) (mP 6 ri (by decide) hh0 (kl_le hC 2 (by decide))) (shC_p 6 ri (by decide)) rfl 4 (Nat.le_of_ble_eq_true rfl) (hts _ (vA_in _ _ (in_16 _ (zs4 (zs4 (zs1 (zs0))))))) (fun _ h9 => h9) (th_v0L hKp hI0 (64 * (ri + 1) + 6) (mP 6 ri (by decide) hh0 (kl_le hC 2 (by decide))) (shC_p 6 ri (by decide)) (Nat.le_of_ble_eq_true rfl) (spC_p 6 ri (by decide) 4) (wl_p rfl rfl (by omega))) dX2_faultsFrom_84 ?_
                  refine va_ti hx hb hTq45 hSx (i := (xi (E (64 * (ri + 1) + 6)) 4)) (iv_in (n := 8) i41 (by decide)) rfl dX2_faultsFrom_87 ?_
                  refine lv_topi (fun y46 ey46 => ?_)
                  have iy46 : -1 ≤ y46.toInt ∧ y46.toInt ≤ 1 := by rw [ey46]; exact tSY_iv _
                  refine lv_imul hx hb dX2_faultsFrom_88 ?_
                  refine lv_topi (fun y47 ey47 => ?_)
                  obtain ⟨ty47, iy47⟩ := ti_mul (e := (-99)) (f := 99) iy44 iy46 ey47 (by decide)
                  have ty47 : y47.toInt = y44.toInt * y46.toInt := ty47
                  have iy47 : -99 ≤ y47.toInt ∧ y47.toInt ≤ 99 := iy47
                  refine lv_iadd hx hb dX2_faultsFrom_89 ?_
                  refine lv_topi (fun y48 ey48 => ?_)
                  obtain ⟨ty48, iy48⟩ := ti_add (e := (-198)) (f := 198) iy43 iy47 ey48 (by decide)
                  have ty48 : y48.toInt = y43.toInt + y47.toInt := ty48
                  have iy48 : -198 ≤ y48.toInt ∧ y48.toInt ≤ 198 := iy48
                  refine lv_istore (lv' := [(6, .int y48), (5, .int v34_5), (4, .int v10_4), (3, .int v34_3), (0, .ref (ad 5)), (1, .int a0), (2, .int a1)]) hx hb dX2_faultsFrom_90 hl (by decide) rfl (fun ls hl => ?_)
                  refine lv_aload_n hx hb dX2_faultsFrom_92 rfl (lv_at hl 4 rfl) ?_
                  refine th_getL (ci := 3) (C := RX2) (T := TX2) (N := 10) (v := .ref (ad 1)) hx hb hts hinX2 hown hK hP hI 5 (mF 5 rfl) rfl rfl 0 (Nat.le_of_ble_eq_true rfl) (hts _ (vA_in _ _ (in_14 _ (zs16 (zs16 (zs1 (zs1 (zs0)))))))) (fun _ h9 => h9) (hI.fr 5 (mF 5 rfl) rfl (Nat.le_of_ble_eq_true rfl) 1 rfl) dX2_faultsFrom_93 ?_
                  refine th_getL (ci := 1) (C := RX0) (T := TX0) (N := 11) (v := .ref (ad 19)) hx hb hts hinX0 hown hK hP hI 1 (mF 1 rfl) rfl rfl 9 (Nat.le_of_ble_eq_true rfl) (hts _ (vA_in _ _ (in_16 _ (zs4 (zs4 (zs4 (zs1 (zs1 (zs0))))))))) (fun _ h9 => h9) (hI.fr 1 (mF 1 rfl) rfl (Nat.le_of_ble_eq_true rfl) 19 rfl) dX2_faultsFrom_96 ?_
                  refine lv_bipush (v := 8) hx hb dX2_faultsFrom_99 (by decide) ?_
                  refine lv_iload_n hx hb dX2_faultsFrom_101 rfl (lv_at hl 5 rfl) ?_
                  refine lv_iload_n hx hb dX2_faultsFrom_102 rfl (lv_at hl 6 rfl) ?_
                  refine lv_iload hx hb dX2_faultsFrom_103 (lv_at hl 2 rfl) ?_
                  refine lv_iload hx hb dX2_faultsFrom_105 (lv_at hl 1 rfl) ?_
                  refine th_pi (va_runS (As := [.int a0, .int a1, .int v10_4, .int v34_5]) (rest := [.int 8, .ref (ad 19)]) ⟨hx, hb, hml, hown, hts⟩ (q_farX l a0 a1 v10_4 v34_5 hh3 hh4 i11 i28) (va_cwS 4 hts (gi_S (in_16 _ (zs16 (zs1 (zs1 (zs0))))) (in_16 _ (zs16 (zs1 (zs1 (zs1 (zs0)))))) (in_14 _ (zs16 (zs16 (zs0)))) (in_16 _ (zs16 (zs4 (zs0))))) rfl rfl rfl hz_yX2_far_4 ⟨Nat.le_of_ble_eq_true rfl, Nat.le_of_ble_eq_true rfl⟩) ⟨fun a U g mk q => ⟨q.1, NXc_c q.2⟩, fun U hU hW => ⟨rfl, NXc_w hW hEV.1⟩⟩ rfl rfl hl.1 rfl (lv_room (Nat.le_of_ble_eq_true rfl)) dX2_faultsFrom_107 ⟨Nat.le_of_ble_eq_true rfl, Nat.le_of_ble_eq_true rfl⟩) hS (fun r49 H1 locs1 hw hk1 hS => ?_)
                  have hP := ub_keep hP hk1
                  generalize H1 = H at hP hS ⊢
                  generalize locs1 = locs at hS ⊢
                  obtain ⟨f50, f51⟩ := hw
                  have n52 : vp_in (8 : Int32) 14 := (iv_in (n := 14) ln_8 (by decide))
                  refine th_iastL hx hb hK hP (WL_D hD) hS hI 19 (mF 19 rfl) rfl rfl n52 (okI rfl (iv_w f50 (by decide))) dX2_faultsFrom_110 (fun H locs E53 pw54 hI hP hS => ?_)
                  have hKp := hKp.pw pw54 rfl
                  have k55 : cL E53 = lset lz 8 r49 := (cL_set (k := 8) pw54 rfl (by decide)).trans (by rw [f38])
                  refine lv_aload_n hx hb dX2_faultsFrom_111 rfl (lv_at hl 4 rfl) ?_
                  refine th_getL (ci := 3) (C := RX2) (T := TX2) (N := 10) (v := .ref (ad 1)) hx hb hts hinX2 hown hK hP hI 5 (mF 5 rfl) rfl rfl 0 (Nat.le_of_ble_eq_true rfl) (hts _ (vA_in _ _ (in_14 _ (zs16 (zs16 (zs1 (zs1 (zs0)))))))) (fun _ h9 => h9) (hI.fr 5 (mF 5 rfl) rfl (Nat.le_of_ble_eq_true rfl) 1 rfl) dX2_faultsFrom_112 ?_
                  refine th_getL (ci := 1) (C := RX0) (T := TX0) (N := 11) (v := .ref (ad 19)) hx hb hts hinX0 hown hK hP hI 1 (mF 1 rfl) rfl rfl 9 (Nat.le_of_ble_eq_true rfl) (hts _ (vA_in _ _ (in_16 _ (zs4 (zs4 (zs4 (zs1 (zs1 (zs0))))))))) (fun _ h9 => h9) (hI.fr 1 (mF 1 rfl) rfl (Nat.le_of_ble_eq_true rfl) 19 rfl) dX2_faultsFrom_115 ?_
                  refine lv_bipush (v := 11) hx hb dX2_faultsFrom_118 (by decide) ?_
                  refine lv_iload hx hb dX2_faultsFrom_120 (lv_at hl 0 rfl) ?_
                  refine lv_if_le (tgt := 129) hx hb dX2_faultsFrom_122 (by decide) (fun c56 => ?_) (fun c56 => ?_)
                  · --122 taken
                    have t57 : y48.toInt ≤ 0 := ti_le c56
                    have i58 : -198 ≤ y48.toInt ∧ y48.toInt ≤ 0 := iv_le_l t57 iy48 (il_ 0) (by decide)
                    refine lv_iconst (v := 0) hx hb dX2_faultsFrom_129 (by decide) ?_
                    have n59 : vp_in (11 : Int32) 14 := (iv_in (n := 14) ln_11 (by decide))
                    refine th_iastL hx hb hK hP (WL_D hD) hS hI 19 (mF 19 rfl) rfl rfl n59 (okI rfl (iv_w ln_0 (by decide))) dX2_faultsFrom_130 (fun H locs E60 pw61 hI hP hS => ?_)
                    have hKp := hKp.pw pw61 rfl
                    have k62 : cL E60 = lset (lset lz 8 r49) 11 ((0 : Int32)) := (cL_set (k := 11) pw61 rfl (by decide)).trans (by rw [k55])
                    refine lv_aload_n hx hb dX2_faultsFrom_131 rfl (lv_at hl 4 rfl) ?_
                    refine th_getL (ci := 3) (C := RX2) (T := TX2) (N := 10) (v := .ref (ad 1)) hx hb hts hinX2 hown hK hP hI 5 (mF 5 rfl) rfl rfl 0 (Nat.le_of_ble_eq_true rfl) (hts _ (vA_in _ _ (in_14 _ (zs16 (zs16 (zs1 (zs1 (zs0)))))))) (fun _ h9 => h9) (hI.fr 5 (mF 5 rfl) rfl (Nat.le_of_ble_eq_true rfl) 1 rfl) dX2_faultsFrom_132 ?_
                    refine th_getL (ci := 1) (C := RX0) (T := TX0) (N := 11) (v := .ref (ad 19)) hx hb hts hinX0 hown hK hP hI 1 (mF 1 rfl) rfl rfl 9 (Nat.le_of_ble_eq_true rfl) (hts _ (vA_in _ _ (in_16 _ (zs4 (zs4 (zs4 (zs1 (zs1 (zs0))))))))) (fun _ h9 => h9) (hI.fr 1 (mF 1 rfl) rfl (Nat.le_of_ble_eq_true rfl) 19 rfl) dX2_faultsFrom_135 ?_
                    refine lv_bipush (v := 12) hx hb dX2_faultsFrom_138 (by decide) ?_
                    refine lv_iload_n hx hb dX2_faultsFrom_140 rfl (lv_at hl 5 rfl) ?_
                    refine lv_iload_n hx hb dX2_faultsFrom_141 rfl (lv_at hl 6 rfl) ?_
                    refine lv_aload_n hx hb dX2_faultsFrom_142 rfl (lv_at hl 4 rfl) ?_
                    refine th_getL (ci := 3) (C := RX2) (T := TX2) (N := 10) (v := .ref (ad (64 * (ri + 1) + 6))) hx hb hts hinX2 hown hK hP hI 5 (mF 5 rfl) rfl rfl 6 (Nat.le_of_ble_eq_true rfl) (hts _ (vA_in _ _ (in_14 _ (zs16 (zs16 (zs4 (zs1 (zs1 (zs0))))))))) (fun _ h9 => h9) ((hKp 5 6 rfl).trans hh1) dX2_faultsFrom_143 ?_
                    have i63 : 0 ≤ (xi (E (64 * (ri + 1) + 6)) 5).toInt ∧ (xi (E (64 * (ri + 1) + 6)) 5).toInt ≤ 99 := hI0.iv (64 * (ri + 1) + 6) (mP 6 ri (by decide) hh0 (kl_le hC 2 (by decide))) (shC_p 6 ri (by decide)) (Nat.le_of_ble_eq_true rfl) (spC_p 6 ri (by decide) 5)
                    refine th_getL (ci := 6) (C := RX5) (T := TX5) (N := 12) (v := .int (xi (E (64 * (ri + 1) + 6)) 5)) hx hb hts hinX5 hown hK hP hI (64 * (ri + 1) + 6) (mP 6 ri (by decide) hh0 (kl_le hC 2 (by decide))) (shC_p 6 ri (by decide)) rfl 5 (Nat.le_of_ble_eq_true rfl) (hts _ (vA_in _ _ (in_16 _ (zs4 (zs4 (zs4 (zs1 (zs1 (zs1 (zs0)))))))))) (fun _ h9 => h9) (th_v0L hKp hI0 (64 * (ri + 1) + 6) (mP 6 ri (by decide) hh0 (kl_le hC 2 (by decide))) (shC_p 6 ri (by decide)) (Nat.le_of_ble_eq_true rfl) (spC_p 6 ri (by decide) 5) (wl_p rfl rfl (by omega))) dX2_faultsFrom_146 ?_
                    refine lv_aload_n hx hb dX2_faultsFrom_149 rfl (lv_at hl 4 rfl) ?_
                    refine th_getL (ci := 3) (C := RX2) (T := TX2) (N := 10) (v := .ref (ad (64 * (ri + 1) + 6))) hx hb hts hinX2 hown hK hP hI 5 (mF 5 rfl) rfl rfl 6 (Nat.le_of_ble_eq_true rfl) (hts _ (vA_in _ _ (in_14 _ (zs16 (zs16 (zs4 (zs1 (zs1 (zs0))))))))) (fun _ h9 => h9) ((hKp 5 6 rfl).trans hh1) dX2_faultsFrom_150 ?_
                    have i64 : 0 ≤ (xi (E (64 * (ri + 1) + 6)) 6).toInt ∧ (xi (E (64 * (ri + 1) + 6)) 6).toInt ≤ 99 := hI0.iv (64 * (ri + 1) + 6) (mP 6 ri (by decide) hh0 (kl_le hC 2 (by decide))) (shC_p 6 ri (by decide)) (Nat.le_of_ble_eq_true rfl) (spC_p 6 ri (by decide) 6)
                    refine th_getL (ci := 6) (C := RX5) (T := TX5) (N := 12) (v := .int (xi (E (64 * (ri + 1) + 6)) 6)) hx hb hts hinX5 hown hK hP hI (64 * (ri + 1) + 6) (mP 6 ri (by decide) hh0 (kl_le hC 2 (by decide))) (shC_p 6 ri (by decide)) rfl 6 (Nat.le_of_ble_eq_true rfl) (hts _ (vA_in _ _ (in_16 _ (zs16 (zs0))))) (fun _ h9 => h9) (th_v0L hKp hI0 (64 * (ri + 1) + 6) (mP 6 ri (by decide) hh0 (kl_le hC 2 (by decide))) (shC_p 6 ri (by decide)) (Nat.le_of_ble_eq_true rfl) (spC_p 6 ri (by decide) 6) (wl_p rfl rfl (by omega))) dX2_faultsFrom_153 ?_
                    refine th_pi (va_runS (As := [.int a0, .int a1, .int (xi (E (64 * (ri + 1) + 6)) 5), .int (xi (E (64 * (ri + 1) + 6)) 6)]) (rest := [.int 12, .ref (ad 19)]) ⟨hx, hb, hml, hown, hts⟩ (q_farX l a0 a1 (xi (E (64 * (ri + 1) + 6)) 5) (xi (E (64 * (ri + 1) + 6)) 6) hh3 hh4 i63 i64) (va_cwS 4 hts (gi_S (in_16 _ (zs16 (zs1 (zs1 (zs0))))) (in_16 _ (zs16 (zs1 (zs1 (zs1 (zs0)))))) (in_14 _ (zs16 (zs16 (zs0)))) (in_16 _ (zs16 (zs4 (zs0))))) rfl rfl rfl hz_yX2_far_4 ⟨Nat.le_of_ble_eq_true rfl, Nat.le_of_ble_eq_true rfl⟩) ⟨fun a U g mk q => ⟨q.1, NXc_c q.2⟩, fun U hU hW => ⟨rfl, NXc_w hW hEV.1⟩⟩ rfl rfl hl.1 rfl (lv_room (Nat.le_of_ble_eq_true rfl)) dX2_faultsFrom_156 ⟨Nat.le_of_ble_eq_true rfl, Nat.le_of_ble_eq_true rfl⟩) hS (fun r65 H1 locs1 hw hk1 hS => ?_)
                    have hP := ub_keep hP hk1
                    generalize H1 = H at hP hS ⊢
                    generalize locs1 = locs at hS ⊢
                    obtain ⟨f66, f67⟩ := hw
                    have n68 : vp_in (12 : Int32) 14 := (iv_in (n := 14) ln_12 (by decide))
                    refine th_iastL hx hb hK hP (WL_D hD) hS hI 19 (mF 19 rfl) rfl rfl n68 (okI rfl (iv_w f66 (by decide))) dX2_faultsFrom_159 (fun H locs E69 pw70 hI hP hS => ?_)
                    have hKp := hKp.pw pw70 rfl
                    have k71 : cL E69 = lset (lset (lset lz 8 r49) 11 ((0 : Int32))) 12 r65 := (cL_set (k := 12) pw70 rfl (by decide)).trans (by rw [k62])
                    refine lv_aload_n hx hb dX2_faultsFrom_160 rfl (lv_at hl 4 rfl) ?_
                    refine th_getL (ci := 3) (C := RX2) (T := TX2) (N := 10) (v := .ref (ad 1)) hx hb hts hinX2 hown hK hP hI 5 (mF 5 rfl) rfl rfl 0 (Nat.le_of_ble_eq_true rfl) (hts _ (vA_in _ _ (in_14 _ (zs16 (zs16 (zs1 (zs1 (zs0)))))))) (fun _ h9 => h9) (hI.fr 5 (mF 5 rfl) rfl (Nat.le_of_ble_eq_true rfl) 1 rfl) dX2_faultsFrom_161 ?_
                    refine th_getL (ci := 1) (C := RX0) (T := TX0) (N := 11) (v := .ref (ad 19)) hx hb hts hinX0 hown hK hP hI 1 (mF 1 rfl) rfl rfl 9 (Nat.le_of_ble_eq_true rfl) (hts _ (vA_in _ _ (in_16 _ (zs4 (zs4 (zs4 (zs1 (zs1 (zs0))))))))) (fun _ h9 => h9) (hI.fr 1 (mF 1 rfl) rfl (Nat.le_of_ble_eq_true rfl) 19 rfl) dX2_faultsFrom_164 ?_
                    refine lv_iconst (v := 3) hx hb dX2_faultsFrom_167 (by decide) ?_
                    refine lv_iload hx hb dX2_faultsFrom_168 (lv_at hl 2 rfl) ?_
                    refine lv_iload hx hb dX2_faultsFrom_170 (lv_at hl 1 rfl) ?_
                    refine lv_aload_n hx hb dX2_faultsFrom_172 rfl (lv_at hl 4 rfl) ?_
                    refine th_getL (ci := 3) (C := RX2) (T := TX2) (N := 10) (v := .ref (ad (64 * (ri + 1) + 6))) hx hb hts hinX2 hown hK hP hI 5 (mF 5 rfl) rfl rfl 6 (Nat.le_of_ble_eq_true rfl) (hts _ (vA_in _ _ (in_14 _ (zs16 (zs16 (zs4 (zs1 (zs1 (zs0))))))))) (fun _ h9 => h9) ((hKp 5 6 rfl).trans hh1) dX2_faultsFrom_173 ?_
                    refine th_getL (ci := 6) (C := RX5) (T := TX5) (N := 12) (v := .int (xi (E (64 * (ri + 1) + 6)) 5)) hx hb hts hinX5 hown hK hP hI (64 * (ri + 1) + 6) (mP 6 ri (by decide) hh0 (kl_le hC 2 (by decide))) (shC_p 6 ri (by decide)) rfl 5 (Nat.le_of_ble_eq_true rfl) (hts _ (vA_in _ _ (in_16 _ (zs4 (zs4 (zs4 (zs1 (zs1 (zs1 (zs0)))))))))) (fun _ h9 => h9) (th_v0L hKp hI0 (64 * (ri + 1) + 6) (mP 6 ri (by decide) hh0 (kl_le hC 2 (by decide))) (shC_p 6 ri (by decide)) (Nat.le_of_ble_eq_true rfl) (spC_p 6 ri (by decide) 5) (wl_p rfl rfl (by omega))) dX2_faultsFrom_176 ?_
                    refine lv_aload_n hx hb dX2_faultsFrom_179 rfl (lv_at hl 4 rfl) ?_
                    refine th_getL (ci := 3) (C := RX2) (T := TX2) (N := 10) (v := .ref (ad (64 * (ri + 1) + 6))) hx hb hts hinX2 hown hK hP hI 5 (mF 5 rfl) rfl rfl 6 (Nat.le_of_ble_eq_true rfl) (hts _ (vA_in _ _ (in_14 _ (zs16 (zs16 (zs4 (zs1 (zs1 (zs0))))))))) (fun _ h9 => h9) ((hKp 5 6 rfl).trans hh1) dX2_faultsFrom_180 ?_
                    refine th_getL (ci := 6) (C := RX5) (T := TX5) (N := 12) (v := .int (xi (E (64 * (ri + 1) + 6)) 6)) hx hb hts hinX5 hown hK hP hI (64 * (ri + 1) + 6) (mP 6 ri (by decide) hh0 (kl_le hC 2 (by decide))) (shC_p 6 ri (by decide)) rfl 6 (Nat.le_of_ble_eq_true rfl) (hts _ (vA_in _ _ (in_16 _ (zs16 (zs0))))) (fun _ h9 => h9) (th_v0L hKp hI0 (64 * (ri + 1) + 6) (mP 6 ri (by decide) hh0 (kl_le hC 2 (by decide))) (shC_p 6 ri (by decide)) (Nat.le_of_ble_eq_true rfl) (spC_p 6 ri (by decide) 6) (wl_p rfl rfl (by omega))) dX2_faultsFrom_183 ?_
                    refine th_pi (va_runS (As := [.int v10_4, .int v34_5, .int (xi (E (64 * (ri + 1) + 6)) 5), .int (xi (E (64 * (ri + 1) + 6)) 6)]) (rest := [.int 3, .ref (ad 19)]) ⟨hx, hb, hml, hown, hts⟩ (q_farX l v10_4 v34_5 (xi (E (64 * (ri + 1) + 6)) 5) (xi (E (64 * (ri + 1) + 6)) 6) i11 i28 i63 i64) (va_cwS 4 hts (gi_S (in_16 _ (zs16 (zs1 (zs1 (zs0))))) (in_16 _ (zs16 (zs1 (zs1 (zs1 (zs0)))))) (in_14 _ (zs16 (zs16 (zs0)))) (in_16 _ (zs16 (zs4 (zs0))))) rfl rfl rfl hz_yX2_far_4 ⟨Nat.le_of_ble_eq_true rfl, Nat.le_of_ble_eq_true rfl⟩) ⟨fun a U g mk q => ⟨q.1, NXc_c q.2⟩, fun U hU hW => ⟨rfl, NXc_w hW hEV.1⟩⟩ rfl rfl hl.1 rfl (lv_room (Nat.le_of_ble_eq_true rfl)) dX2_faultsFrom_186 ⟨Nat.le_of_ble_eq_true rfl, Nat.le_of_ble_eq_true rfl⟩) hS (fun r72 H1 locs1 hw hk1 hS => ?_)
                    have hP := ub_keep hP hk1
                    generalize H1 = H at hP hS ⊢
                    generalize locs1 = locs at hS ⊢
                    obtain ⟨f73, f74⟩ := hw
                    have n75 : vp_in (3 : Int32) 14 := (iv_in (n := 14) ln_3 (by decide))
                    refine th_iastL hx hb hK hP (WL_D hD) hS hI 19 (mF 19 rfl) rfl rfl n75 (okI rfl (iv_w f73 (by decide))) dX2_faultsFrom_189 (fun H locs E76 pw77 hI hP hS => ?_)
                    have hKp := hKp.pw pw77 rfl
                    have k78 : cL E76 = lset (lset (lset (lset lz 8 r49) 11 ((0 : Int32))) 12 r65) 3 r72 := (cL_set (k := 3) pw77 rfl (by decide)).trans (by rw [k71])
                    have k79 : y48.toInt = (a0.toInt - v10_4.toInt) * stX (xi (E (64 * (ri + 1) + 6)) 4).toNatClampNeg + (a1.toInt - v34_5.toInt) * stY (xi (E (64 * (ri + 1) + 6)) 4).toNatClampNeg := by rw [ty48, ty43, ty47, ty39, ty44, ey42, ey46]; rfl
                    have k80 : cL E76 = hLe E ri a0.toInt a1.toInt v10_4.toInt v34_5.toInt := k78.trans (hL_e f51 (up0 k79 (by omega)) f67 f74)
                    refine lv_iload_n hx hb dX2_faultsFrom_190 rfl (lv_at hl 3 rfl) ?_
                    refine lv_aload_n hx hb dX2_faultsFrom_191 rfl (lv_at hl 4 rfl) ?_
                    refine th_iL (va_runV (As := []) (rest := [.int v34_3]) ⟨hx, hb, hml, hown, hts⟩ (q_faultsOnTacksX l dC dI cT cf hC ad E76 H.size ri hI (by omega) (by exact (hKp 5 6 rfl).trans hh1) (by (try rw [hKp.ei 5 7 rfl]); first | exact hh2 | (rw [hKp.ei 5 7 rfl]; exact hh2)) (by rw [k78]; exact (ls_b (ls_b (ls_b (ls_b lz_b ⟨by omega, by omega⟩) ⟨by decide, by decide⟩) ⟨by omega, by omega⟩) ⟨by omega, by omega⟩)) (by exact fun i9 hi9 => (hh5 i9 hi9).cg (kp_rul hKp (fun o9 ho9 j9 => wl_p rfl rfl ho9) i9)) (by (try rw [hKp.ei 5 8 rfl]); first | exact hh6 | (rw [hKp.ei 5 8 rfl]; exact hh6))) (cwV 0 hts (gi_V (in_16 _ (zs16 (zs4 (zs1 (zs0))))) (in_16 _ (zs16 (zs4 (zs1 (zs1 (zs0)))))) (in_16 _ (zs16 (zs4 (zs1 (zs1 (zs1 (zs0))))))) (in_14 _ (zs16 (zs16 (zs0)))) (in_16 _ (zs16 (zs4 (zs4 (zs0)))))) rfl rfl rfl ⟨rfl, hz_yX2_faultsOnTacks_0⟩ ⟨Nat.le_of_ble_eq_true rfl, Nat.le_of_ble_eq_true rfl⟩) ⟨HWL_bl, va_recv hK hP (ci := 3) (q0 := posL 5 (LC cf)) rfl (hI.ob 5 (mF 5 rfl) rfl), (HWL_wi hP hK (WL_D hD) hS hA hEV)⟩ rfl rfl hl.1 rfl (lv_room (Nat.le_of_ble_eq_true rfl)) dX2_faultsFrom_192 ⟨Nat.le_of_ble_eq_true rfl, Nat.le_of_ble_eq_true rfl⟩) (WL_D hD) hS hA (fun r81 E82 H locs hw hP hS => ?_)
                    obtain ⟨hI, kq83, hw⟩ := hw
                    have hKb := hKp
                    have hKp := hKp.tr kq83 (wl_sub rfl rfl)
                    obtain ⟨f84, f85⟩ := hw
                    have i86 : -1 ≤ (xi (E 5) 7).toInt ∧ (xi (E 5) 7).toInt ≤ 15 := hI0.iv 5 (mF 5 rfl) rfl (Nat.le_of_ble_eq_true rfl) rfl
                    have i87 : 0 ≤ (xi (E 5) 8).toInt ∧ (xi (E 5) 8).toInt ≤ 255 := hI0.iv 5 (mF 5 rfl) rfl (Nat.le_of_ble_eq_true rfl) rfl
                    have i88 : 0 ≤ (xi (E 5) 9).toInt ∧ (xi (E 5) 9).toInt ≤ 255 := hI0.iv 5 (mF 5 rfl) rfl (Nat.le_of_ble_eq_true rfl) rfl
                    try rw [hKb.ei 5 9 rfl] at f85
                    have k89 : SnP r81.toInt (hZr cf E (hLe E ri a0.toInt a1.toInt v10_4.toInt v34_5.toInt)) (hNz cf E (hLe E ri a0.toInt a1.toInt v10_4.toInt v34_5.toInt)) := by have h9 := f85; rw [show hWo cf E76 = hWo cf E from (hW_cg (hKb.ei 5 8 rfl) (hKb.ei 5 7 rfl) (fun i9 => kp_rul hKb (fun o9 ho9 j9 => wl_p rfl rfl ho9) i9)), k80] at h9; (try rw [show xi (E76 5) 9 = xi (E 5) 9 from hKb.ei 5 9 rfl] at h9); exact h9
                    refine lv_ior hx hb dX2_faultsFrom_195 ?_
                    refine lv_topi (fun y90 ey90 => ?_)
                    have iy90 : 0 ≤ y90.toInt ∧ y90.toInt ≤ 3 := ti_or3 ey90 (by omega) (by omega)
                    refine lv_istore_n (lv' := [(3, .int y90), (6, .int y48), (5, .int v34_5), (4, .int v10_4), (0, .ref (ad 5)), (1, .int a0), (2, .int a1)]) hx hb dX2_faultsFrom_196 rfl hl (by decide) rfl (fun ls hl => ?_)
                    obtain ⟨y91, ey91⟩ : ∃ y : Int32, y = v34_5 + (1 : Int32) := ⟨_, rfl⟩
                    obtain ⟨ty91, iy91⟩ := ti_add (e := 1) (f := 100) i28 ln_1 ey91 (by decide)
                    have ty91 : y91.toInt = v34_5.toInt + 1 := ty91
                    have iy91 : 1 ≤ y91.toInt ∧ y91.toInt ≤ 100 := iy91
                    refine lv_iinc (v := y91) (lv' := [(5, .int y91), (3, .int y90), (6, .int y48), (4, .int v10_4), (0, .ref (ad 5)), (1, .int a0), (2, .int a1)]) hx hb dX2_faultsFrom_197 hl (k := 2) rfl (by rw [ey91]; rfl) (by decide) rfl (fun ls hl => ?_)
                    refine lv_goto (tgt := 34) hx hb dX2_faultsFrom_200 (by decide) ?_
                    exact ih34 y91 y90 E82 _ _ _ (iv_w iy91 (by decide)) iy90 (hx34_0.or k89 ey90 (exR_in (by omega) ⟨by omega, by omega, by omega, by omega⟩) (exR_in (by omega) ⟨by omega, by omega, by omega, by omega⟩)) (by omega) (by first | exact ms_su hx34_2 ty91 (by decide) | omega) hI hKp hP hS (lv_sub hl [0, 3, 1, 4, 5, 6] rfl)
                  · --122 not
                    have t92 : (0 : Int) < y48.toInt := ti_nle c56
                    have i93 : 1 ≤ y48.toInt ∧ y48.toInt ≤ 198 := iv_lt_r t92 (il_ 0) iy48 (by decide)
                    refine lv_iconst (v := 1) hx hb dX2_faultsFrom_125 (by decide) ?_
                    refine lv_goto (tgt := 130) hx hb dX2_faultsFrom_126 (by decide) ?_
                    have n94 : vp_in (11 : Int32) 14 := (iv_in (n := 14) ln_11 (by decide))
                    refine th_iastL hx hb hK hP (WL_D hD) hS hI 19 (mF 19 rfl) rfl rfl n94 (okI rfl (iv_w ln_1 (by decide))) dX2_faultsFrom_130 (fun H locs E95 pw96 hI hP hS => ?_)
                    have hKp := hKp.pw pw96 rfl
                    have k97 : cL E95 = lset (lset lz 8 r49) 11 ((1 : Int32)) := (cL_set (k := 11) pw96 rfl (by decide)).trans (by rw [k55])
                    refine lv_aload_n hx hb dX2_faultsFrom_131 rfl (lv_at hl 4 rfl) ?_
                    refine th_getL (ci := 3) (C := RX2) (T := TX2) (N := 10) (v := .ref (ad 1)) hx hb hts hinX2 hown hK hP hI 5 (mF 5 rfl) rfl rfl 0 (Nat.le_of_ble_eq_true rfl) (hts _ (vA_in _ _ (in_14 _ (zs16 (zs16 (zs1 (zs1 (zs0)))))))) (fun _ h9 => h9) (hI.fr 5 (mF 5 rfl) rfl (Nat.le_of_ble_eq_true rfl) 1 rfl) dX2_faultsFrom_132 ?_
                    refine th_getL (ci := 1) (C := RX0) (T := TX0) (N := 11) (v := .ref (ad 19)) hx hb hts hinX0 hown hK hP hI 1 (mF 1 rfl) rfl rfl 9 (Nat.le_of_ble_eq_true rfl) (hts _ (vA_in _ _ (in_16 _ (zs4 (zs4 (zs4 (zs1 (zs1 (zs0))))))))) (fun _ h9 => h9) (hI.fr 1 (mF 1 rfl) rfl (Nat.le_of_ble_eq_true rfl) 19 rfl) dX2_faultsFrom_135 ?_
                    refine lv_bipush (v := 12) hx hb dX2_faultsFrom_138 (by decide) ?_
                    refine lv_iload_n hx hb dX2_faultsFrom_140 rfl (lv_at hl 5 rfl) ?_
                    refine lv_iload_n hx hb dX2_faultsFrom_141 rfl (lv_at hl 6 rfl) ?_
                    refine lv_aload_n hx hb dX2_faultsFrom_142 rfl (lv_at hl 4 rfl) ?_
                    refine th_getL (ci := 3) (C := RX2) (T := TX2) (N := 10) (v := .ref (ad (64 * (ri + 1) + 6))) hx hb hts hinX2 hown hK hP hI 5 (mF 5 rfl) rfl rfl 6 (Nat.le_of_ble_eq_true rfl) (hts _ (vA_in _ _ (in_14 _ (zs16 (zs16 (zs4 (zs1 (zs1 (zs0))))))))) (fun _ h9 => h9) ((hKp 5 6 rfl).trans hh1) dX2_faultsFrom_143 ?_
                    have i98 : 0 ≤ (xi (E (64 * (ri + 1) + 6)) 5).toInt ∧ (xi (E (64 * (ri + 1) + 6)) 5).toInt ≤ 99 := hI0.iv (64 * (ri + 1) + 6) (mP 6 ri (by decide) hh0 (kl_le hC 2 (by decide))) (shC_p 6 ri (by decide)) (Nat.le_of_ble_eq_true rfl) (spC_p 6 ri (by decide) 5)
                    refine th_getL (ci := 6) (C := RX5) (T := TX5) (N := 12) (v := .int (xi (E (64 * (ri + 1) + 6)) 5)) hx hb hts hinX5 hown hK hP hI (64 * (ri + 1) + 6) (mP 6 ri (by decide) hh0 (kl_le hC 2 (by decide))) (shC_p 6 ri (by decide)) rfl 5 (Nat.le_of_ble_eq_true rfl) (hts _ (vA_in _ _ (in_16 _ (zs4 (zs4 (zs4 (zs1 (zs1 (zs1 (zs0)))))))))) (fun _ h9 => h9) (th_v0L hKp hI0 (64 * (ri + 1) + 6) (mP 6 ri (by decide) hh0 (kl_le hC 2 (by decide))) (shC_p 6 ri (by decide)) (Nat.le_of_ble_eq_true rfl) (spC_p 6 ri (by decide) 5) (wl_p rfl rfl (by omega))) dX2_faultsFrom_146 ?_
                    refine lv_aload_n hx hb dX2_faultsFrom_149 rfl (lv_at hl 4 rfl) ?_
                    refine th_getL (ci := 3) (C := RX2) (T := TX2) (N := 10) (v := .ref (ad (64 * (ri + 1) + 6))) hx hb hts hinX2 hown hK hP hI 5 (mF 5 rfl) rfl rfl 6 (Nat.le_of_ble_eq_true rfl) (hts _ (vA_in _ _ (in_14 _ (zs16 (zs16 (zs4 (zs1 (zs1 (zs0))))))))) (fun _ h9 => h9) ((hKp 5 6 rfl).trans hh1) dX2_faultsFrom_150 ?_
                    have i99 : 0 ≤ (xi (E (64 * (ri + 1) + 6)) 6).toInt ∧ (xi (E (64 * (ri + 1) + 6)) 6).toInt ≤ 99 := hI0.iv (64 * (ri + 1) + 6) (mP 6 ri (by decide) hh0 (kl_le hC 2 (by decide))) (shC_p 6 ri (by decide)) (Nat.le_of_ble_eq_true rfl) (spC_p 6 ri (by decide) 6)
                    refine th_getL (ci := 6) (C := RX5) (T := TX5) (N := 12) (v := .int (xi (E (64 * (ri + 1) + 6)) 6)) hx hb hts hinX5 hown hK hP hI (64 * (ri + 1) + 6) (mP 6 ri (by decide) hh0 (kl_le hC 2 (by decide))) (shC_p 6 ri (by decide)) rfl 6 (Nat.le_of_ble_eq_true rfl) (hts _ (vA_in _ _ (in_16 _ (zs16 (zs0))))) (fun _ h9 => h9) (th_v0L hKp hI0 (64 * (ri + 1) + 6) (mP 6 ri (by decide) hh0 (kl_le hC 2 (by decide))) (shC_p 6 ri (by decide)) (Nat.le_of_ble_eq_true rfl) (spC_p 6 ri (by decide) 6) (wl_p rfl rfl (by omega))) dX2_faultsFrom_153 ?_
                    refine th_pi (va_runS (As := [.int a0, .int a1, .int (xi (E (64 * (ri + 1) + 6)) 5), .int (xi (E (64 * (ri + 1) + 6)) 6)]) (rest := [.int 12, .ref (ad 19)]) ⟨hx, hb, hml, hown, hts⟩ (q_farX l a0 a1 (xi (E (64 * (ri + 1) + 6)) 5) (xi (E (64 * (ri + 1) + 6)) 6) hh3 hh4 i98 i99) (va_cwS 4 hts (gi_S (in_16 _ (zs16 (zs1 (zs1 (zs0))))) (in_16 _ (zs16 (zs1 (zs1 (zs1 (zs0)))))) (in_14 _ (zs16 (zs16 (zs0)))) (in_16 _ (zs16 (zs4 (zs0))))) rfl rfl rfl hz_yX2_far_4 ⟨Nat.le_of_ble_eq_true rfl, Nat.le_of_ble_eq_true rfl⟩) ⟨fun a U g mk q => ⟨q.1, NXc_c q.2⟩, fun U hU hW => ⟨rfl, NXc_w hW hEV.1⟩⟩ rfl rfl hl.1 rfl (lv_room (Nat.le_of_ble_eq_true rfl)) dX2_faultsFrom_156 ⟨Nat.le_of_ble_eq_true rfl, Nat.le_of_ble_eq_true rfl⟩) hS (fun r100 H1 locs1 hw hk1 hS => ?_)
                    have hP := ub_keep hP hk1
                    generalize H1 = H at hP hS ⊢
                    generalize locs1 = locs at hS ⊢
                    obtain ⟨f101, f102⟩ := hw
                    have n103 : vp_in (12 : Int32) 14 := (iv_in (n := 14) ln_12 (by decide))
                    refine th_iastL hx hb hK hP (WL_D hD) hS hI 19 (mF 19 rfl) rfl rfl n103 (okI rfl (iv_w f101 (by decide))) dX2_faultsFrom_159 (fun H locs E104 pw105 hI hP hS => ?_)
                    have hKp := hKp.pw pw105 rfl
                    have k106 : cL E104 = lset (lset (lset lz 8 r49) 11 ((1 : Int32))) 12 r100 := (cL_set (k := 12) pw105 rfl (by decide)).trans (by rw [k97])
                    refine lv_aload_n hx hb dX2_faultsFrom_160 rfl (lv_at hl 4 rfl) ?_
                    refine th_getL (ci := 3) (C := RX2) (T := TX2) (N := 10) (v := .ref (ad 1)) hx hb hts hinX2 hown hK hP hI 5 (mF 5 rfl) rfl rfl 0 (Nat.le_of_ble_eq_true rfl) (hts _ (vA_in _ _ (in_14 _ (zs16 (zs16 (zs1 (zs1 (zs0)))))))) (fun _ h9 => h9) (hI.fr 5 (mF 5 rfl) rfl (Nat.le_of_ble_eq_true rfl) 1 rfl) dX2_faultsFrom_161 ?_
                    refine th_getL (ci := 1) (C := RX0) (T := TX0) (N := 11) (v := .ref (ad 19)) hx hb hts hinX0 hown hK hP hI 1 (mF 1 rfl) rfl rfl 9 (Nat.le_of_ble_eq_true rfl) (hts _ (vA_in _ _ (in_16 _ (zs4 (zs4 (zs4 (zs1 (zs1 (zs0))))))))) (fun _ h9 => h9) (hI.fr 1 (mF 1 rfl) rfl (Nat.le_of_ble_eq_true rfl) 19 rfl) dX2_faultsFrom_164 ?_
                    refine lv_iconst (v := 3) hx hb dX2_faultsFrom_167 (by decide) ?_
                    refine lv_iload hx hb dX2_faultsFrom_168 (lv_at hl 2 rfl) ?_
                    refine lv_iload hx hb dX2_faultsFrom_170 (lv_at hl 1 rfl) ?_
                    refine lv_aload_n hx hb dX2_faultsFrom_172 rfl (lv_at hl 4 rfl) ?_
                    refine th_getL (ci := 3) (C := RX2) (T := TX2) (N := 10) (v := .ref (ad (64 * (ri + 1) + 6))) hx hb hts hinX2 hown hK hP hI 5 (mF 5 rfl) rfl rfl 6 (Nat.le_of_ble_eq_true rfl) (hts _ (vA_in _ _ (in_14 _ (zs16 (zs16 (zs4 (zs1 (zs1 (zs0))))))))) (fun _ h9 => h9) ((hKp 5 6 rfl).trans hh1) dX2_faultsFrom_173 ?_
                    refine th_getL (ci := 6) (C := RX5) (T := TX5) (N := 12) (v := .int (xi (E (64 * (ri + 1) + 6)) 5)) hx hb hts hinX5 hown hK hP hI (64 * (ri + 1) + 6) (mP 6 ri (by decide) hh0 (kl_le hC 2 (by decide))) (shC_p 6 ri (by decide)) rfl 5 (Nat.le_of_ble_eq_true rfl) (hts _ (vA_in _ _ (in_16 _ (zs4 (zs4 (zs4 (zs1 (zs1 (zs1 (zs0)))))))))) (fun _ h9 => h9) (th_v0L hKp hI0 (64 * (ri + 1) + 6) (mP 6 ri (by decide) hh0 (kl_le hC 2 (by decide))) (shC_p 6 ri (by decide)) (Nat.le_of_ble_eq_true rfl) (spC_p 6 ri (by decide) 5) (wl_p rfl rfl (by omega))) dX2_faultsFrom_176 ?_
                    refine lv_aload_n hx hb dX2_faultsFrom_179 rfl (lv_at hl 4 rfl) ?_
                    refine th_getL (ci := 3) (C := RX2) (T := TX2) (N := 10) (v := .ref (ad (64 * (ri + 1) + 6))) hx hb hts hinX2 hown hK hP hI 5 (mF 5 rfl) rfl rfl 6 (Nat.le_of_ble_eq_true rfl) (hts _ (vA_in _ _ (in_14 _ (zs16 (zs16 (zs4 (zs1 (zs1 (zs0))))))))) (fun _ h9 => h9) ((hKp 5 6 rfl).trans hh1) dX2_faultsFrom_180 ?_
                    refine th_getL (ci := 6) (C := RX5) (T := TX5) (N := 12) (v := .int (xi (E (64 * (ri + 1) + 6)) 6)) hx hb hts hinX5 hown hK hP hI (64 * (ri + 1) + 6) (mP 6 ri (by decide) hh0 (kl_le hC 2 (by decide))) (shC_p 6 ri (by decide)) rfl 6 (Nat.le_of_ble_eq_true rfl) (hts _ (vA_in _ _ (in_16 _ (zs16 (zs0))))) (fun _ h9 => h9) (th_v0L hKp hI0 (64 * (ri + 1) + 6) (mP 6 ri (by decide) hh0 (kl_le hC 2 (by decide))) (shC_p 6 ri (by decide)) (Nat.le_of_ble_eq_true rfl) (spC_p 6 ri (by decide) 6) (wl_p rfl rfl (by omega))) dX2_faultsFrom_183 ?_
                    refine th_pi (va_runS (As := [.int v10_4, .int v34_5, .int (xi (E (64 * (ri + 1) + 6)) 5), .int (xi (E (64 * (ri + 1) + 6)) 6)]) (rest := [.int 3, .ref (ad 19)]) ⟨hx, hb, hml, hown, hts⟩ (q_farX l v10_4 v34_5 (xi (E (64 * (ri + 1) + 6)) 5) (xi (E (64 * (ri + 1) + 6)) 6) i11 i28 i98 i99) (va_cwS 4 hts (gi_S (in_16 _ (zs16 (zs1 (zs1 (zs0))))) (in_16 _ (zs16 (zs1 (zs1 (zs1 (zs0)))))) (in_14 _ (zs16 (zs16 (zs0)))) (in_16 _ (zs16 (zs4 (zs0))))) rfl rfl rfl hz_yX2_far_4 ⟨Nat.le_of_ble_eq_true rfl, Nat.le_of_ble_eq_true rfl⟩) ⟨fun a U g mk q => ⟨q.1, NXc_c q.2⟩, fun U hU hW => ⟨rfl, NXc_w hW hEV.1⟩⟩ rfl rfl hl.1 rfl (lv_room (Nat.le_of_ble_eq_true rfl)) dX2_faultsFrom_186 ⟨Nat.le_of_ble_eq_true rfl, Nat.le_of_ble_eq_true rfl⟩) hS (fun r107 H1 locs1 hw hk1 hS => ?_)
                    have hP := ub_keep hP hk1
                    generalize H1 = H at hP hS ⊢
                    generalize locs1 = locs at hS ⊢
                    obtain ⟨f108, f109⟩ := hw
                    have n110 : vp_in (3 : Int32) 14 := (iv_in (n := 14) ln_3 (by decide))
                    refine th_iastL hx hb hK hP (WL_D hD) hS hI 19 (mF 19 rfl) rfl rfl n110 (okI rfl (iv_w f108 (by decide))) dX2_faultsFrom_189 (fun H locs E111 pw112 hI hP hS => ?_)
                    have hKp := hKp.pw pw112 rfl
                    have k113 : cL E111 = lset (lset (lset (lset lz 8 r49) 11 ((1 : Int32))) 12 r100) 3 r107 := (cL_set (k := 3) pw112 rfl (by decide)).trans (by rw [k106])
                    have k114 : y48.toInt = (a0.toInt - v10_4.toInt) * stX (xi (E (64 * (ri + 1) + 6)) 4).toNatClampNeg + (a1.toInt - v34_5.toInt) * stY (xi (E (64 * (ri + 1) + 6)) 4).toNatClampNeg := by rw [ty48, ty43, ty47, ty39, ty44, ey42, ey46]; rfl
                    have k115 : cL E111 = hLe E ri a0.toInt a1.toInt v10_4.toInt v34_5.toInt := k113.trans (hL_e f51 (up1 k114 (by omega)) f102 f109)
                    refine lv_iload_n hx hb dX2_faultsFrom_190 rfl (lv_at hl 3 rfl) ?_
                    refine lv_aload_n hx hb dX2_faultsFrom_191 rfl (lv_at hl 4 rfl) ?_
                    refine th_iL (va_runV (As := []) (rest := [.int v34_3]) ⟨hx, hb, hml, hown, hts⟩ (q_faultsOnTacksX l dC dI cT cf hC ad E111 H.size ri hI (by omega) (by exact (hKp 5 6 rfl).trans hh1) (by (try rw [hKp.ei 5 7 rfl]); first | exact hh2 | (rw [hKp.ei 5 7 rfl]; exact hh2)) (by rw [k113]; exact (ls_b (ls_b (ls_b (ls_b lz_b ⟨by omega, by omega⟩) ⟨by decide, by decide⟩) ⟨by omega, by omega⟩) ⟨by omega, by omega⟩)) (by exact fun i9 hi9 => (hh5 i9 hi9).cg (kp_rul hKp (fun o9 ho9 j9 => wl_p rfl rfl ho9) i9)) (by (try rw [hKp.ei 5 8 rfl]); first | exact hh6 | (rw [hKp.ei 5 8 rfl]; exact hh6))) (cwV 0 hts (gi_V (in_16 _ (zs16 (zs4 (zs1 (zs0))))) (in_16 _ (zs16 (zs4 (zs1 (zs1 (zs0)))))) (in_16 _ (zs16 (zs4 (zs1 (zs1 (zs1 (zs0))))))) (in_14 _ (zs16 (zs16 (zs0)))) (in_16 _ (zs16 (zs4 (zs4 (zs0)))))) rfl rfl rfl ⟨rfl, hz_yX2_faultsOnTacks_0⟩ ⟨Nat.le_of_ble_eq_true rfl, Nat.le_of_ble_eq_true rfl⟩) ⟨HWL_bl, va_recv hK hP (ci := 3) (q0 := posL 5 (LC cf)) rfl (hI.ob 5 (mF 5 rfl) rfl), (HWL_wi hP hK (WL_D hD) hS hA hEV)⟩ rfl rfl hl.1 rfl (lv_room (Nat.le_of_ble_eq_true rfl)) dX2_faultsFrom_192 ⟨Nat.le_of_ble_eq_true rfl, Nat.le_of_ble_eq_true rfl⟩) (WL_D hD) hS hA (fun r116 E117 H locs hw hP hS => ?_)
                    obtain ⟨hI, kq118, hw⟩ := hw
                    have hKb := hKp
                    have hKp := hKp.tr kq118 (wl_sub rfl rfl)
                    obtain ⟨f119, f120⟩ := hw
                    have i121 : -1 ≤ (xi (E 5) 7).toInt ∧ (xi (E 5) 7).toInt ≤ 15 := hI0.iv 5 (mF 5 rfl) rfl (Nat.le_of_ble_eq_true rfl) rfl
                    have i122 : 0 ≤ (xi (E 5) 8).toInt ∧ (xi (E 5) 8).toInt ≤ 255 := hI0.iv 5 (mF 5 rfl) rfl (Nat.le_of_ble_eq_true rfl) rfl
                    have i123 : 0 ≤ (xi (E 5) 9).toInt ∧ (xi (E 5) 9).toInt ≤ 255 := hI0.iv 5 (mF 5 rfl) rfl (Nat.le_of_ble_eq_true rfl) rfl
                    try rw [hKb.ei 5 9 rfl] at f120
                    have k124 : SnP r116.toInt (hZr cf E (hLe E ri a0.toInt a1.toInt v10_4.toInt v34_5.toInt)) (hNz cf E (hLe E ri a0.toInt a1.toInt v10_4.toInt v34_5.toInt)) := by have h9 := f120; rw [show hWo cf E111 = hWo cf E from (hW_cg (hKb.ei 5 8 rfl) (hKb.ei 5 7 rfl) (fun i9 => kp_rul hKb (fun o9 ho9 j9 => wl_p rfl rfl ho9) i9)), k115] at h9; (try rw [show xi (E111 5) 9 = xi (E 5) 9 from hKb.ei 5 9 rfl] at h9); exact h9
                    refine lv_ior hx hb dX2_faultsFrom_195 ?_
                    refine lv_topi (fun y125 ey125 => ?_)
                    have iy125 : 0 ≤ y125.toInt ∧ y125.toInt ≤ 3 := ti_or3 ey125 (by omega) (by omega)
                    refine lv_istore_n (lv' := [(3, .int y125), (6, .int y48), (5, .int v34_5), (4, .int v10_4), (0, .ref (ad 5)), (1, .int a0), (2, .int a1)]) hx hb dX2_faultsFrom_196 rfl hl (by decide) rfl (fun ls hl => ?_)
                    obtain ⟨y126, ey126⟩ : ∃ y : Int32, y = v34_5 + (1 : Int32) := ⟨_, rfl⟩
                    obtain ⟨ty126, iy126⟩ := ti_add (e := 1) (f := 100) i28 ln_1 ey126 (by decide)
                    have ty126 : y126.toInt = v34_5.toInt + 1 := ty126
                    have iy126 : 1 ≤ y126.toInt ∧ y126.toInt ≤ 100 := iy126
                    refine lv_iinc (v := y126) (lv' := [(5, .int y126), (3, .int y125), (6, .int y48), (4, .int v10_4), (0, .ref (ad 5)), (1, .int a0), (2, .int a1)]) hx hb dX2_faultsFrom_197 hl (k := 2) rfl (by rw [ey126]; rfl) (by decide) rfl (fun ls hl => ?_)
                    refine lv_goto (tgt := 34) hx hb dX2_faultsFrom_200 (by decide) ?_
                    exact ih34 y126 y125 E117 _ _ _ (iv_w iy126 (by decide)) iy125 (hx34_0.or k124 ey125 (exR_in (by omega) ⟨by omega, by omega, by omega, by omega⟩) (exR_in (by omega) ⟨by omega, by omega, by omega, by omega⟩)) (by omega) (by first | exact ms_su hx34_2 ty126 (by decide) | omega) hI hKp hP hS (lv_sub hl [0, 3, 1, 4, 5, 6] rfl)
          exact hL34 (101) y17 v10_3 E10_ _ _ _ (iv_w iy17 (by decide)) (iv_w i16 (by decide)) (by rw [k19]; exact hx10_0) (by omega) (by have h9 := iy17; first | exact ms_bu h9.1 (by decide) | omega) hI hKp hP hS (lv_sub hl [0, 1, 2, 3, 4, 5] rfl)
  exact hL10 (101) y1 (0 : Int32) E _ _ _ (iv_w iy1 (by decide)) (iv_w ln_0 (by decide)) (SnP.start (exR_0 (by omega) (by omega)) (exR_0 (by omega) (by omega))) (by omega) (by have h9 := iy1; first | exact ms_bu h9.1 (by decide) | omega) hI hKp hP hS (lv_sub hl [0, 1, 2, 3, 4] rfl)
def v_findX : List Cond := .code yX2_find cX2_find 7 (some .int) :: vA
abbrev rm_findX : Room := { frames := 6, cells := 0, slots := 0, locals := 240 }
def w_findX : Nat → Nat → Bool := wl [19, 20, 38, 39, 40, 41, 42] [(5, 6), (5, 7), (5, 8), (5, 9)]
set_option maxHeartbeats 4000000 in
set_option maxRecDepth 100000 in
theorem q_findX (l : Launch) (dC : Nat → ClassId) (dI : Nat → Nat → Nat) (cT : Nat → ClassId) (cf : Nat → Nat) (hC : CF cf) (ad : Nat → Nat) (E : Nat → va_E) (sz : Nat) (a0 : Int32) (a1 : Int32) (i : Nat) (hI0 : IXL cT (shC cf) (spC cf) (LC cf) ad E) (hh0 : i < cf 5) (hh1 : 0 ≤ a0.toInt ∧ a0.toInt ≤ 1) (hh2 : 0 ≤ a1.toInt ∧ a1.toInt ≤ 400) (hh3 : RulAll cf E) : Met l yX2_find v_findX rm_findX (va_Pc [.ref (ad 5), .ref (ad (64 * (i + 1) + 14)), .int a0, .int a1] (HWL dC dI (TYC cT) cf ad E sz)) (va_Qi (S := Nat → va_E) (fun r u => IXL cT (shC cf) (spC cf) (LC cf) ad u ∧ Kp w_findX E u ∧ ((-1 ≤ r.toInt ∧ r.toInt ≤ 2) ∧ (∃ s9 : Int32, SWq E (xi (E (64 * (i + 1) + 14)) 0).toNatClampNeg a1.toInt s9 ∧ (r.toInt = 1 ↔ FndC cf E i a0 a1 s9.toInt)))) (HBL dC dI (LC cf) ad) (va_A (WL (LC cf) ad E) sz)) 0 0 (va_A (WL (LC cf) ad E) sz) := by
  obtain ⟨⟨hc0, hc1, hc2, hc3, hc4, hc5⟩, hcr⟩ := id hC
  refine Met.ofW (cc := cX2_find) (maxL := 7) (ret := (some .int)) (by decide) rfl ?_
  intro p e s m args below meth c s₁ B hml hv
  obtain ⟨hargs, hsz, hP, hK, hD0, hEV⟩ := hv
  subst hsz
  have hx := B.exec
  have hb := B.bytes
  have hr := B.returns
  have hts := atoms_spec (ws := v_findX) B.pre
  have hown : s.vm.findClass RX2 = some m.cls := findClass_of_methodNamed B.named
  have hlocks := B.notSynchronized
  have hinX0 : ∀ w ∈ u_ws RX0 TX0 11, w ∈ v_findX := fun w h => vA_in _ w (in_X0 w h)
  have hinX2 : ∀ w ∈ u_ws RX2 TX2 10, w ∈ v_findX := fun w h => vA_in _ w (in_X2 w h)
  have hinX4 : ∀ w ∈ u_ws RX4 TX4 10, w ∈ v_findX := fun w h => vA_in _ w (in_X4 w h)
  have hinX5 : ∀ w ∈ u_ws RX5 TX5 12, w ∈ v_findX := fun w h => vA_in _ w (in_X5 w h)
  generalize hAe : va_A (WL (LC cf) ad E) s.heap.size = A at hEV ⊢
  have hA : ∀ q : Nat, s.heap.size ≤ q → A q := fun q h => by rw [← hAe]; exact Or.inr h
  have hD : va_D A (WL (LC cf) ad E) := by rw [← hAe]; exact hD0.self
  have hS : va_S A s.heap s.heap [] := va_S.rf
  have hI := hI0
  have hKp : Kp w_findX E E := Kp.rf
  have hl := lv_entry ([.ref (ad 5), .ref (ad (64 * (i + 1) + 14)), .int a0, .int a1]) (n := 7) (Nat.le_of_ble_eq_true rfl)
  obtain ⟨Q, hQ⟩ : ∃ Q, Q = MQ below (va_Qi (S := Nat → va_E) (fun r u => IXL cT (shC cf) (spC cf) (LC cf) ad u ∧ Kp w_findX E u ∧ ((-1 ≤ r.toInt ∧ r.toInt ≤ 2) ∧ (∃ s9 : Int32, SWq E (xi (E (64 * (i + 1) + 14)) 0).toNatClampNeg a1.toInt s9 ∧ (r.toInt = 1 ↔ FndC cf E i a0 a1 s9.toInt)))) (HBL dC dI (LC cf) ad) (A)) args s 0 0 (A) := ⟨_, rfl⟩
  rw [← hQ, show entryFrame m args 7 = _ from (congrArg (fun z => entryFrame m z 7) hargs).trans (lg_entry_eq _ _ _)]
  generalize (lg_sl ([.ref (ad 5), .ref (ad (64 * (i + 1) + 14)), .int a0, .int a1]) ++ List.replicate (7 - (lg_sl ([.ref (ad 5), .ref (ad (64 * (i + 1) + 14)), .int a0, .int a1])).length) Slot.unset).toArray = ls at hl ⊢
  have hl : lv_has ls 7 [(0, .ref (ad 5)), (1, .ref (ad (64 * (i + 1) + 14))), (2, .int a0), (3, .int a1)] := hl
  have z0z : (0 : Int32).toInt = 0 := rfl
  refine lv_aload_n hx hb dX2_find_0 rfl (lv_at hl 0 rfl) ?_
  refine lv_aload_n hx hb dX2_find_1 rfl (lv_at hl 1 rfl) ?_
  refine lv_iconst (v := 0) hx hb dX2_find_2 (by decide) ?_
  refine lv_iload_n hx hb dX2_find_3 rfl (lv_at hl 3 rfl) ?_
  have z0 := ln_0
  refine th_iL (va_runV (As := [.ref (ad (64 * (i + 1) + 14)), .int 0, .int a1]) (rest := []) ⟨hx, hb, hml, hown, hts⟩ (q_statesOfX l dC dI cT cf hC ad E s.heap.size (0 : Int32) a1 i hI (by omega) (iv_w ln_0 (by decide)) hh2) (cwV 3 hts (gi_V (in_15 _ (zs4 (zs1 (zs1 (zs0))))) (in_15 _ (zs4 (zs1 (zs1 (zs1 (zs0)))))) (in_15 _ (zs4 (zs4 (zs0)))) (in_14 _ (zs16 (zs16 (zs0)))) (in_15 _ (zs4 (zs4 (zs1 (zs0)))))) rfl rfl rfl ⟨rfl, hz_yX2_statesOf_3⟩ ⟨Nat.le_of_ble_eq_true rfl, Nat.le_of_ble_eq_true rfl⟩) ⟨HWL_bl, va_recv hK hP (ci := 3) (q0 := posL 5 (LC cf)) rfl (hI.ob 5 (mF 5 rfl) rfl), (HWL_wi hP hK (WL_D hD) hS hA hEV)⟩ rfl rfl hl.1 rfl (lv_room (Nat.le_of_ble_eq_true rfl)) dX2_find_4 ⟨Nat.le_of_ble_eq_true rfl, Nat.le_of_ble_eq_true rfl⟩) (WL_D hD) hS hA (fun r1 E2 H locs hw hP hS => ?_)
  obtain ⟨hI, kq3, hw⟩ := hw
  have hKb := hKp
  have hKp := hKp.tr kq3 (wl_sub rfl rfl)
  have f4 := hw
  refine lv_if_eq (tgt := 20) hx hb dX2_find_7 (by decide) (fun c5 => ?_) (fun c5 => ?_)
  · --7 taken
    have t6 : r1.toInt = 0 := ti_eq c5
    have i7 : 0 ≤ r1.toInt ∧ r1.toInt ≤ 0 := iv_eqi t6 (iv_all _) (il_ 0) (by decide)
    refine lv_iconst (v := -1) hx hb dX2_find_20 (by decide) ?_
    obtain ⟨s8, hs1, hs5⟩ := find_s1 f4
    rw [hQ]
    exact W.iret (v := (-1)) hx hb hr (fun t ht hW => ⟨⟨(-1), E2, rfl, ⟨hI, hKp, ⟨(iv_w ln_m1 (by decide)), ⟨s8, hs1, find_0 (fun q9 => (hs5.mp (by omega)) q9.1)⟩⟩⟩, by show va_P (dC, dI) vwCl (WL (LC cf) ad E2) t.heap; rw [ht]; exact hP⟩, hS.F ht⟩) hS.2.2 dX2_find_21
  · --7 not
    have t9 : ¬ r1.toInt = 0 := ti_ne c5
    refine lv_aload_n hx hb dX2_find_10 rfl (lv_at hl 0 rfl) ?_
    refine lv_aload_n hx hb dX2_find_11 rfl (lv_at hl 1 rfl) ?_
    refine lv_iconst (v := 1) hx hb dX2_find_12 (by decide) ?_
    refine lv_iload_n hx hb dX2_find_13 rfl (lv_at hl 3 rfl) ?_
    have z1 := ln_1
    refine th_iL (va_runV (As := [.ref (ad (64 * (i + 1) + 14)), .int 1, .int a1]) (rest := []) ⟨hx, hb, hml, hown, hts⟩ (q_statesOfX l dC dI cT cf hC ad E2 H.size (1 : Int32) a1 i hI (by omega) (iv_w ln_1 (by decide)) hh2) (cwV 3 hts (gi_V (in_15 _ (zs4 (zs1 (zs1 (zs0))))) (in_15 _ (zs4 (zs1 (zs1 (zs1 (zs0)))))) (in_15 _ (zs4 (zs4 (zs0)))) (in_14 _ (zs16 (zs16 (zs0)))) (in_15 _ (zs4 (zs4 (zs1 (zs0)))))) rfl rfl rfl ⟨rfl, hz_yX2_statesOf_3⟩ ⟨Nat.le_of_ble_eq_true rfl, Nat.le_of_ble_eq_true rfl⟩) ⟨HWL_bl, va_recv hK hP (ci := 3) (q0 := posL 5 (LC cf)) rfl (hI.ob 5 (mF 5 rfl) rfl), (HWL_wi hP hK (WL_D hD) hS hA hEV)⟩ rfl rfl hl.1 rfl (lv_room (Nat.le_of_ble_eq_true rfl)) dX2_find_14 ⟨Nat.le_of_ble_eq_true rfl, Nat.le_of_ble_eq_true rfl⟩) (WL_D hD) hS hA (fun r10 E11 H locs hw hP hS => ?_)
    obtain ⟨hI, kq12, hw⟩ := hw
    have hKb := hKp
    have hKp := hKp.tr kq12 (wl_sub rfl rfl)
    have f13 := hw
    have k14 : K64 E E2 := K64.of hKb (fun o9 ho9 j9 => wl_p rfl rfl ho9)
    obtain ⟨s15, hs1, hs2, hs3, hs4, hs5⟩ := find_st k14 f4 f13
    obtain ⟨g16, hg16⟩ : ∃ g, xi (E11 38) = g := ⟨_, rfl⟩
    obtain ⟨g17, hg17⟩ : ∃ g, xi (E11 39) = g := ⟨_, rfl⟩
    obtain ⟨g18, hg18⟩ : ∃ g, xi (E11 40) = g := ⟨_, rfl⟩
    obtain ⟨g19, hg19⟩ : ∃ g, xi (E11 41) = g := ⟨_, rfl⟩
    obtain ⟨g20, hg20⟩ : ∃ g, xi (E11 42) = g := ⟨_, rfl⟩
    refine lv_if_ne (tgt := 22) hx hb dX2_find_17 (by decide) (fun c21 => ?_) (fun c21 => ?_)
    · --17 taken
      have t22 : ¬ r10.toInt = 0 := ti_ne c21
      refine lv_aload_n hx hb dX2_find_22 rfl (lv_at hl 0 rfl) ?_
      refine lv_aload_n hx hb dX2_find_23 rfl (lv_at hl 0 rfl) ?_
      refine th_getL (ci := 3) (C := RX2) (T := TX2) (N := 10) (v := .ref (ad 1)) hx hb hts hinX2 hown hK hP hI 5 (mF 5 rfl) rfl rfl 0 (Nat.le_of_ble_eq_true rfl) (hts _ (vA_in _ _ (in_14 _ (zs16 (zs16 (zs1 (zs1 (zs0)))))))) (fun _ h9 => h9) (hI.fr 5 (mF 5 rfl) rfl (Nat.le_of_ble_eq_true rfl) 1 rfl) dX2_find_24 ?_
      refine th_getL (ci := 1) (C := RX0) (T := TX0) (N := 11) (v := .ref (ad 9)) hx hb hts hinX0 hown hK hP hI 1 (mF 1 rfl) rfl rfl 5 (Nat.le_of_ble_eq_true rfl) (hts _ (vA_in _ _ (in_14 _ (zs16 (zs16 (zs1 (zs1 (zs1 (zs0))))))))) (fun _ h9 => h9) (hI.fr 1 (mF 1 rfl) rfl (Nat.le_of_ble_eq_true rfl) 9 rfl) dX2_find_27 ?_
      refine lv_aload_n hx hb dX2_find_30 rfl (lv_at hl 1 rfl) ?_
      have j24 : 0 ≤ (xi (E (64 * (i + 1) + 14)) 0).toInt ∧ (xi (E (64 * (i + 1) + 14)) 0).toInt ≤ ((cf 2 : Nat) : Int) - 1 := hI0.iv (64 * (i + 1) + 14) (mP 14 i (by decide) hh0 (kl_le hC 5 (by decide))) (shC_p 14 i (by decide)) (Nat.le_of_ble_eq_true rfl) (spC_p 14 i (by decide) 0)
      have i23 : 0 ≤ (xi (E (64 * (i + 1) + 14)) 0).toInt ∧ (xi (E (64 * (i + 1) + 14)) 0).toInt ≤ 19 := by omega
      refine th_getL (ci := 5) (C := RX4) (T := TX4) (N := 10) (v := .int (xi (E (64 * (i + 1) + 14)) 0)) hx hb hts hinX4 hown hK hP hI (64 * (i + 1) + 14) (mP 14 i (by decide) hh0 (kl_le hC 5 (by decide))) (shC_p 14 i (by decide)) rfl 0 (Nat.le_of_ble_eq_true rfl) (hts _ (vA_in _ _ (in_14 _ (zs16 (zs16 (zs4 (zs0))))))) (fun _ h9 => h9) (th_v0L hKp hI0 (64 * (i + 1) + 14) (mP 14 i (by decide) hh0 (kl_le hC 5 (by decide))) (shC_p 14 i (by decide)) (Nat.le_of_ble_eq_true rfl) (spC_p 14 i (by decide) 0) (wl_p rfl rfl (by omega))) dX2_find_31 ?_
      refine th_rrL (va_runV (As := [.int (xi (E (64 * (i + 1) + 14)) 0)]) (rest := [.ref (ad 5)]) ⟨hx, hb, hml, hown, hts⟩ (q_get2 l dC dI cT cf hC ad E11 H.size (xi (E (64 * (i + 1) + 14)) 0) hI (by omega)) (cwV 1 hts (gi_V (in_15 _ (zs16 (zs4 (zs1 (zs0))))) (in_4 _ (zs16 (zs16 (zs4 (zs1 (zs1 (zs0))))))) (in_4 _ (zs16 (zs16 (zs4 (zs1 (zs1 (zs1 (zs0)))))))) (in_3 _ (zs16 (zs1 (zs1 (zs0))))) (in_3 _ (zs16 (zs16 (zs4 (zs1 (zs1 (zs1 (zs0))))))))) rfl rfl rfl ⟨rfl, hz_yJx4a65c_get_915e3_1⟩ ⟨Nat.le_of_ble_eq_true rfl, Nat.le_of_ble_eq_true rfl⟩) ⟨HWL_bl, va_recv hK hP (ci := 0) (q0 := posL 9 (LC cf)) rfl (hI.ob 9 (mF 9 rfl) rfl), (HWL_wi hP hK (WL_D hD) hS hA hEV)⟩ rfl rfl hl.1 rfl (lv_room (Nat.le_of_ble_eq_true rfl)) dX2_find_34 ⟨Nat.le_of_ble_eq_true rfl, Nat.le_of_ble_eq_true rfl⟩) hS hP (fun r25 H locs hw hP hS => ?_)
      obtain rfl := hw
      have lv26 : (xi (E (64 * (i + 1) + 14)) 0).toNatClampNeg < cf 2 := by rw [tn_]; omega
      refine va_castS (cC := dC 6) hx hb hown (hts _ (vA_in _ _ (in_14 _ (zs16 (zs16 (zs4 (zs1 (zs0)))))))) (hK.1 6 _ rfl).2 (va_recv hK hP (ci := 6) (q0 := posL (64 * ((xi (E (64 * (i + 1) + 14)) 0).toNatClampNeg + 1) + 6) (LC cf)) rfl (hI.ob (64 * ((xi (E (64 * (i + 1) + 14)) 0).toNatClampNeg + 1) + 6) (mP 6 ((xi (E (64 * (i + 1) + 14)) 0).toNatClampNeg) (by decide) lv26 (kl_le hC 2 (by decide))) (shC_p 6 ((xi (E (64 * (i + 1) + 14)) 0).toNatClampNeg) (by decide)))) dX2_find_37 ?_
      refine th_putL (ci := 3) (C := RX2) (T := TX2) (N := 10) (v := .ref (ad (64 * ((xi (E (64 * (i + 1) + 14)) 0).toNatClampNeg + 1) + 6))) (ty := (.object "UnlikeBoats$Race")) hx hb hts hinX2 tyX2 tyX2_ok nmX2 hown hK hP (WL_D hD) hS hI 5 (mF 5 rfl) rfl rfl 6 (Nat.le_of_ble_eq_true rfl) (hts _ (vA_in _ _ (in_14 _ (zs16 (zs16 (zs4 (zs1 (zs1 (zs0))))))))) (fun _ h9 => h9) rfl (by decide +kernel) rfl rfl trivial dX2_find_40 (fun H locs E27 pw28 hI hP hS => ?_)
      have hKp := hKp.pw pw28 rfl
      refine lv_aload_n hx hb dX2_find_43 rfl (lv_at hl 0 rfl) ?_
      refine lv_aload_n hx hb dX2_find_44 rfl (lv_at hl 0 rfl) ?_
      refine th_getL (ci := 3) (C := RX2) (T := TX2) (N := 10) (v := .ref (ad 1)) hx hb hts hinX2 hown hK hP hI 5 (mF 5 rfl) rfl rfl 0 (Nat.le_of_ble_eq_true rfl) (hts _ (vA_in _ _ (in_14 _ (zs16 (zs16 (zs1 (zs1 (zs0)))))))) (fun _ h9 => h9) (hI.fr 5 (mF 5 rfl) rfl (Nat.le_of_ble_eq_true rfl) 1 rfl) dX2_find_45 ?_
      refine lv_aload_n hx hb dX2_find_48 rfl (lv_at hl 0 rfl) ?_
      refine th_getL (ci := 3) (C := RX2) (T := TX2) (N := 10) (v := .ref (ad (64 * ((xi (E (64 * (i + 1) + 14)) 0).toNatClampNeg + 1) + 6))) hx hb hts hinX2 hown hK hP hI 5 (mF 5 rfl) rfl rfl 6 (Nat.le_of_ble_eq_true rfl) (hts _ (vA_in _ _ (in_14 _ (zs16 (zs16 (zs4 (zs1 (zs1 (zs0))))))))) (fun _ h9 => h9) pw28.1 dX2_find_49 ?_
      have i29 : 0 ≤ (xi (E (64 * ((xi (E (64 * (i + 1) + 14)) 0).toNatClampNeg + 1) + 6)) 1).toInt ∧ (xi (E (64 * ((xi (E (64 * (i + 1) + 14)) 0).toNatClampNeg + 1) + 6)) 1).toInt ≤ 400 := hI0.iv (64 * ((xi (E (64 * (i + 1) + 14)) 0).toNatClampNeg + 1) + 6) (mP 6 ((xi (E (64 * (i + 1) + 14)) 0).toNatClampNeg) (by decide) lv26 (kl_le hC 2 (by decide))) (shC_p 6 ((xi (E (64 * (i + 1) + 14)) 0).toNatClampNeg) (by decide)) (Nat.le_of_ble_eq_true rfl) (spC_p 6 ((xi (E (64 * (i + 1) + 14)) 0).toNatClampNeg) (by decide) 1)
      refine th_getL (ci := 6) (C := RX5) (T := TX5) (N := 12) (v := .int (xi (E (64 * ((xi (E (64 * (i + 1) + 14)) 0).toNatClampNeg + 1) + 6)) 1)) hx hb hts hinX5 hown hK hP hI (64 * ((xi (E (64 * (i + 1) + 14)) 0).toNatClampNeg + 1) + 6) (mP 6 ((xi (E (64 * (i + 1) + 14)) 0).toNatClampNeg) (by decide) lv26 (kl_le hC 2 (by decide))) (shC_p 6 ((xi (E (64 * (i + 1) + 14)) 0).toNatClampNeg) (by decide)) rfl 1 (Nat.le_of_ble_eq_true rfl) (hts _ (vA_in _ _ (in_14 _ (zs16 (zs16 (zs4 (zs1 (zs1 (zs1 (zs0)))))))))) (fun _ h9 => h9) (th_v0L hKp hI0 (64 * ((xi (E (64 * (i + 1) + 14)) 0).toNatClampNeg + 1) + 6) (mP 6 ((xi (E (64 * (i + 1) + 14)) 0).toNatClampNeg) (by decide) lv26 (kl_le hC 2 (by decide))) (shC_p 6 ((xi (E (64 * (i + 1) + 14)) 0).toNatClampNeg) (by decide)) (Nat.le_of_ble_eq_true rfl) (spC_p 6 ((xi (E (64 * (i + 1) + 14)) 0).toNatClampNeg) (by decide) 1) (wl_p rfl rfl (by omega))) dX2_find_52 ?_
      refine lv_iload_n hx hb dX2_find_55 rfl (lv_at hl 3 rfl) ?_
      have hKl := hKp
      refine th_riL (va_runV (As := [.int (xi (E (64 * ((xi (E (64 * (i + 1) + 14)) 0).toNatClampNeg + 1) + 6)) 1), .int a1]) (rest := [.ref (ad 5)]) ⟨hx, hb, hml, hown, hts⟩ (q_rulesOnX l dC dI cT cf hC ad E27 H.size (xi (E (64 * ((xi (E (64 * (i + 1) + 14)) 0).toNatClampNeg + 1) + 6)) 1) a1 hI) (cwV 2 hts (gi_V (in_15 _ (zs16 (zs16 (zs4 (zs1 (zs1 (zs1 (zs0)))))))) (in_6 _ (zs16 (zs4 (zs4 (zs4 (zs0)))))) (in_6 _ (zs16 (zs4 (zs4 (zs4 (zs1 (zs0))))))) (in_5 _ (zs4 (zs1 (zs1 (zs0))))) (in_6 _ (zs16 (zs4 (zs4 (zs4 (zs1 (zs1 (zs0))))))))) rfl rfl rfl ⟨rfl, hz_yX0_rulesOn_2⟩ ⟨Nat.le_of_ble_eq_true rfl, Nat.le_of_ble_eq_true rfl⟩) ⟨HWL_bl, va_recv hK hP (ci := 1) (q0 := posL 1 (LC cf)) rfl (hI.ob 1 (mF 1 rfl) rfl), (HWL_wi hP hK (WL_D hD) hS hA hEV)⟩ rfl rfl hl.1 rfl (lv_room (Nat.le_of_ble_eq_true rfl)) dX2_find_56 ⟨Nat.le_of_ble_eq_true rfl, Nat.le_of_ble_eq_true rfl⟩) hS hP (fun r30 H locs hw hP hS => ?_)
      obtain ⟨f31, f32, f33⟩ := hw
      refine th_putL (ci := 3) (C := RX2) (T := TX2) (N := 10) (v := .int r30) (ty := .int) hx hb hts hinX2 tyX2 tyX2_ok nmX2 hown hK hP (WL_D hD) hS hI 5 (mF 5 rfl) rfl rfl 7 (Nat.le_of_ble_eq_true rfl) (hts _ (vA_in _ _ (in_15 _ zs0))) (fun _ h9 => h9) rfl (by decide +kernel) rfl rfl (okI rfl f31) dX2_find_59 (fun H locs E34 pw35 hI hP hS => ?_)
      have hKp := hKp.pw pw35 rfl
      refine lv_aload_n hx hb dX2_find_62 rfl (lv_at hl 0 rfl) ?_
      refine lv_iload_n hx hb dX2_find_63 rfl (lv_at hl 2 rfl) ?_
      refine lv_if_ne (tgt := 72) hx hb dX2_find_64 (by decide) (fun c36 => ?_) (fun c36 => ?_)
      · --64 taken
        have t37 : ¬ a0.toInt = 0 := ti_ne c36
        have i38 : 1 ≤ a0.toInt ∧ a0.toInt ≤ 1 := iv_ne_l t37 hh1 (il_ 0)
        refine lv_bipush (v := 98) hx hb dX2_find_72 (by decide) ?_
        refine th_putL (ci := 3) (C := RX2) (T := TX2) (N := 10) (v := .int 98) (ty := .char) hx hb hts hinX2 tyX2 tyX2_ok nmX2 hown hK hP (WL_D hD) hS hI 5 (mF 5 rfl) rfl rfl 8 (Nat.le_of_ble_eq_true rfl) (hts _ (vA_in _ _ (in_15 _ (zs1 (zs0))))) (fun _ h9 => h9) rfl (by decide +kernel) rfl rfl (okI rfl (iv_w ln_98 (by decide))) dX2_find_74 (fun H locs E39 pw40 hI hP hS => ?_)
        have hKp := hKp.pw pw40 rfl
        refine lv_aload_n hx hb dX2_find_77 rfl (lv_at hl 0 rfl) ?_
        refine th_vL (va_runV (As := []) (rest := []) ⟨hx, hb, hml, hown, hts⟩ (q_gatherTacksX l dC dI cT cf hC ad E39 H.size ((xi (E (64 * (i + 1) + 14)) 0).toNatClampNeg) hI (by omega) (by exact ((pw40.2 5 6 (fun q9 => absurd q9.2 (Nat.ne_of_beq_eq_false rfl))).trans ((pw35.2 5 6 (fun q9 => absurd q9.2 (Nat.ne_of_beq_eq_false rfl))).trans pw28.1)))) (cwV 0 hts (gi_V (in_16 _ zs0) (in_16 _ (zs1 (zs0))) (in_16 _ (zs1 (zs1 (zs0)))) (in_14 _ (zs16 (zs16 (zs0)))) (in_16 _ (zs1 (zs1 (zs1 (zs0)))))) rfl rfl rfl ⟨rfl, hz_yX2_gatherTacks_0⟩ ⟨Nat.le_of_ble_eq_true rfl, Nat.le_of_ble_eq_true rfl⟩) ⟨HWL_bl, va_recv hK hP (ci := 3) (q0 := posL 5 (LC cf)) rfl (hI.ob 5 (mF 5 rfl) rfl), (HWL_wi hP hK (WL_D hD) hS hA hEV)⟩ rfl rfl hl.1 rfl (lv_room (Nat.le_of_ble_eq_true rfl)) dX2_find_78 ⟨Nat.le_of_ble_eq_true rfl, Nat.le_of_ble_eq_true rfl⟩) (WL_D hD) hS hA (fun E42 H locs hw hP hS => ?_)
        obtain ⟨hI, kq43, hw⟩ := hw
        have hKb := hKp
        have hKp := hKp.tr kq43 (wl_sub rfl rfl)
        have f44 := hw
        have hGR38 : xi (E42 38) = g16 := ((kq43.ef 38 (fun _ => rfl)).trans ((pw40.ef 38 (Nat.ne_of_beq_eq_false rfl)).trans ((pw35.ef 38 (Nat.ne_of_beq_eq_false rfl)).trans ((pw28.ef 38 (Nat.ne_of_beq_eq_false rfl)).trans hg16))))
        have hGR39 : xi (E42 39) = g17 := ((kq43.ef 39 (fun _ => rfl)).trans ((pw40.ef 39 (Nat.ne_of_beq_eq_false rfl)).trans ((pw35.ef 39 (Nat.ne_of_beq_eq_false rfl)).trans ((pw28.ef 39 (Nat.ne_of_beq_eq_false rfl)).trans hg17))))
        have hGR40 : xi (E42 40) = g18 := ((kq43.ef 40 (fun _ => rfl)).trans ((pw40.ef 40 (Nat.ne_of_beq_eq_false rfl)).trans ((pw35.ef 40 (Nat.ne_of_beq_eq_false rfl)).trans ((pw28.ef 40 (Nat.ne_of_beq_eq_false rfl)).trans hg18))))
        have hGR41 : xi (E42 41) = g19 := ((kq43.ef 41 (fun _ => rfl)).trans ((pw40.ef 41 (Nat.ne_of_beq_eq_false rfl)).trans ((pw35.ef 41 (Nat.ne_of_beq_eq_false rfl)).trans ((pw28.ef 41 (Nat.ne_of_beq_eq_false rfl)).trans hg19))))
        have hGR42 : xi (E42 42) = g20 := ((kq43.ef 42 (fun _ => rfl)).trans ((pw40.ef 42 (Nat.ne_of_beq_eq_false rfl)).trans ((pw35.ef 42 (Nat.ne_of_beq_eq_false rfl)).trans ((pw28.ef 42 (Nat.ne_of_beq_eq_false rfl)).trans hg20))))
        have hGA := hs2.row (E' := E42) ⟨congrFun (hGR38.trans (show xi (E11 38) = g16 from hg16).symm) 0, congrFun (hGR39.trans (show xi (E11 39) = g17 from hg17).symm) 0, congrFun (hGR40.trans (show xi (E11 40) = g18 from hg18).symm) 0, congrFun (hGR41.trans (show xi (E11 41) = g19 from hg19).symm) 0, congrFun (hGR42.trans (show xi (E11 42) = g20 from hg20).symm) 0⟩
        have hGB := hs3.row (E' := E42) ⟨congrFun (hGR38.trans (show xi (E11 38) = g16 from hg16).symm) 1, congrFun (hGR39.trans (show xi (E11 39) = g17 from hg17).symm) 1, congrFun (hGR40.trans (show xi (E11 40) = g18 from hg18).symm) 1, congrFun (hGR41.trans (show xi (E11 41) = g19 from hg19).symm) 1, congrFun (hGR42.trans (show xi (E11 42) = g20 from hg20).symm) 1⟩
        have hG64 : K64 E E42 := K64.of hKp (fun o9 ho9 j9 => wl_p rfl rfl ho9)
        have hG7 : xi (E42 5) 7 = lawC cf E (xi (E (64 * (ri14 E i + 1) + 6)) 1) a1 := (show xi (E42 5) 7 = r30 from vi_e ((kq43 5 7 rfl).trans ((pw40.2 5 7 (fun q9 => absurd q9.2 (Nat.ne_of_beq_eq_false rfl))).trans pw35.1))).trans ((show r30 = lawC cf E27 (xi (E (64 * (ri14 E i + 1) + 6)) 1) a1 from Int32.toInt_inj.mp f33).trans (lawC_cg (E := E) (K64.of hKl (fun o9 ho9 j9 => wl_p rfl rfl ho9))))
        have hG8 : (xi (E42 5) 8).toInt = if a0.toInt = 0 then 97 else 98 := (congrArg Int32.toInt (show xi (E42 5) 8 = (98 : Int32) from vi_e ((kq43 5 8 rfl).trans pw40.1))).trans (Eq.trans (b := (98 : Int)) rfl (if_neg (by omega)).symm)
        have hGw : 0 ≤ (xi (E (64 * (ri14 E i + 1) + 6)) 4).toInt := (hI0.iv (64 * ((xi (E (64 * (i + 1) + 14)) 0).toNatClampNeg + 1) + 6) (mP 6 ((xi (E (64 * (i + 1) + 14)) 0).toNatClampNeg) (by decide) lv26 (kl_le hC 2 (by decide))) (shC_p 6 ((xi (E (64 * (i + 1) + 14)) 0).toNatClampNeg) (by decide)) (Nat.le_of_ble_eq_true rfl) (spC_p 6 ((xi (E (64 * (i + 1) + 14)) 0).toNatClampNeg) (by decide) 4)).1
        have hGT : TkS (xi (E42 42) 0) (xi (E42 42) 1) (xi (E (64 * (ri14 E i + 1) + 6)) 4).toInt 64 (xi (E42 5) 9) := by have h9 := f44; rw [show xi (E39 42) = xi (E42 42) from (kq43.ef 42 (fun _ => rfl)).symm, (K64.of hKb (fun o9 ho9 j9 => wl_p rfl rfl ho9)) (64 * ((xi (E (64 * (i + 1) + 14)) 0).toNatClampNeg + 1) + 6) (by omega) 4] at h9; exact h9
        refine lv_iconst (v := 0) hx hb dX2_find_81 (by decide) ?_
        refine lv_istore (lv' := [(4, .int 0), (0, .ref (ad 5)), (1, .ref (ad (64 * (i + 1) + 14))), (2, .int a0), (3, .int a1)]) hx hb dX2_find_82 hl (by decide) rfl (fun ls hl => ?_)
        refine lv_aload_n hx hb dX2_find_84 rfl (lv_at hl 1 rfl) ?_
        refine th_getL (ci := 3) (C := RX2) (T := TX2) (N := 10) (v := .ref (ad 38)) hx hb hts hinX2 hown hK hP hI 5 (mF 5 rfl) rfl rfl 1 (Nat.le_of_ble_eq_true rfl) (hts _ (vA_in _ _ (in_15 _ (zs1 (zs1 (zs0)))))) (fun _ h9 => h9) (hI.fr 5 (mF 5 rfl) rfl (Nat.le_of_ble_eq_true rfl) 38 rfl) dX2_find_85 ?_
        refine lv_iconst (v := 0) hx hb dX2_find_88 (by decide) ?_
        have n46 : vp_in (0 : Int32) 2 := (iv_in (n := 2) ln_0 (by decide))
        refine th_ialdL hx hb hK hP hI 38 (mF 38 rfl) rfl rfl n46 dX2_find_89 (fun y45 ey45 => ?_)
        have iy45 : 0 ≤ y45.toInt ∧ y45.toInt ≤ 99 := hI.el 38 (mF 38 rfl) rfl n46 (fun _ => rfl) ey45
        have ey45 := ey45.trans (congrFun ((kq43.ef 38 (fun _ => rfl)).trans ((pw40.ef 38 (Nat.ne_of_beq_eq_false rfl)).trans ((pw35.ef 38 (Nat.ne_of_beq_eq_false rfl)).trans ((pw28.ef 38 (Nat.ne_of_beq_eq_false rfl)).trans hg16)))) _)
        have k47 : y45.toInt = (xi (E42 38) 0).toInt := congrArg Int32.toInt ((show y45 = g16 0 from ey45).trans (congrFun hGR38 0).symm)
        refine lv_istore (lv' := [(5, .int y45), (4, .int 0), (0, .ref (ad 5)), (1, .ref (ad (64 * (i + 1) + 14))), (2, .int a0), (3, .int a1)]) hx hb dX2_find_90 hl (by decide) rfl (fun ls hl => ?_)
        have hL92 : ∀ d : Nat, ∀ (v92_5 : Int32) (v92_4 : Int32) (E92_ : Nat → va_E) (H : Heap) (locs : List Loc) (ls : Array Slot), 0 ≤ v92_5.toInt ∧ v92_5.toInt ≤ 100 → 0 ≤ v92_4.toInt ∧ v92_4.toInt ≤ 3 → SnP v92_4.toInt (exR (rng (xi (E42 38) 0).toInt (xi (E42 39) 0).toInt (xi (E42 40) 0).toInt (xi (E42 41) 0).toInt) (fZ cf E42 (ri14 E i)) v92_5.toInt (xi (E42 40) 0).toInt) (exR (rng (xi (E42 38) 0).toInt (xi (E42 39) 0).toInt (xi (E42 40) 0).toInt (xi (E42 41) 0).toInt) (fN cf E42 (ri14 E i)) v92_5.toInt (xi (E42 40) 0).toInt) → (xi (E42 38) 0).toInt ≤ v92_5.toInt → Kp w_faultsFromX E42 E92_ → 100 - v92_5.toInt < (d : Int) → IXL cT (shC cf) (spC cf) (LC cf) ad E92_ → Kp w_findX E E92_ → xv (E92_ 5) 6 = .ref (ad (64 * ((xi (E (64 * (i + 1) + 14)) 0).toNatClampNeg + 1) + 6)) → xv (E92_ 5) 7 = .int r30 → xv (E92_ 5) 8 = .int 98 → xi (E92_ 38) = g16 → xi (E92_ 39) = g17 → xi (E92_ 40) = g18 → xi (E92_ 41) = g19 → xi (E92_ 42) = g20 → va_P (dC, dI) vwCl (WL (LC cf) ad E92_) H → va_S A s.heap H locs → lv_has ls 7 [(5, .int v92_5), (4, .int v92_4), (0, .ref (ad 5)), (1, .ref (ad (64 * (i + 1) + 14))), (2, .int a0), (3, .int a1)] → W p l e (headSpec v_findX rm_findX).room s m args below meth c H locs 0 0 Q (F0 m 92 ls []) := by
          intro d
          induction d with
          | zero =>
            intro v92_5 v92_4 E92_ H locs ls hv92_5 hv92_4 hx92_0 hx92_1 hx92_2 hx92_3 hI hKp hs92_5_6 hs92_5_7 hs92_5_8 hr92_38 hr92_39 hr92_40 hr92_41 hr92_42 hP hS hl
            exact absurd hx92_3 (by first | exact ms_zu hv92_5.2 | omega)
          | succ d ih92 =>
            intro v92_5 v92_4 E92_ H locs ls hv92_5 hv92_4 hx92_0 hx92_1 hx92_2 hx92_3 hI hKp hs92_5_6 hs92_5_7 hs92_5_8 hr92_38 hr92_39 hr92_40 hr92_41 hr92_42 hP hS hl
            refine lv_iload hx hb dX2_find_92 (lv_at hl 0 rfl) ?_
            refine lv_aload_n hx hb dX2_find_94 rfl (lv_at hl 2 rfl) ?_
            refine th_getL (ci := 3) (C := RX2) (T := TX2) (N := 10) (v := .ref (ad 39)) hx hb hts hinX2 hown hK hP hI 5 (mF 5 rfl) rfl rfl 2 (Nat.le_of_ble_eq_true rfl) (hts _ (vA_in _ _ (in_15 _ (zs1 (zs1 (zs1 (zs0))))))) (fun _ h9 => h9) (hI.fr 5 (mF 5 rfl) rfl (Nat.le_of_ble_eq_true rfl) 39 rfl) dX2_find_95 ?_
            refine lv_iconst (v := 0) hx hb dX2_find_98 (by decide) ?_
            have n49 : vp_in (0 : Int32) 2 := (iv_in (n := 2) ln_0 (by decide))
            refine th_ialdL hx hb hK hP hI 39 (mF 39 rfl) rfl rfl n49 dX2_find_99 (fun y48 ey48 => ?_)
            have iy48 : 0 ≤ y48.toInt ∧ y48.toInt ≤ 99 := hI.el 39 (mF 39 rfl) rfl n49 (fun _ => rfl) ey48
            have ey48 := ey48.trans (congrFun hr92_39 _)
            have k50 : y48.toInt = (xi (E42 39) 0).toInt := congrArg Int32.toInt ((show y48 = g17 0 from ey48).trans (congrFun hGR39 0).symm)
            refine lv_icmp_gt (tgt := 159) hx hb dX2_find_100 (by decide) (fun c51 => ?_) (fun c51 => ?_)
            · --100 taken
              have t52 : y48.toInt < v92_5.toInt := ti_lt c51
              have i53 : 1 ≤ v92_5.toInt ∧ v92_5.toInt ≤ 100 := iv_lt_r t52 iy48 hv92_5 (by decide)
              refine lv_iload hx hb dX2_find_159 (lv_at hl 1 rfl) ?_
              refine lv_iconst (v := 3) hx hb dX2_find_161 (by decide) ?_
              refine lv_icmp_ne (tgt := 169) hx hb dX2_find_162 (by decide) (fun c54 => ?_) (fun c54 => ?_)
              · --162 taken
                have t55 : ¬ v92_4.toInt = 3 := ti_ne c54
                have i56 : 0 ≤ v92_4.toInt ∧ v92_4.toInt ≤ 2 := iv_ne_r t55 hv92_4 (il_ 3)
                refine lv_iload hx hb dX2_find_169 (lv_at hl 1 rfl) ?_
                refine lv_iconst (v := 2) hx hb dX2_find_171 (by decide) ?_
                refine lv_icmp_ne (tgt := 179) hx hb dX2_find_172 (by decide) (fun c57 => ?_) (fun c57 => ?_)
                · --172 taken
                  have t58 : ¬ v92_4.toInt = 2 := ti_ne c57
                  have i59 : 0 ≤ v92_4.toInt ∧ v92_4.toInt ≤ 1 := iv_ne_r t58 i56 (il_ 2)
                  refine lv_iconst (v := 0) hx hb dX2_find_179 (by decide) ?_
                  rw [hQ]
                  exact W.iret (v := 0) hx hb hr (fun t ht hW => ⟨⟨0, E92_, rfl, ⟨hI, hKp, ⟨(iv_w ln_0 (by decide)), ⟨s15, hs1, find_n (r := 0) (find_e (hx92_0.cg (exR_all (by omega)) (exR_all (by omega))) hG64 hGA hGB (Classical.byContradiction (fun q9 => absurd (hs4.mpr q9) (by omega))) (Classical.byContradiction (fun q9 => absurd (hs5.mpr q9) (by omega))) hGw hGT hG8 hG7) (by omega) (by decide)⟩⟩⟩, by show va_P (dC, dI) vwCl (WL (LC cf) ad E92_) t.heap; rw [ht]; exact hP⟩, hS.F ht⟩) hS.2.2 dX2_find_180
                · --172 not
                  have t60 : v92_4.toInt = 2 := ti_eq c57
                  have i61 : 2 ≤ v92_4.toInt ∧ v92_4.toInt ≤ 2 := iv_eqi t60 i56 (il_ 2) (by decide)
                  refine lv_iconst (v := 1) hx hb dX2_find_175 (by decide) ?_
                  refine lv_goto (tgt := 180) hx hb dX2_find_176 (by decide) ?_
                  rw [hQ]
                  exact W.iret (v := 1) hx hb hr (fun t ht hW => ⟨⟨1, E92_, rfl, ⟨hI, hKp, ⟨(iv_w ln_1 (by decide)), ⟨s15, hs1, find_y (find_e (hx92_0.cg (exR_all (by omega)) (exR_all (by omega))) hG64 hGA hGB (Classical.byContradiction (fun q9 => absurd (hs4.mpr q9) (by omega))) (Classical.byContradiction (fun q9 => absurd (hs5.mpr q9) (by omega))) hGw hGT hG8 hG7) (by omega)⟩⟩⟩, by show va_P (dC, dI) vwCl (WL (LC cf) ad E92_) t.heap; rw [ht]; exact hP⟩, hS.F ht⟩) hS.2.2 dX2_find_180
              · --162 not
                have t62 : v92_4.toInt = 3 := ti_eq c54
                have i63 : 3 ≤ v92_4.toInt ∧ v92_4.toInt ≤ 3 := iv_eqi t62 hv92_4 (il_ 3) (by decide)
                refine lv_iconst (v := 2) hx hb dX2_find_165 (by decide) ?_
                refine lv_goto (tgt := 180) hx hb dX2_find_166 (by decide) ?_
                rw [hQ]
                exact W.iret (v := 2) hx hb hr (fun t ht hW => ⟨⟨2, E92_, rfl, ⟨hI, hKp, ⟨(iv_w ln_2 (by decide)), ⟨s15, hs1, find_n (r := 2) (find_e (hx92_0.cg (exR_all (by omega)) (exR_all (by omega))) hG64 hGA hGB (Classical.byContradiction (fun q9 => absurd (hs4.mpr q9) (by omega))) (Classical.byContradiction (fun q9 => absurd (hs5.mpr q9) (by omega))) hGw hGT hG8 hG7) (by omega) (by decide)⟩⟩⟩, by show va_P (dC, dI) vwCl (WL (LC cf) ad E92_) t.heap; rw [ht]; exact hP⟩, hS.F ht⟩) hS.2.2 dX2_find_180
            · --100 not
              have t64 : v92_5.toInt ≤ y48.toInt := ti_nlt c51
              have i65 : 0 ≤ v92_5.toInt ∧ v92_5.toInt ≤ 99 := iv_le_l t64 hv92_5 iy48 (by decide)
              refine lv_iload hx hb dX2_find_103 (lv_at hl 1 rfl) ?_
              refine lv_iconst (v := 3) hx hb dX2_find_105 (by decide) ?_
              refine lv_icmp_eq (tgt := 159) hx hb dX2_find_106 (by decide) (fun c66 => ?_) (fun c66 => ?_)
              · --106 taken
                have t67 : v92_4.toInt = 3 := ti_eq c66
                have i68 : 3 ≤ v92_4.toInt ∧ v92_4.toInt ≤ 3 := iv_eqi t67 hv92_4 (il_ 3) (by decide)
                refine lv_iload hx hb dX2_find_159 (lv_at hl 1 rfl) ?_
                refine lv_iconst (v := 3) hx hb dX2_find_161 (by decide) ?_
                refine lv_icmp_ne (tgt := 169) hx hb dX2_find_162 (by decide) (fun c69 => ?_) (fun c69 => ?_)
                · --162 taken
                  have t70 : ¬ v92_4.toInt = 3 := ti_ne c69
                  have i71 : 4 ≤ v92_4.toInt ∧ v92_4.toInt ≤ 3 := iv_ne_l t70 i68 (il_ 3)
                  exact iv_no i71 (by decide)
                · --162 not
                  have t72 : v92_4.toInt = 3 := ti_eq c69
                  refine lv_iconst (v := 2) hx hb dX2_find_165 (by decide) ?_
                  refine lv_goto (tgt := 180) hx hb dX2_find_166 (by decide) ?_
                  rw [hQ]
                  exact W.iret (v := 2) hx hb hr (fun t ht hW => ⟨⟨2, E92_, rfl, ⟨hI, hKp, ⟨(iv_w ln_2 (by decide)), ⟨s15, hs1, find_n (r := 2) (find_e (hx92_0.m3 (by omega) exR_w exR_w) hG64 hGA hGB (Classical.byContradiction (fun q9 => absurd (hs4.mpr q9) (by omega))) (Classical.byContradiction (fun q9 => absurd (hs5.mpr q9) (by omega))) hGw hGT hG8 hG7) (by omega) (by decide)⟩⟩⟩, by show va_P (dC, dI) vwCl (WL (LC cf) ad E92_) t.heap; rw [ht]; exact hP⟩, hS.F ht⟩) hS.2.2 dX2_find_180
              · --106 not
                have t73 : ¬ v92_4.toInt = 3 := ti_ne c66
                have i74 : 0 ≤ v92_4.toInt ∧ v92_4.toInt ≤ 2 := iv_ne_r t73 hv92_4 (il_ 3)
                refine lv_aload_n hx hb dX2_find_109 rfl (lv_at hl 2 rfl) ?_
                refine th_getL (ci := 3) (C := RX2) (T := TX2) (N := 10) (v := .ref (ad 40)) hx hb hts hinX2 hown hK hP hI 5 (mF 5 rfl) rfl rfl 3 (Nat.le_of_ble_eq_true rfl) (hts _ (vA_in _ _ (in_15 _ (zs4 (zs0))))) (fun _ h9 => h9) (hI.fr 5 (mF 5 rfl) rfl (Nat.le_of_ble_eq_true rfl) 40 rfl) dX2_find_110 ?_
                refine lv_iconst (v := 0) hx hb dX2_find_113 (by decide) ?_
                have n76 : vp_in (0 : Int32) 2 := (iv_in (n := 2) ln_0 (by decide))
                refine th_ialdL hx hb hK hP hI 40 (mF 40 rfl) rfl rfl n76 dX2_find_114 (fun y75 ey75 => ?_)
                have iy75 : 0 ≤ y75.toInt ∧ y75.toInt ≤ 99 := hI.el 40 (mF 40 rfl) rfl n76 (fun _ => rfl) ey75
                have ey75 := ey75.trans (congrFun hr92_40 _)
                have k77 : y75.toInt = (xi (E42 40) 0).toInt := congrArg Int32.toInt ((show y75 = g18 0 from ey75).trans (congrFun hGR40 0).symm)
                refine lv_istore (lv' := [(6, .int y75), (5, .int v92_5), (4, .int v92_4), (0, .ref (ad 5)), (1, .ref (ad (64 * (i + 1) + 14))), (2, .int a0), (3, .int a1)]) hx hb dX2_find_115 hl (by decide) rfl (fun ls hl => ?_)
                have hL117 : ∀ d : Nat, ∀ (v117_6 : Int32) (v117_4 : Int32) (E117_ : Nat → va_E) (H : Heap) (locs : List Loc) (ls : Array Slot), 0 ≤ v117_6.toInt ∧ v117_6.toInt ≤ 100 → 0 ≤ v117_4.toInt ∧ v117_4.toInt ≤ 3 → SnP v117_4.toInt (exR (rng (xi (E42 38) 0).toInt (xi (E42 39) 0).toInt (xi (E42 40) 0).toInt (xi (E42 41) 0).toInt) (fZ cf E42 (ri14 E i)) v92_5.toInt v117_6.toInt) (exR (rng (xi (E42 38) 0).toInt (xi (E42 39) 0).toInt (xi (E42 40) 0).toInt (xi (E42 41) 0).toInt) (fN cf E42 (ri14 E i)) v92_5.toInt v117_6.toInt) → (xi (E42 40) 0).toInt ≤ v117_6.toInt → Kp w_faultsFromX E42 E117_ → 100 - v117_6.toInt < (d : Int) → IXL cT (shC cf) (spC cf) (LC cf) ad E117_ → Kp w_findX E E117_ → xv (E117_ 5) 6 = .ref (ad (64 * ((xi (E (64 * (i + 1) + 14)) 0).toNatClampNeg + 1) + 6)) → xv (E117_ 5) 7 = .int r30 → xv (E117_ 5) 8 = .int 98 → xi (E117_ 38) = g16 → xi (E117_ 39) = g17 → xi (E117_ 40) = g18 → xi (E117_ 41) = g19 → xi (E117_ 42) = g20 → va_P (dC, dI) vwCl (WL (LC cf) ad E117_) H → va_S A s.heap H locs → lv_has ls 7 [(6, .int v117_6), (5, .int v92_5), (4, .int v117_4), (0, .ref (ad 5)), (1, .ref (ad (64 * (i + 1) + 14))), (2, .int a0), (3, .int a1)] → W p l e (headSpec v_findX rm_findX).room s m args below meth c H locs 0 0 Q (F0 m 117 ls []) := by
                  intro d
                  induction d with
                  | zero =>
                    intro v117_6 v117_4 E117_ H locs ls hv117_6 hv117_4 hx117_0 hx117_1 hx117_2 hx117_3 hI hKp hs117_5_6 hs117_5_7 hs117_5_8 hr117_38 hr117_39 hr117_40 hr117_41 hr117_42 hP hS hl
                    exact absurd hx117_3 (by first | exact ms_zu hv117_6.2 | omega)
                  | succ d ih117 =>
                    intro v117_6 v117_4 E117_ H locs ls hv117_6 hv117_4 hx117_0 hx117_1 hx117_2 hx117_3 hI hKp hs117_5_6 hs117_5_7 hs117_5_8 hr117_38 hr117_39 hr117_40 hr117_41 hr117_42 hP hS hl
                    refine lv_iload hx hb dX2_find_117 (lv_at hl 0 rfl) ?_
                    refine lv_aload_n hx hb dX2_find_119 rfl (lv_at hl 3 rfl) ?_
                    refine th_getL (ci := 3) (C := RX2) (T := TX2) (N := 10) (v := .ref (ad 41)) hx hb hts hinX2 hown hK hP hI 5 (mF 5 rfl) rfl rfl 4 (Nat.le_of_ble_eq_true rfl) (hts _ (vA_in _ _ (in_15 _ (zs4 (zs1 (zs0)))))) (fun _ h9 => h9) (hI.fr 5 (mF 5 rfl) rfl (Nat.le_of_ble_eq_true rfl) 41 rfl) dX2_find_120 ?_
                    refine lv_iconst (v := 0) hx hb dX2_find_123 (by decide) ?_
                    have n79 : vp_in (0 : Int32) 2 := (iv_in (n := 2) ln_0 (by decide))
                    refine th_ialdL hx hb hK hP hI 41 (mF 41 rfl) rfl rfl n79 dX2_find_124 (fun y78 ey78 => ?_)
                    have iy78 : 0 ≤ y78.toInt ∧ y78.toInt ≤ 99 := hI.el 41 (mF 41 rfl) rfl n79 (fun _ => rfl) ey78
                    have ey78 := ey78.trans (congrFun hr117_41 _)
                    have k80 : y78.toInt = (xi (E42 41) 0).toInt := congrArg Int32.toInt ((show y78 = g19 0 from ey78).trans (congrFun hGR41 0).symm)
                    refine lv_icmp_gt (tgt := 153) hx hb dX2_find_125 (by decide) (fun c81 => ?_) (fun c81 => ?_)
                    · --125 taken
                      have t82 : y78.toInt < v117_6.toInt := ti_lt c81
                      have i83 : 1 ≤ v117_6.toInt ∧ v117_6.toInt ≤ 100 := iv_lt_r t82 iy78 hv117_6 (by decide)
                      obtain ⟨y84, ey84⟩ : ∃ y : Int32, y = v92_5 + (1 : Int32) := ⟨_, rfl⟩
                      obtain ⟨ty84, iy84⟩ := ti_add (e := 1) (f := 100) i65 ln_1 ey84 (by decide)
                      have ty84 : y84.toInt = v92_5.toInt + 1 := ty84
                      have iy84 : 1 ≤ y84.toInt ∧ y84.toInt ≤ 100 := iy84
                      refine lv_iinc (v := y84) (lv' := [(5, .int y84), (6, .int v117_6), (4, .int v117_4), (0, .ref (ad 5)), (1, .ref (ad (64 * (i + 1) + 14))), (2, .int a0), (3, .int a1)]) hx hb dX2_find_153 hl (k := 1) rfl (by rw [ey84]; rfl) (by decide) rfl (fun ls hl => ?_)
                      refine lv_goto (tgt := 92) hx hb dX2_find_156 (by decide) ?_
                      exact ih92 y84 v117_4 E117_ _ _ _ (iv_w iy84 (by decide)) hv117_4 (hx117_0.cg (exR_out (by omega) (by omega) (by omega)) (exR_out (by omega) (by omega) (by omega))) (by omega) hx117_2 (by first | exact ms_su hx92_3 ty84 (by decide) | omega) hI hKp hs117_5_6 hs117_5_7 hs117_5_8 hr117_38 hr117_39 hr117_40 hr117_41 hr117_42 hP hS (lv_sub hl [0, 2, 3, 4, 5, 6] rfl)
                    · --125 not
                      have t85 : v117_6.toInt ≤ y78.toInt := ti_nlt c81
                      have i86 : 0 ≤ v117_6.toInt ∧ v117_6.toInt ≤ 99 := iv_le_l t85 hv117_6 iy78 (by decide)
                      refine lv_iload hx hb dX2_find_128 (lv_at hl 2 rfl) ?_
                      refine lv_iconst (v := 3) hx hb dX2_find_130 (by decide) ?_
                      refine lv_icmp_eq (tgt := 153) hx hb dX2_find_131 (by decide) (fun c87 => ?_) (fun c87 => ?_)
                      · --131 taken
                        have t88 : v117_4.toInt = 3 := ti_eq c87
                        have i89 : 3 ≤ v117_4.toInt ∧ v117_4.toInt ≤ 3 := iv_eqi t88 hv117_4 (il_ 3) (by decide)
                        obtain ⟨y90, ey90⟩ : ∃ y : Int32, y = v92_5 + (1 : Int32) := ⟨_, rfl⟩
                        obtain ⟨ty90, iy90⟩ := ti_add (e := 1) (f := 100) i65 ln_1 ey90 (by decide)
                        have ty90 : y90.toInt = v92_5.toInt + 1 := ty90
                        have iy90 : 1 ≤ y90.toInt ∧ y90.toInt ≤ 100 := iy90
                        refine lv_iinc (v := y90) (lv' := [(5, .int y90), (6, .int v117_6), (4, .int v117_4), (0, .ref (ad 5)), (1, .ref (ad (64 * (i + 1) + 14))), (2, .int a0), (3, .int a1)]) hx hb dX2_find_153 hl (k := 1) rfl (by rw [ey90]; rfl) (by decide) rfl (fun ls hl => ?_)
                        refine lv_goto (tgt := 92) hx hb dX2_find_156 (by decide) ?_
                        exact ih92 y90 v117_4 E117_ _ _ _ (iv_w iy90 (by decide)) (iv_w i89 (by decide)) (hx117_0.m3 (by omega) (exR_up (by omega)) (exR_up (by omega))) (by omega) hx117_2 (by first | exact ms_su hx92_3 ty90 (by decide) | omega) hI hKp hs117_5_6 hs117_5_7 hs117_5_8 hr117_38 hr117_39 hr117_40 hr117_41 hr117_42 hP hS (lv_sub hl [0, 2, 3, 4, 5, 6] rfl)
                      · --131 not
                        have t91 : ¬ v117_4.toInt = 3 := ti_ne c87
                        have i92 : 0 ≤ v117_4.toInt ∧ v117_4.toInt ≤ 2 := iv_ne_r t91 hv117_4 (il_ 3)
                        refine lv_iload hx hb dX2_find_134 (lv_at hl 2 rfl) ?_
                        refine lv_aload_n hx hb dX2_find_136 rfl (lv_at hl 3 rfl) ?_
                        refine lv_iload hx hb dX2_find_137 (lv_at hl 1 rfl) ?_
                        refine lv_iload hx hb dX2_find_139 (lv_at hl 0 rfl) ?_
                        have z98 := ln_98
                        refine th_iL (va_runV (As := [.int v92_5, .int v117_6]) (rest := [.int v117_4]) ⟨hx, hb, hml, hown, hts⟩ (q_faultsFromX l dC dI cT cf hC ad E117_ H.size v92_5 v117_6 ((xi (E (64 * (i + 1) + 14)) 0).toNatClampNeg) hI (by omega) (by exact hs117_5_6) (by (try rw [(show xi (E117_ 5) 7 = r30 from vi_e hs117_5_7)]); first | omega | (rw [show xi (E117_ 5) 7 = r30 from vi_e hs117_5_7]; omega)) i65 i86 (by exact fun i9 hi9 => (hh3 i9 hi9).cg (kp_rul hKp (fun o9 ho9 j9 => wl_p rfl rfl ho9) i9)) (by (try rw [(show xi (E117_ 5) 8 = (98 : Int32) from vi_e hs117_5_8)]); first | decide | (rw [show xi (E117_ 5) 8 = (98 : Int32) from vi_e hs117_5_8]; decide))) (cwV 2 hts (gi_V (in_16 _ (zs4 (zs4 (zs1 (zs1 (zs0)))))) (in_16 _ (zs4 (zs4 (zs1 (zs1 (zs1 (zs0))))))) (in_16 _ (zs4 (zs4 (zs4 (zs0))))) (in_14 _ (zs16 (zs16 (zs0)))) (in_16 _ (zs4 (zs4 (zs4 (zs1 (zs0))))))) rfl rfl rfl ⟨rfl, hz_yX2_faultsFrom_2⟩ ⟨Nat.le_of_ble_eq_true rfl, Nat.le_of_ble_eq_true rfl⟩) ⟨HWL_bl, va_recv hK hP (ci := 3) (q0 := posL 5 (LC cf)) rfl (hI.ob 5 (mF 5 rfl) rfl), (HWL_wi hP hK (WL_D hD) hS hA hEV)⟩ rfl rfl hl.1 rfl (lv_room (Nat.le_of_ble_eq_true rfl)) dX2_find_141 ⟨Nat.le_of_ble_eq_true rfl, Nat.le_of_ble_eq_true rfl⟩) (WL_D hD) hS hA (fun r93 E94 H locs hw hP hS => ?_)
                        obtain ⟨hI, kq95, hw⟩ := hw
                        have hKb := hKp
                        have hKp := hKp.tr kq95 (wl_sub rfl rfl)
                        obtain ⟨f96, f97⟩ := hw
                        have k98 : SnP r93.toInt (fZ cf E42 (ri14 E i) v92_5.toInt v117_6.toInt) (fN cf E42 (ri14 E i) v92_5.toInt v117_6.toInt) := ffC f97 (K64.of hx117_2 (fun o9 ho9 j9 => wl_p rfl rfl ho9)) ⟨hx117_2.ei 38 1 rfl, hx117_2.ei 39 1 rfl, hx117_2.ei 40 1 rfl, hx117_2.ei 41 1 rfl⟩ ⟨hx117_2.ei 5 7 rfl, hx117_2.ei 5 8 rfl, hx117_2.ei 5 9 rfl⟩
                        refine lv_ior hx hb dX2_find_144 ?_
                        refine lv_topi (fun y99 ey99 => ?_)
                        have iy99 : 0 ≤ y99.toInt ∧ y99.toInt ≤ 3 := ti_or3 ey99 (by omega) (by omega)
                        refine lv_istore (lv' := [(4, .int y99), (6, .int v117_6), (5, .int v92_5), (0, .ref (ad 5)), (1, .ref (ad (64 * (i + 1) + 14))), (2, .int a0), (3, .int a1)]) hx hb dX2_find_145 hl (by decide) rfl (fun ls hl => ?_)
                        obtain ⟨y100, ey100⟩ : ∃ y : Int32, y = v117_6 + (1 : Int32) := ⟨_, rfl⟩
                        obtain ⟨ty100, iy100⟩ := ti_add (e := 1) (f := 100) i86 ln_1 ey100 (by decide)
                        have ty100 : y100.toInt = v117_6.toInt + 1 := ty100
                        have iy100 : 1 ≤ y100.toInt ∧ y100.toInt ≤ 100 := iy100
                        refine lv_iinc (v := y100) (lv' := [(6, .int y100), (4, .int y99), (5, .int v92_5), (0, .ref (ad 5)), (1, .ref (ad (64 * (i + 1) + 14))), (2, .int a0), (3, .int a1)]) hx hb dX2_find_147 hl (k := 1) rfl (by rw [ey100]; rfl) (by decide) rfl (fun ls hl => ?_)
                        refine lv_goto (tgt := 117) hx hb dX2_find_150 (by decide) ?_
                        exact ih117 y100 y99 E94 _ _ _ (iv_w iy100 (by decide)) iy99 (hx117_0.or k98 ey99 (exR_in (by omega) ⟨by omega, by omega, by omega, by omega⟩) (exR_in (by omega) ⟨by omega, by omega, by omega, by omega⟩)) (by omega) (hx117_2.tr kq95 (wl_sub rfl rfl)) (by first | exact ms_su hx117_3 ty100 (by decide) | omega) hI hKp ((kq95 5 6 rfl).trans hs117_5_6) ((kq95 5 7 rfl).trans hs117_5_7) ((kq95 5 8 rfl).trans hs117_5_8) ((kq95.ef 38 (fun _ => rfl)).trans hr117_38) ((kq95.ef 39 (fun _ => rfl)).trans hr117_39) ((kq95.ef 40 (fun _ => rfl)).trans hr117_40) ((kq95.ef 41 (fun _ => rfl)).trans hr117_41) ((kq95.ef 42 (fun _ => rfl)).trans hr117_42) hP hS (lv_sub hl [0, 2, 1, 3, 4, 5, 6] rfl)
                exact hL117 (101) y75 v92_4 E92_ _ _ _ (iv_w iy75 (by decide)) (iv_w i74 (by decide)) (by rw [k77]; exact hx92_0) (by omega) hx92_2 (by have h9 := iy75; first | exact ms_bu h9.1 (by decide) | omega) hI hKp hs92_5_6 hs92_5_7 hs92_5_8 hr92_38 hr92_39 hr92_40 hr92_41 hr92_42 hP hS (lv_sub hl [0, 1, 2, 3, 4, 5, 6] rfl)
        exact hL92 (101) y45 (0 : Int32) E42 _ _ _ (iv_w iy45 (by decide)) (iv_w ln_0 (by decide)) (SnP.start (exR_0 (by omega) (by omega)) (exR_0 (by omega) (by omega))) (by omega) Kp.rf (by have h9 := iy45; first | exact ms_bu h9.1 (by decide) | omega) hI hKp ((kq43 5 6 rfl).trans ((pw40.2 5 6 (fun q9 => absurd q9.2 (Nat.ne_of_beq_eq_false rfl))).trans ((pw35.2 5 6 (fun q9 => absurd q9.2 (Nat.ne_of_beq_eq_false rfl))).trans pw28.1))) ((kq43 5 7 rfl).trans ((pw40.2 5 7 (fun q9 => absurd q9.2 (Nat.ne_of_beq_eq_false rfl))).trans pw35.1)) ((kq43 5 8 rfl).trans pw40.1) ((kq43.ef 38 (fun _ => rfl)).trans ((pw40.ef 38 (Nat.ne_of_beq_eq_false rfl)).trans ((pw35.ef 38 (Nat.ne_of_beq_eq_false rfl)).trans ((pw28.ef 38 (Nat.ne_of_beq_eq_false rfl)).trans hg16)))) ((kq43.ef 39 (fun _ => rfl)).trans ((pw40.ef 39 (Nat.ne_of_beq_eq_false rfl)).trans ((pw35.ef 39 (Nat.ne_of_beq_eq_false rfl)).trans ((pw28.ef 39 (Nat.ne_of_beq_eq_false rfl)).trans hg17)))) ((kq43.ef 40 (fun _ => rfl)).trans ((pw40.ef 40 (Nat.ne_of_beq_eq_false rfl)).trans ((pw35.ef 40 (Nat.ne_of_beq_eq_false rfl)).trans ((pw28.ef 40 (Nat.ne_of_beq_eq_false rfl)).trans hg18)))) ((kq43.ef 41 (fun _ => rfl)).trans ((pw40.ef 41 (Nat.ne_of_beq_eq_false rfl)).trans ((pw35.ef 41 (Nat.ne_of_beq_eq_false rfl)).trans ((pw28.ef 41 (Nat.ne_of_beq_eq_false rfl)).trans hg19)))) ((kq43.ef 42 (fun _ => rfl)).trans ((pw40.ef 42 (Nat.ne_of_beq_eq_false rfl)).trans ((pw35.ef 42 (Nat.ne_of_beq_eq_false rfl)).trans ((pw28.ef 42 (Nat.ne_of_beq_eq_false rfl)).trans hg20)))) hP hS (lv_sub hl [0, 1, 2, 3, 4, 5] rfl)
      · --64 not
        have t101 : a0.toInt = 0 := ti_eq c36
        have i102 : 0 ≤ a0.toInt ∧ a0.toInt ≤ 0 := iv_eqi t101 hh1 (il_ 0) (by decide)
        refine lv_bipush (v := 97) hx hb dX2_find_67 (by decide) ?_
        refine lv_goto (tgt := 74) hx hb dX2_find_69 (by decide) ?_
        refine th_putL (ci := 3) (C := RX2) (T := TX2) (N := 10) (v := .int 97) (ty := .char) hx hb hts hinX2 tyX2 tyX2_ok nmX2 hown hK hP (WL_D hD) hS hI 5 (mF 5 rfl) rfl rfl 8 (Nat.le_of_ble_eq_true rfl) (hts _ (vA_in _ _ (in_15 _ (zs1 (zs0))))) (fun _ h9 => h9) rfl (by decide +kernel) rfl rfl (okI rfl (iv_w ln_97 (by decide))) dX2_find_74 (fun H locs E103 pw104 hI hP hS => ?_)
        have hKp := hKp.pw pw104 rfl
        refine lv_aload_n hx hb dX2_find_77 rfl (lv_at hl 0 rfl) ?_
        refine th_vL (va_runV (As := []) (rest := []) ⟨hx, hb, hml, hown, hts⟩ (q_gatherTacksX l dC dI cT cf hC ad E103 H.size ((xi (E (64 * (i + 1) + 14)) 0).toNatClampNeg) hI (by omega) (by exact ((pw104.2 5 6 (fun q9 => absurd q9.2 (Nat.ne_of_beq_eq_false rfl))).trans ((pw35.2 5 6 (fun q9 => absurd q9.2 (Nat.ne_of_beq_eq_false rfl))).trans pw28.1)))) (cwV 0 hts (gi_V (in_16 _ zs0) (in_16 _ (zs1 (zs0))) (in_16 _ (zs1 (zs1 (zs0)))) (in_14 _ (zs16 (zs16 (zs0)))) (in_16 _ (zs1 (zs1 (zs1 (zs0)))))) rfl rfl rfl ⟨rfl, hz_yX2_gatherTacks_0⟩ ⟨Nat.le_of_ble_eq_true rfl, Nat.le_of_ble_eq_true rfl⟩) ⟨HWL_bl, va_recv hK hP (ci := 3) (q0 := posL 5 (LC cf)) rfl (hI.ob 5 (mF 5 rfl) rfl), (HWL_wi hP hK (WL_D hD) hS hA hEV)⟩ rfl rfl hl.1 rfl (lv_room (Nat.le_of_ble_eq_true rfl)) dX2_find_78 ⟨Nat.le_of_ble_eq_true rfl, Nat.le_of_ble_eq_true rfl⟩) (WL_D hD) hS hA (fun E106 H locs hw hP hS => ?_)
        obtain ⟨hI, kq107, hw⟩ := hw
        have hKb := hKp
        have hKp := hKp.tr kq107 (wl_sub rfl rfl)
        have f108 := hw
        have hGR38 : xi (E106 38) = g16 := ((kq107.ef 38 (fun _ => rfl)).trans ((pw104.ef 38 (Nat.ne_of_beq_eq_false rfl)).trans ((pw35.ef 38 (Nat.ne_of_beq_eq_false rfl)).trans ((pw28.ef 38 (Nat.ne_of_beq_eq_false rfl)).trans hg16))))
        have hGR39 : xi (E106 39) = g17 := ((kq107.ef 39 (fun _ => rfl)).trans ((pw104.ef 39 (Nat.ne_of_beq_eq_false rfl)).trans ((pw35.ef 39 (Nat.ne_of_beq_eq_false rfl)).trans ((pw28.ef 39 (Nat.ne_of_beq_eq_false rfl)).trans hg17))))
        have hGR40 : xi (E106 40) = g18 := ((kq107.ef 40 (fun _ => rfl)).trans ((pw104.ef 40 (Nat.ne_of_beq_eq_false rfl)).trans ((pw35.ef 40 (Nat.ne_of_beq_eq_false rfl)).trans ((pw28.ef 40 (Nat.ne_of_beq_eq_false rfl)).trans hg18))))
        have hGR41 : xi (E106 41) = g19 := ((kq107.ef 41 (fun _ => rfl)).trans ((pw104.ef 41 (Nat.ne_of_beq_eq_false rfl)).trans ((pw35.ef 41 (Nat.ne_of_beq_eq_false rfl)).trans ((pw28.ef 41 (Nat.ne_of_beq_eq_false rfl)).trans hg19))))
        have hGR42 : xi (E106 42) = g20 := ((kq107.ef 42 (fun _ => rfl)).trans ((pw104.ef 42 (Nat.ne_of_beq_eq_false rfl)).trans ((pw35.ef 42 (Nat.ne_of_beq_eq_false rfl)).trans ((pw28.ef 42 (Nat.ne_of_beq_eq_false rfl)).trans hg20))))
        have hGA := hs2.row (E' := E106) ⟨congrFun (hGR38.trans (show xi (E11 38) = g16 from hg16).symm) 0, congrFun (hGR39.trans (show xi (E11 39) = g17 from hg17).symm) 0, congrFun (hGR40.trans (show xi (E11 40) = g18 from hg18).symm) 0, congrFun (hGR41.trans (show xi (E11 41) = g19 from hg19).symm) 0, congrFun (hGR42.trans (show xi (E11 42) = g20 from hg20).symm) 0⟩
        have hGB := hs3.row (E' := E106) ⟨congrFun (hGR38.trans (show xi (E11 38) = g16 from hg16).symm) 1, congrFun (hGR39.trans (show xi (E11 39) = g17 from hg17).symm) 1, congrFun (hGR40.trans (show xi (E11 40) = g18 from hg18).symm) 1, congrFun (hGR41.trans (show xi (E11 41) = g19 from hg19).symm) 1, congrFun (hGR42.trans (show xi (E11 42) = g20 from hg20).symm) 1⟩
        have hG64 : K64 E E106 := K64.of hKp (fun o9 ho9 j9 => wl_p rfl rfl ho9)
        have hG7 : xi (E106 5) 7 = lawC cf E (xi (E (64 * (ri14 E i + 1) + 6)) 1) a1 := (show xi (E106 5) 7 = r30 from vi_e ((kq107 5 7 rfl).trans ((pw104.2 5 7 (fun q9 => absurd q9.2 (Nat.ne_of_beq_eq_false rfl))).trans pw35.1))).trans ((show r30 = lawC cf E27 (xi (E (64 * (ri14 E i + 1) + 6)) 1) a1 from Int32.toInt_inj.mp f33).trans (lawC_cg (E := E) (K64.of hKl (fun o9 ho9 j9 => wl_p rfl rfl ho9))))
        have hG8 : (xi (E106 5) 8).toInt = if a0.toInt = 0 then 97 else 98 := (congrArg Int32.toInt (show xi (E106 5) 8 = (97 : Int32) from vi_e ((kq107 5 8 rfl).trans pw104.1))).trans (Eq.trans (b := (97 : Int)) rfl (if_pos (by omega)).symm)
        have hGw : 0 ≤ (xi (E (64 * (ri14 E i + 1) + 6)) 4).toInt := (hI0.iv (64 * ((xi (E (64 * (i + 1) + 14)) 0).toNatClampNeg + 1) + 6) (mP 6 ((xi (E (64 * (i + 1) + 14)) 0).toNatClampNeg) (by decide) lv26 (kl_le hC 2 (by decide))) (shC_p 6 ((xi (E (64 * (i + 1) + 14)) 0).toNatClampNeg) (by decide)) (Nat.le_of_ble_eq_true rfl) (spC_p 6 ((xi (E (64 * (i + 1) + 14)) 0).toNatClampNeg) (by decide) 4)).1
        have hGT : TkS (xi (E106 42) 0) (xi (E106 42) 1) (xi (E (64 * (ri14 E i + 1) + 6)) 4).toInt 64 (xi (E106 5) 9) := by have h9 := f108; rw [show xi (E103 42) = xi (E106 42) from (kq107.ef 42 (fun _ => rfl)).symm, (K64.of hKb (fun o9 ho9 j9 => wl_p rfl rfl ho9)) (64 * ((xi (E (64 * (i + 1) + 14)) 0).toNatClampNeg + 1) + 6) (by omega) 4] at h9; exact h9
        refine lv_iconst (v := 0) hx hb dX2_find_81 (by decide) ?_
        refine lv_istore (lv' := [(4, .int 0), (0, .ref (ad 5)), (1, .ref (ad (64 * (i + 1) + 14))), (2, .int a0), (3, .int a1)]) hx hb dX2_find_82 hl (by decide) rfl (fun ls hl => ?_)
        refine lv_aload_n hx hb dX2_find_84 rfl (lv_at hl 1 rfl) ?_
        refine th_getL (ci := 3) (C := RX2) (T := TX2) (N := 10) (v := .ref (ad 38)) hx hb hts hinX2 hown hK hP hI 5 (mF 5 rfl) rfl rfl 1 (Nat.le_of_ble_eq_true rfl) (hts _ (vA_in _ _ (in_15 _ (zs1 (zs1 (zs0)))))) (fun _ h9 => h9) (hI.fr 5 (mF 5 rfl) rfl (Nat.le_of_ble_eq_true rfl) 38 rfl) dX2_find_85 ?_
        refine lv_iconst (v := 0) hx hb dX2_find_88 (by decide) ?_
        have n110 : vp_in (0 : Int32) 2 := (iv_in (n := 2) ln_0 (by decide))
        refine th_ialdL hx hb hK hP hI 38 (mF 38 rfl) rfl rfl n110 dX2_find_89 (fun y109 ey109 => ?_)
        have iy109 : 0 ≤ y109.toInt ∧ y109.toInt ≤ 99 := hI.el 38 (mF 38 rfl) rfl n110 (fun _ => rfl) ey109
        have ey109 := ey109.trans (congrFun ((kq107.ef 38 (fun _ => rfl)).trans ((pw104.ef 38 (Nat.ne_of_beq_eq_false rfl)).trans ((pw35.ef 38 (Nat.ne_of_beq_eq_false rfl)).trans ((pw28.ef 38 (Nat.ne_of_beq_eq_false rfl)).trans hg16)))) _)
        have k111 : y109.toInt = (xi (E106 38) 0).toInt := congrArg Int32.toInt ((show y109 = g16 0 from ey109).trans (congrFun hGR38 0).symm)
        refine lv_istore (lv' := [(5, .int y109), (4, .int 0), (0, .ref (ad 5)), (1, .ref (ad (64 * (i + 1) + 14))), (2, .int a0), (3, .int a1)]) hx hb dX2_find_90 hl (by decide) rfl (fun ls hl => ?_)
        have hL92 : ∀ d : Nat, ∀ (v92_5 : Int32) (v92_4 : Int32) (E92_ : Nat → va_E) (H : Heap) (locs : List Loc) (ls : Array Slot), 0 ≤ v92_5.toInt ∧ v92_5.toInt ≤ 100 → 0 ≤ v92_4.toInt ∧ v92_4.toInt ≤ 3 → SnP v92_4.toInt (exR (rng (xi (E106 38) 0).toInt (xi (E106 39) 0).toInt (xi (E106 40) 0).toInt (xi (E106 41) 0).toInt) (fZ cf E106 (ri14 E i)) v92_5.toInt (xi (E106 40) 0).toInt) (exR (rng (xi (E106 38) 0).toInt (xi (E106 39) 0).toInt (xi (E106 40) 0).toInt (xi (E106 41) 0).toInt) (fN cf E106 (ri14 E i)) v92_5.toInt (xi (E106 40) 0).toInt) → (xi (E106 38) 0).toInt ≤ v92_5.toInt → Kp w_faultsFromX E106 E92_ → 100 - v92_5.toInt < (d : Int) → IXL cT (shC cf) (spC cf) (LC cf) ad E92_ → Kp w_findX E E92_ → xv (E92_ 5) 6 = .ref (ad (64 * ((xi (E (64 * (i + 1) + 14)) 0).toNatClampNeg + 1) + 6)) → xv (E92_ 5) 7 = .int r30 → xv (E92_ 5) 8 = .int 97 → xi (E92_ 38) = g16 → xi (E92_ 39) = g17 → xi (E92_ 40) = g18 → xi (E92_ 41) = g19 → xi (E92_ 42) = g20 → va_P (dC, dI) vwCl (WL (LC cf) ad E92_) H → va_S A s.heap H locs → lv_has ls 7 [(5, .int v92_5), (4, .int v92_4), (0, .ref (ad 5)), (1, .ref (ad (64 * (i + 1) + 14))), (2, .int a0), (3, .int a1)] → W p l e (headSpec v_findX rm_findX).room s m args below meth c H locs 0 0 Q (F0 m 92 ls []) := by
          intro d
          induction d with
          | zero =>
            intro v92_5 v92_4 E92_ H locs ls hv92_5 hv92_4 hx92_0 hx92_1 hx92_2 hx92_3 hI hKp hs92_5_6 hs92_5_7 hs92_5_8 hr92_38 hr92_39 hr92_40 hr92_41 hr92_42 hP hS hl
            exact absurd hx92_3 (by first | exact ms_zu hv92_5.2 | omega)
          | succ d ih92 =>
            intro v92_5 v92_4 E92_ H locs ls hv92_5 hv92_4 hx92_0 hx92_1 hx92_2 hx92_3 hI hKp hs92_5_6 hs92_5_7 hs92_5_8 hr92_38 hr92_39 hr92_40 hr92_41 hr92_42 hP hS hl
            refine lv_iload hx hb dX2_find_92 (lv_at hl 0 rfl) ?_
            refine lv_aload_n hx hb dX2_find_94 rfl (lv_at hl 2 rfl) ?_
            refine th_getL (ci := 3) (C := RX2) (T := TX2) (N := 10) (v := .ref (ad 39)) hx hb hts hinX2 hown hK hP hI 5 (mF 5 rfl) rfl rfl 2 (Nat.le_of_ble_eq_true rfl) (hts _ (vA_in _ _ (in_15 _ (zs1 (zs1 (zs1 (zs0))))))) (fun _ h9 => h9) (hI.fr 5 (mF 5 rfl) rfl (Nat.le_of_ble_eq_true rfl) 39 rfl) dX2_find_95 ?_
            refine lv_iconst (v := 0) hx hb dX2_find_98 (by decide) ?_
            have n113 : vp_in (0 : Int32) 2 := (iv_in (n := 2) ln_0 (by decide))
            refine th_ialdL hx hb hK hP hI 39 (mF 39 rfl) rfl rfl n113 dX2_find_99 (fun y112 ey112 => ?_)
            have iy112 : 0 ≤ y112.toInt ∧ y112.toInt ≤ 99 := hI.el 39 (mF 39 rfl) rfl n113 (fun _ => rfl) ey112
            have ey112 := ey112.trans (congrFun hr92_39 _)
            have k114 : y112.toInt = (xi (E106 39) 0).toInt := congrArg Int32.toInt ((show y112 = g17 0 from ey112).trans (congrFun hGR39 0).symm)
            refine lv_icmp_gt (tgt := 159) hx hb dX2_find_100 (by decide) (fun c115 => ?_) (fun c115 => ?_)
            · --100 taken
              have t116 : y112.toInt < v92_5.toInt := ti_lt c115
              have i117 : 1 ≤ v92_5.toInt ∧ v92_5.toInt ≤ 100 := iv_lt_r t116 iy112 hv92_5 (by decide)
              refine lv_iload hx hb dX2_find_159 (lv_at hl 1 rfl) ?_
              refine lv_iconst (v := 3) hx hb dX2_find_161 (by decide) ?_
              refine lv_icmp_ne (tgt := 169) hx hb dX2_find_162 (by decide) (fun c118 => ?_) (fun c118 => ?_)
              · --162 taken
                have t119 : ¬ v92_4.toInt = 3 := ti_ne c118
                have i120 : 0 ≤ v92_4.toInt ∧ v92_4.toInt ≤ 2 := iv_ne_r t119 hv92_4 (il_ 3)
                refine lv_iload hx hb dX2_find_169 (lv_at hl 1 rfl) ?_
                refine lv_iconst (v := 2) hx hb dX2_find_171 (by decide) ?_
                refine lv_icmp_ne (tgt := 179) hx hb dX2_find_172 (by decide) (fun c121 => ?_) (fun c121 => ?_)
                · --172 taken
                  have t122 : ¬ v92_4.toInt = 2 := ti_ne c121
                  have i123 : 0 ≤ v92_4.toInt ∧ v92_4.toInt ≤ 1 := iv_ne_r t122 i120 (il_ 2)
                  refine lv_iconst (v := 0) hx hb dX2_find_179 (by decide) ?_
                  rw [hQ]
                  exact W.iret (v := 0) hx hb hr (fun t ht hW => ⟨⟨0, E92_, rfl, ⟨hI, hKp, ⟨(iv_w ln_0 (by decide)), ⟨s15, hs1, find_n (r := 0) (find_e (hx92_0.cg (exR_all (by omega)) (exR_all (by omega))) hG64 hGA hGB (Classical.byContradiction (fun q9 => absurd (hs4.mpr q9) (by omega))) (Classical.byContradiction (fun q9 => absurd (hs5.mpr q9) (by omega))) hGw hGT hG8 hG7) (by omega) (by decide)⟩⟩⟩, by show va_P (dC, dI) vwCl (WL (LC cf) ad E92_) t.heap; rw [ht]; exact hP⟩, hS.F ht⟩) hS.2.2 dX2_find_180
                · --172 not
                  have t124 : v92_4.toInt = 2 := ti_eq c121
                  have i125 : 2 ≤ v92_4.toInt ∧ v92_4.toInt ≤ 2 := iv_eqi t124 i120 (il_ 2) (by decide)
                  refine lv_iconst (v := 1) hx hb dX2_find_175 (by decide) ?_
                  refine lv_goto (tgt := 180) hx hb dX2_find_176 (by decide) ?_
                  rw [hQ]
                  exact W.iret (v := 1) hx hb hr (fun t ht hW => ⟨⟨1, E92_, rfl, ⟨hI, hKp, ⟨(iv_w ln_1 (by decide)), ⟨s15, hs1, find_y (find_e (hx92_0.cg (exR_all (by omega)) (exR_all (by omega))) hG64 hGA hGB (Classical.byContradiction (fun q9 => absurd (hs4.mpr q9) (by omega))) (Classical.byContradiction (fun q9 => absurd (hs5.mpr q9) (by omega))) hGw hGT hG8 hG7) (by omega)⟩⟩⟩, by show va_P (dC, dI) vwCl (WL (LC cf) ad E92_) t.heap; rw [ht]; exact hP⟩, hS.F ht⟩) hS.2.2 dX2_find_180
              · --162 not
                have t126 : v92_4.toInt = 3 := ti_eq c118
                have i127 : 3 ≤ v92_4.toInt ∧ v92_4.toInt ≤ 3 := iv_eqi t126 hv92_4 (il_ 3) (by decide)
                refine lv_iconst (v := 2) hx hb dX2_find_165 (by decide) ?_
                refine lv_goto (tgt := 180) hx hb dX2_find_166 (by decide) ?_
                rw [hQ]
                exact W.iret (v := 2) hx hb hr (fun t ht hW => ⟨⟨2, E92_, rfl, ⟨hI, hKp, ⟨(iv_w ln_2 (by decide)), ⟨s15, hs1, find_n (r := 2) (find_e (hx92_0.cg (exR_all (by omega)) (exR_all (by omega))) hG64 hGA hGB (Classical.byContradiction (fun q9 => absurd (hs4.mpr q9) (by omega))) (Classical.byContradiction (fun q9 => absurd (hs5.mpr q9) (by omega))) hGw hGT hG8 hG7) (by omega) (by decide)⟩⟩⟩, by show va_P (dC, dI) vwCl (WL (LC cf) ad E92_) t.heap; rw [ht]; exact hP⟩, hS.F ht⟩) hS.2.2 dX2_find_180
            · --100 not
              have t128 : v92_5.toInt ≤ y112.toInt := ti_nlt c115
              have i129 : 0 ≤ v92_5.toInt ∧ v92_5.toInt ≤ 99 := iv_le_l t128 hv92_5 iy112 (by decide)
              refine lv_iload hx hb dX2_find_103 (lv_at hl 1 rfl) ?_
              refine lv_iconst (v := 3) hx hb dX2_find_105 (by decide) ?_
              refine lv_icmp_eq (tgt := 159) hx hb dX2_find_106 (by decide) (fun c130 => ?_) (fun c130 => ?_)
              · --106 taken
                have t131 : v92_4.toInt = 3 := ti_eq c130
                have i132 : 3 ≤ v92_4.toInt ∧ v92_4.toInt ≤ 3 := iv_eqi t131 hv92_4 (il_ 3) (by decide)
                refine lv_iload hx hb dX2_find_159 (lv_at hl 1 rfl) ?_
                refine lv_iconst (v := 3) hx hb dX2_find_161 (by decide) ?_
                refine lv_icmp_ne (tgt := 169) hx hb dX2_find_162 (by decide) (fun c133 => ?_) (fun c133 => ?_)
                · --162 taken
                  have t134 : ¬ v92_4.toInt = 3 := ti_ne c133
                  have i135 : 4 ≤ v92_4.toInt ∧ v92_4.toInt ≤ 3 := iv_ne_l t134 i132 (il_ 3)
                  exact iv_no i135 (by decide)
                · --162 not
                  have t136 : v92_4.toInt = 3 := ti_eq c133
                  refine lv_iconst (v := 2) hx hb dX2_find_165 (by decide) ?_
                  refine lv_goto (tgt := 180) hx hb dX2_find_166 (by decide) ?_
                  rw [hQ]
                  exact W.iret (v := 2) hx hb hr (fun t ht hW => ⟨⟨2, E92_, rfl, ⟨hI, hKp, ⟨(iv_w ln_2 (by decide)), ⟨s15, hs1, find_n (r := 2) (find_e (hx92_0.m3 (by omega) exR_w exR_w) hG64 hGA hGB (Classical.byContradiction (fun q9 => absurd (hs4.mpr q9) (by omega))) (Classical.byContradiction (fun q9 => absurd (hs5.mpr q9) (by omega))) hGw hGT hG8 hG7) (by omega) (by decide)⟩⟩⟩, by show va_P (dC, dI) vwCl (WL (LC cf) ad E92_) t.heap; rw [ht]; exact hP⟩, hS.F ht⟩) hS.2.2 dX2_find_180
              · --106 not
                have t137 : ¬ v92_4.toInt = 3 := ti_ne c130
                have i138 : 0 ≤ v92_4.toInt ∧ v92_4.toInt ≤ 2 := iv_ne_r t137 hv92_4 (il_ 3)
                refine lv_aload_n hx hb dX2_find_109 rfl (lv_at hl 2 rfl) ?_
                refine th_getL (ci := 3) (C := RX2) (T := TX2) (N := 10) (v := .ref (ad 40)) hx hb hts hinX2 hown hK hP hI 5 (mF 5 rfl) rfl rfl 3 (Nat.le_of_ble_eq_true rfl) (hts _ (vA_in _ _ (in_15 _ (zs4 (zs0))))) (fun _ h9 => h9) (hI.fr 5 (mF 5 rfl) rfl (Nat.le_of_ble_eq_true rfl) 40 rfl) dX2_find_110 ?_
                refine lv_iconst (v := 0) hx hb dX2_find_113 (by decide) ?_
                have n140 : vp_in (0 : Int32) 2 := (iv_in (n := 2) ln_0 (by decide))
                refine th_ialdL hx hb hK hP hI 40 (mF 40 rfl) rfl rfl n140 dX2_find_114 (fun y139 ey139 => ?_)
                have iy139 : 0 ≤ y139.toInt ∧ y139.toInt ≤ 99 := hI.el 40 (mF 40 rfl) rfl n140 (fun _ => rfl) ey139
                have ey139 := ey139.trans (congrFun hr92_40 _)
                have k141 : y139.toInt = (xi (E106 40) 0).toInt := congrArg Int32.toInt ((show y139 = g18 0 from ey139).trans (congrFun hGR40 0).symm)
                refine lv_istore (lv' := [(6, .int y139), (5, .int v92_5), (4, .int v92_4), (0, .ref (ad 5)), (1, .ref (ad (64 * (i + 1) + 14))), (2, .int a0), (3, .int a1)]) hx hb dX2_find_115 hl (by decide) rfl (fun ls hl => ?_)
                have hL117 : ∀ d : Nat, ∀ (v117_6 : Int32) (v117_4 : Int32) (E117_ : Nat → va_E) (H : Heap) (locs : List Loc) (ls : Array Slot), 0 ≤ v117_6.toInt ∧ v117_6.toInt ≤ 100 → 0 ≤ v117_4.toInt ∧ v117_4.toInt ≤ 3 → SnP v117_4.toInt (exR (rng (xi (E106 38) 0).toInt (xi (E106 39) 0).toInt (xi (E106 40) 0).toInt (xi (E106 41) 0).toInt) (fZ cf E106 (ri14 E i)) v92_5.toInt v117_6.toInt) (exR (rng (xi (E106 38) 0).toInt (xi (E106 39) 0).toInt (xi (E106 40) 0).toInt (xi (E106 41) 0).toInt) (fN cf E106 (ri14 E i)) v92_5.toInt v117_6.toInt) → (xi (E106 40) 0).toInt ≤ v117_6.toInt → Kp w_faultsFromX E106 E117_ → 100 - v117_6.toInt < (d : Int) → IXL cT (shC cf) (spC cf) (LC cf) ad E117_ → Kp w_findX E E117_ → xv (E117_ 5) 6 = .ref (ad (64 * ((xi (E (64 * (i + 1) + 14)) 0).toNatClampNeg + 1) + 6)) → xv (E117_ 5) 7 = .int r30 → xv (E117_ 5) 8 = .int 97 → xi (E117_ 38) = g16 → xi (E117_ 39) = g17 → xi (E117_ 40) = g18 → xi (E117_ 41) = g19 → xi (E117_ 42) = g20 → va_P (dC, dI) vwCl (WL (LC cf) ad E117_) H → va_S A s.heap H locs → lv_has ls 7 [(6, .int v117_6), (5, .int v92_5), (4, .int v117_4), (0, .ref (ad 5)), (1, .ref (ad (64 * (i + 1) + 14))), (2, .int a0), (3, .int a1)] → W p l e (headSpec v_findX rm_findX).room s m args below meth c H locs 0 0 Q (F0 m 117 ls []) := by
                  intro d
                  induction d with
                  | zero =>
                    intro v117_6 v117_4 E117_ H locs ls hv117_6 hv117_4 hx117_0 hx117_1 hx117_2 hx117_3 hI hKp hs117_5_6 hs117_5_7 hs117_5_8 hr117_38 hr117_39 hr117_40 hr117_41 hr117_42 hP hS hl
                    exact absurd hx117_3 (by first | exact ms_zu hv117_6.2 | omega)
                  | succ d ih117 =>
                    intro v117_6 v117_4 E117_ H locs ls hv117_6 hv117_4 hx117_0 hx117_1 hx117_2 hx117_3 hI hKp hs117_5_6 hs117_5_7 hs117_5_8 hr117_38 hr117_39 hr117_40 hr117_41 hr117_42 hP hS hl
                    refine lv_iload hx hb dX2_find_117 (lv_at hl 0 rfl) ?_
                    refine lv_aload_n hx hb dX2_find_119 rfl (lv_at hl 3 rfl) ?_
                    refine th_getL (ci := 3) (C := RX2) (T := TX2) (N := 10) (v := .ref (ad 41)) hx hb hts hinX2 hown hK hP hI 5 (mF 5 rfl) rfl rfl 4 (Nat.le_of_ble_eq_true rfl) (hts _ (vA_in _ _ (in_15 _ (zs4 (zs1 (zs0)))))) (fun _ h9 => h9) (hI.fr 5 (mF 5 rfl) rfl (Nat.le_of_ble_eq_true rfl) 41 rfl) dX2_find_120 ?_
                    refine lv_iconst (v := 0) hx hb dX2_find_123 (by decide) ?_
                    have n143 : vp_in (0 : Int32) 2 := (iv_in (n := 2) ln_0 (by decide))
                    refine th_ialdL hx hb hK hP hI 41 (mF 41 rfl) rfl rfl n143 dX2_find_124 (fun y142 ey142 => ?_)
                    have iy142 : 0 ≤ y142.toInt ∧ y142.toInt ≤ 99 := hI.el 41 (mF 41 rfl) rfl n143 (fun _ => rfl) ey142
                    have ey142 := ey142.trans (congrFun hr117_41 _)
                    have k144 : y142.toInt = (xi (E106 41) 0).toInt := congrArg Int32.toInt ((show y142 = g19 0 from ey142).trans (congrFun hGR41 0).symm)
                    refine lv_icmp_gt (tgt := 153) hx hb dX2_find_125 (by decide) (fun c145 => ?_) (fun c145 => ?_)
                    · --125 taken
                      have t146 : y142.toInt < v117_6.toInt := ti_lt c145
                      have i147 : 1 ≤ v117_6.toInt ∧ v117_6.toInt ≤ 100 := iv_lt_r t146 iy142 hv117_6 (by decide)
                      obtain ⟨y148, ey148⟩ : ∃ y : Int32, y = v92_5 + (1 : Int32) := ⟨_, rfl⟩
                      obtain ⟨ty148, iy148⟩ := ti_add (e := 1) (f := 100) i129 ln_1 ey148 (by decide)
                      have ty148 : y148.toInt = v92_5.toInt + 1 := ty148
                      have iy148 : 1 ≤ y148.toInt ∧ y148.toInt ≤ 100 := iy148
                      refine lv_iinc (v := y148) (lv' := [(5, .int y148), (6, .int v117_6), (4, .int v117_4), (0, .ref (ad 5)), (1, .ref (ad (64 * (i + 1) + 14))), (2, .int a0), (3, .int a1)]) hx hb dX2_find_153 hl (k := 1) rfl (by rw [ey148]; rfl) (by decide) rfl (fun ls hl => ?_)
                      refine lv_goto (tgt := 92) hx hb dX2_find_156 (by decide) ?_
                      exact ih92 y148 v117_4 E117_ _ _ _ (iv_w iy148 (by decide)) hv117_4 (hx117_0.cg (exR_out (by omega) (by omega) (by omega)) (exR_out (by omega) (by omega) (by omega))) (by omega) hx117_2 (by first | exact ms_su hx92_3 ty148 (by decide) | omega) hI hKp hs117_5_6 hs117_5_7 hs117_5_8 hr117_38 hr117_39 hr117_40 hr117_41 hr117_42 hP hS (lv_sub hl [0, 2, 3, 4, 5, 6] rfl)
                    · --125 not
                      have t149 : v117_6.toInt ≤ y142.toInt := ti_nlt c145
                      have i150 : 0 ≤ v117_6.toInt ∧ v117_6.toInt ≤ 99 := iv_le_l t149 hv117_6 iy142 (by decide)
                      refine lv_iload hx hb dX2_find_128 (lv_at hl 2 rfl) ?_
                      refine lv_iconst (v := 3) hx hb dX2_find_130 (by decide) ?_
                      refine lv_icmp_eq (tgt := 153) hx hb dX2_find_131 (by decide) (fun c151 => ?_) (fun c151 => ?_)
                      · --131 taken
                        have t152 : v117_4.toInt = 3 := ti_eq c151
                        have i153 : 3 ≤ v117_4.toInt ∧ v117_4.toInt ≤ 3 := iv_eqi t152 hv117_4 (il_ 3) (by decide)
                        obtain ⟨y154, ey154⟩ : ∃ y : Int32, y = v92_5 + (1 : Int32) := ⟨_, rfl⟩
                        obtain ⟨ty154, iy154⟩ := ti_add (e := 1) (f := 100) i129 ln_1 ey154 (by decide)
                        have ty154 : y154.toInt = v92_5.toInt + 1 := ty154
                        have iy154 : 1 ≤ y154.toInt ∧ y154.toInt ≤ 100 := iy154
                        refine lv_iinc (v := y154) (lv' := [(5, .int y154), (6, .int v117_6), (4, .int v117_4), (0, .ref (ad 5)), (1, .ref (ad (64 * (i + 1) + 14))), (2, .int a0), (3, .int a1)]) hx hb dX2_find_153 hl (k := 1) rfl (by rw [ey154]; rfl) (by decide) rfl (fun ls hl => ?_)
                        refine lv_goto (tgt := 92) hx hb dX2_find_156 (by decide) ?_
                        exact ih92 y154 v117_4 E117_ _ _ _ (iv_w iy154 (by decide)) (iv_w i153 (by decide)) (hx117_0.m3 (by omega) (exR_up (by omega)) (exR_up (by omega))) (by omega) hx117_2 (by first | exact ms_su hx92_3 ty154 (by decide) | omega) hI hKp hs117_5_6 hs117_5_7 hs117_5_8 hr117_38 hr117_39 hr117_40 hr117_41 hr117_42 hP hS (lv_sub hl [0, 2, 3, 4, 5, 6] rfl)
                      · --131 not
                        have t155 : ¬ v117_4.toInt = 3 := ti_ne c151
                        have i156 : 0 ≤ v117_4.toInt ∧ v117_4.toInt ≤ 2 := iv_ne_r t155 hv117_4 (il_ 3)
                        refine lv_iload hx hb dX2_find_134 (lv_at hl 2 rfl) ?_
                        refine lv_aload_n hx hb dX2_find_136 rfl (lv_at hl 3 rfl) ?_
                        refine lv_iload hx hb dX2_find_137 (lv_at hl 1 rfl) ?_
                        refine lv_iload hx hb dX2_find_139 (lv_at hl 0 rfl) ?_
                        have z97 := ln_97
                        refine th_iL (va_runV (As := [.int v92_5, .int v117_6]) (rest := [.int v117_4]) ⟨hx, hb, hml, hown, hts⟩ (q_faultsFromX l dC dI cT cf hC ad E117_ H.size v92_5 v117_6 ((xi (E (64 * (i + 1) + 14)) 0).toNatClampNeg) hI (by omega) (by exact hs117_5_6) (by (try rw [(show xi (E117_ 5) 7 = r30 from vi_e hs117_5_7)]); first | omega | (rw [show xi (E117_ 5) 7 = r30 from vi_e hs117_5_7]; omega)) i129 i150 (by exact fun i9 hi9 => (hh3 i9 hi9).cg (kp_rul hKp (fun o9 ho9 j9 => wl_p rfl rfl ho9) i9)) (by (try rw [(show xi (E117_ 5) 8 = (97 : Int32) from vi_e hs117_5_8)]); first | decide | (rw [show xi (E117_ 5) 8 = (97 : Int32) from vi_e hs117_5_8]; decide))) (cwV 2 hts (gi_V (in_16 _ (zs4 (zs4 (zs1 (zs1 (zs0)))))) (in_16 _ (zs4 (zs4 (zs1 (zs1 (zs1 (zs0))))))) (in_16 _ (zs4 (zs4 (zs4 (zs0))))) (in_14 _ (zs16 (zs16 (zs0)))) (in_16 _ (zs4 (zs4 (zs4 (zs1 (zs0))))))) rfl rfl rfl ⟨rfl, hz_yX2_faultsFrom_2⟩ ⟨Nat.le_of_ble_eq_true rfl, Nat.le_of_ble_eq_true rfl⟩) ⟨HWL_bl, va_recv hK hP (ci := 3) (q0 := posL 5 (LC cf)) rfl (hI.ob 5 (mF 5 rfl) rfl), (HWL_wi hP hK (WL_D hD) hS hA hEV)⟩ rfl rfl hl.1 rfl (lv_room (Nat.le_of_ble_eq_true rfl)) dX2_find_141 ⟨Nat.le_of_ble_eq_true rfl, Nat.le_of_ble_eq_true rfl⟩) (WL_D hD) hS hA (fun r157 E158 H locs hw hP hS => ?_)
                        obtain ⟨hI, kq159, hw⟩ := hw
                        have hKb := hKp
                        have hKp := hKp.tr kq159 (wl_sub rfl rfl)
                        obtain ⟨f160, f161⟩ := hw
                        have k162 : SnP r157.toInt (fZ cf E106 (ri14 E i) v92_5.toInt v117_6.toInt) (fN cf E106 (ri14 E i) v92_5.toInt v117_6.toInt) := ffC f161 (K64.of hx117_2 (fun o9 ho9 j9 => wl_p rfl rfl ho9)) ⟨hx117_2.ei 38 1 rfl, hx117_2.ei 39 1 rfl, hx117_2.ei 40 1 rfl, hx117_2.ei 41 1 rfl⟩ ⟨hx117_2.ei 5 7 rfl, hx117_2.ei 5 8 rfl, hx117_2.ei 5 9 rfl⟩
                        refine lv_ior hx hb dX2_find_144 ?_
                        refine lv_topi (fun y163 ey163 => ?_)
                        have iy163 : 0 ≤ y163.toInt ∧ y163.toInt ≤ 3 := ti_or3 ey163 (by omega) (by omega)
                        refine lv_istore (lv' := [(4, .int y163), (6, .int v117_6), (5, .int v92_5), (0, .ref (ad 5)), (1, .ref (ad (64 * (i + 1) + 14))), (2, .int a0), (3, .int a1)]) hx hb dX2_find_145 hl (by decide) rfl (fun ls hl => ?_)
                        obtain ⟨y164, ey164⟩ : ∃ y : Int32, y = v117_6 + (1 : Int32) := ⟨_, rfl⟩
                        obtain ⟨ty164, iy164⟩ := ti_add (e := 1) (f := 100) i150 ln_1 ey164 (by decide)
                        have ty164 : y164.toInt = v117_6.toInt + 1 := ty164
                        have iy164 : 1 ≤ y164.toInt ∧ y164.toInt ≤ 100 := iy164
                        refine lv_iinc (v := y164) (lv' := [(6, .int y164), (4, .int y163), (5, .int v92_5), (0, .ref (ad 5)), (1, .ref (ad (64 * (i + 1) + 14))), (2, .int a0), (3, .int a1)]) hx hb dX2_find_147 hl (k := 1) rfl (by rw [ey164]; rfl) (by decide) rfl (fun ls hl => ?_)
                        refine lv_goto (tgt := 117) hx hb dX2_find_150 (by decide) ?_
                        exact ih117 y164 y163 E158 _ _ _ (iv_w iy164 (by decide)) iy163 (hx117_0.or k162 ey163 (exR_in (by omega) ⟨by omega, by omega, by omega, by omega⟩) (exR_in (by omega) ⟨by omega, by omega, by omega, by omega⟩)) (by omega) (hx117_2.tr kq159 (wl_sub rfl rfl)) (by first | exact ms_su hx117_3 ty164 (by decide) | omega) hI hKp ((kq159 5 6 rfl).trans hs117_5_6) ((kq159 5 7 rfl).trans hs117_5_7) ((kq159 5 8 rfl).trans hs117_5_8) ((kq159.ef 38 (fun _ => rfl)).trans hr117_38) ((kq159.ef 39 (fun _ => rfl)).trans hr117_39) ((kq159.ef 40 (fun _ => rfl)).trans hr117_40) ((kq159.ef 41 (fun _ => rfl)).trans hr117_41) ((kq159.ef 42 (fun _ => rfl)).trans hr117_42) hP hS (lv_sub hl [0, 2, 1, 3, 4, 5, 6] rfl)
                exact hL117 (101) y139 v92_4 E92_ _ _ _ (iv_w iy139 (by decide)) (iv_w i138 (by decide)) (by rw [k141]; exact hx92_0) (by omega) hx92_2 (by have h9 := iy139; first | exact ms_bu h9.1 (by decide) | omega) hI hKp hs92_5_6 hs92_5_7 hs92_5_8 hr92_38 hr92_39 hr92_40 hr92_41 hr92_42 hP hS (lv_sub hl [0, 1, 2, 3, 4, 5, 6] rfl)
        exact hL92 (101) y109 (0 : Int32) E106 _ _ _ (iv_w iy109 (by decide)) (iv_w ln_0 (by decide)) (SnP.start (exR_0 (by omega) (by omega)) (exR_0 (by omega) (by omega))) (by omega) Kp.rf (by have h9 := iy109; first | exact ms_bu h9.1 (by decide) | omega) hI hKp ((kq107 5 6 rfl).trans ((pw104.2 5 6 (fun q9 => absurd q9.2 (Nat.ne_of_beq_eq_false rfl))).trans ((pw35.2 5 6 (fun q9 => absurd q9.2 (Nat.ne_of_beq_eq_false rfl))).trans pw28.1))) ((kq107 5 7 rfl).trans ((pw104.2 5 7 (fun q9 => absurd q9.2 (Nat.ne_of_beq_eq_false rfl))).trans pw35.1)) ((kq107 5 8 rfl).trans pw104.1) ((kq107.ef 38 (fun _ => rfl)).trans ((pw104.ef 38 (Nat.ne_of_beq_eq_false rfl)).trans ((pw35.ef 38 (Nat.ne_of_beq_eq_false rfl)).trans ((pw28.ef 38 (Nat.ne_of_beq_eq_false rfl)).trans hg16)))) ((kq107.ef 39 (fun _ => rfl)).trans ((pw104.ef 39 (Nat.ne_of_beq_eq_false rfl)).trans ((pw35.ef 39 (Nat.ne_of_beq_eq_false rfl)).trans ((pw28.ef 39 (Nat.ne_of_beq_eq_false rfl)).trans hg17)))) ((kq107.ef 40 (fun _ => rfl)).trans ((pw104.ef 40 (Nat.ne_of_beq_eq_false rfl)).trans ((pw35.ef 40 (Nat.ne_of_beq_eq_false rfl)).trans ((pw28.ef 40 (Nat.ne_of_beq_eq_false rfl)).trans hg18)))) ((kq107.ef 41 (fun _ => rfl)).trans ((pw104.ef 41 (Nat.ne_of_beq_eq_false rfl)).trans ((pw35.ef 41 (Nat.ne_of_beq_eq_false rfl)).trans ((pw28.ef 41 (Nat.ne_of_beq_eq_false rfl)).trans hg19)))) ((kq107.ef 42 (fun _ => rfl)).trans ((pw104.ef 42 (Nat.ne_of_beq_eq_false rfl)).trans ((pw35.ef 42 (Nat.ne_of_beq_eq_false rfl)).trans ((pw28.ef 42 (Nat.ne_of_beq_eq_false rfl)).trans hg20)))) hP hS (lv_sub hl [0, 1, 2, 3, 4, 5] rfl)
    · --17 not
      have t165 : r10.toInt = 0 := ti_eq c21
      have i166 : 0 ≤ r10.toInt ∧ r10.toInt ≤ 0 := iv_eqi t165 (iv_all _) (il_ 0) (by decide)
      refine lv_iconst (v := -1) hx hb dX2_find_20 (by decide) ?_
      rw [hQ]
      exact W.iret (v := (-1)) hx hb hr (fun t ht hW => ⟨⟨(-1), E11, rfl, ⟨hI, hKp, ⟨(iv_w ln_m1 (by decide)), ⟨s15, hs1, find_0 (fun q9 => (hs5.mp (by omega)) q9.2)⟩⟩⟩, by show va_P (dC, dI) vwCl (WL (LC cf) ad E11) t.heap; rw [ht]; exact hP⟩, hS.F ht⟩) hS.2.2 dX2_find_21
