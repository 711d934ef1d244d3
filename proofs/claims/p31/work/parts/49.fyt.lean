

def v_capartX : List Cond := .code yX12_apart cX12_apart 2 (some .int) :: vA
abbrev rm_capartX : Room := { frames := 0, cells := 0, slots := 0, locals := 0 }
set_option maxHeartbeats 4000000 in
set_option maxRecDepth 100000 in
theorem q_capartX (l : Launch) (a0 : Int32) (a1 : Int32) (hh0 : -1000000 ≤ a0.toInt ∧ a0.toInt ≤ 1000000) (hh1 : -1000000 ≤ a1.toInt ∧ a1.toInt ≤ 1000000) : Met l yX12_apart v_capartX rm_capartX (va_Pc [.int a0, .int a1] (fun _ => True)) (va_Qi (S := Unit) (fun r _ => (r.toInt = ab (a0.toInt - a1.toInt))) (fun _ _ => True) (fun _ => False)) 0 0 (fun _ => False) := by
  refine Met.ofW (cc := cX12_apart) (maxL := 2) (ret := (some .int)) (by decide) rfl ?_
  intro p e s m args below meth c s₁ B hml hv
  obtain ⟨hargs, -⟩ := hv
  have hx := B.exec
  have hb := B.bytes
  have hr := B.returns
  have hts := atoms_spec (ws := v_capartX) B.pre
  have hown : s.vm.findClass RX12 = some m.cls := findClass_of_methodNamed B.named
  have hlocks := B.notSynchronized
  have hS : va_S (fun _ : Nat => False) s.heap s.heap [] := va_S.rf
  have hl := lv_entry ([.int a0, .int a1]) (n := 2) (Nat.le_of_ble_eq_true rfl)
  obtain ⟨Q, hQ⟩ : ∃ Q, Q = MQ below (va_Qi (S := Unit) (fun r _ => (r.toInt = ab (a0.toInt - a1.toInt))) (fun _ _ => True) (fun _ => False)) args s 0 0 (fun _ => False) := ⟨_, rfl⟩
  rw [← hQ, show entryFrame m args 2 = _ from (congrArg (fun z => entryFrame m z 2) hargs).trans (lg_entry_eq _ _ _)]
  generalize (lg_sl ([.int a0, .int a1]) ++ List.replicate (2 - (lg_sl ([.int a0, .int a1])).length) Slot.unset).toArray = ls at hl ⊢
  have hl : lv_has ls 2 [(0, .int a0), (1, .int a1)] := hl
  refine lv_iload_n hx hb dX12_apart_0 rfl (lv_at hl 0 rfl) ?_
  refine lv_iload_n hx hb dX12_apart_1 rfl (lv_at hl 1 rfl) ?_
  refine lv_icmp_le (tgt := 11) hx hb dX12_apart_2 (by decide) (fun c1 => ?_) (fun c1 => ?_)
  · --2 taken
    have t2 : a0.toInt ≤ a1.toInt := ti_le c1
    refine lv_iload_n hx hb dX12_apart_11 rfl (lv_at hl 1 rfl) ?_
    refine lv_iload_n hx hb dX12_apart_12 rfl (lv_at hl 0 rfl) ?_
    refine lv_isub hx hb dX12_apart_13 ?_
    refine lv_topi (fun y3 ey3 => ?_)
    obtain ⟨ty3, iy3⟩ := ti_sub (e := (-2000000)) (f := 2000000) hh1 hh0 ey3 (by decide)
    have ty3 : y3.toInt = a1.toInt - a0.toInt := ty3
    have iy3 : -2000000 ≤ y3.toInt ∧ y3.toInt ≤ 2000000 := iy3
    rw [hQ]
    exact W.iret (v := y3) hx hb hr (fun t ht hW => ⟨⟨y3, (), rfl, (by unfold ab; omega), trivial⟩, hS.F ht⟩) hS.2.2 dX12_apart_14
  · --2 not
    have t4 : a1.toInt < a0.toInt := ti_nle c1
    have i5 : -1000000 ≤ a1.toInt ∧ a1.toInt ≤ 999999 := iv_lt_l t4 hh1 hh0 (by decide)
    have i6 : -999999 ≤ a0.toInt ∧ a0.toInt ≤ 1000000 := iv_lt_r t4 hh1 hh0 (by decide)
    refine lv_iload_n hx hb dX12_apart_5 rfl (lv_at hl 0 rfl) ?_
    refine lv_iload_n hx hb dX12_apart_6 rfl (lv_at hl 1 rfl) ?_
    refine lv_isub hx hb dX12_apart_7 ?_
    refine lv_topi (fun y7 ey7 => ?_)
    obtain ⟨ty7, iy7⟩ := ti_sub (e := (-1999998)) (f := 2000000) i6 i5 ey7 (by decide)
    have ty7 : y7.toInt = a0.toInt - a1.toInt := ty7
    have iy7 : -1999998 ≤ y7.toInt ∧ y7.toInt ≤ 2000000 := iy7
    refine lv_goto (tgt := 14) hx hb dX12_apart_8 (by decide) ?_
    rw [hQ]
    exact W.iret (v := y7) hx hb hr (fun t ht hW => ⟨⟨y7, (), rfl, (by unfold ab; omega), trivial⟩, hS.F ht⟩) hS.2.2 dX12_apart_14
def v_narrowX : List Cond := .code yX2_narrow cX2_narrow 4 none :: vA
abbrev rm_narrowX : Room := { frames := 1, cells := 0, slots := 0, locals := 40 }
def w_narrowX : Nat → Nat → Bool := wl [38, 39, 40, 41] []
set_option maxHeartbeats 4000000 in
set_option maxRecDepth 100000 in
theorem q_narrowX (l : Launch) (dC : Nat → ClassId) (dI : Nat → Nat → Nat) (cT : Nat → ClassId) (cf : Nat → Nat) (hC : CF cf) (ad : Nat → Nat) (E : Nat → va_E) (sz : Nat) (a0 : Int32) (a1 : Int32) (i : Nat) (hI0 : IXL cT (shC cf) (spC cf) (LC cf) ad E) (hh0 : i < cf 4) (hh1 : 0 ≤ a0.toInt ∧ a0.toInt ≤ 1) (hh2 : 0 ≤ a1.toInt ∧ a1.toInt ≤ 900000) : Met l yX2_narrow v_narrowX rm_narrowX (va_Pc [.ref (ad 5), .int a0, .ref (ad (64 * (i + 1) + 13)), .int a1] (HWL dC dI (TYC cT) cf ad E sz)) (va_Qv (S := Nat → va_E) (fun u => IXL cT (shC cf) (spC cf) (LC cf) ad u ∧ Kp w_narrowX E u ∧ ((NarE E u a0.toNatClampNeg (xi (E (64 * (i + 1) + 13)) 4).toInt (xi (E (64 * (i + 1) + 13)) 5).toInt (xi (E (64 * (i + 1) + 13)) 6).toInt a1.toInt))) (HBL dC dI (LC cf) ad) (va_A (WL (LC cf) ad E) sz)) 0 0 (va_A (WL (LC cf) ad E) sz) := by
  obtain ⟨⟨hc0, hc1, hc2, hc3, hc4, hc5⟩, hcr⟩ := id hC
  refine Met.ofW (cc := cX2_narrow) (maxL := 4) (ret := none) (by decide) rfl ?_
  intro p e s m args below meth c s₁ B hml hv
  obtain ⟨hargs, hsz, hP, hK, hD0, hEV⟩ := hv
  subst hsz
  have hx := B.exec
  have hb := B.bytes
  have hr := B.returns
  have hts := atoms_spec (ws := v_narrowX) B.pre
  have hown : s.vm.findClass RX2 = some m.cls := findClass_of_methodNamed B.named
  have hlocks := B.notSynchronized
  have hinX11 : ∀ w ∈ u_ws RX11 TX11 8, w ∈ v_narrowX := fun w h => vA_in _ w (in_X11 w h)
  have hinX2 : ∀ w ∈ u_ws RX2 TX2 10, w ∈ v_narrowX := fun w h => vA_in _ w (in_X2 w h)
  generalize hAe : va_A (WL (LC cf) ad E) s.heap.size = A at hEV ⊢
  have hA : ∀ q : Nat, s.heap.size ≤ q → A q := fun q h => by rw [← hAe]; exact Or.inr h
  have hD : va_D A (WL (LC cf) ad E) := by rw [← hAe]; exact hD0.self
  have hS : va_S A s.heap s.heap [] := va_S.rf
  have hI := hI0
  have hKp : Kp w_narrowX E E := Kp.rf
  have hl := lv_entry ([.ref (ad 5), .int a0, .ref (ad (64 * (i + 1) + 13)), .int a1]) (n := 4) (Nat.le_of_ble_eq_true rfl)
  obtain ⟨Q, hQ⟩ : ∃ Q, Q = MQ below (va_Qv (S := Nat → va_E) (fun u => IXL cT (shC cf) (spC cf) (LC cf) ad u ∧ Kp w_narrowX E u ∧ ((NarE E u a0.toNatClampNeg (xi (E (64 * (i + 1) + 13)) 4).toInt (xi (E (64 * (i + 1) + 13)) 5).toInt (xi (E (64 * (i + 1) + 13)) 6).toInt a1.toInt))) (HBL dC dI (LC cf) ad) (A)) args s 0 0 (A) := ⟨_, rfl⟩
  rw [← hQ, show entryFrame m args 4 = _ from (congrArg (fun z => entryFrame m z 4) hargs).trans (lg_entry_eq _ _ _)]
  generalize (lg_sl ([.ref (ad 5), .int a0, .ref (ad (64 * (i + 1) + 13)), .int a1]) ++ List.replicate (4 - (lg_sl ([.ref (ad 5), .int a0, .ref (ad (64 * (i + 1) + 13)), .int a1])).length) Slot.unset).toArray = ls at hl ⊢
  have hl : lv_has ls 4 [(0, .ref (ad 5)), (1, .int a0), (2, .ref (ad (64 * (i + 1) + 13))), (3, .int a1)] := hl
  obtain ⟨g1, hg1⟩ : ∃ g, xi (E 38) = g := ⟨_, rfl⟩
  obtain ⟨g2, hg2⟩ : ∃ g, xi (E 39) = g := ⟨_, rfl⟩
  obtain ⟨g3, hg3⟩ : ∃ g, xi (E 40) = g := ⟨_, rfl⟩
  obtain ⟨g4, hg4⟩ : ∃ g, xi (E 41) = g := ⟨_, rfl⟩
  have z0z : (0 : Int32).toInt = 0 := rfl
  refine lv_aload_n hx hb dX2_narrow_0 rfl (lv_at hl 0 rfl) ?_
  refine th_getL (ci := 3) (C := RX2) (T := TX2) (N := 10) (v := .ref (ad 38)) hx hb hts hinX2 hown hK hP hI 5 (mF 5 rfl) rfl rfl 1 (Nat.le_of_ble_eq_true rfl) (hts _ (vA_in _ _ (in_15 _ (zs1 (zs1 (zs0)))))) (fun _ h9 => h9) (hI.fr 5 (mF 5 rfl) rfl (Nat.le_of_ble_eq_true rfl) 38 rfl) dX2_narrow_1 ?_
  refine lv_iload_n hx hb dX2_narrow_4 rfl (lv_at hl 1 rfl) ?_
  refine lv_aload_n hx hb dX2_narrow_5 rfl (lv_at hl 0 rfl) ?_
  refine th_getL (ci := 3) (C := RX2) (T := TX2) (N := 10) (v := .ref (ad 38)) hx hb hts hinX2 hown hK hP hI 5 (mF 5 rfl) rfl rfl 1 (Nat.le_of_ble_eq_true rfl) (hts _ (vA_in _ _ (in_15 _ (zs1 (zs1 (zs0)))))) (fun _ h9 => h9) (hI.fr 5 (mF 5 rfl) rfl (Nat.le_of_ble_eq_true rfl) 38 rfl) dX2_narrow_6 ?_
  refine lv_iload_n hx hb dX2_narrow_9 rfl (lv_at hl 1 rfl) ?_
  have n6 : vp_in a0 2 := (iv_in (n := 2) hh1 (by decide))
  refine th_ialdL hx hb hK hP hI 38 (mF 38 rfl) rfl rfl n6 dX2_narrow_10 (fun y5 ey5 => ?_)
  have iy5 : 0 ≤ y5.toInt ∧ y5.toInt ≤ 99 := hI.el 38 (mF 38 rfl) rfl n6 (fun _ => rfl) ey5
  have ey5 := ey5.trans (congrFun hg1 _)
  refine lv_aload_n hx hb dX2_narrow_11 rfl (lv_at hl 2 rfl) ?_
  have i7 : 0 ≤ (xi (E (64 * (i + 1) + 13)) 4).toInt ∧ (xi (E (64 * (i + 1) + 13)) 4).toInt ≤ 99 := hI0.iv (64 * (i + 1) + 13) (mP 13 i (by decide) hh0 (kl_le hC 4 (by decide))) (shC_p 13 i (by decide)) (Nat.le_of_ble_eq_true rfl) (spC_p 13 i (by decide) 4)
  refine th_getL (ci := 12) (C := RX11) (T := TX11) (N := 8) (v := .int (xi (E (64 * (i + 1) + 13)) 4)) hx hb hts hinX11 hown hK hP hI (64 * (i + 1) + 13) (mP 13 i (by decide) hh0 (kl_le hC 4 (by decide))) (shC_p 13 i (by decide)) rfl 4 (Nat.le_of_ble_eq_true rfl) (hts _ (vA_in _ _ (in_15 _ (zs16 (zs16 (zs1 (zs0))))))) (fun _ h9 => h9) (th_v0L hKp hI0 (64 * (i + 1) + 13) (mP 13 i (by decide) hh0 (kl_le hC 4 (by decide))) (shC_p 13 i (by decide)) (Nat.le_of_ble_eq_true rfl) (spC_p 13 i (by decide) 4) (wl_p rfl rfl (by omega))) dX2_narrow_12 ?_
  refine lv_iload_n hx hb dX2_narrow_15 rfl (lv_at hl 3 rfl) ?_
  refine lv_isub hx hb dX2_narrow_16 ?_
  refine lv_topi (fun y8 ey8 => ?_)
  obtain ⟨ty8, iy8⟩ := ti_sub (e := (-900000)) (f := 99) i7 hh2 ey8 (by decide)
  have ty8 : y8.toInt = (xi (E (64 * (i + 1) + 13)) 4).toInt - a1.toInt := ty8
  have iy8 : -900000 ≤ y8.toInt ∧ y8.toInt ≤ 99 := iy8
  refine va_mmax hx hb (by rw [hml]; exact hl.1.symm) hown (hts _ (vA_in _ _ (in_15 _ (zs16 (zs16 (zs1 (zs1 (zs0)))))))) (hts _ (vA_in _ _ (in_0 _ (zs16 (zs16 (zs0)))))) (hts _ (vA_in _ _ (in_0 _ (zs16 (zs16 (zs1 (zs0))))))) (hts _ (vA_in _ _ (in_0 _ (zs16 (zs16 (zs1 (zs1 (zs0)))))))) (Nat.le_of_ble_eq_true rfl) (Nat.le_of_ble_eq_true rfl) (Nat.le_of_ble_eq_true rfl) (Nat.le_of_ble_eq_true rfl) dX2_narrow_17 ?_
  refine lv_topi (fun y9 ey9 => ?_)
  obtain ⟨ty9, iy9⟩ := ti_max (e := 0) (f := 99) iy5 iy8 ey9 (by decide)
  have iy9 : 0 ≤ y9.toInt ∧ y9.toInt ≤ 99 := iy9
  have n10 : vp_in a0 2 := (iv_in (n := 2) hh1 (by decide))
  refine th_iastL hx hb hK hP (WL_D hD) hS hI 38 (mF 38 rfl) rfl rfl n10 (okI rfl iy9) dX2_narrow_20 (fun H locs E11 pw12 hI hP hS => ?_)
  have hKp := hKp.pw pw12 rfl
  obtain ⟨g13, eg13⟩ : ∃ z : Nat → Int32, z = upd g1 a0.toNatClampNeg y9 := ⟨_, rfl⟩
  have hg13 : xi (E11 38) = g13 := by rw [pw12.eu, hg1, eg13]
  refine lv_aload_n hx hb dX2_narrow_21 rfl (lv_at hl 0 rfl) ?_
  refine th_getL (ci := 3) (C := RX2) (T := TX2) (N := 10) (v := .ref (ad 40)) hx hb hts hinX2 hown hK hP hI 5 (mF 5 rfl) rfl rfl 3 (Nat.le_of_ble_eq_true rfl) (hts _ (vA_in _ _ (in_15 _ (zs4 (zs0))))) (fun _ h9 => h9) (hI.fr 5 (mF 5 rfl) rfl (Nat.le_of_ble_eq_true rfl) 40 rfl) dX2_narrow_22 ?_
  refine lv_iload_n hx hb dX2_narrow_25 rfl (lv_at hl 1 rfl) ?_
  refine lv_aload_n hx hb dX2_narrow_26 rfl (lv_at hl 0 rfl) ?_
  refine th_getL (ci := 3) (C := RX2) (T := TX2) (N := 10) (v := .ref (ad 40)) hx hb hts hinX2 hown hK hP hI 5 (mF 5 rfl) rfl rfl 3 (Nat.le_of_ble_eq_true rfl) (hts _ (vA_in _ _ (in_15 _ (zs4 (zs0))))) (fun _ h9 => h9) (hI.fr 5 (mF 5 rfl) rfl (Nat.le_of_ble_eq_true rfl) 40 rfl) dX2_narrow_27 ?_
  refine lv_iload_n hx hb dX2_narrow_30 rfl (lv_at hl 1 rfl) ?_
  have n15 : vp_in a0 2 := (iv_in (n := 2) hh1 (by decide))
  refine th_ialdL hx hb hK hP hI 40 (mF 40 rfl) rfl rfl n15 dX2_narrow_31 (fun y14 ey14 => ?_)
  have iy14 : 0 ≤ y14.toInt ∧ y14.toInt ≤ 99 := hI.el 40 (mF 40 rfl) rfl n15 (fun _ => rfl) ey14
  have ey14 := ey14.trans (congrFun ((pw12.ef 40 (Nat.ne_of_beq_eq_false rfl)).trans hg3) _)
  refine lv_aload_n hx hb dX2_narrow_32 rfl (lv_at hl 2 rfl) ?_
  have i16 : 0 ≤ (xi (E (64 * (i + 1) + 13)) 5).toInt ∧ (xi (E (64 * (i + 1) + 13)) 5).toInt ≤ 99 := hI0.iv (64 * (i + 1) + 13) (mP 13 i (by decide) hh0 (kl_le hC 4 (by decide))) (shC_p 13 i (by decide)) (Nat.le_of_ble_eq_true rfl) (spC_p 13 i (by decide) 5)
  refine th_getL (ci := 12) (C := RX11) (T := TX11) (N := 8) (v := .int (xi (E (64 * (i + 1) + 13)) 5)) hx hb hts hinX11 hown hK hP hI (64 * (i + 1) + 13) (mP 13 i (by decide) hh0 (kl_le hC 4 (by decide))) (shC_p 13 i (by decide)) rfl 5 (Nat.le_of_ble_eq_true rfl) (hts _ (vA_in _ _ (in_15 _ (zs16 (zs16 (zs1 (zs1 (zs1 (zs0))))))))) (fun _ h9 => h9) (th_v0L hKp hI0 (64 * (i + 1) + 13) (mP 13 i (by decide) hh0 (kl_le hC 4 (by decide))) (shC_p 13 i (by decide)) (Nat.le_of_ble_eq_true rfl) (spC_p 13 i (by decide) 5) (wl_p rfl rfl (by omega))) dX2_narrow_33 ?_
  refine lv_iload_n hx hb dX2_narrow_36 rfl (lv_at hl 3 rfl) ?_
  refine lv_isub hx hb dX2_narrow_37 ?_
  refine lv_topi (fun y17 ey17 => ?_)
  obtain ⟨ty17, iy17⟩ := ti_sub (e := (-900000)) (f := 99) i16 hh2 ey17 (by decide)
  have ty17 : y17.toInt = (xi (E (64 * (i + 1) + 13)) 5).toInt - a1.toInt := ty17
  have iy17 : -900000 ≤ y17.toInt ∧ y17.toInt ≤ 99 := iy17
  refine va_mmax hx hb (by rw [hml]; exact hl.1.symm) hown (hts _ (vA_in _ _ (in_15 _ (zs16 (zs16 (zs1 (zs1 (zs0)))))))) (hts _ (vA_in _ _ (in_0 _ (zs16 (zs16 (zs0)))))) (hts _ (vA_in _ _ (in_0 _ (zs16 (zs16 (zs1 (zs0))))))) (hts _ (vA_in _ _ (in_0 _ (zs16 (zs16 (zs1 (zs1 (zs0)))))))) (Nat.le_of_ble_eq_true rfl) (Nat.le_of_ble_eq_true rfl) (Nat.le_of_ble_eq_true rfl) (Nat.le_of_ble_eq_true rfl) dX2_narrow_38 ?_
  refine lv_topi (fun y18 ey18 => ?_)
  obtain ⟨ty18, iy18⟩ := ti_max (e := 0) (f := 99) iy14 iy17 ey18 (by decide)
  have iy18 : 0 ≤ y18.toInt ∧ y18.toInt ≤ 99 := iy18
  have n19 : vp_in a0 2 := (iv_in (n := 2) hh1 (by decide))
  refine th_iastL hx hb hK hP (WL_D hD) hS hI 40 (mF 40 rfl) rfl rfl n19 (okI rfl iy18) dX2_narrow_41 (fun H locs E20 pw21 hI hP hS => ?_)
  have hKp := hKp.pw pw21 rfl
  obtain ⟨g22, eg22⟩ : ∃ z : Nat → Int32, z = upd g3 a0.toNatClampNeg y18 := ⟨_, rfl⟩
  have hg22 : xi (E20 40) = g22 := by rw [pw21.eu, ((pw12.ef 40 (Nat.ne_of_beq_eq_false rfl)).trans hg3), eg22]
  refine lv_aload_n hx hb dX2_narrow_42 rfl (lv_at hl 0 rfl) ?_
  refine th_getL (ci := 3) (C := RX2) (T := TX2) (N := 10) (v := .ref (ad 39)) hx hb hts hinX2 hown hK hP hI 5 (mF 5 rfl) rfl rfl 2 (Nat.le_of_ble_eq_true rfl) (hts _ (vA_in _ _ (in_15 _ (zs1 (zs1 (zs1 (zs0))))))) (fun _ h9 => h9) (hI.fr 5 (mF 5 rfl) rfl (Nat.le_of_ble_eq_true rfl) 39 rfl) dX2_narrow_43 ?_
  refine lv_iload_n hx hb dX2_narrow_46 rfl (lv_at hl 1 rfl) ?_
  refine lv_aload_n hx hb dX2_narrow_47 rfl (lv_at hl 0 rfl) ?_
  refine th_getL (ci := 3) (C := RX2) (T := TX2) (N := 10) (v := .ref (ad 39)) hx hb hts hinX2 hown hK hP hI 5 (mF 5 rfl) rfl rfl 2 (Nat.le_of_ble_eq_true rfl) (hts _ (vA_in _ _ (in_15 _ (zs1 (zs1 (zs1 (zs0))))))) (fun _ h9 => h9) (hI.fr 5 (mF 5 rfl) rfl (Nat.le_of_ble_eq_true rfl) 39 rfl) dX2_narrow_48 ?_
  refine lv_iload_n hx hb dX2_narrow_51 rfl (lv_at hl 1 rfl) ?_
  have n24 : vp_in a0 2 := (iv_in (n := 2) hh1 (by decide))
  refine th_ialdL hx hb hK hP hI 39 (mF 39 rfl) rfl rfl n24 dX2_narrow_52 (fun y23 ey23 => ?_)
  have iy23 : 0 ≤ y23.toInt ∧ y23.toInt ≤ 99 := hI.el 39 (mF 39 rfl) rfl n24 (fun _ => rfl) ey23
  have ey23 := ey23.trans (congrFun ((pw21.ef 39 (Nat.ne_of_beq_eq_false rfl)).trans ((pw12.ef 39 (Nat.ne_of_beq_eq_false rfl)).trans hg2)) _)
  refine lv_aload_n hx hb dX2_narrow_53 rfl (lv_at hl 2 rfl) ?_
  refine th_getL (ci := 12) (C := RX11) (T := TX11) (N := 8) (v := .int (xi (E (64 * (i + 1) + 13)) 4)) hx hb hts hinX11 hown hK hP hI (64 * (i + 1) + 13) (mP 13 i (by decide) hh0 (kl_le hC 4 (by decide))) (shC_p 13 i (by decide)) rfl 4 (Nat.le_of_ble_eq_true rfl) (hts _ (vA_in _ _ (in_15 _ (zs16 (zs16 (zs1 (zs0))))))) (fun _ h9 => h9) (th_v0L hKp hI0 (64 * (i + 1) + 13) (mP 13 i (by decide) hh0 (kl_le hC 4 (by decide))) (shC_p 13 i (by decide)) (Nat.le_of_ble_eq_true rfl) (spC_p 13 i (by decide) 4) (wl_p rfl rfl (by omega))) dX2_narrow_54 ?_
  refine lv_aload_n hx hb dX2_narrow_57 rfl (lv_at hl 2 rfl) ?_
  have i25 : 0 ≤ (xi (E (64 * (i + 1) + 13)) 6).toInt ∧ (xi (E (64 * (i + 1) + 13)) 6).toInt ≤ 3 := hI0.iv (64 * (i + 1) + 13) (mP 13 i (by decide) hh0 (kl_le hC 4 (by decide))) (shC_p 13 i (by decide)) (Nat.le_of_ble_eq_true rfl) (spC_p 13 i (by decide) 6)
  refine th_getL (ci := 12) (C := RX11) (T := TX11) (N := 8) (v := .int (xi (E (64 * (i + 1) + 13)) 6)) hx hb hts hinX11 hown hK hP hI (64 * (i + 1) + 13) (mP 13 i (by decide) hh0 (kl_le hC 4 (by decide))) (shC_p 13 i (by decide)) rfl 6 (Nat.le_of_ble_eq_true rfl) (hts _ (vA_in _ _ (in_15 _ (zs16 (zs16 (zs4 (zs0))))))) (fun _ h9 => h9) (th_v0L hKp hI0 (64 * (i + 1) + 13) (mP 13 i (by decide) hh0 (kl_le hC 4 (by decide))) (shC_p 13 i (by decide)) (Nat.le_of_ble_eq_true rfl) (spC_p 13 i (by decide) 6) (wl_p rfl rfl (by omega))) dX2_narrow_58 ?_
  refine lv_iadd hx hb dX2_narrow_61 ?_
  refine lv_topi (fun y26 ey26 => ?_)
  obtain ⟨ty26, iy26⟩ := ti_add (e := 0) (f := 102) i7 i25 ey26 (by decide)
  have ty26 : y26.toInt = (xi (E (64 * (i + 1) + 13)) 4).toInt + (xi (E (64 * (i + 1) + 13)) 6).toInt := ty26
  have iy26 : 0 ≤ y26.toInt ∧ y26.toInt ≤ 102 := iy26
  refine lv_iload_n hx hb dX2_narrow_62 rfl (lv_at hl 3 rfl) ?_
  refine lv_iadd hx hb dX2_narrow_63 ?_
  refine lv_topi (fun y27 ey27 => ?_)
  obtain ⟨ty27, iy27⟩ := ti_add (e := 0) (f := 900102) iy26 hh2 ey27 (by decide)
  have ty27 : y27.toInt = y26.toInt + a1.toInt := ty27
  have iy27 : 0 ≤ y27.toInt ∧ y27.toInt ≤ 900102 := iy27
  refine va_mmin hx hb (by rw [hml]; exact hl.1.symm) hown (hts _ (vA_in _ _ (in_15 _ (zs16 (zs16 (zs4 (zs1 (zs0)))))))) (hts _ (vA_in _ _ (in_0 _ (zs16 (zs16 (zs4 (zs0))))))) (hts _ (vA_in _ _ (in_0 _ (zs16 (zs16 (zs1 (zs0))))))) (hts _ (vA_in _ _ (in_0 _ (zs16 (zs16 (zs4 (zs1 (zs0)))))))) (Nat.le_of_ble_eq_true rfl) (Nat.le_of_ble_eq_true rfl) (Nat.le_of_ble_eq_true rfl) (Nat.le_of_ble_eq_true rfl) dX2_narrow_64 ?_
  refine lv_topi (fun y28 ey28 => ?_)
  obtain ⟨ty28, iy28⟩ := ti_min (e := 0) (f := 99) iy23 iy27 ey28 (by decide)
  have iy28 : 0 ≤ y28.toInt ∧ y28.toInt ≤ 99 := iy28
  have n29 : vp_in a0 2 := (iv_in (n := 2) hh1 (by decide))
  refine th_iastL hx hb hK hP (WL_D hD) hS hI 39 (mF 39 rfl) rfl rfl n29 (okI rfl iy28) dX2_narrow_67 (fun H locs E30 pw31 hI hP hS => ?_)
  have hKp := hKp.pw pw31 rfl
  obtain ⟨g32, eg32⟩ : ∃ z : Nat → Int32, z = upd g2 a0.toNatClampNeg y28 := ⟨_, rfl⟩
  have hg32 : xi (E30 39) = g32 := by rw [pw31.eu, ((pw21.ef 39 (Nat.ne_of_beq_eq_false rfl)).trans ((pw12.ef 39 (Nat.ne_of_beq_eq_false rfl)).trans hg2)), eg32]
  refine lv_aload_n hx hb dX2_narrow_68 rfl (lv_at hl 0 rfl) ?_
  refine th_getL (ci := 3) (C := RX2) (T := TX2) (N := 10) (v := .ref (ad 41)) hx hb hts hinX2 hown hK hP hI 5 (mF 5 rfl) rfl rfl 4 (Nat.le_of_ble_eq_true rfl) (hts _ (vA_in _ _ (in_15 _ (zs4 (zs1 (zs0)))))) (fun _ h9 => h9) (hI.fr 5 (mF 5 rfl) rfl (Nat.le_of_ble_eq_true rfl) 41 rfl) dX2_narrow_69 ?_
  refine lv_iload_n hx hb dX2_narrow_72 rfl (lv_at hl 1 rfl) ?_
  refine lv_aload_n hx hb dX2_narrow_73 rfl (lv_at hl 0 rfl) ?_
  refine th_getL (ci := 3) (C := RX2) (T := TX2) (N := 10) (v := .ref (ad 41)) hx hb hts hinX2 hown hK hP hI 5 (mF 5 rfl) rfl rfl 4 (Nat.le_of_ble_eq_true rfl) (hts _ (vA_in _ _ (in_15 _ (zs4 (zs1 (zs0)))))) (fun _ h9 => h9) (hI.fr 5 (mF 5 rfl) rfl (Nat.le_of_ble_eq_true rfl) 41 rfl) dX2_narrow_74 ?_
  refine lv_iload_n hx hb dX2_narrow_77 rfl (lv_at hl 1 rfl) ?_
  have n34 : vp_in a0 2 := (iv_in (n := 2) hh1 (by decide))
  refine th_ialdL hx hb hK hP hI 41 (mF 41 rfl) rfl rfl n34 dX2_narrow_78 (fun y33 ey33 => ?_)
  have iy33 : 0 ≤ y33.toInt ∧ y33.toInt ≤ 99 := hI.el 41 (mF 41 rfl) rfl n34 (fun _ => rfl) ey33
  have ey33 := ey33.trans (congrFun ((pw31.ef 41 (Nat.ne_of_beq_eq_false rfl)).trans ((pw21.ef 41 (Nat.ne_of_beq_eq_false rfl)).trans ((pw12.ef 41 (Nat.ne_of_beq_eq_false rfl)).trans hg4))) _)
  refine lv_aload_n hx hb dX2_narrow_79 rfl (lv_at hl 2 rfl) ?_
  refine th_getL (ci := 12) (C := RX11) (T := TX11) (N := 8) (v := .int (xi (E (64 * (i + 1) + 13)) 5)) hx hb hts hinX11 hown hK hP hI (64 * (i + 1) + 13) (mP 13 i (by decide) hh0 (kl_le hC 4 (by decide))) (shC_p 13 i (by decide)) rfl 5 (Nat.le_of_ble_eq_true rfl) (hts _ (vA_in _ _ (in_15 _ (zs16 (zs16 (zs1 (zs1 (zs1 (zs0))))))))) (fun _ h9 => h9) (th_v0L hKp hI0 (64 * (i + 1) + 13) (mP 13 i (by decide) hh0 (kl_le hC 4 (by decide))) (shC_p 13 i (by decide)) (Nat.le_of_ble_eq_true rfl) (spC_p 13 i (by decide) 5) (wl_p rfl rfl (by omega))) dX2_narrow_80 ?_
  refine lv_aload_n hx hb dX2_narrow_83 rfl (lv_at hl 2 rfl) ?_
  refine th_getL (ci := 12) (C := RX11) (T := TX11) (N := 8) (v := .int (xi (E (64 * (i + 1) + 13)) 6)) hx hb hts hinX11 hown hK hP hI (64 * (i + 1) + 13) (mP 13 i (by decide) hh0 (kl_le hC 4 (by decide))) (shC_p 13 i (by decide)) rfl 6 (Nat.le_of_ble_eq_true rfl) (hts _ (vA_in _ _ (in_15 _ (zs16 (zs16 (zs4 (zs0))))))) (fun _ h9 => h9) (th_v0L hKp hI0 (64 * (i + 1) + 13) (mP 13 i (by decide) hh0 (kl_le hC 4 (by decide))) (shC_p 13 i (by decide)) (Nat.le_of_ble_eq_true rfl) (spC_p 13 i (by decide) 6) (wl_p rfl rfl (by omega))) dX2_narrow_84 ?_
  refine lv_iadd hx hb dX2_narrow_87 ?_
  refine lv_topi (fun y35 ey35 => ?_)
  obtain ⟨ty35, iy35⟩ := ti_add (e := 0) (f := 102) i16 i25 ey35 (by decide)
  have ty35 : y35.toInt = (xi (E (64 * (i + 1) + 13)) 5).toInt + (xi (E (64 * (i + 1) + 13)) 6).toInt := ty35
  have iy35 : 0 ≤ y35.toInt ∧ y35.toInt ≤ 102 := iy35
  refine lv_iload_n hx hb dX2_narrow_88 rfl (lv_at hl 3 rfl) ?_
  refine lv_iadd hx hb dX2_narrow_89 ?_
  refine lv_topi (fun y36 ey36 => ?_)
  obtain ⟨ty36, iy36⟩ := ti_add (e := 0) (f := 900102) iy35 hh2 ey36 (by decide)
  have ty36 : y36.toInt = y35.toInt + a1.toInt := ty36
  have iy36 : 0 ≤ y36.toInt ∧ y36.toInt ≤ 900102 := iy36
  refine va_mmin hx hb (by rw [hml]; exact hl.1.symm) hown (hts _ (vA_in _ _ (in_15 _ (zs16 (zs16 (zs4 (zs1 (zs0)))))))) (hts _ (vA_in _ _ (in_0 _ (zs16 (zs16 (zs4 (zs0))))))) (hts _ (vA_in _ _ (in_0 _ (zs16 (zs16 (zs1 (zs0))))))) (hts _ (vA_in _ _ (in_0 _ (zs16 (zs16 (zs4 (zs1 (zs0)))))))) (Nat.le_of_ble_eq_true rfl) (Nat.le_of_ble_eq_true rfl) (Nat.le_of_ble_eq_true rfl) (Nat.le_of_ble_eq_true rfl) dX2_narrow_90 ?_
  refine lv_topi (fun y37 ey37 => ?_)
  obtain ⟨ty37, iy37⟩ := ti_min (e := 0) (f := 99) iy33 iy36 ey37 (by decide)
  have iy37 : 0 ≤ y37.toInt ∧ y37.toInt ≤ 99 := iy37
  have n38 : vp_in a0 2 := (iv_in (n := 2) hh1 (by decide))
  refine th_iastL hx hb hK hP (WL_D hD) hS hI 41 (mF 41 rfl) rfl rfl n38 (okI rfl iy37) dX2_narrow_93 (fun H locs E39 pw40 hI hP hS => ?_)
  have hKp := hKp.pw pw40 rfl
  obtain ⟨g41, eg41⟩ : ∃ z : Nat → Int32, z = upd g4 a0.toNatClampNeg y37 := ⟨_, rfl⟩
  have hg41 : xi (E39 41) = g41 := by rw [pw40.eu, ((pw31.ef 41 (Nat.ne_of_beq_eq_false rfl)).trans ((pw21.ef 41 (Nat.ne_of_beq_eq_false rfl)).trans ((pw12.ef 41 (Nat.ne_of_beq_eq_false rfl)).trans hg4))), eg41]
  rw [hQ]
  exact W.vret hx hb hr (fun t ht hW => ⟨⟨E39, rfl, ⟨hI, hKp, (by have qy5 := congrArg Int32.toInt ey5; have qy14 := congrArg Int32.toInt ey14; have qy23 := congrArg Int32.toInt ey23; have qy33 := congrArg Int32.toInt ey33; exact ⟨(by rw [show xi (E39 38) = g13 from ((pw40.ef 38 (Nat.ne_of_beq_eq_false rfl)).trans ((pw31.ef 38 (Nat.ne_of_beq_eq_false rfl)).trans ((pw21.ef 38 (Nat.ne_of_beq_eq_false rfl)).trans hg13))), eg13, pk_us, show xi (E 38) = g1 from hg1]; omega), (by rw [show xi (E39 39) = g32 from ((pw40.ef 39 (Nat.ne_of_beq_eq_false rfl)).trans hg32), eg32, pk_us, show xi (E 39) = g2 from hg2]; omega), (by rw [show xi (E39 40) = g22 from ((pw40.ef 40 (Nat.ne_of_beq_eq_false rfl)).trans ((pw31.ef 40 (Nat.ne_of_beq_eq_false rfl)).trans hg22)), eg22, pk_us, show xi (E 40) = g3 from hg3]; omega), (by rw [show xi (E39 41) = g41 from hg41, eg41, pk_us, show xi (E 41) = g4 from hg4]; omega), fun j9 hj9 => ⟨(by rw [show xi (E39 38) = g13 from ((pw40.ef 38 (Nat.ne_of_beq_eq_false rfl)).trans ((pw31.ef 38 (Nat.ne_of_beq_eq_false rfl)).trans ((pw21.ef 38 (Nat.ne_of_beq_eq_false rfl)).trans hg13))), eg13, pk_un hj9, show xi (E 38) = g1 from hg1]), (by rw [show xi (E39 39) = g32 from ((pw40.ef 39 (Nat.ne_of_beq_eq_false rfl)).trans hg32), eg32, pk_un hj9, show xi (E 39) = g2 from hg2]), (by rw [show xi (E39 40) = g22 from ((pw40.ef 40 (Nat.ne_of_beq_eq_false rfl)).trans ((pw31.ef 40 (Nat.ne_of_beq_eq_false rfl)).trans hg22)), eg22, pk_un hj9, show xi (E 40) = g3 from hg3]), (by rw [show xi (E39 41) = g41 from hg41, eg41, pk_un hj9, show xi (E 41) = g4 from hg4])⟩⟩)⟩, by show va_P (dC, dI) vwCl (WL (LC cf) ad E39) t.heap; rw [ht]; exact hP⟩, hS.F ht⟩) hS.2.2 dX2_narrow_94
def v_statesOfX : List Cond := .code yX2_statesOf cX2_statesOf 9 (some .int) :: vA
abbrev rm_statesOfX : Room := { frames := 3, cells := 0, slots := 0, locals := 120 }
def w_statesOfX : Nat → Nat → Bool := wl [38, 39, 40, 41, 42] []
set_option maxHeartbeats 4000000 in
set_option maxRecDepth 100000 in
theorem q_statesOfX (l : Launch) (dC : Nat → ClassId) (dI : Nat → Nat → Nat) (cT : Nat → ClassId) (cf : Nat → Nat) (hC : CF cf) (ad : Nat → Nat) (E : Nat → va_E) (sz : Nat) (a0 : Int32) (a1 : Int32) (i : Nat) (hI0 : IXL cT (shC cf) (spC cf) (LC cf) ad E) (hh0 : i < cf 5) (hh1 : 0 ≤ a0.toInt ∧ a0.toInt ≤ 1) (hh2 : 0 ≤ a1.toInt ∧ a1.toInt ≤ 400) : Met l yX2_statesOf v_statesOfX rm_statesOfX (va_Pc [.ref (ad 5), .ref (ad (64 * (i + 1) + 14)), .int a0, .int a1] (HWL dC dI (TYC cT) cf ad E sz)) (va_Qi (S := Nat → va_E) (fun r u => IXL cT (shC cf) (spC cf) (LC cf) ad u ∧ Kp w_statesOfX E u ∧ ((SOFc cf E u i a0 a1 r))) (HBL dC dI (LC cf) ad) (va_A (WL (LC cf) ad E) sz)) 0 0 (va_A (WL (LC cf) ad E) sz) := by
  obtain ⟨⟨hc0, hc1, hc2, hc3, hc4, hc5⟩, hcr⟩ := id hC
  refine Met.ofW (cc := cX2_statesOf) (maxL := 9) (ret := (some .int)) (by decide) rfl ?_
  intro p e s m args below meth c s₁ B hml hv
  obtain ⟨hargs, hsz, hP, hK, hD0, hEV⟩ := hv
  subst hsz
  have hx := B.exec
  have hb := B.bytes
  have hr := B.returns
  have hts := atoms_spec (ws := v_statesOfX) B.pre
  have hown : s.vm.findClass RX2 = some m.cls := findClass_of_methodNamed B.named
  have hlocks := B.notSynchronized
  have hinX0 : ∀ w ∈ u_ws RX0 TX0 11, w ∈ v_statesOfX := fun w h => vA_in _ w (in_X0 w h)
  have hinX11 : ∀ w ∈ u_ws RX11 TX11 8, w ∈ v_statesOfX := fun w h => vA_in _ w (in_X11 w h)
  have hinX2 : ∀ w ∈ u_ws RX2 TX2 10, w ∈ v_statesOfX := fun w h => vA_in _ w (in_X2 w h)
  have hinX4 : ∀ w ∈ u_ws RX4 TX4 10, w ∈ v_statesOfX := fun w h => vA_in _ w (in_X4 w h)
  generalize hAe : va_A (WL (LC cf) ad E) s.heap.size = A at hEV ⊢
  have hA : ∀ q : Nat, s.heap.size ≤ q → A q := fun q h => by rw [← hAe]; exact Or.inr h
  have hD : va_D A (WL (LC cf) ad E) := by rw [← hAe]; exact hD0.self
  have hS : va_S A s.heap s.heap [] := va_S.rf
  have hI := hI0
  have hKp : Kp w_statesOfX E E := Kp.rf
  have hl := lv_entry ([.ref (ad 5), .ref (ad (64 * (i + 1) + 14)), .int a0, .int a1]) (n := 9) (Nat.le_of_ble_eq_true rfl)
  obtain ⟨Q, hQ⟩ : ∃ Q, Q = MQ below (va_Qi (S := Nat → va_E) (fun r u => IXL cT (shC cf) (spC cf) (LC cf) ad u ∧ Kp w_statesOfX E u ∧ ((SOFc cf E u i a0 a1 r))) (HBL dC dI (LC cf) ad) (A)) args s 0 0 (A) := ⟨_, rfl⟩
  rw [← hQ, show entryFrame m args 9 = _ from (congrArg (fun z => entryFrame m z 9) hargs).trans (lg_entry_eq _ _ _)]
  generalize (lg_sl ([.ref (ad 5), .ref (ad (64 * (i + 1) + 14)), .int a0, .int a1]) ++ List.replicate (9 - (lg_sl ([.ref (ad 5), .ref (ad (64 * (i + 1) + 14)), .int a0, .int a1])).length) Slot.unset).toArray = ls at hl ⊢
  have hl : lv_has ls 9 [(0, .ref (ad 5)), (1, .ref (ad (64 * (i + 1) + 14))), (2, .int a0), (3, .int a1)] := hl
  have z0z : (0 : Int32).toInt = 0 := rfl
  refine lv_iload_n hx hb dX2_statesOf_0 rfl (lv_at hl 2 rfl) ?_
  refine lv_if_ne (tgt := 11) hx hb dX2_statesOf_1 (by decide) (fun c1 => ?_) (fun c1 => ?_)
  · --1 taken
    have t2 : ¬ a0.toInt = 0 := ti_ne c1
    have i3 : 1 ≤ a0.toInt ∧ a0.toInt ≤ 1 := iv_ne_l t2 hh1 (il_ 0)
    refine lv_aload_n hx hb dX2_statesOf_11 rfl (lv_at hl 1 rfl) ?_
    have i4 : 0 ≤ (xi (E (64 * (i + 1) + 14)) 2).toInt ∧ (xi (E (64 * (i + 1) + 14)) 2).toInt ≤ 15 := hI0.iv (64 * (i + 1) + 14) (mP 14 i (by decide) hh0 (kl_le hC 5 (by decide))) (shC_p 14 i (by decide)) (Nat.le_of_ble_eq_true rfl) (spC_p 14 i (by decide) 2)
    refine th_getL (ci := 5) (C := RX4) (T := TX4) (N := 10) (v := .int (xi (E (64 * (i + 1) + 14)) 2)) hx hb hts hinX4 hown hK hP hI (64 * (i + 1) + 14) (mP 14 i (by decide) hh0 (kl_le hC 5 (by decide))) (shC_p 14 i (by decide)) rfl 2 (Nat.le_of_ble_eq_true rfl) (hts _ (vA_in _ _ (in_15 _ (zs4 (zs4 (zs1 (zs1 (zs1 (zs0))))))))) (fun _ h9 => h9) (th_v0L hKp hI0 (64 * (i + 1) + 14) (mP 14 i (by decide) hh0 (kl_le hC 5 (by decide))) (shC_p 14 i (by decide)) (Nat.le_of_ble_eq_true rfl) (spC_p 14 i (by decide) 2) (wl_p rfl rfl (by omega))) dX2_statesOf_12 ?_
    refine lv_istore (lv' := [(4, .int (xi (E (64 * (i + 1) + 14)) 2)), (0, .ref (ad 5)), (1, .ref (ad (64 * (i + 1) + 14))), (2, .int a0), (3, .int a1)]) hx hb dX2_statesOf_15 hl (by decide) rfl (fun ls hl => ?_)
    refine lv_aload_n hx hb dX2_statesOf_17 rfl (lv_at hl 1 rfl) ?_
    refine th_getL (ci := 3) (C := RX2) (T := TX2) (N := 10) (v := .ref (ad 1)) hx hb hts hinX2 hown hK hP hI 5 (mF 5 rfl) rfl rfl 0 (Nat.le_of_ble_eq_true rfl) (hts _ (vA_in _ _ (in_14 _ (zs16 (zs16 (zs1 (zs1 (zs0)))))))) (fun _ h9 => h9) (hI.fr 5 (mF 5 rfl) rfl (Nat.le_of_ble_eq_true rfl) 1 rfl) dX2_statesOf_18 ?_
    refine th_getL (ci := 1) (C := RX0) (T := TX0) (N := 11) (v := .ref (ad 9)) hx hb hts hinX0 hown hK hP hI 1 (mF 1 rfl) rfl rfl 5 (Nat.le_of_ble_eq_true rfl) (hts _ (vA_in _ _ (in_14 _ (zs16 (zs16 (zs1 (zs1 (zs1 (zs0))))))))) (fun _ h9 => h9) (hI.fr 1 (mF 1 rfl) rfl (Nat.le_of_ble_eq_true rfl) 9 rfl) dX2_statesOf_21 ?_
    refine lv_aload_n hx hb dX2_statesOf_24 rfl (lv_at hl 2 rfl) ?_
    have j6 : 0 ≤ (xi (E (64 * (i + 1) + 14)) 0).toInt ∧ (xi (E (64 * (i + 1) + 14)) 0).toInt ≤ ((cf 2 : Nat) : Int) - 1 := hI0.iv (64 * (i + 1) + 14) (mP 14 i (by decide) hh0 (kl_le hC 5 (by decide))) (shC_p 14 i (by decide)) (Nat.le_of_ble_eq_true rfl) (spC_p 14 i (by decide) 0)
    have i5 : 0 ≤ (xi (E (64 * (i + 1) + 14)) 0).toInt ∧ (xi (E (64 * (i + 1) + 14)) 0).toInt ≤ 19 := by omega
    refine th_getL (ci := 5) (C := RX4) (T := TX4) (N := 10) (v := .int (xi (E (64 * (i + 1) + 14)) 0)) hx hb hts hinX4 hown hK hP hI (64 * (i + 1) + 14) (mP 14 i (by decide) hh0 (kl_le hC 5 (by decide))) (shC_p 14 i (by decide)) rfl 0 (Nat.le_of_ble_eq_true rfl) (hts _ (vA_in _ _ (in_14 _ (zs16 (zs16 (zs4 (zs0))))))) (fun _ h9 => h9) (th_v0L hKp hI0 (64 * (i + 1) + 14) (mP 14 i (by decide) hh0 (kl_le hC 5 (by decide))) (shC_p 14 i (by decide)) (Nat.le_of_ble_eq_true rfl) (spC_p 14 i (by decide) 0) (wl_p rfl rfl (by omega))) dX2_statesOf_25 ?_
    refine th_rrL (va_runV (As := [.int (xi (E (64 * (i + 1) + 14)) 0)]) (rest := []) ⟨hx, hb, hml, hown, hts⟩ (q_get2 l dC dI cT cf hC ad E s.heap.size (xi (E (64 * (i + 1) + 14)) 0) hI (by omega)) (cwV 1 hts (gi_V (in_15 _ (zs16 (zs4 (zs1 (zs0))))) (in_4 _ (zs16 (zs16 (zs4 (zs1 (zs1 (zs0))))))) (in_4 _ (zs16 (zs16 (zs4 (zs1 (zs1 (zs1 (zs0)))))))) (in_3 _ (zs16 (zs1 (zs1 (zs0))))) (in_3 _ (zs16 (zs16 (zs4 (zs1 (zs1 (zs1 (zs0))))))))) rfl rfl rfl ⟨rfl, hz_yJx4a65c_get_915e3_1⟩ ⟨Nat.le_of_ble_eq_true rfl, Nat.le_of_ble_eq_true rfl⟩) ⟨HWL_bl, va_recv hK hP (ci := 0) (q0 := posL 9 (LC cf)) rfl (hI.ob 9 (mF 9 rfl) rfl), (HWL_wi hP hK (WL_D hD) hS hA hEV)⟩ rfl rfl hl.1 rfl (lv_room (Nat.le_of_ble_eq_true rfl)) dX2_statesOf_28 ⟨Nat.le_of_ble_eq_true rfl, Nat.le_of_ble_eq_true rfl⟩) hS hP (fun r7 H locs hw hP hS => ?_)
    obtain rfl := hw
    have lv8 : (xi (E (64 * (i + 1) + 14)) 0).toNatClampNeg < cf 2 := by rw [tn_]; omega
    refine va_castS (cC := dC 6) hx hb hown (hts _ (vA_in _ _ (in_14 _ (zs16 (zs16 (zs4 (zs1 (zs0)))))))) (hK.1 6 _ rfl).2 (va_recv hK hP (ci := 6) (q0 := posL (64 * ((xi (E (64 * (i + 1) + 14)) 0).toNatClampNeg + 1) + 6) (LC cf)) rfl (hI.ob (64 * ((xi (E (64 * (i + 1) + 14)) 0).toNatClampNeg + 1) + 6) (mP 6 ((xi (E (64 * (i + 1) + 14)) 0).toNatClampNeg) (by decide) lv8 (kl_le hC 2 (by decide))) (shC_p 6 ((xi (E (64 * (i + 1) + 14)) 0).toNatClampNeg) (by decide)))) dX2_statesOf_31 ?_
    refine lv_iload_n hx hb dX2_statesOf_34 rfl (lv_at hl 4 rfl) ?_
    refine th_riL (va_runV (As := [.int a1]) (rest := []) ⟨hx, hb, hml, hown, hts⟩ (q_swiftInX l dC dI cT cf hC ad E H.size a1 ((xi (E (64 * (i + 1) + 14)) 0).toNatClampNeg) hI (by omega) hh2) (cwV 1 hts (gi_V (in_15 _ (zs16 (zs4 (zs1 (zs1 (zs0)))))) (in_15 _ (zs16 (zs4 (zs1 (zs1 (zs1 (zs0))))))) (in_15 _ (zs16 (zs4 (zs4 (zs0))))) (in_6 _ (zs16 (zs1 (zs0)))) (in_15 _ (zs16 (zs4 (zs4 (zs1 (zs0))))))) rfl rfl rfl ⟨rfl, hz_yX5_swiftIn_1⟩ ⟨Nat.le_of_ble_eq_true rfl, Nat.le_of_ble_eq_true rfl⟩) ⟨HWL_bl, va_recv hK hP (ci := 6) (q0 := posL (64 * ((xi (E (64 * (i + 1) + 14)) 0).toNatClampNeg + 1) + 6) (LC cf)) rfl (hI.ob (64 * ((xi (E (64 * (i + 1) + 14)) 0).toNatClampNeg + 1) + 6) (mP 6 ((xi (E (64 * (i + 1) + 14)) 0).toNatClampNeg) (by decide) lv8 (kl_le hC 2 (by decide))) (shC_p 6 ((xi (E (64 * (i + 1) + 14)) 0).toNatClampNeg) (by decide))), (HWL_wi hP hK (WL_D hD) hS hA hEV)⟩ rfl rfl hl.1 rfl (lv_room (Nat.le_of_ble_eq_true rfl)) dX2_statesOf_35 ⟨Nat.le_of_ble_eq_true rfl, Nat.le_of_ble_eq_true rfl⟩) hS hP (fun r9 H locs hw hP hS => ?_)
    obtain ⟨f10, f11⟩ := hw
    have k12 : SWq E (xi (E (64 * (i + 1) + 14)) 0).toNatClampNeg a1.toInt r9 := f11
    refine lv_istore (lv' := [(5, .int r9), (4, .int (xi (E (64 * (i + 1) + 14)) 2)), (0, .ref (ad 5)), (1, .ref (ad (64 * (i + 1) + 14))), (2, .int a0), (3, .int a1)]) hx hb dX2_statesOf_38 hl (by decide) rfl (fun ls hl => ?_)
    refine lv_iconst (v := 0) hx hb dX2_statesOf_40 (by decide) ?_
    refine lv_istore (lv' := [(6, .int 0), (5, .int r9), (4, .int (xi (E (64 * (i + 1) + 14)) 2)), (0, .ref (ad 5)), (1, .ref (ad (64 * (i + 1) + 14))), (2, .int a0), (3, .int a1)]) hx hb dX2_statesOf_41 hl (by decide) rfl (fun ls hl => ?_)
    refine lv_aload_n hx hb dX2_statesOf_43 rfl (lv_at hl 3 rfl) ?_
    refine th_getL (ci := 3) (C := RX2) (T := TX2) (N := 10) (v := .ref (ad 38)) hx hb hts hinX2 hown hK hP hI 5 (mF 5 rfl) rfl rfl 1 (Nat.le_of_ble_eq_true rfl) (hts _ (vA_in _ _ (in_15 _ (zs1 (zs1 (zs0)))))) (fun _ h9 => h9) (hI.fr 5 (mF 5 rfl) rfl (Nat.le_of_ble_eq_true rfl) 38 rfl) dX2_statesOf_44 ?_
    refine lv_iload_n hx hb dX2_statesOf_47 rfl (lv_at hl 5 rfl) ?_
    refine lv_iconst (v := 0) hx hb dX2_statesOf_48 (by decide) ?_
    have n13 : vp_in a0 2 := (iv_in (n := 2) i3 (by decide))
    refine th_iastL hx hb hK hP (WL_D hD) hS hI 38 (mF 38 rfl) rfl rfl n13 (okI rfl (iv_w ln_0 (by decide))) dX2_statesOf_49 (fun H locs E14 pw15 hI hP hS => ?_)
    have hKp := hKp.pw pw15 rfl
    refine lv_aload_n hx hb dX2_statesOf_50 rfl (lv_at hl 3 rfl) ?_
    refine th_getL (ci := 3) (C := RX2) (T := TX2) (N := 10) (v := .ref (ad 40)) hx hb hts hinX2 hown hK hP hI 5 (mF 5 rfl) rfl rfl 3 (Nat.le_of_ble_eq_true rfl) (hts _ (vA_in _ _ (in_15 _ (zs4 (zs0))))) (fun _ h9 => h9) (hI.fr 5 (mF 5 rfl) rfl (Nat.le_of_ble_eq_true rfl) 40 rfl) dX2_statesOf_51 ?_
    refine lv_iload_n hx hb dX2_statesOf_54 rfl (lv_at hl 5 rfl) ?_
    refine lv_iconst (v := 0) hx hb dX2_statesOf_55 (by decide) ?_
    have n16 : vp_in a0 2 := (iv_in (n := 2) i3 (by decide))
    refine th_iastL hx hb hK hP (WL_D hD) hS hI 40 (mF 40 rfl) rfl rfl n16 (okI rfl (iv_w ln_0 (by decide))) dX2_statesOf_56 (fun H locs E17 pw18 hI hP hS => ?_)
    have hKp := hKp.pw pw18 rfl
    refine lv_aload_n hx hb dX2_statesOf_57 rfl (lv_at hl 3 rfl) ?_
    refine th_getL (ci := 3) (C := RX2) (T := TX2) (N := 10) (v := .ref (ad 39)) hx hb hts hinX2 hown hK hP hI 5 (mF 5 rfl) rfl rfl 2 (Nat.le_of_ble_eq_true rfl) (hts _ (vA_in _ _ (in_15 _ (zs1 (zs1 (zs1 (zs0))))))) (fun _ h9 => h9) (hI.fr 5 (mF 5 rfl) rfl (Nat.le_of_ble_eq_true rfl) 39 rfl) dX2_statesOf_58 ?_
    refine lv_iload_n hx hb dX2_statesOf_61 rfl (lv_at hl 5 rfl) ?_
    refine lv_bipush (v := 99) hx hb dX2_statesOf_62 (by decide) ?_
    have n19 : vp_in a0 2 := (iv_in (n := 2) i3 (by decide))
    refine th_iastL hx hb hK hP (WL_D hD) hS hI 39 (mF 39 rfl) rfl rfl n19 (okI rfl (iv_w ln_99 (by decide))) dX2_statesOf_64 (fun H locs E20 pw21 hI hP hS => ?_)
    have hKp := hKp.pw pw21 rfl
    refine lv_aload_n hx hb dX2_statesOf_65 rfl (lv_at hl 3 rfl) ?_
    refine th_getL (ci := 3) (C := RX2) (T := TX2) (N := 10) (v := .ref (ad 41)) hx hb hts hinX2 hown hK hP hI 5 (mF 5 rfl) rfl rfl 4 (Nat.le_of_ble_eq_true rfl) (hts _ (vA_in _ _ (in_15 _ (zs4 (zs1 (zs0)))))) (fun _ h9 => h9) (hI.fr 5 (mF 5 rfl) rfl (Nat.le_of_ble_eq_true rfl) 41 rfl) dX2_statesOf_66 ?_
    refine lv_iload_n hx hb dX2_statesOf_69 rfl (lv_at hl 5 rfl) ?_
    refine lv_bipush (v := 99) hx hb dX2_statesOf_70 (by decide) ?_
    have n22 : vp_in a0 2 := (iv_in (n := 2) i3 (by decide))
    refine th_iastL hx hb hK hP (WL_D hD) hS hI 41 (mF 41 rfl) rfl rfl n22 (okI rfl (iv_w ln_99 (by decide))) dX2_statesOf_72 (fun H locs E23 pw24 hI hP hS => ?_)
    have hKp := hKp.pw pw24 rfl
    refine lv_aload_n hx hb dX2_statesOf_73 rfl (lv_at hl 3 rfl) ?_
    refine th_getL (ci := 3) (C := RX2) (T := TX2) (N := 10) (v := .ref (ad 42)) hx hb hts hinX2 hown hK hP hI 5 (mF 5 rfl) rfl rfl 5 (Nat.le_of_ble_eq_true rfl) (hts _ (vA_in _ _ (in_15 _ (zs4 (zs4 (zs4 (zs0))))))) (fun _ h9 => h9) (hI.fr 5 (mF 5 rfl) rfl (Nat.le_of_ble_eq_true rfl) 42 rfl) dX2_statesOf_74 ?_
    refine lv_iload_n hx hb dX2_statesOf_77 rfl (lv_at hl 5 rfl) ?_
    refine lv_sipush (v := 255) hx hb dX2_statesOf_78 (by decide) ?_
    have n25 : vp_in a0 2 := (iv_in (n := 2) i3 (by decide))
    refine th_iastL hx hb hK hP (WL_D hD) hS hI 42 (mF 42 rfl) rfl rfl n25 (okI rfl (iv_w ln_255 (by decide))) dX2_statesOf_81 (fun H locs E26 pw27 hI hP hS => ?_)
    have hKp := hKp.pw pw27 rfl
    refine lv_iconst (v := 0) hx hb dX2_statesOf_82 (by decide) ?_
    refine lv_istore (lv' := [(7, .int 0), (6, .int 0), (5, .int r9), (4, .int (xi (E (64 * (i + 1) + 14)) 2)), (0, .ref (ad 5)), (1, .ref (ad (64 * (i + 1) + 14))), (2, .int a0), (3, .int a1)]) hx hb dX2_statesOf_83 hl (by decide) rfl (fun ls hl => ?_)
    have hL85 : ∀ d : Nat, ∀ (v85_7 : Int32) (v85_6 : Int32) (E85_ : Nat → va_E) (H : Heap) (locs : List Loc) (ls : Array Slot), 0 ≤ v85_7.toInt ∧ v85_7.toInt ≤ 200 → 0 ≤ v85_6.toInt ∧ v85_6.toInt ≤ 1 → StC (wcE E) (wdE E) v85_7.toNatClampNeg (xi (E (64 * (i + 1) + 14)) 0).toInt (xi (E (64 * (i + 1) + 14)) 2).toInt a1.toInt (xi (E (64 * (i + 1) + 14)) 3).toInt r9.toInt E85_ a0.toNatClampNeg → ((v85_6.toInt = 0 ∧ ¬ hrd (wcE E) v85_7.toNatClampNeg (xi (E (64 * (i + 1) + 14)) 0).toInt (xi (E (64 * (i + 1) + 14)) 2).toInt a1.toInt (xi (E (64 * (i + 1) + 14)) 3).toInt) ∨ (v85_6.toInt = 1 ∧ hrd (wcE E) v85_7.toNatClampNeg (xi (E (64 * (i + 1) + 14)) 0).toInt (xi (E (64 * (i + 1) + 14)) 2).toInt a1.toInt (xi (E (64 * (i + 1) + 14)) 3).toInt)) → v85_7.toInt ≤ ((cf 4 : Nat) : Int) → OthE E E85_ a0.toNatClampNeg → 200 - v85_7.toInt < (d : Int) → IXL cT (shC cf) (spC cf) (LC cf) ad E85_ → Kp w_statesOfX E E85_ → va_P (dC, dI) vwCl (WL (LC cf) ad E85_) H → va_S A s.heap H locs → lv_has ls 9 [(7, .int v85_7), (6, .int v85_6), (5, .int r9), (4, .int (xi (E (64 * (i + 1) + 14)) 2)), (0, .ref (ad 5)), (1, .ref (ad (64 * (i + 1) + 14))), (2, .int a0), (3, .int a1)] → W p l e (headSpec v_statesOfX rm_statesOfX).room s m args below meth c H locs 0 0 Q (F0 m 85 ls []) := by
      intro d
      induction d with
      | zero =>
        intro v85_7 v85_6 E85_ H locs ls hv85_7 hv85_6 hx85_0 hx85_1 hx85_2 hx85_3 hx85_4 hI hKp hP hS hl
        exact absurd hx85_4 (by first | exact ms_zu hv85_7.2 | omega)
      | succ d ih85 =>
        intro v85_7 v85_6 E85_ H locs ls hv85_7 hv85_6 hx85_0 hx85_1 hx85_2 hx85_3 hx85_4 hI hKp hP hS hl
        refine lv_iload hx hb dX2_statesOf_85 (lv_at hl 0 rfl) ?_
        refine lv_aload_n hx hb dX2_statesOf_87 rfl (lv_at hl 4 rfl) ?_
        refine th_getL (ci := 3) (C := RX2) (T := TX2) (N := 10) (v := .ref (ad 1)) hx hb hts hinX2 hown hK hP hI 5 (mF 5 rfl) rfl rfl 0 (Nat.le_of_ble_eq_true rfl) (hts _ (vA_in _ _ (in_14 _ (zs16 (zs16 (zs1 (zs1 (zs0)))))))) (fun _ h9 => h9) (hI.fr 5 (mF 5 rfl) rfl (Nat.le_of_ble_eq_true rfl) 1 rfl) dX2_statesOf_88 ?_
        refine th_getL (ci := 1) (C := RX0) (T := TX0) (N := 11) (v := .ref (ad 11)) hx hb hts hinX0 hown hK hP hI 1 (mF 1 rfl) rfl rfl 7 (Nat.le_of_ble_eq_true rfl) (hts _ (vA_in _ _ (in_15 _ (zs4 (zs4 (zs4 (zs1 (zs0)))))))) (fun _ h9 => h9) (hI.fr 1 (mF 1 rfl) rfl (Nat.le_of_ble_eq_true rfl) 11 rfl) dX2_statesOf_91 ?_
        refine th_riL (va_runV (As := []) (rest := [.int v85_7]) ⟨hx, hb, hml, hown, hts⟩ (q_size4 l dC dI cT cf hC ad E85_ H.size hI) (cwV 0 hts (gi_V (in_15 _ (zs16 (zs4 (zs4 (zs4 (zs0)))))) (in_4 _ (zs16 (zs16 (zs1 (zs1 (zs1 (zs0))))))) (in_4 _ (zs16 (zs16 (zs4 (zs0))))) (in_3 _ (zs16 (zs1 (zs1 (zs0))))) (in_4 _ (zs16 (zs1 (zs1 (zs1 (zs0))))))) rfl rfl rfl ⟨rfl, hz_yJx4a65c_size_8abf5_0⟩ ⟨Nat.le_of_ble_eq_true rfl, Nat.le_of_ble_eq_true rfl⟩) ⟨HWL_bl, va_recv hK hP (ci := 0) (q0 := posL 11 (LC cf)) rfl (hI.ob 11 (mF 11 rfl) rfl), (HWL_wi hP hK (WL_D hD) hS hA hEV)⟩ rfl rfl hl.1 rfl (lv_room (Nat.le_of_ble_eq_true rfl)) dX2_statesOf_94 ⟨Nat.le_of_ble_eq_true rfl, Nat.le_of_ble_eq_true rfl⟩) hS hP (fun r28 H locs hw hP hS => ?_)
        obtain ⟨f29, f30⟩ := hw
        refine lv_icmp_ge (tgt := 208) hx hb dX2_statesOf_97 (by decide) (fun c31 => ?_) (fun c31 => ?_)
        · --97 taken
          have t32 : r28.toInt ≤ v85_7.toInt := ti_le c31
          refine lv_iload hx hb dX2_statesOf_208 (lv_at hl 1 rfl) ?_
          refine lv_if_eq (tgt := 243) hx hb dX2_statesOf_210 (by decide) (fun c33 => ?_) (fun c33 => ?_)
          · --210 taken
            have t34 : v85_6.toInt = 0 := ti_eq c33
            have i35 : 0 ≤ v85_6.toInt ∧ v85_6.toInt ≤ 0 := iv_eqi t34 hv85_6 (il_ 0) (by decide)
            refine lv_iconst (v := 0) hx hb dX2_statesOf_243 (by decide) ?_
            rw [hQ]
            exact W.iret (v := 0) hx hb hr (fun t ht hW => ⟨⟨0, E85_, rfl, ⟨hI, hKp, ⟨r9, k12, by rw [show (if a0.toInt = 0 then pA E i 1 else pA E i 2) = (xi (E (64 * (i + 1) + 14)) 2).toInt from (if_neg (by omega))]; exact ⟨by rw [show v85_7.toNatClampNeg = cf 4 by rw [tn_]; omega] at hx85_0; exact hx85_0, by rw [show v85_7.toNatClampNeg = cf 4 by rw [tn_]; omega] at hx85_0 hx85_1; exact StC.z1 (hx85_1.elim (fun q9 => q9.2) (fun q9 => by omega)), hx85_3⟩⟩⟩, by show va_P (dC, dI) vwCl (WL (LC cf) ad E85_) t.heap; rw [ht]; exact hP⟩, hS.F ht⟩) hS.2.2 dX2_statesOf_244
          · --210 not
            have t36 : ¬ v85_6.toInt = 0 := ti_ne c33
            have i37 : 1 ≤ v85_6.toInt ∧ v85_6.toInt ≤ 1 := iv_ne_l t36 hv85_6 (il_ 0)
            refine lv_aload_n hx hb dX2_statesOf_213 rfl (lv_at hl 4 rfl) ?_
            refine th_getL (ci := 3) (C := RX2) (T := TX2) (N := 10) (v := .ref (ad 38)) hx hb hts hinX2 hown hK hP hI 5 (mF 5 rfl) rfl rfl 1 (Nat.le_of_ble_eq_true rfl) (hts _ (vA_in _ _ (in_15 _ (zs1 (zs1 (zs0)))))) (fun _ h9 => h9) (hI.fr 5 (mF 5 rfl) rfl (Nat.le_of_ble_eq_true rfl) 38 rfl) dX2_statesOf_214 ?_
            refine lv_iload_n hx hb dX2_statesOf_217 rfl (lv_at hl 6 rfl) ?_
            have n39 : vp_in a0 2 := (iv_in (n := 2) i3 (by decide))
            refine th_ialdL hx hb hK hP hI 38 (mF 38 rfl) rfl rfl n39 dX2_statesOf_218 (fun y38 ey38 => ?_)
            have iy38 : 0 ≤ y38.toInt ∧ y38.toInt ≤ 99 := hI.el 38 (mF 38 rfl) rfl n39 (fun _ => rfl) ey38
            refine lv_aload_n hx hb dX2_statesOf_219 rfl (lv_at hl 4 rfl) ?_
            refine th_getL (ci := 3) (C := RX2) (T := TX2) (N := 10) (v := .ref (ad 39)) hx hb hts hinX2 hown hK hP hI 5 (mF 5 rfl) rfl rfl 2 (Nat.le_of_ble_eq_true rfl) (hts _ (vA_in _ _ (in_15 _ (zs1 (zs1 (zs1 (zs0))))))) (fun _ h9 => h9) (hI.fr 5 (mF 5 rfl) rfl (Nat.le_of_ble_eq_true rfl) 39 rfl) dX2_statesOf_220 ?_
            refine lv_iload_n hx hb dX2_statesOf_223 rfl (lv_at hl 6 rfl) ?_
            have n41 : vp_in a0 2 := (iv_in (n := 2) i3 (by decide))
            refine th_ialdL hx hb hK hP hI 39 (mF 39 rfl) rfl rfl n41 dX2_statesOf_224 (fun y40 ey40 => ?_)
            have iy40 : 0 ≤ y40.toInt ∧ y40.toInt ≤ 99 := hI.el 39 (mF 39 rfl) rfl n41 (fun _ => rfl) ey40
            refine lv_icmp_gt (tgt := 243) hx hb dX2_statesOf_225 (by decide) (fun c42 => ?_) (fun c42 => ?_)
            · --225 taken
              have t43 : y40.toInt < y38.toInt := ti_lt c42
              have i44 : 0 ≤ y40.toInt ∧ y40.toInt ≤ 98 := iv_lt_l t43 iy40 iy38 (by decide)
              have i45 : 1 ≤ y38.toInt ∧ y38.toInt ≤ 99 := iv_lt_r t43 iy40 iy38 (by decide)
              refine lv_iconst (v := 0) hx hb dX2_statesOf_243 (by decide) ?_
              rw [hQ]
              exact W.iret (v := 0) hx hb hr (fun t ht hW => ⟨⟨0, E85_, rfl, ⟨hI, hKp, ⟨r9, k12, by rw [show (if a0.toInt = 0 then pA E i 1 else pA E i 2) = (xi (E (64 * (i + 1) + 14)) 2).toInt from (if_neg (by omega))]; exact ⟨by rw [show v85_7.toNatClampNeg = cf 4 by rw [tn_]; omega] at hx85_0; exact hx85_0, by rw [show v85_7.toNatClampNeg = cf 4 by rw [tn_]; omega] at hx85_0 hx85_1; exact hx85_0.z2 (Or.inl (by rw [← ey40, ← ey38]; omega)), hx85_3⟩⟩⟩, by show va_P (dC, dI) vwCl (WL (LC cf) ad E85_) t.heap; rw [ht]; exact hP⟩, hS.F ht⟩) hS.2.2 dX2_statesOf_244
            · --225 not
              have t46 : y38.toInt ≤ y40.toInt := ti_nlt c42
              refine lv_aload_n hx hb dX2_statesOf_228 rfl (lv_at hl 4 rfl) ?_
              refine th_getL (ci := 3) (C := RX2) (T := TX2) (N := 10) (v := .ref (ad 40)) hx hb hts hinX2 hown hK hP hI 5 (mF 5 rfl) rfl rfl 3 (Nat.le_of_ble_eq_true rfl) (hts _ (vA_in _ _ (in_15 _ (zs4 (zs0))))) (fun _ h9 => h9) (hI.fr 5 (mF 5 rfl) rfl (Nat.le_of_ble_eq_true rfl) 40 rfl) dX2_statesOf_229 ?_
              refine lv_iload_n hx hb dX2_statesOf_232 rfl (lv_at hl 6 rfl) ?_
              have n48 : vp_in a0 2 := (iv_in (n := 2) i3 (by decide))
              refine th_ialdL hx hb hK hP hI 40 (mF 40 rfl) rfl rfl n48 dX2_statesOf_233 (fun y47 ey47 => ?_)
              have iy47 : 0 ≤ y47.toInt ∧ y47.toInt ≤ 99 := hI.el 40 (mF 40 rfl) rfl n48 (fun _ => rfl) ey47
              refine lv_aload_n hx hb dX2_statesOf_234 rfl (lv_at hl 4 rfl) ?_
              refine th_getL (ci := 3) (C := RX2) (T := TX2) (N := 10) (v := .ref (ad 41)) hx hb hts hinX2 hown hK hP hI 5 (mF 5 rfl) rfl rfl 4 (Nat.le_of_ble_eq_true rfl) (hts _ (vA_in _ _ (in_15 _ (zs4 (zs1 (zs0)))))) (fun _ h9 => h9) (hI.fr 5 (mF 5 rfl) rfl (Nat.le_of_ble_eq_true rfl) 41 rfl) dX2_statesOf_235 ?_
              refine lv_iload_n hx hb dX2_statesOf_238 rfl (lv_at hl 6 rfl) ?_
              have n50 : vp_in a0 2 := (iv_in (n := 2) i3 (by decide))
              refine th_ialdL hx hb hK hP hI 41 (mF 41 rfl) rfl rfl n50 dX2_statesOf_239 (fun y49 ey49 => ?_)
              have iy49 : 0 ≤ y49.toInt ∧ y49.toInt ≤ 99 := hI.el 41 (mF 41 rfl) rfl n50 (fun _ => rfl) ey49
              refine lv_icmp_le (tgt := 245) hx hb dX2_statesOf_240 (by decide) (fun c51 => ?_) (fun c51 => ?_)
              · --240 taken
                have t52 : y47.toInt ≤ y49.toInt := ti_le c51
                refine lv_aload_n hx hb dX2_statesOf_245 rfl (lv_at hl 4 rfl) ?_
                refine th_getL (ci := 3) (C := RX2) (T := TX2) (N := 10) (v := .ref (ad 39)) hx hb hts hinX2 hown hK hP hI 5 (mF 5 rfl) rfl rfl 2 (Nat.le_of_ble_eq_true rfl) (hts _ (vA_in _ _ (in_15 _ (zs1 (zs1 (zs1 (zs0))))))) (fun _ h9 => h9) (hI.fr 5 (mF 5 rfl) rfl (Nat.le_of_ble_eq_true rfl) 39 rfl) dX2_statesOf_246 ?_
                refine lv_iload_n hx hb dX2_statesOf_249 rfl (lv_at hl 6 rfl) ?_
                have n54 : vp_in a0 2 := (iv_in (n := 2) i3 (by decide))
                refine th_ialdL hx hb hK hP hI 39 (mF 39 rfl) rfl rfl n54 dX2_statesOf_250 (fun y53 ey53 => ?_)
                have iy53 : 0 ≤ y53.toInt ∧ y53.toInt ≤ 99 := hI.el 39 (mF 39 rfl) rfl n54 (fun _ => rfl) ey53
                refine lv_aload_n hx hb dX2_statesOf_251 rfl (lv_at hl 4 rfl) ?_
                refine th_getL (ci := 3) (C := RX2) (T := TX2) (N := 10) (v := .ref (ad 38)) hx hb hts hinX2 hown hK hP hI 5 (mF 5 rfl) rfl rfl 1 (Nat.le_of_ble_eq_true rfl) (hts _ (vA_in _ _ (in_15 _ (zs1 (zs1 (zs0)))))) (fun _ h9 => h9) (hI.fr 5 (mF 5 rfl) rfl (Nat.le_of_ble_eq_true rfl) 38 rfl) dX2_statesOf_252 ?_
                refine lv_iload_n hx hb dX2_statesOf_255 rfl (lv_at hl 6 rfl) ?_
                have n56 : vp_in a0 2 := (iv_in (n := 2) i3 (by decide))
                refine th_ialdL hx hb hK hP hI 38 (mF 38 rfl) rfl rfl n56 dX2_statesOf_256 (fun y55 ey55 => ?_)
                have iy55 : 0 ≤ y55.toInt ∧ y55.toInt ≤ 99 := hI.el 38 (mF 38 rfl) rfl n56 (fun _ => rfl) ey55
                refine lv_isub hx hb dX2_statesOf_257 ?_
                refine lv_topi (fun y57 ey57 => ?_)
                obtain ⟨ty57, iy57⟩ := ti_sub (e := (-99)) (f := 99) iy53 iy55 ey57 (by decide)
                have ty57 : y57.toInt = y53.toInt - y55.toInt := ty57
                have iy57 : -99 ≤ y57.toInt ∧ y57.toInt ≤ 99 := iy57
                refine lv_iconst (v := 1) hx hb dX2_statesOf_258 (by decide) ?_
                refine lv_iadd hx hb dX2_statesOf_259 ?_
                refine lv_topi (fun y58 ey58 => ?_)
                obtain ⟨ty58, iy58⟩ := ti_add (e := (-98)) (f := 100) iy57 ln_1 ey58 (by decide)
                have ty58 : y58.toInt = y57.toInt + 1 := ty58
                have iy58 : -98 ≤ y58.toInt ∧ y58.toInt ≤ 100 := iy58
                refine lv_aload_n hx hb dX2_statesOf_260 rfl (lv_at hl 4 rfl) ?_
                refine th_getL (ci := 3) (C := RX2) (T := TX2) (N := 10) (v := .ref (ad 41)) hx hb hts hinX2 hown hK hP hI 5 (mF 5 rfl) rfl rfl 4 (Nat.le_of_ble_eq_true rfl) (hts _ (vA_in _ _ (in_15 _ (zs4 (zs1 (zs0)))))) (fun _ h9 => h9) (hI.fr 5 (mF 5 rfl) rfl (Nat.le_of_ble_eq_true rfl) 41 rfl) dX2_statesOf_261 ?_
                refine lv_iload_n hx hb dX2_statesOf_264 rfl (lv_at hl 6 rfl) ?_
                have n60 : vp_in a0 2 := (iv_in (n := 2) i3 (by decide))
                refine th_ialdL hx hb hK hP hI 41 (mF 41 rfl) rfl rfl n60 dX2_statesOf_265 (fun y59 ey59 => ?_)
                have iy59 : 0 ≤ y59.toInt ∧ y59.toInt ≤ 99 := hI.el 41 (mF 41 rfl) rfl n60 (fun _ => rfl) ey59
                refine lv_aload_n hx hb dX2_statesOf_266 rfl (lv_at hl 4 rfl) ?_
                refine th_getL (ci := 3) (C := RX2) (T := TX2) (N := 10) (v := .ref (ad 40)) hx hb hts hinX2 hown hK hP hI 5 (mF 5 rfl) rfl rfl 3 (Nat.le_of_ble_eq_true rfl) (hts _ (vA_in _ _ (in_15 _ (zs4 (zs0))))) (fun _ h9 => h9) (hI.fr 5 (mF 5 rfl) rfl (Nat.le_of_ble_eq_true rfl) 40 rfl) dX2_statesOf_267 ?_
                refine lv_iload_n hx hb dX2_statesOf_270 rfl (lv_at hl 6 rfl) ?_
                have n62 : vp_in a0 2 := (iv_in (n := 2) i3 (by decide))
                refine th_ialdL hx hb hK hP hI 40 (mF 40 rfl) rfl rfl n62 dX2_statesOf_271 (fun y61 ey61 => ?_)
                have iy61 : 0 ≤ y61.toInt ∧ y61.toInt ≤ 99 := hI.el 40 (mF 40 rfl) rfl n62 (fun _ => rfl) ey61
                refine lv_isub hx hb dX2_statesOf_272 ?_
                refine lv_topi (fun y63 ey63 => ?_)
                obtain ⟨ty63, iy63⟩ := ti_sub (e := (-99)) (f := 99) iy59 iy61 ey63 (by decide)
                have ty63 : y63.toInt = y59.toInt - y61.toInt := ty63
                have iy63 : -99 ≤ y63.toInt ∧ y63.toInt ≤ 99 := iy63
                refine lv_iconst (v := 1) hx hb dX2_statesOf_273 (by decide) ?_
                refine lv_iadd hx hb dX2_statesOf_274 ?_
                refine lv_topi (fun y64 ey64 => ?_)
                obtain ⟨ty64, iy64⟩ := ti_add (e := (-98)) (f := 100) iy63 ln_1 ey64 (by decide)
                have ty64 : y64.toInt = y63.toInt + 1 := ty64
                have iy64 : -98 ≤ y64.toInt ∧ y64.toInt ≤ 100 := iy64
                refine lv_imul hx hb dX2_statesOf_275 ?_
                refine lv_topi (fun y65 ey65 => ?_)
                obtain ⟨ty65, iy65⟩ := ti_mul (e := (-9800)) (f := 10000) iy58 iy64 ey65 (by decide)
                have ty65 : y65.toInt = y58.toInt * y64.toInt := ty65
                have iy65 : -9800 ≤ y65.toInt ∧ y65.toInt ≤ 10000 := iy65
                refine lv_istore (lv' := [(7, .int y65), (6, .int v85_6), (5, .int r9), (4, .int (xi (E (64 * (i + 1) + 14)) 2)), (0, .ref (ad 5)), (1, .ref (ad (64 * (i + 1) + 14))), (2, .int a0), (3, .int a1)]) hx hb dX2_statesOf_276 hl (by decide) rfl (fun ls hl => ?_)
                refine lv_iload hx hb dX2_statesOf_278 (lv_at hl 0 rfl) ?_
                refine lv_aload_n hx hb dX2_statesOf_280 rfl (lv_at hl 4 rfl) ?_
                refine th_getL (ci := 3) (C := RX2) (T := TX2) (N := 10) (v := .ref (ad 42)) hx hb hts hinX2 hown hK hP hI 5 (mF 5 rfl) rfl rfl 5 (Nat.le_of_ble_eq_true rfl) (hts _ (vA_in _ _ (in_15 _ (zs4 (zs4 (zs4 (zs0))))))) (fun _ h9 => h9) (hI.fr 5 (mF 5 rfl) rfl (Nat.le_of_ble_eq_true rfl) 42 rfl) dX2_statesOf_281 ?_
                refine lv_iload_n hx hb dX2_statesOf_284 rfl (lv_at hl 6 rfl) ?_
                have n67 : vp_in a0 2 := (iv_in (n := 2) i3 (by decide))
                refine th_ialdL hx hb hK hP hI 42 (mF 42 rfl) rfl rfl n67 dX2_statesOf_285 (fun y66 ey66 => ?_)
                have iy66 : 0 ≤ y66.toInt ∧ y66.toInt ≤ 255 := hI.el 42 (mF 42 rfl) rfl n67 (fun _ => rfl) ey66
                refine th_pi (va_runS (As := [.int y66]) (rest := [.int y65]) ⟨hx, hb, hml, hown, hts⟩ (q_bitCount l y66 (iv_w iy66 (by decide))) (va_cwS 1 hts (gi_S (in_15 _ (zs16 (zs16 (zs4 (zs1 (zs1 (zs0))))))) (in_4 _ (zs16 (zs4 (zs4 (zs1 (zs1 (zs0))))))) (in_4 _ (zs16 (zs4 (zs4 (zs1 (zs1 (zs1 (zs0)))))))) (in_2 _ (zs4 (zs4 (zs1 (zs1 (zs0))))))) rfl rfl rfl hz_yJ6_bitCount_0f7a4_1 ⟨Nat.le_of_ble_eq_true rfl, Nat.le_of_ble_eq_true rfl⟩) ⟨fun _ _ _ _ q => q, fun _ _ _ => ⟨rfl, trivial⟩⟩ rfl rfl hl.1 rfl (lv_room (Nat.le_of_ble_eq_true rfl)) dX2_statesOf_286 ⟨Nat.le_of_ble_eq_true rfl, Nat.le_of_ble_eq_true rfl⟩) hS (fun r68 H1 locs1 hw hk1 hS => ?_)
                have hP := ub_keep hP hk1
                generalize H1 = H at hP hS ⊢
                generalize locs1 = locs at hS ⊢
                have f69 := hw
                have i70 : 0 ≤ r68.toInt ∧ r68.toInt ≤ 16 := by have h9 := f69; have h8 := pcS_le y66.toNatClampNeg 16; omega
                refine lv_imul hx hb dX2_statesOf_289 ?_
                refine lv_topi (fun y71 ey71 => ?_)
                obtain ⟨ty71, iy71⟩ := ti_mul (e := (-156800)) (f := 160000) iy65 i70 ey71 (by decide)
                have ty71 : y71.toInt = y65.toInt * r68.toInt := ty71
                have iy71 : -156800 ≤ y71.toInt ∧ y71.toInt ≤ 160000 := iy71
                rw [hQ]
                exact W.iret (v := y71) hx hb hr (fun t ht hW => ⟨⟨y71, E85_, rfl, ⟨hI, hKp, ⟨r9, k12, by rw [show (if a0.toInt = 0 then pA E i 1 else pA E i 2) = (xi (E (64 * (i + 1) + 14)) 2).toInt from (if_neg (by omega))]; exact ⟨by rw [show v85_7.toNatClampNeg = cf 4 by rw [tn_]; omega] at hx85_0; exact hx85_0, by rw [show v85_7.toNatClampNeg = cf 4 by rw [tn_]; omega] at hx85_0 hx85_1; exact hx85_0.z3 (p := y65) (c := r68) (v := y66) (hx85_1.elim (fun q9 => by omega) (fun q9 => q9.2)) (by rw [← ey38, ← ey40]; omega) (by rw [← ey47, ← ey49]; omega) (by have gy38 := congrArg Int32.toInt ey38; have gy55 := congrArg Int32.toInt ey55; have gy40 := congrArg Int32.toInt ey40; have gy53 := congrArg Int32.toInt ey53; have gy47 := congrArg Int32.toInt ey47; have gy61 := congrArg Int32.toInt ey61; have gy49 := congrArg Int32.toInt ey49; have gy59 := congrArg Int32.toInt ey59; rw [ty65]; exact mul_1 (by omega) (by omega)) ey66.symm (by omega) f69 ty71, hx85_3⟩⟩⟩, by show va_P (dC, dI) vwCl (WL (LC cf) ad E85_) t.heap; rw [ht]; exact hP⟩, hS.F ht⟩) hS.2.2 dX2_statesOf_290
              · --240 not
                have t72 : y49.toInt < y47.toInt := ti_nle c51
                have i73 : 0 ≤ y49.toInt ∧ y49.toInt ≤ 98 := iv_lt_l t72 iy49 iy47 (by decide)
                have i74 : 1 ≤ y47.toInt ∧ y47.toInt ≤ 99 := iv_lt_r t72 iy49 iy47 (by decide)
                refine lv_iconst (v := 0) hx hb dX2_statesOf_243 (by decide) ?_
                rw [hQ]
                exact W.iret (v := 0) hx hb hr (fun t ht hW => ⟨⟨0, E85_, rfl, ⟨hI, hKp, ⟨r9, k12, by rw [show (if a0.toInt = 0 then pA E i 1 else pA E i 2) = (xi (E (64 * (i + 1) + 14)) 2).toInt from (if_neg (by omega))]; exact ⟨by rw [show v85_7.toNatClampNeg = cf 4 by rw [tn_]; omega] at hx85_0; exact hx85_0, by rw [show v85_7.toNatClampNeg = cf 4 by rw [tn_]; omega] at hx85_0 hx85_1; exact hx85_0.z2 (Or.inr (by rw [← ey49, ← ey47]; omega)), hx85_3⟩⟩⟩, by show va_P (dC, dI) vwCl (WL (LC cf) ad E85_) t.heap; rw [ht]; exact hP⟩, hS.F ht⟩) hS.2.2 dX2_statesOf_244
        · --97 not
          have t75 : v85_7.toInt < r28.toInt := ti_nle c31
          have i76 : 0 ≤ v85_7.toInt ∧ v85_7.toInt ≤ 199 := iv_lt_l t75 hv85_7 f29 (by decide)
          have i77 : 1 ≤ r28.toInt ∧ r28.toInt ≤ 200 := iv_lt_r t75 hv85_7 f29 (by decide)
          refine lv_aload_n hx hb dX2_statesOf_100 rfl (lv_at hl 4 rfl) ?_
          refine th_getL (ci := 3) (C := RX2) (T := TX2) (N := 10) (v := .ref (ad 1)) hx hb hts hinX2 hown hK hP hI 5 (mF 5 rfl) rfl rfl 0 (Nat.le_of_ble_eq_true rfl) (hts _ (vA_in _ _ (in_14 _ (zs16 (zs16 (zs1 (zs1 (zs0)))))))) (fun _ h9 => h9) (hI.fr 5 (mF 5 rfl) rfl (Nat.le_of_ble_eq_true rfl) 1 rfl) dX2_statesOf_101 ?_
          refine th_getL (ci := 1) (C := RX0) (T := TX0) (N := 11) (v := .ref (ad 11)) hx hb hts hinX0 hown hK hP hI 1 (mF 1 rfl) rfl rfl 7 (Nat.le_of_ble_eq_true rfl) (hts _ (vA_in _ _ (in_15 _ (zs4 (zs4 (zs4 (zs1 (zs0)))))))) (fun _ h9 => h9) (hI.fr 1 (mF 1 rfl) rfl (Nat.le_of_ble_eq_true rfl) 11 rfl) dX2_statesOf_104 ?_
          refine lv_iload hx hb dX2_statesOf_107 (lv_at hl 0 rfl) ?_
          refine th_rrL (va_runV (As := [.int v85_7]) (rest := []) ⟨hx, hb, hml, hown, hts⟩ (q_get4 l dC dI cT cf hC ad E85_ H.size v85_7 hI (by omega)) (cwV 1 hts (gi_V (in_15 _ (zs16 (zs4 (zs1 (zs0))))) (in_4 _ (zs16 (zs16 (zs4 (zs1 (zs1 (zs0))))))) (in_4 _ (zs16 (zs16 (zs4 (zs1 (zs1 (zs1 (zs0)))))))) (in_3 _ (zs16 (zs1 (zs1 (zs0))))) (in_3 _ (zs16 (zs16 (zs4 (zs1 (zs1 (zs1 (zs0))))))))) rfl rfl rfl ⟨rfl, hz_yJx4a65c_get_915e3_1⟩ ⟨Nat.le_of_ble_eq_true rfl, Nat.le_of_ble_eq_true rfl⟩) ⟨HWL_bl, va_recv hK hP (ci := 0) (q0 := posL 11 (LC cf)) rfl (hI.ob 11 (mF 11 rfl) rfl), (HWL_wi hP hK (WL_D hD) hS hA hEV)⟩ rfl rfl hl.1 rfl (lv_room (Nat.le_of_ble_eq_true rfl)) dX2_statesOf_109 ⟨Nat.le_of_ble_eq_true rfl, Nat.le_of_ble_eq_true rfl⟩) hS hP (fun r78 H locs hw hP hS => ?_)
          obtain rfl := hw
          have lv79 : v85_7.toNatClampNeg < cf 4 := by rw [tn_]; omega
          refine va_castS (cC := dC 12) hx hb hown (hts _ (vA_in _ _ (in_15 _ (zs4 (zs4 (zs4 (zs1 (zs1 (zs0))))))))) (hK.1 12 _ rfl).2 (va_recv hK hP (ci := 12) (q0 := posL (64 * (v85_7.toNatClampNeg + 1) + 13) (LC cf)) rfl (hI.ob (64 * (v85_7.toNatClampNeg + 1) + 13) (mP 13 v85_7.toNatClampNeg (by decide) lv79 (kl_le hC 4 (by decide))) (shC_p 13 v85_7.toNatClampNeg (by decide)))) dX2_statesOf_112 ?_
          refine lv_astore (lv' := [(8, .ref (ad (64 * (v85_7.toNatClampNeg + 1) + 13))), (7, .int v85_7), (6, .int v85_6), (5, .int r9), (4, .int (xi (E (64 * (i + 1) + 14)) 2)), (0, .ref (ad 5)), (1, .ref (ad (64 * (i + 1) + 14))), (2, .int a0), (3, .int a1)]) hx hb dX2_statesOf_115 hl (by decide) rfl (fun ls hl => ?_)
          refine lv_aload hx hb dX2_statesOf_117 (lv_at hl 0 rfl) ?_
          have i80 : 0 ≤ (xi (E (64 * (v85_7.toNatClampNeg + 1) + 13)) 0).toInt ∧ (xi (E (64 * (v85_7.toNatClampNeg + 1) + 13)) 0).toInt ≤ 19 := hI0.iv (64 * (v85_7.toNatClampNeg + 1) + 13) (mP 13 v85_7.toNatClampNeg (by decide) lv79 (kl_le hC 4 (by decide))) (shC_p 13 v85_7.toNatClampNeg (by decide)) (Nat.le_of_ble_eq_true rfl) (spC_p 13 v85_7.toNatClampNeg (by decide) 0)
          refine th_getL (ci := 12) (C := RX11) (T := TX11) (N := 8) (v := .int (xi (E (64 * (v85_7.toNatClampNeg + 1) + 13)) 0)) hx hb hts hinX11 hown hK hP hI (64 * (v85_7.toNatClampNeg + 1) + 13) (mP 13 v85_7.toNatClampNeg (by decide) lv79 (kl_le hC 4 (by decide))) (shC_p 13 v85_7.toNatClampNeg (by decide)) rfl 0 (Nat.le_of_ble_eq_true rfl) (hts _ (vA_in _ _ (in_15 _ (zs4 (zs4 (zs4 (zs1 (zs1 (zs1 (zs0)))))))))) (fun _ h9 => h9) (th_v0L hKp hI0 (64 * (v85_7.toNatClampNeg + 1) + 13) (mP 13 v85_7.toNatClampNeg (by decide) lv79 (kl_le hC 4 (by decide))) (shC_p 13 v85_7.toNatClampNeg (by decide)) (Nat.le_of_ble_eq_true rfl) (spC_p 13 v85_7.toNatClampNeg (by decide) 0) (wl_p rfl rfl (by omega))) dX2_statesOf_119 ?_
          refine lv_aload_n hx hb dX2_statesOf_122 rfl (lv_at hl 6 rfl) ?_
          refine th_getL (ci := 5) (C := RX4) (T := TX4) (N := 10) (v := .int (xi (E (64 * (i + 1) + 14)) 0)) hx hb hts hinX4 hown hK hP hI (64 * (i + 1) + 14) (mP 14 i (by decide) hh0 (kl_le hC 5 (by decide))) (shC_p 14 i (by decide)) rfl 0 (Nat.le_of_ble_eq_true rfl) (hts _ (vA_in _ _ (in_14 _ (zs16 (zs16 (zs4 (zs0))))))) (fun _ h9 => h9) (th_v0L hKp hI0 (64 * (i + 1) + 14) (mP 14 i (by decide) hh0 (kl_le hC 5 (by decide))) (shC_p 14 i (by decide)) (Nat.le_of_ble_eq_true rfl) (spC_p 14 i (by decide) 0) (wl_p rfl rfl (by omega))) dX2_statesOf_123 ?_
          refine lv_icmp_ne (tgt := 202) hx hb dX2_statesOf_126 (by decide) (fun c81 => ?_) (fun c81 => ?_)
          · --126 taken
            have t82 : ¬ (xi (E (64 * (v85_7.toNatClampNeg + 1) + 13)) 0).toInt = (xi (E (64 * (i + 1) + 14)) 0).toInt := ti_ne c81
            obtain ⟨y83, ey83⟩ : ∃ y : Int32, y = v85_7 + (1 : Int32) := ⟨_, rfl⟩
            obtain ⟨ty83, iy83⟩ := ti_add (e := 1) (f := 200) i76 ln_1 ey83 (by decide)
            have ty83 : y83.toInt = v85_7.toInt + 1 := ty83
            have iy83 : 1 ≤ y83.toInt ∧ y83.toInt ≤ 200 := iy83
            refine lv_iinc (v := y83) (lv' := [(7, .int y83), (8, .ref (ad (64 * (v85_7.toNatClampNeg + 1) + 13))), (6, .int v85_6), (5, .int r9), (4, .int (xi (E (64 * (i + 1) + 14)) 2)), (0, .ref (ad 5)), (1, .ref (ad (64 * (i + 1) + 14))), (2, .int a0), (3, .int a1)]) hx hb dX2_statesOf_202 hl (k := 1) rfl (by rw [ey83]; rfl) (by decide) rfl (fun ls hl => ?_)
            refine lv_goto (tgt := 85) hx hb dX2_statesOf_205 (by decide) ?_
            exact ih85 y83 v85_6 E85_ _ _ _ (iv_w iy83 (by decide)) hv85_6 (hx85_0.skip (fun q9 => by have g1 : (xi (E (64 * (v85_7.toNatClampNeg + 1) + 13)) 0).toInt = (xi (E (64 * (i + 1) + 14)) 0).toInt := q9.1; have g2 : (xi (E (64 * (v85_7.toNatClampNeg + 1) + 13)) 1).toInt = (xi (E (64 * (i + 1) + 14)) 2).toInt := q9.2.1; have g3 : (xi (E (64 * (v85_7.toNatClampNeg + 1) + 13)) 2).toInt ≤ a1.toInt := q9.2.2; omega) (by rw [tn_, tn_]; omega)) (by rw [show y83.toNatClampNeg = v85_7.toNatClampNeg + 1 by rw [tn_, tn_]; omega]; exact hx85_1.imp (fun q8 => ⟨q8.1, fun q7 => q8.2 ((hrd_skip (fun g9 => (fun q9 => by have g1 : (xi (E (64 * (v85_7.toNatClampNeg + 1) + 13)) 0).toInt = (xi (E (64 * (i + 1) + 14)) 0).toInt := q9.1; have g2 : (xi (E (64 * (v85_7.toNatClampNeg + 1) + 13)) 1).toInt = (xi (E (64 * (i + 1) + 14)) 2).toInt := q9.2.1; have g3 : (xi (E (64 * (v85_7.toNatClampNeg + 1) + 13)) 2).toInt ≤ a1.toInt := q9.2.2; omega) g9.1)).mp q7)⟩) (fun q8 => ⟨q8.1, (hrd_skip (fun g9 => (fun q9 => by have g1 : (xi (E (64 * (v85_7.toNatClampNeg + 1) + 13)) 0).toInt = (xi (E (64 * (i + 1) + 14)) 0).toInt := q9.1; have g2 : (xi (E (64 * (v85_7.toNatClampNeg + 1) + 13)) 1).toInt = (xi (E (64 * (i + 1) + 14)) 2).toInt := q9.2.1; have g3 : (xi (E (64 * (v85_7.toNatClampNeg + 1) + 13)) 2).toInt ≤ a1.toInt := q9.2.2; omega) g9.1)).mpr q8.2⟩)) (by omega) hx85_3 (by first | exact ms_su hx85_4 ty83 (by decide) | omega) hI hKp hP hS (lv_sub hl [0, 2, 3, 4, 5, 6, 7, 8] rfl)
          · --126 not
            have t84 : (xi (E (64 * (v85_7.toNatClampNeg + 1) + 13)) 0).toInt = (xi (E (64 * (i + 1) + 14)) 0).toInt := ti_eq c81
            refine lv_aload hx hb dX2_statesOf_129 (lv_at hl 0 rfl) ?_
            have i85 : 0 ≤ (xi (E (64 * (v85_7.toNatClampNeg + 1) + 13)) 1).toInt ∧ (xi (E (64 * (v85_7.toNatClampNeg + 1) + 13)) 1).toInt ≤ 15 := hI0.iv (64 * (v85_7.toNatClampNeg + 1) + 13) (mP 13 v85_7.toNatClampNeg (by decide) lv79 (kl_le hC 4 (by decide))) (shC_p 13 v85_7.toNatClampNeg (by decide)) (Nat.le_of_ble_eq_true rfl) (spC_p 13 v85_7.toNatClampNeg (by decide) 1)
            refine th_getL (ci := 12) (C := RX11) (T := TX11) (N := 8) (v := .int (xi (E (64 * (v85_7.toNatClampNeg + 1) + 13)) 1)) hx hb hts hinX11 hown hK hP hI (64 * (v85_7.toNatClampNeg + 1) + 13) (mP 13 v85_7.toNatClampNeg (by decide) lv79 (kl_le hC 4 (by decide))) (shC_p 13 v85_7.toNatClampNeg (by decide)) rfl 1 (Nat.le_of_ble_eq_true rfl) (hts _ (vA_in _ _ (in_15 _ (zs16 (zs0))))) (fun _ h9 => h9) (th_v0L hKp hI0 (64 * (v85_7.toNatClampNeg + 1) + 13) (mP 13 v85_7.toNatClampNeg (by decide) lv79 (kl_le hC 4 (by decide))) (shC_p 13 v85_7.toNatClampNeg (by decide)) (Nat.le_of_ble_eq_true rfl) (spC_p 13 v85_7.toNatClampNeg (by decide) 1) (wl_p rfl rfl (by omega))) dX2_statesOf_131 ?_
            refine lv_iload hx hb dX2_statesOf_134 (lv_at hl 4 rfl) ?_
            refine lv_icmp_ne (tgt := 202) hx hb dX2_statesOf_136 (by decide) (fun c86 => ?_) (fun c86 => ?_)
            · --136 taken
              have t87 : ¬ (xi (E (64 * (v85_7.toNatClampNeg + 1) + 13)) 1).toInt = (xi (E (64 * (i + 1) + 14)) 2).toInt := ti_ne c86
              obtain ⟨y88, ey88⟩ : ∃ y : Int32, y = v85_7 + (1 : Int32) := ⟨_, rfl⟩
              obtain ⟨ty88, iy88⟩ := ti_add (e := 1) (f := 200) i76 ln_1 ey88 (by decide)
              have ty88 : y88.toInt = v85_7.toInt + 1 := ty88
              have iy88 : 1 ≤ y88.toInt ∧ y88.toInt ≤ 200 := iy88
              refine lv_iinc (v := y88) (lv' := [(7, .int y88), (8, .ref (ad (64 * (v85_7.toNatClampNeg + 1) + 13))), (6, .int v85_6), (5, .int r9), (4, .int (xi (E (64 * (i + 1) + 14)) 2)), (0, .ref (ad 5)), (1, .ref (ad (64 * (i + 1) + 14))), (2, .int a0), (3, .int a1)]) hx hb dX2_statesOf_202 hl (k := 1) rfl (by rw [ey88]; rfl) (by decide) rfl (fun ls hl => ?_)
              refine lv_goto (tgt := 85) hx hb dX2_statesOf_205 (by decide) ?_
              exact ih85 y88 v85_6 E85_ _ _ _ (iv_w iy88 (by decide)) hv85_6 (hx85_0.skip (fun q9 => by have g1 : (xi (E (64 * (v85_7.toNatClampNeg + 1) + 13)) 0).toInt = (xi (E (64 * (i + 1) + 14)) 0).toInt := q9.1; have g2 : (xi (E (64 * (v85_7.toNatClampNeg + 1) + 13)) 1).toInt = (xi (E (64 * (i + 1) + 14)) 2).toInt := q9.2.1; have g3 : (xi (E (64 * (v85_7.toNatClampNeg + 1) + 13)) 2).toInt ≤ a1.toInt := q9.2.2; omega) (by rw [tn_, tn_]; omega)) (by rw [show y88.toNatClampNeg = v85_7.toNatClampNeg + 1 by rw [tn_, tn_]; omega]; exact hx85_1.imp (fun q8 => ⟨q8.1, fun q7 => q8.2 ((hrd_skip (fun g9 => (fun q9 => by have g1 : (xi (E (64 * (v85_7.toNatClampNeg + 1) + 13)) 0).toInt = (xi (E (64 * (i + 1) + 14)) 0).toInt := q9.1; have g2 : (xi (E (64 * (v85_7.toNatClampNeg + 1) + 13)) 1).toInt = (xi (E (64 * (i + 1) + 14)) 2).toInt := q9.2.1; have g3 : (xi (E (64 * (v85_7.toNatClampNeg + 1) + 13)) 2).toInt ≤ a1.toInt := q9.2.2; omega) g9.1)).mp q7)⟩) (fun q8 => ⟨q8.1, (hrd_skip (fun g9 => (fun q9 => by have g1 : (xi (E (64 * (v85_7.toNatClampNeg + 1) + 13)) 0).toInt = (xi (E (64 * (i + 1) + 14)) 0).toInt := q9.1; have g2 : (xi (E (64 * (v85_7.toNatClampNeg + 1) + 13)) 1).toInt = (xi (E (64 * (i + 1) + 14)) 2).toInt := q9.2.1; have g3 : (xi (E (64 * (v85_7.toNatClampNeg + 1) + 13)) 2).toInt ≤ a1.toInt := q9.2.2; omega) g9.1)).mpr q8.2⟩)) (by omega) hx85_3 (by first | exact ms_su hx85_4 ty88 (by decide) | omega) hI hKp hP hS (lv_sub hl [0, 2, 3, 4, 5, 6, 7, 8] rfl)
            · --136 not
              have t89 : (xi (E (64 * (v85_7.toNatClampNeg + 1) + 13)) 1).toInt = (xi (E (64 * (i + 1) + 14)) 2).toInt := ti_eq c86
              refine lv_aload hx hb dX2_statesOf_139 (lv_at hl 0 rfl) ?_
              have i90 : 0 ≤ (xi (E (64 * (v85_7.toNatClampNeg + 1) + 13)) 2).toInt ∧ (xi (E (64 * (v85_7.toNatClampNeg + 1) + 13)) 2).toInt ≤ 400 := hI0.iv (64 * (v85_7.toNatClampNeg + 1) + 13) (mP 13 v85_7.toNatClampNeg (by decide) lv79 (kl_le hC 4 (by decide))) (shC_p 13 v85_7.toNatClampNeg (by decide)) (Nat.le_of_ble_eq_true rfl) (spC_p 13 v85_7.toNatClampNeg (by decide) 2)
              refine th_getL (ci := 12) (C := RX11) (T := TX11) (N := 8) (v := .int (xi (E (64 * (v85_7.toNatClampNeg + 1) + 13)) 2)) hx hb hts hinX11 hown hK hP hI (64 * (v85_7.toNatClampNeg + 1) + 13) (mP 13 v85_7.toNatClampNeg (by decide) lv79 (kl_le hC 4 (by decide))) (shC_p 13 v85_7.toNatClampNeg (by decide)) rfl 2 (Nat.le_of_ble_eq_true rfl) (hts _ (vA_in _ _ (in_15 _ (zs16 (zs1 (zs0)))))) (fun _ h9 => h9) (th_v0L hKp hI0 (64 * (v85_7.toNatClampNeg + 1) + 13) (mP 13 v85_7.toNatClampNeg (by decide) lv79 (kl_le hC 4 (by decide))) (shC_p 13 v85_7.toNatClampNeg (by decide)) (Nat.le_of_ble_eq_true rfl) (spC_p 13 v85_7.toNatClampNeg (by decide) 2) (wl_p rfl rfl (by omega))) dX2_statesOf_141 ?_
              refine lv_iload_n hx hb dX2_statesOf_144 rfl (lv_at hl 8 rfl) ?_
              refine lv_icmp_le (tgt := 151) hx hb dX2_statesOf_145 (by decide) (fun c91 => ?_) (fun c91 => ?_)
              · --145 taken
                have t92 : (xi (E (64 * (v85_7.toNatClampNeg + 1) + 13)) 2).toInt ≤ a1.toInt := ti_le c91
                refine lv_aload_n hx hb dX2_statesOf_151 rfl (lv_at hl 5 rfl) ?_
                refine lv_iload_n hx hb dX2_statesOf_152 rfl (lv_at hl 7 rfl) ?_
                refine lv_aload hx hb dX2_statesOf_153 (lv_at hl 0 rfl) ?_
                refine lv_iload hx hb dX2_statesOf_155 (lv_at hl 3 rfl) ?_
                refine lv_aload hx hb dX2_statesOf_157 (lv_at hl 0 rfl) ?_
                have i93 : 0 ≤ (xi (E (64 * (v85_7.toNatClampNeg + 1) + 13)) 3).toInt ∧ (xi (E (64 * (v85_7.toNatClampNeg + 1) + 13)) 3).toInt ≤ 100000 := hI0.iv (64 * (v85_7.toNatClampNeg + 1) + 13) (mP 13 v85_7.toNatClampNeg (by decide) lv79 (kl_le hC 4 (by decide))) (shC_p 13 v85_7.toNatClampNeg (by decide)) (Nat.le_of_ble_eq_true rfl) (spC_p 13 v85_7.toNatClampNeg (by decide) 3)
                refine th_getL (ci := 12) (C := RX11) (T := TX11) (N := 8) (v := .int (xi (E (64 * (v85_7.toNatClampNeg + 1) + 13)) 3)) hx hb hts hinX11 hown hK hP hI (64 * (v85_7.toNatClampNeg + 1) + 13) (mP 13 v85_7.toNatClampNeg (by decide) lv79 (kl_le hC 4 (by decide))) (shC_p 13 v85_7.toNatClampNeg (by decide)) rfl 3 (Nat.le_of_ble_eq_true rfl) (hts _ (vA_in _ _ (in_15 _ (zs16 (zs1 (zs1 (zs0))))))) (fun _ h9 => h9) (th_v0L hKp hI0 (64 * (v85_7.toNatClampNeg + 1) + 13) (mP 13 v85_7.toNatClampNeg (by decide) lv79 (kl_le hC 4 (by decide))) (shC_p 13 v85_7.toNatClampNeg (by decide)) (Nat.le_of_ble_eq_true rfl) (spC_p 13 v85_7.toNatClampNeg (by decide) 3) (wl_p rfl rfl (by omega))) dX2_statesOf_159 ?_
                refine lv_aload_n hx hb dX2_statesOf_162 rfl (lv_at hl 6 rfl) ?_
                have i94 : 0 ≤ (xi (E (64 * (i + 1) + 14)) 3).toInt ∧ (xi (E (64 * (i + 1) + 14)) 3).toInt ≤ 100000 := hI0.iv (64 * (i + 1) + 14) (mP 14 i (by decide) hh0 (kl_le hC 5 (by decide))) (shC_p 14 i (by decide)) (Nat.le_of_ble_eq_true rfl) (spC_p 14 i (by decide) 3)
                refine th_getL (ci := 5) (C := RX4) (T := TX4) (N := 10) (v := .int (xi (E (64 * (i + 1) + 14)) 3)) hx hb hts hinX4 hown hK hP hI (64 * (i + 1) + 14) (mP 14 i (by decide) hh0 (kl_le hC 5 (by decide))) (shC_p 14 i (by decide)) rfl 3 (Nat.le_of_ble_eq_true rfl) (hts _ (vA_in _ _ (in_15 _ (zs16 (zs1 (zs1 (zs1 (zs0)))))))) (fun _ h9 => h9) (th_v0L hKp hI0 (64 * (i + 1) + 14) (mP 14 i (by decide) hh0 (kl_le hC 5 (by decide))) (shC_p 14 i (by decide)) (Nat.le_of_ble_eq_true rfl) (spC_p 14 i (by decide) 3) (wl_p rfl rfl (by omega))) dX2_statesOf_163 ?_
                refine th_pi (va_runSN (As := [.int (xi (E (64 * (v85_7.toNatClampNeg + 1) + 13)) 3), .int (xi (E (64 * (i + 1) + 14)) 3)]) (rest := [.int r9, .ref (ad (64 * (v85_7.toNatClampNeg + 1) + 13)), .int a0, .ref (ad 5)]) ⟨hx, hb, hml, hown, hts⟩ (q_capartX l (xi (E (64 * (v85_7.toNatClampNeg + 1) + 13)) 3) (xi (E (64 * (i + 1) + 14)) 3) (iv_w i93 (by decide)) (iv_w i94 (by decide))) ⟨va_cnB 2 hts (gi_0 (in_10 _ (zs4 (zs4 (zs4 (zs1 (zs1 (zs1 (zs0))))))))) rfl rfl rfl (hEV.1.1 _ (List.mem_of_getElem? (i := 4) rfl)) (hts _ (vA_in _ _ (in_4 _ (zs16 (zs4 (zs1 (zs1 (zs1 (zs0))))))))) hz_yX12_apart_2 ⟨Nat.le_of_ble_eq_true rfl, Nat.le_of_ble_eq_true rfl⟩, (hts _ (vA_in _ _ (in_13 _ (zs16 (zs4 (zs4 (zs1 (zs0)))))))), trivial⟩ ⟨fun _ _ _ _ q => q, fun _ _ _ => ⟨rfl, trivial⟩⟩ rfl rfl hl.1 rfl (lv_room (Nat.le_of_ble_eq_true rfl)) dX2_statesOf_166 ⟨Nat.le_of_ble_eq_true rfl, Nat.le_of_ble_eq_true rfl⟩) hS (fun r95 H1 locs1 hw hk1 hS => ?_)
                have hP := ub_keep hP hk1
                generalize H1 = H at hP hS ⊢
                generalize locs1 = locs at hS ⊢
                have f96 := hw
                have i97 : 0 ≤ r95.toInt ∧ r95.toInt ≤ 100000 := by have h9 := f96; unfold ab at h9; omega
                refine lv_imul hx hb dX2_statesOf_169 ?_
                refine lv_topi (fun y98 ey98 => ?_)
                obtain ⟨ty98, iy98⟩ := ti_mul (e := 0) (f := 900000) f10 i97 ey98 (by decide)
                have ty98 : y98.toInt = r9.toInt * r95.toInt := ty98
                have iy98 : 0 ≤ y98.toInt ∧ y98.toInt ≤ 900000 := iy98
                refine th_vL (va_runV (As := [.int a0, .ref (ad (64 * (v85_7.toNatClampNeg + 1) + 13)), .int y98]) (rest := []) ⟨hx, hb, hml, hown, hts⟩ (q_narrowX l dC dI cT cf hC ad E85_ H.size a0 y98 v85_7.toNatClampNeg hI (by omega) (iv_w i3 (by decide)) iy98) (cwV 3 hts (gi_V (in_15 _ (zs16 (zs4 (zs4 (zs4 (zs1 (zs0))))))) (in_15 _ (zs16 (zs4 (zs4 (zs4 (zs1 (zs1 (zs0)))))))) (in_15 _ (zs16 (zs4 (zs4 (zs4 (zs1 (zs1 (zs1 (zs0))))))))) (in_14 _ (zs16 (zs16 (zs0)))) (in_15 _ (zs16 (zs16 (zs0))))) rfl rfl rfl ⟨rfl, hz_yX2_narrow_3⟩ ⟨Nat.le_of_ble_eq_true rfl, Nat.le_of_ble_eq_true rfl⟩) ⟨HWL_bl, va_recv hK hP (ci := 3) (q0 := posL 5 (LC cf)) rfl (hI.ob 5 (mF 5 rfl) rfl), (HWL_wi hP hK (WL_D hD) hS hA hEV)⟩ rfl rfl hl.1 rfl (lv_room (Nat.le_of_ble_eq_true rfl)) dX2_statesOf_170 ⟨Nat.le_of_ble_eq_true rfl, Nat.le_of_ble_eq_true rfl⟩) (WL_D hD) hS hA (fun E100 H locs hw hP hS => ?_)
                obtain ⟨hI, kq101, hw⟩ := hw
                have hKb := hKp
                have hKp := hKp.tr kq101 (wl_sub rfl rfl)
                have f102 := hw
                have k103 : NarE E85_ E100 a0.toNatClampNeg (wcE E 4 v85_7.toNatClampNeg) (wcE E 5 v85_7.toNatClampNeg) (wcE E 6 v85_7.toNatClampNeg) y98.toInt := by have h9 := f102; rw [hKb.ei (64 * (v85_7.toNatClampNeg + 1) + 13) 4 (wl_p rfl rfl (by omega)), hKb.ei (64 * (v85_7.toNatClampNeg + 1) + 13) 5 (wl_p rfl rfl (by omega)), hKb.ei (64 * (v85_7.toNatClampNeg + 1) + 13) 6 (wl_p rfl rfl (by omega))] at h9; exact h9
                refine lv_aload hx hb dX2_statesOf_173 (lv_at hl 0 rfl) ?_
                refine th_getL (ci := 12) (C := RX11) (T := TX11) (N := 8) (v := .int (xi (E (64 * (v85_7.toNatClampNeg + 1) + 13)) 3)) hx hb hts hinX11 hown hK hP hI (64 * (v85_7.toNatClampNeg + 1) + 13) (mP 13 v85_7.toNatClampNeg (by decide) lv79 (kl_le hC 4 (by decide))) (shC_p 13 v85_7.toNatClampNeg (by decide)) rfl 3 (Nat.le_of_ble_eq_true rfl) (hts _ (vA_in _ _ (in_15 _ (zs16 (zs1 (zs1 (zs0))))))) (fun _ h9 => h9) (th_v0L hKp hI0 (64 * (v85_7.toNatClampNeg + 1) + 13) (mP 13 v85_7.toNatClampNeg (by decide) lv79 (kl_le hC 4 (by decide))) (shC_p 13 v85_7.toNatClampNeg (by decide)) (Nat.le_of_ble_eq_true rfl) (spC_p 13 v85_7.toNatClampNeg (by decide) 3) (wl_p rfl rfl (by omega))) dX2_statesOf_175 ?_
                refine lv_aload_n hx hb dX2_statesOf_178 rfl (lv_at hl 6 rfl) ?_
                refine th_getL (ci := 5) (C := RX4) (T := TX4) (N := 10) (v := .int (xi (E (64 * (i + 1) + 14)) 3)) hx hb hts hinX4 hown hK hP hI (64 * (i + 1) + 14) (mP 14 i (by decide) hh0 (kl_le hC 5 (by decide))) (shC_p 14 i (by decide)) rfl 3 (Nat.le_of_ble_eq_true rfl) (hts _ (vA_in _ _ (in_15 _ (zs16 (zs1 (zs1 (zs1 (zs0)))))))) (fun _ h9 => h9) (th_v0L hKp hI0 (64 * (i + 1) + 14) (mP 14 i (by decide) hh0 (kl_le hC 5 (by decide))) (shC_p 14 i (by decide)) (Nat.le_of_ble_eq_true rfl) (spC_p 14 i (by decide) 3) (wl_p rfl rfl (by omega))) dX2_statesOf_179 ?_
                refine lv_icmp_ne (tgt := 202) hx hb dX2_statesOf_182 (by decide) (fun c104 => ?_) (fun c104 => ?_)
                · --182 taken
                  have t105 : ¬ (xi (E (64 * (v85_7.toNatClampNeg + 1) + 13)) 3).toInt = (xi (E (64 * (i + 1) + 14)) 3).toInt := ti_ne c104
                  obtain ⟨y106, ey106⟩ : ∃ y : Int32, y = v85_7 + (1 : Int32) := ⟨_, rfl⟩
                  obtain ⟨ty106, iy106⟩ := ti_add (e := 1) (f := 200) i76 ln_1 ey106 (by decide)
                  have ty106 : y106.toInt = v85_7.toInt + 1 := ty106
                  have iy106 : 1 ≤ y106.toInt ∧ y106.toInt ≤ 200 := iy106
                  refine lv_iinc (v := y106) (lv' := [(7, .int y106), (8, .ref (ad (64 * (v85_7.toNatClampNeg + 1) + 13))), (6, .int v85_6), (5, .int r9), (4, .int (xi (E (64 * (i + 1) + 14)) 2)), (0, .ref (ad 5)), (1, .ref (ad (64 * (i + 1) + 14))), (2, .int a0), (3, .int a1)]) hx hb dX2_statesOf_202 hl (k := 1) rfl (by rw [ey106]; rfl) (by decide) rfl (fun ls hl => ?_)
                  refine lv_goto (tgt := 85) hx hb dX2_statesOf_205 (by decide) ?_
                  exact ih85 y106 v85_6 E100 _ _ _ (iv_w iy106 (by decide)) hv85_6 (hx85_0.take (show wOf (wcE E) (xi (E (64 * (i + 1) + 14)) 0).toInt (xi (E (64 * (i + 1) + 14)) 2).toInt a1.toInt v85_7.toNatClampNeg from ⟨show (xi (E (64 * (v85_7.toNatClampNeg + 1) + 13)) 0).toInt = _ by omega, show (xi (E (64 * (v85_7.toNatClampNeg + 1) + 13)) 1).toInt = _ by omega, show (xi (E (64 * (v85_7.toNatClampNeg + 1) + 13)) 2).toInt ≤ _ by omega⟩) k103 (by rw [ty98, f96]; rfl) (show ¬ (xi (E (64 * (v85_7.toNatClampNeg + 1) + 13)) 3).toInt = (xi (E (64 * (i + 1) + 14)) 3).toInt by omega) (congrArg vi (kq101 42 _ rfl)) (by rw [tn_, tn_]; omega)) (by rw [show y106.toNatClampNeg = v85_7.toNatClampNeg + 1 by rw [tn_, tn_]; omega]; exact hx85_1.imp (fun q8 => ⟨q8.1, fun q7 => q8.2 ((hrd_skip (fun g9 => absurd g9.2 (show ¬ (xi (E (64 * (v85_7.toNatClampNeg + 1) + 13)) 3).toInt = (xi (E (64 * (i + 1) + 14)) 3).toInt by omega))).mp q7)⟩) (fun q8 => ⟨q8.1, (hrd_skip (fun g9 => absurd g9.2 (show ¬ (xi (E (64 * (v85_7.toNatClampNeg + 1) + 13)) 3).toInt = (xi (E (64 * (i + 1) + 14)) 3).toInt by omega))).mpr q8.2⟩)) (by omega) (hx85_3.nar k103 (fun j9 => congrArg vi (kq101 42 j9 rfl))) (by first | exact ms_su hx85_4 ty106 (by decide) | omega) hI hKp hP hS (lv_sub hl [0, 2, 3, 4, 5, 6, 7, 8] rfl)
                · --182 not
                  have t107 : (xi (E (64 * (v85_7.toNatClampNeg + 1) + 13)) 3).toInt = (xi (E (64 * (i + 1) + 14)) 3).toInt := ti_eq c104
                  refine lv_iconst (v := 1) hx hb dX2_statesOf_185 (by decide) ?_
                  refine lv_istore (lv' := [(6, .int 1), (8, .ref (ad (64 * (v85_7.toNatClampNeg + 1) + 13))), (7, .int v85_7), (5, .int r9), (4, .int (xi (E (64 * (i + 1) + 14)) 2)), (0, .ref (ad 5)), (1, .ref (ad (64 * (i + 1) + 14))), (2, .int a0), (3, .int a1)]) hx hb dX2_statesOf_186 hl (by decide) rfl (fun ls hl => ?_)
                  refine lv_aload_n hx hb dX2_statesOf_188 rfl (lv_at hl 5 rfl) ?_
                  refine th_getL (ci := 3) (C := RX2) (T := TX2) (N := 10) (v := .ref (ad 42)) hx hb hts hinX2 hown hK hP hI 5 (mF 5 rfl) rfl rfl 5 (Nat.le_of_ble_eq_true rfl) (hts _ (vA_in _ _ (in_15 _ (zs4 (zs4 (zs4 (zs0))))))) (fun _ h9 => h9) (hI.fr 5 (mF 5 rfl) rfl (Nat.le_of_ble_eq_true rfl) 42 rfl) dX2_statesOf_189 ?_
                  refine lv_iload_n hx hb dX2_statesOf_192 rfl (lv_at hl 7 rfl) ?_
                  refine lv_dup2_11 hx hb dX2_statesOf_193 rfl rfl ?_
                  have n109 : vp_in a0 2 := (iv_in (n := 2) i3 (by decide))
                  refine th_ialdL hx hb hK hP hI 42 (mF 42 rfl) rfl rfl n109 dX2_statesOf_194 (fun y108 ey108 => ?_)
                  have iy108 : 0 ≤ y108.toInt ∧ y108.toInt ≤ 255 := hI.el 42 (mF 42 rfl) rfl n109 (fun _ => rfl) ey108
                  refine lv_aload hx hb dX2_statesOf_195 (lv_at hl 1 rfl) ?_
                  have i110 : 0 ≤ (xi (E (64 * (v85_7.toNatClampNeg + 1) + 13)) 7).toInt ∧ (xi (E (64 * (v85_7.toNatClampNeg + 1) + 13)) 7).toInt ≤ 255 := hI0.iv (64 * (v85_7.toNatClampNeg + 1) + 13) (mP 13 v85_7.toNatClampNeg (by decide) lv79 (kl_le hC 4 (by decide))) (shC_p 13 v85_7.toNatClampNeg (by decide)) (Nat.le_of_ble_eq_true rfl) (spC_p 13 v85_7.toNatClampNeg (by decide) 7)
                  refine th_getL (ci := 12) (C := RX11) (T := TX11) (N := 8) (v := .int (xi (E (64 * (v85_7.toNatClampNeg + 1) + 13)) 7)) hx hb hts hinX11 hown hK hP hI (64 * (v85_7.toNatClampNeg + 1) + 13) (mP 13 v85_7.toNatClampNeg (by decide) lv79 (kl_le hC 4 (by decide))) (shC_p 13 v85_7.toNatClampNeg (by decide)) rfl 7 (Nat.le_of_ble_eq_true rfl) (hts _ (vA_in _ _ (in_15 _ (zs16 (zs4 (zs0)))))) (fun _ h9 => h9) (th_v0L hKp hI0 (64 * (v85_7.toNatClampNeg + 1) + 13) (mP 13 v85_7.toNatClampNeg (by decide) lv79 (kl_le hC 4 (by decide))) (shC_p 13 v85_7.toNatClampNeg (by decide)) (Nat.le_of_ble_eq_true rfl) (spC_p 13 v85_7.toNatClampNeg (by decide) 7) (wl_p rfl rfl (by omega))) dX2_statesOf_197 ?_
                  refine lv_iand hx hb dX2_statesOf_200 ?_
                  refine lv_topi (fun y111 ey111 => ?_)
                  have iy111 : 0 ≤ y111.toInt ∧ y111.toInt ≤ 255 := by have h8 := i110; have h9 := ti_and (x := y108) (m := (xi (E (64 * (v85_7.toNatClampNeg + 1) + 13)) 7)) (by omega) ey111; omega
                  have n112 : vp_in a0 2 := (iv_in (n := 2) i3 (by decide))
                  refine th_iastL hx hb hK hP (WL_D hD) hS hI 42 (mF 42 rfl) rfl rfl n112 (okI rfl iy111) dX2_statesOf_201 (fun H locs E113 pw114 hI hP hS => ?_)
                  have hKp := hKp.pw pw114 rfl
                  obtain ⟨y115, ey115⟩ : ∃ y : Int32, y = v85_7 + (1 : Int32) := ⟨_, rfl⟩
                  obtain ⟨ty115, iy115⟩ := ti_add (e := 1) (f := 200) i76 ln_1 ey115 (by decide)
                  have ty115 : y115.toInt = v85_7.toInt + 1 := ty115
                  have iy115 : 1 ≤ y115.toInt ∧ y115.toInt ≤ 200 := iy115
                  refine lv_iinc (v := y115) (lv' := [(7, .int y115), (6, .int 1), (8, .ref (ad (64 * (v85_7.toNatClampNeg + 1) + 13))), (5, .int r9), (4, .int (xi (E (64 * (i + 1) + 14)) 2)), (0, .ref (ad 5)), (1, .ref (ad (64 * (i + 1) + 14))), (2, .int a0), (3, .int a1)]) hx hb dX2_statesOf_202 hl (k := 2) rfl (by rw [ey115]; rfl) (by decide) rfl (fun ls hl => ?_)
                  refine lv_goto (tgt := 85) hx hb dX2_statesOf_205 (by decide) ?_
                  exact ih85 y115 (1 : Int32) E113 _ _ _ (iv_w iy115 (by decide)) (iv_w ln_1 (by decide)) (hx85_0.takeD (show wOf (wcE E) (xi (E (64 * (i + 1) + 14)) 0).toInt (xi (E (64 * (i + 1) + 14)) 2).toInt a1.toInt v85_7.toNatClampNeg from ⟨show (xi (E (64 * (v85_7.toNatClampNeg + 1) + 13)) 0).toInt = _ by omega, show (xi (E (64 * (v85_7.toNatClampNeg + 1) + 13)) 1).toInt = _ by omega, show (xi (E (64 * (v85_7.toNatClampNeg + 1) + 13)) 2).toInt ≤ _ by omega⟩) k103 (by rw [ty98, f96]; rfl) (show (xi (E (64 * (v85_7.toNatClampNeg + 1) + 13)) 3).toInt = (xi (E (64 * (i + 1) + 14)) 3).toInt by omega) (fun o9 h9 g9 => congrArg vi (pw114.2 o9 _ (fun q9 => by omega))) (vi_e pw114.1) (show y111 = xi (E85_ 42) a0.toNatClampNeg &&& wdE E v85_7.toNatClampNeg from ey111.trans (by rw [ey108, show xi (E100 42) a0.toNatClampNeg = xi (E85_ 42) a0.toNatClampNeg from congrArg vi (kq101 42 _ rfl)]; rfl)) (by rw [tn_, tn_]; omega)) (by rw [show y115.toNatClampNeg = v85_7.toNatClampNeg + 1 by rw [tn_, tn_]; omega]; exact Or.inr ⟨by omega, hrd_take (show wOf (wcE E) (xi (E (64 * (i + 1) + 14)) 0).toInt (xi (E (64 * (i + 1) + 14)) 2).toInt a1.toInt v85_7.toNatClampNeg from ⟨show (xi (E (64 * (v85_7.toNatClampNeg + 1) + 13)) 0).toInt = _ by omega, show (xi (E (64 * (v85_7.toNatClampNeg + 1) + 13)) 1).toInt = _ by omega, show (xi (E (64 * (v85_7.toNatClampNeg + 1) + 13)) 2).toInt ≤ _ by omega⟩) (show (xi (E (64 * (v85_7.toNatClampNeg + 1) + 13)) 3).toInt = (xi (E (64 * (i + 1) + 14)) 3).toInt by omega)⟩) (by omega) ((hx85_3.nar k103 (fun j9 => congrArg vi (kq101 42 j9 rfl))).pw pw114 rfl) (by first | exact ms_su hx85_4 ty115 (by decide) | omega) hI hKp hP hS (lv_sub hl [0, 1, 3, 4, 5, 6, 7, 8] rfl)
              · --145 not
                have t116 : a1.toInt < (xi (E (64 * (v85_7.toNatClampNeg + 1) + 13)) 2).toInt := ti_nle c91
                have i117 : 0 ≤ a1.toInt ∧ a1.toInt ≤ 399 := iv_lt_l t116 hh2 i90 (by decide)
                have i118 : 1 ≤ (xi (E (64 * (v85_7.toNatClampNeg + 1) + 13)) 2).toInt ∧ (xi (E (64 * (v85_7.toNatClampNeg + 1) + 13)) 2).toInt ≤ 400 := iv_lt_r t116 hh2 i90 (by decide)
                refine lv_goto (tgt := 202) hx hb dX2_statesOf_148 (by decide) ?_
                obtain ⟨y119, ey119⟩ : ∃ y : Int32, y = v85_7 + (1 : Int32) := ⟨_, rfl⟩
                obtain ⟨ty119, iy119⟩ := ti_add (e := 1) (f := 200) i76 ln_1 ey119 (by decide)
                have ty119 : y119.toInt = v85_7.toInt + 1 := ty119
                have iy119 : 1 ≤ y119.toInt ∧ y119.toInt ≤ 200 := iy119
                refine lv_iinc (v := y119) (lv' := [(7, .int y119), (8, .ref (ad (64 * (v85_7.toNatClampNeg + 1) + 13))), (6, .int v85_6), (5, .int r9), (4, .int (xi (E (64 * (i + 1) + 14)) 2)), (0, .ref (ad 5)), (1, .ref (ad (64 * (i + 1) + 14))), (2, .int a0), (3, .int a1)]) hx hb dX2_statesOf_202 hl (k := 1) rfl (by rw [ey119]; rfl) (by decide) rfl (fun ls hl => ?_)
                refine lv_goto (tgt := 85) hx hb dX2_statesOf_205 (by decide) ?_
                exact ih85 y119 v85_6 E85_ _ _ _ (iv_w iy119 (by decide)) hv85_6 (hx85_0.skip (fun q9 => by have g1 : (xi (E (64 * (v85_7.toNatClampNeg + 1) + 13)) 0).toInt = (xi (E (64 * (i + 1) + 14)) 0).toInt := q9.1; have g2 : (xi (E (64 * (v85_7.toNatClampNeg + 1) + 13)) 1).toInt = (xi (E (64 * (i + 1) + 14)) 2).toInt := q9.2.1; have g3 : (xi (E (64 * (v85_7.toNatClampNeg + 1) + 13)) 2).toInt ≤ a1.toInt := q9.2.2; omega) (by rw [tn_, tn_]; omega)) (by rw [show y119.toNatClampNeg = v85_7.toNatClampNeg + 1 by rw [tn_, tn_]; omega]; exact hx85_1.imp (fun q8 => ⟨q8.1, fun q7 => q8.2 ((hrd_skip (fun g9 => (fun q9 => by have g1 : (xi (E (64 * (v85_7.toNatClampNeg + 1) + 13)) 0).toInt = (xi (E (64 * (i + 1) + 14)) 0).toInt := q9.1; have g2 : (xi (E (64 * (v85_7.toNatClampNeg + 1) + 13)) 1).toInt = (xi (E (64 * (i + 1) + 14)) 2).toInt := q9.2.1; have g3 : (xi (E (64 * (v85_7.toNatClampNeg + 1) + 13)) 2).toInt ≤ a1.toInt := q9.2.2; omega) g9.1)).mp q7)⟩) (fun q8 => ⟨q8.1, (hrd_skip (fun g9 => (fun q9 => by have g1 : (xi (E (64 * (v85_7.toNatClampNeg + 1) + 13)) 0).toInt = (xi (E (64 * (i + 1) + 14)) 0).toInt := q9.1; have g2 : (xi (E (64 * (v85_7.toNatClampNeg + 1) + 13)) 1).toInt = (xi (E (64 * (i + 1) + 14)) 2).toInt := q9.2.1; have g3 : (xi (E (64 * (v85_7.toNatClampNeg + 1) + 13)) 2).toInt ≤ a1.toInt := q9.2.2; omega) g9.1)).mpr q8.2⟩)) (by omega) hx85_3 (by first | exact ms_su hx85_4 ty119 (by decide) | omega) hI hKp hP hS (lv_sub hl [0, 2, 3, 4, 5, 6, 7, 8] rfl)
    exact hL85 (201) (0 : Int32) (0 : Int32) E26 _ _ _ (iv_w ln_0 (by decide)) (iv_w ln_0 (by decide)) (StC.start (by rw [show xi (E26 38) a0.toNatClampNeg = (0 : Int32) from (congrArg vi (pw27.2 38 a0.toNatClampNeg (fun q9 => absurd q9.1 (by decide)))).trans ((congrArg vi (pw24.2 38 a0.toNatClampNeg (fun q9 => absurd q9.1 (by decide)))).trans ((congrArg vi (pw21.2 38 a0.toNatClampNeg (fun q9 => absurd q9.1 (by decide)))).trans ((congrArg vi (pw18.2 38 a0.toNatClampNeg (fun q9 => absurd q9.1 (by decide)))).trans (vi_e pw15.1))))]; rfl) (by rw [show xi (E26 39) a0.toNatClampNeg = (99 : Int32) from (congrArg vi (pw27.2 39 a0.toNatClampNeg (fun q9 => absurd q9.1 (by decide)))).trans ((congrArg vi (pw24.2 39 a0.toNatClampNeg (fun q9 => absurd q9.1 (by decide)))).trans (vi_e pw21.1))]; rfl) (by rw [show xi (E26 40) a0.toNatClampNeg = (0 : Int32) from (congrArg vi (pw27.2 40 a0.toNatClampNeg (fun q9 => absurd q9.1 (by decide)))).trans ((congrArg vi (pw24.2 40 a0.toNatClampNeg (fun q9 => absurd q9.1 (by decide)))).trans ((congrArg vi (pw21.2 40 a0.toNatClampNeg (fun q9 => absurd q9.1 (by decide)))).trans (vi_e pw18.1)))]; rfl) (by rw [show xi (E26 41) a0.toNatClampNeg = (99 : Int32) from (congrArg vi (pw27.2 41 a0.toNatClampNeg (fun q9 => absurd q9.1 (by decide)))).trans (vi_e pw24.1)]; rfl) (vi_e pw27.1)) (Or.inl ⟨rfl, hrd_0⟩) (by omega) ((((((OthE.rf.pw pw15 rfl).pw pw18 rfl).pw pw21 rfl).pw pw24 rfl).pw pw27 rfl)) (by have h9 := ln_0; first | exact ms_bu h9.1 (by decide) | omega) hI hKp hP hS (lv_sub hl [0, 1, 2, 3, 4, 5, 6, 7] rfl)
  · --1 not
    have t120 : a0.toInt = 0 := ti_eq c1
    have i121 : 0 ≤ a0.toInt ∧ a0.toInt ≤ 0 := iv_eqi t120 hh1 (il_ 0) (by decide)
    refine lv_aload_n hx hb dX2_statesOf_4 rfl (lv_at hl 1 rfl) ?_
    have i122 : 0 ≤ (xi (E (64 * (i + 1) + 14)) 1).toInt ∧ (xi (E (64 * (i + 1) + 14)) 1).toInt ≤ 15 := hI0.iv (64 * (i + 1) + 14) (mP 14 i (by decide) hh0 (kl_le hC 5 (by decide))) (shC_p 14 i (by decide)) (Nat.le_of_ble_eq_true rfl) (spC_p 14 i (by decide) 1)
    refine th_getL (ci := 5) (C := RX4) (T := TX4) (N := 10) (v := .int (xi (E (64 * (i + 1) + 14)) 1)) hx hb hts hinX4 hown hK hP hI (64 * (i + 1) + 14) (mP 14 i (by decide) hh0 (kl_le hC 5 (by decide))) (shC_p 14 i (by decide)) rfl 1 (Nat.le_of_ble_eq_true rfl) (hts _ (vA_in _ _ (in_15 _ (zs4 (zs4 (zs1 (zs1 (zs0)))))))) (fun _ h9 => h9) (th_v0L hKp hI0 (64 * (i + 1) + 14) (mP 14 i (by decide) hh0 (kl_le hC 5 (by decide))) (shC_p 14 i (by decide)) (Nat.le_of_ble_eq_true rfl) (spC_p 14 i (by decide) 1) (wl_p rfl rfl (by omega))) dX2_statesOf_5 ?_
    refine lv_goto (tgt := 15) hx hb dX2_statesOf_8 (by decide) ?_
    refine lv_istore (lv' := [(4, .int (xi (E (64 * (i + 1) + 14)) 1)), (0, .ref (ad 5)), (1, .ref (ad (64 * (i + 1) + 14))), (2, .int a0), (3, .int a1)]) hx hb dX2_statesOf_15 hl (by decide) rfl (fun ls hl => ?_)
    refine lv_aload_n hx hb dX2_statesOf_17 rfl (lv_at hl 1 rfl) ?_
    refine th_getL (ci := 3) (C := RX2) (T := TX2) (N := 10) (v := .ref (ad 1)) hx hb hts hinX2 hown hK hP hI 5 (mF 5 rfl) rfl rfl 0 (Nat.le_of_ble_eq_true rfl) (hts _ (vA_in _ _ (in_14 _ (zs16 (zs16 (zs1 (zs1 (zs0)))))))) (fun _ h9 => h9) (hI.fr 5 (mF 5 rfl) rfl (Nat.le_of_ble_eq_true rfl) 1 rfl) dX2_statesOf_18 ?_
    refine th_getL (ci := 1) (C := RX0) (T := TX0) (N := 11) (v := .ref (ad 9)) hx hb hts hinX0 hown hK hP hI 1 (mF 1 rfl) rfl rfl 5 (Nat.le_of_ble_eq_true rfl) (hts _ (vA_in _ _ (in_14 _ (zs16 (zs16 (zs1 (zs1 (zs1 (zs0))))))))) (fun _ h9 => h9) (hI.fr 1 (mF 1 rfl) rfl (Nat.le_of_ble_eq_true rfl) 9 rfl) dX2_statesOf_21 ?_
    refine lv_aload_n hx hb dX2_statesOf_24 rfl (lv_at hl 2 rfl) ?_
    have j124 : 0 ≤ (xi (E (64 * (i + 1) + 14)) 0).toInt ∧ (xi (E (64 * (i + 1) + 14)) 0).toInt ≤ ((cf 2 : Nat) : Int) - 1 := hI0.iv (64 * (i + 1) + 14) (mP 14 i (by decide) hh0 (kl_le hC 5 (by decide))) (shC_p 14 i (by decide)) (Nat.le_of_ble_eq_true rfl) (spC_p 14 i (by decide) 0)
    have i123 : 0 ≤ (xi (E (64 * (i + 1) + 14)) 0).toInt ∧ (xi (E (64 * (i + 1) + 14)) 0).toInt ≤ 19 := by omega
    refine th_getL (ci := 5) (C := RX4) (T := TX4) (N := 10) (v := .int (xi (E (64 * (i + 1) + 14)) 0)) hx hb hts hinX4 hown hK hP hI (64 * (i + 1) + 14) (mP 14 i (by decide) hh0 (kl_le hC 5 (by decide))) (shC_p 14 i (by decide)) rfl 0 (Nat.le_of_ble_eq_true rfl) (hts _ (vA_in _ _ (in_14 _ (zs16 (zs16 (zs4 (zs0))))))) (fun _ h9 => h9) (th_v0L hKp hI0 (64 * (i + 1) + 14) (mP 14 i (by decide) hh0 (kl_le hC 5 (by decide))) (shC_p 14 i (by decide)) (Nat.le_of_ble_eq_true rfl) (spC_p 14 i (by decide) 0) (wl_p rfl rfl (by omega))) dX2_statesOf_25 ?_
    refine th_rrL (va_runV (As := [.int (xi (E (64 * (i + 1) + 14)) 0)]) (rest := []) ⟨hx, hb, hml, hown, hts⟩ (q_get2 l dC dI cT cf hC ad E s.heap.size (xi (E (64 * (i + 1) + 14)) 0) hI (by omega)) (cwV 1 hts (gi_V (in_15 _ (zs16 (zs4 (zs1 (zs0))))) (in_4 _ (zs16 (zs16 (zs4 (zs1 (zs1 (zs0))))))) (in_4 _ (zs16 (zs16 (zs4 (zs1 (zs1 (zs1 (zs0)))))))) (in_3 _ (zs16 (zs1 (zs1 (zs0))))) (in_3 _ (zs16 (zs16 (zs4 (zs1 (zs1 (zs1 (zs0))))))))) rfl rfl rfl ⟨rfl, hz_yJx4a65c_get_915e3_1⟩ ⟨Nat.le_of_ble_eq_true rfl, Nat.le_of_ble_eq_true rfl⟩) ⟨HWL_bl, va_recv hK hP (ci := 0) (q0 := posL 9 (LC cf)) rfl (hI.ob 9 (mF 9 rfl) rfl), (HWL_wi hP hK (WL_D hD) hS hA hEV)⟩ rfl rfl hl.1 rfl (lv_room (Nat.le_of_ble_eq_true rfl)) dX2_statesOf_28 ⟨Nat.le_of_ble_eq_true rfl, Nat.le_of_ble_eq_true rfl⟩) hS hP (fun r125 H locs hw hP hS => ?_)
    obtain rfl := hw
    have lv126 : (xi (E (64 * (i + 1) + 14)) 0).toNatClampNeg < cf 2 := by rw [tn_]; omega
    refine va_castS (cC := dC 6) hx hb hown (hts _ (vA_in _ _ (in_14 _ (zs16 (zs16 (zs4 (zs1 (zs0)))))))) (hK.1 6 _ rfl).2 (va_recv hK hP (ci := 6) (q0 := posL (64 * ((xi (E (64 * (i + 1) + 14)) 0).toNatClampNeg + 1) + 6) (LC cf)) rfl (hI.ob (64 * ((xi (E (64 * (i + 1) + 14)) 0).toNatClampNeg + 1) + 6) (mP 6 ((xi (E (64 * (i + 1) + 14)) 0).toNatClampNeg) (by decide) lv126 (kl_le hC 2 (by decide))) (shC_p 6 ((xi (E (64 * (i + 1) + 14)) 0).toNatClampNeg) (by decide)))) dX2_statesOf_31 ?_
    refine lv_iload_n hx hb dX2_statesOf_34 rfl (lv_at hl 4 rfl) ?_
    refine th_riL (va_runV (As := [.int a1]) (rest := []) ⟨hx, hb, hml, hown, hts⟩ (q_swiftInX l dC dI cT cf hC ad E H.size a1 ((xi (E (64 * (i + 1) + 14)) 0).toNatClampNeg) hI (by omega) hh2) (cwV 1 hts (gi_V (in_15 _ (zs16 (zs4 (zs1 (zs1 (zs0)))))) (in_15 _ (zs16 (zs4 (zs1 (zs1 (zs1 (zs0))))))) (in_15 _ (zs16 (zs4 (zs4 (zs0))))) (in_6 _ (zs16 (zs1 (zs0)))) (in_15 _ (zs16 (zs4 (zs4 (zs1 (zs0))))))) rfl rfl rfl ⟨rfl, hz_yX5_swiftIn_1⟩ ⟨Nat.le_of_ble_eq_true rfl, Nat.le_of_ble_eq_true rfl⟩) ⟨HWL_bl, va_recv hK hP (ci := 6) (q0 := posL (64 * ((xi (E (64 * (i + 1) + 14)) 0).toNatClampNeg + 1) + 6) (LC cf)) rfl (hI.ob (64 * ((xi (E (64 * (i + 1) + 14)) 0).toNatClampNeg + 1) + 6) (mP 6 ((xi (E (64 * (i + 1) + 14)) 0).toNatClampNeg) (by decide) lv126 (kl_le hC 2 (by decide))) (shC_p 6 ((xi (E (64 * (i + 1) + 14)) 0).toNatClampNeg) (by decide))), (HWL_wi hP hK (WL_D hD) hS hA hEV)⟩ rfl rfl hl.1 rfl (lv_room (Nat.le_of_ble_eq_true rfl)) dX2_statesOf_35 ⟨Nat.le_of_ble_eq_true rfl, Nat.le_of_ble_eq_true rfl⟩) hS hP (fun r127 H locs hw hP hS => ?_)
    obtain ⟨f128, f129⟩ := hw
    have k130 : SWq E (xi (E (64 * (i + 1) + 14)) 0).toNatClampNeg a1.toInt r127 := f129
    refine lv_istore (lv' := [(5, .int r127), (4, .int (xi (E (64 * (i + 1) + 14)) 1)), (0, .ref (ad 5)), (1, .ref (ad (64 * (i + 1) + 14))), (2, .int a0), (3, .int a1)]) hx hb dX2_statesOf_38 hl (by decide) rfl (fun ls hl => ?_)
    refine lv_iconst (v := 0) hx hb dX2_statesOf_40 (by decide) ?_
    refine lv_istore (lv' := [(6, .int 0), (5, .int r127), (4, .int (xi (E (64 * (i + 1) + 14)) 1)), (0, .ref (ad 5)), (1, .ref (ad (64 * (i + 1) + 14))), (2, .int a0), (3, .int a1)]) hx hb dX2_statesOf_41 hl (by decide) rfl (fun ls hl => ?_)
    refine lv_aload_n hx hb dX2_statesOf_43 rfl (lv_at hl 3 rfl) ?_
    refine th_getL (ci := 3) (C := RX2) (T := TX2) (N := 10) (v := .ref (ad 38)) hx hb hts hinX2 hown hK hP hI 5 (mF 5 rfl) rfl rfl 1 (Nat.le_of_ble_eq_true rfl) (hts _ (vA_in _ _ (in_15 _ (zs1 (zs1 (zs0)))))) (fun _ h9 => h9) (hI.fr 5 (mF 5 rfl) rfl (Nat.le_of_ble_eq_true rfl) 38 rfl) dX2_statesOf_44 ?_
    refine lv_iload_n hx hb dX2_statesOf_47 rfl (lv_at hl 5 rfl) ?_
    refine lv_iconst (v := 0) hx hb dX2_statesOf_48 (by decide) ?_
    have n131 : vp_in a0 2 := (iv_in (n := 2) i121 (by decide))
    refine th_iastL hx hb hK hP (WL_D hD) hS hI 38 (mF 38 rfl) rfl rfl n131 (okI rfl (iv_w ln_0 (by decide))) dX2_statesOf_49 (fun H locs E132 pw133 hI hP hS => ?_)
    have hKp := hKp.pw pw133 rfl
    refine lv_aload_n hx hb dX2_statesOf_50 rfl (lv_at hl 3 rfl) ?_
    refine th_getL (ci := 3) (C := RX2) (T := TX2) (N := 10) (v := .ref (ad 40)) hx hb hts hinX2 hown hK hP hI 5 (mF 5 rfl) rfl rfl 3 (Nat.le_of_ble_eq_true rfl) (hts _ (vA_in _ _ (in_15 _ (zs4 (zs0))))) (fun _ h9 => h9) (hI.fr 5 (mF 5 rfl) rfl (Nat.le_of_ble_eq_true rfl) 40 rfl) dX2_statesOf_51 ?_
    refine lv_iload_n hx hb dX2_statesOf_54 rfl (lv_at hl 5 rfl) ?_
    refine lv_iconst (v := 0) hx hb dX2_statesOf_55 (by decide) ?_
    have n134 : vp_in a0 2 := (iv_in (n := 2) i121 (by decide))
    refine th_iastL hx hb hK hP (WL_D hD) hS hI 40 (mF 40 rfl) rfl rfl n134 (okI rfl (iv_w ln_0 (by decide))) dX2_statesOf_56 (fun H locs E135 pw136 hI hP hS => ?_)
    have hKp := hKp.pw pw136 rfl
    refine lv_aload_n hx hb dX2_statesOf_57 rfl (lv_at hl 3 rfl) ?_
    refine th_getL (ci := 3) (C := RX2) (T := TX2) (N := 10) (v := .ref (ad 39)) hx hb hts hinX2 hown hK hP hI 5 (mF 5 rfl) rfl rfl 2 (Nat.le_of_ble_eq_true rfl) (hts _ (vA_in _ _ (in_15 _ (zs1 (zs1 (zs1 (zs0))))))) (fun _ h9 => h9) (hI.fr 5 (mF 5 rfl) rfl (Nat.le_of_ble_eq_true rfl) 39 rfl) dX2_statesOf_58 ?_
    refine lv_iload_n hx hb dX2_statesOf_61 rfl (lv_at hl 5 rfl) ?_
    refine lv_bipush (v := 99) hx hb dX2_statesOf_62 (by decide) ?_
    have n137 : vp_in a0 2 := (iv_in (n := 2) i121 (by decide))
    refine th_iastL hx hb hK hP (WL_D hD) hS hI 39 (mF 39 rfl) rfl rfl n137 (okI rfl (iv_w ln_99 (by decide))) dX2_statesOf_64 (fun H locs E138 pw139 hI hP hS => ?_)
    have hKp := hKp.pw pw139 rfl
    refine lv_aload_n hx hb dX2_statesOf_65 rfl (lv_at hl 3 rfl) ?_
    refine th_getL (ci := 3) (C := RX2) (T := TX2) (N := 10) (v := .ref (ad 41)) hx hb hts hinX2 hown hK hP hI 5 (mF 5 rfl) rfl rfl 4 (Nat.le_of_ble_eq_true rfl) (hts _ (vA_in _ _ (in_15 _ (zs4 (zs1 (zs0)))))) (fun _ h9 => h9) (hI.fr 5 (mF 5 rfl) rfl (Nat.le_of_ble_eq_true rfl) 41 rfl) dX2_statesOf_66 ?_
    refine lv_iload_n hx hb dX2_statesOf_69 rfl (lv_at hl 5 rfl) ?_
    refine lv_bipush (v := 99) hx hb dX2_statesOf_70 (by decide) ?_
    have n140 : vp_in a0 2 := (iv_in (n := 2) i121 (by decide))
    refine th_iastL hx hb hK hP (WL_D hD) hS hI 41 (mF 41 rfl) rfl rfl n140 (okI rfl (iv_w ln_99 (by decide))) dX2_statesOf_72 (fun H locs E141 pw142 hI hP hS => ?_)
    have hKp := hKp.pw pw142 rfl
    refine lv_aload_n hx hb dX2_statesOf_73 rfl (lv_at hl 3 rfl) ?_
    refine th_getL (ci := 3) (C := RX2) (T := TX2) (N := 10) (v := .ref (ad 42)) hx hb hts hinX2 hown hK hP hI 5 (mF 5 rfl) rfl rfl 5 (Nat.le_of_ble_eq_true rfl) (hts _ (vA_in _ _ (in_15 _ (zs4 (zs4 (zs4 (zs0))))))) (fun _ h9 => h9) (hI.fr 5 (mF 5 rfl) rfl (Nat.le_of_ble_eq_true rfl) 42 rfl) dX2_statesOf_74 ?_
    refine lv_iload_n hx hb dX2_statesOf_77 rfl (lv_at hl 5 rfl) ?_
    refine lv_sipush (v := 255) hx hb dX2_statesOf_78 (by decide) ?_
    have n143 : vp_in a0 2 := (iv_in (n := 2) i121 (by decide))
    refine th_iastL hx hb hK hP (WL_D hD) hS hI 42 (mF 42 rfl) rfl rfl n143 (okI rfl (iv_w ln_255 (by decide))) dX2_statesOf_81 (fun H locs E144 pw145 hI hP hS => ?_)
    have hKp := hKp.pw pw145 rfl
    refine lv_iconst (v := 0) hx hb dX2_statesOf_82 (by decide) ?_
    refine lv_istore (lv' := [(7, .int 0), (6, .int 0), (5, .int r127), (4, .int (xi (E (64 * (i + 1) + 14)) 1)), (0, .ref (ad 5)), (1, .ref (ad (64 * (i + 1) + 14))), (2, .int a0), (3, .int a1)]) hx hb dX2_statesOf_83 hl (by decide) rfl (fun ls hl => ?_)
    have hL85 : ∀ d : Nat, ∀ (v85_7 : Int32) (v85_6 : Int32) (E85_ : Nat → va_E) (H : Heap) (locs : List Loc) (ls : Array Slot), 0 ≤ v85_7.toInt ∧ v85_7.toInt ≤ 200 → 0 ≤ v85_6.toInt ∧ v85_6.toInt ≤ 1 → StC (wcE E) (wdE E) v85_7.toNatClampNeg (xi (E (64 * (i + 1) + 14)) 0).toInt (xi (E (64 * (i + 1) + 14)) 1).toInt a1.toInt (xi (E (64 * (i + 1) + 14)) 3).toInt r127.toInt E85_ a0.toNatClampNeg → ((v85_6.toInt = 0 ∧ ¬ hrd (wcE E) v85_7.toNatClampNeg (xi (E (64 * (i + 1) + 14)) 0).toInt (xi (E (64 * (i + 1) + 14)) 1).toInt a1.toInt (xi (E (64 * (i + 1) + 14)) 3).toInt) ∨ (v85_6.toInt = 1 ∧ hrd (wcE E) v85_7.toNatClampNeg (xi (E (64 * (i + 1) + 14)) 0).toInt (xi (E (64 * (i + 1) + 14)) 1).toInt a1.toInt (xi (E (64 * (i + 1) + 14)) 3).toInt)) → v85_7.toInt ≤ ((cf 4 : Nat) : Int) → OthE E E85_ a0.toNatClampNeg → 200 - v85_7.toInt < (d : Int) → IXL cT (shC cf) (spC cf) (LC cf) ad E85_ → Kp w_statesOfX E E85_ → va_P (dC, dI) vwCl (WL (LC cf) ad E85_) H → va_S A s.heap H locs → lv_has ls 9 [(7, .int v85_7), (6, .int v85_6), (5, .int r127), (4, .int (xi (E (64 * (i + 1) + 14)) 1)), (0, .ref (ad 5)), (1, .ref (ad (64 * (i + 1) + 14))), (2, .int a0), (3, .int a1)] → W p l e (headSpec v_statesOfX rm_statesOfX).room s m args below meth c H locs 0 0 Q (F0 m 85 ls []) := by
      intro d
      induction d with
      | zero =>
        intro v85_7 v85_6 E85_ H locs ls hv85_7 hv85_6 hx85_0 hx85_1 hx85_2 hx85_3 hx85_4 hI hKp hP hS hl
        exact absurd hx85_4 (by first | exact ms_zu hv85_7.2 | omega)
      | succ d ih85 =>
        intro v85_7 v85_6 E85_ H locs ls hv85_7 hv85_6 hx85_0 hx85_1 hx85_2 hx85_3 hx85_4 hI hKp hP hS hl
        refine lv_iload hx hb dX2_statesOf_85 (lv_at hl 0 rfl) ?_
        refine lv_aload_n hx hb dX2_statesOf_87 rfl (lv_at hl 4 rfl) ?_
        refine th_getL (ci := 3) (C := RX2) (T := TX2) (N := 10) (v := .ref (ad 1)) hx hb hts hinX2 hown hK hP hI 5 (mF 5 rfl) rfl rfl 0 (Nat.le_of_ble_eq_true rfl) (hts _ (vA_in _ _ (in_14 _ (zs16 (zs16 (zs1 (zs1 (zs0)))))))) (fun _ h9 => h9) (hI.fr 5 (mF 5 rfl) rfl (Nat.le_of_ble_eq_true rfl) 1 rfl) dX2_statesOf_88 ?_
        refine th_getL (ci := 1) (C := RX0) (T := TX0) (N := 11) (v := .ref (ad 11)) hx hb hts hinX0 hown hK hP hI 1 (mF 1 rfl) rfl rfl 7 (Nat.le_of_ble_eq_true rfl) (hts _ (vA_in _ _ (in_15 _ (zs4 (zs4 (zs4 (zs1 (zs0)))))))) (fun _ h9 => h9) (hI.fr 1 (mF 1 rfl) rfl (Nat.le_of_ble_eq_true rfl) 11 rfl) dX2_statesOf_91 ?_
        refine th_riL (va_runV (As := []) (rest := [.int v85_7]) ⟨hx, hb, hml, hown, hts⟩ (q_size4 l dC dI cT cf hC ad E85_ H.size hI) (cwV 0 hts (gi_V (in_15 _ (zs16 (zs4 (zs4 (zs4 (zs0)))))) (in_4 _ (zs16 (zs16 (zs1 (zs1 (zs1 (zs0))))))) (in_4 _ (zs16 (zs16 (zs4 (zs0))))) (in_3 _ (zs16 (zs1 (zs1 (zs0))))) (in_4 _ (zs16 (zs1 (zs1 (zs1 (zs0))))))) rfl rfl rfl ⟨rfl, hz_yJx4a65c_size_8abf5_0⟩ ⟨Nat.le_of_ble_eq_true rfl, Nat.le_of_ble_eq_true rfl⟩) ⟨HWL_bl, va_recv hK hP (ci := 0) (q0 := posL 11 (LC cf)) rfl (hI.ob 11 (mF 11 rfl) rfl), (HWL_wi hP hK (WL_D hD) hS hA hEV)⟩ rfl rfl hl.1 rfl (lv_room (Nat.le_of_ble_eq_true rfl)) dX2_statesOf_94 ⟨Nat.le_of_ble_eq_true rfl, Nat.le_of_ble_eq_true rfl⟩) hS hP (fun r146 H locs hw hP hS => ?_)
        obtain ⟨f147, f148⟩ := hw
        refine lv_icmp_ge (tgt := 208) hx hb dX2_statesOf_97 (by decide) (fun c149 => ?_) (fun c149 => ?_)
        · --97 taken
          have t150 : r146.toInt ≤ v85_7.toInt := ti_le c149
          refine lv_iload hx hb dX2_statesOf_208 (lv_at hl 1 rfl) ?_
          refine lv_if_eq (tgt := 243) hx hb dX2_statesOf_210 (by decide) (fun c151 => ?_) (fun c151 => ?_)
          · --210 taken
            have t152 : v85_6.toInt = 0 := ti_eq c151
            have i153 : 0 ≤ v85_6.toInt ∧ v85_6.toInt ≤ 0 := iv_eqi t152 hv85_6 (il_ 0) (by decide)
            refine lv_iconst (v := 0) hx hb dX2_statesOf_243 (by decide) ?_
            rw [hQ]
            exact W.iret (v := 0) hx hb hr (fun t ht hW => ⟨⟨0, E85_, rfl, ⟨hI, hKp, ⟨r127, k130, by rw [show (if a0.toInt = 0 then pA E i 1 else pA E i 2) = (xi (E (64 * (i + 1) + 14)) 1).toInt from (if_pos (by omega))]; exact ⟨by rw [show v85_7.toNatClampNeg = cf 4 by rw [tn_]; omega] at hx85_0; exact hx85_0, by rw [show v85_7.toNatClampNeg = cf 4 by rw [tn_]; omega] at hx85_0 hx85_1; exact StC.z1 (hx85_1.elim (fun q9 => q9.2) (fun q9 => by omega)), hx85_3⟩⟩⟩, by show va_P (dC, dI) vwCl (WL (LC cf) ad E85_) t.heap; rw [ht]; exact hP⟩, hS.F ht⟩) hS.2.2 dX2_statesOf_244
          · --210 not
            have t154 : ¬ v85_6.toInt = 0 := ti_ne c151
            have i155 : 1 ≤ v85_6.toInt ∧ v85_6.toInt ≤ 1 := iv_ne_l t154 hv85_6 (il_ 0)
            refine lv_aload_n hx hb dX2_statesOf_213 rfl (lv_at hl 4 rfl) ?_
            refine th_getL (ci := 3) (C := RX2) (T := TX2) (N := 10) (v := .ref (ad 38)) hx hb hts hinX2 hown hK hP hI 5 (mF 5 rfl) rfl rfl 1 (Nat.le_of_ble_eq_true rfl) (hts _ (vA_in _ _ (in_15 _ (zs1 (zs1 (zs0)))))) (fun _ h9 => h9) (hI.fr 5 (mF 5 rfl) rfl (Nat.le_of_ble_eq_true rfl) 38 rfl) dX2_statesOf_214 ?_
            refine lv_iload_n hx hb dX2_statesOf_217 rfl (lv_at hl 6 rfl) ?_
            have n157 : vp_in a0 2 := (iv_in (n := 2) i121 (by decide))
            refine th_ialdL hx hb hK hP hI 38 (mF 38 rfl) rfl rfl n157 dX2_statesOf_218 (fun y156 ey156 => ?_)
            have iy156 : 0 ≤ y156.toInt ∧ y156.toInt ≤ 99 := hI.el 38 (mF 38 rfl) rfl n157 (fun _ => rfl) ey156
            refine lv_aload_n hx hb dX2_statesOf_219 rfl (lv_at hl 4 rfl) ?_
            refine th_getL (ci := 3) (C := RX2) (T := TX2) (N := 10) (v := .ref (ad 39)) hx hb hts hinX2 hown hK hP hI 5 (mF 5 rfl) rfl rfl 2 (Nat.le_of_ble_eq_true rfl) (hts _ (vA_in _ _ (in_15 _ (zs1 (zs1 (zs1 (zs0))))))) (fun _ h9 => h9) (hI.fr 5 (mF 5 rfl) rfl (Nat.le_of_ble_eq_true rfl) 39 rfl) dX2_statesOf_220 ?_
            refine lv_iload_n hx hb dX2_statesOf_223 rfl (lv_at hl 6 rfl) ?_
            have n159 : vp_in a0 2 := (iv_in (n := 2) i121 (by decide))
            refine th_ialdL hx hb hK hP hI 39 (mF 39 rfl) rfl rfl n159 dX2_statesOf_224 (fun y158 ey158 => ?_)
            have iy158 : 0 ≤ y158.toInt ∧ y158.toInt ≤ 99 := hI.el 39 (mF 39 rfl) rfl n159 (fun _ => rfl) ey158
            refine lv_icmp_gt (tgt := 243) hx hb dX2_statesOf_225 (by decide) (fun c160 => ?_) (fun c160 => ?_)
            · --225 taken
              have t161 : y158.toInt < y156.toInt := ti_lt c160
              have i162 : 0 ≤ y158.toInt ∧ y158.toInt ≤ 98 := iv_lt_l t161 iy158 iy156 (by decide)
              have i163 : 1 ≤ y156.toInt ∧ y156.toInt ≤ 99 := iv_lt_r t161 iy158 iy156 (by decide)
              refine lv_iconst (v := 0) hx hb dX2_statesOf_243 (by decide) ?_
              rw [hQ]
              exact W.iret (v := 0) hx hb hr (fun t ht hW => ⟨⟨0, E85_, rfl, ⟨hI, hKp, ⟨r127, k130, by rw [show (if a0.toInt = 0 then pA E i 1 else pA E i 2) = (xi (E (64 * (i + 1) + 14)) 1).toInt from (if_pos (by omega))]; exact ⟨by rw [show v85_7.toNatClampNeg = cf 4 by rw [tn_]; omega] at hx85_0; exact hx85_0, by rw [show v85_7.toNatClampNeg = cf 4 by rw [tn_]; omega] at hx85_0 hx85_1; exact hx85_0.z2 (Or.inl (by rw [← ey158, ← ey156]; omega)), hx85_3⟩⟩⟩, by show va_P (dC, dI) vwCl (WL (LC cf) ad E85_) t.heap; rw [ht]; exact hP⟩, hS.F ht⟩) hS.2.2 dX2_statesOf_244
            · --225 not
              have t164 : y156.toInt ≤ y158.toInt := ti_nlt c160
              refine lv_aload_n hx hb dX2_statesOf_228 rfl (lv_at hl 4 rfl) ?_
              refine th_getL (ci := 3) (C := RX2) (T := TX2) (N := 10) (v := .ref (ad 40)) hx hb hts hinX2 hown hK hP hI 5 (mF 5 rfl) rfl rfl 3 (Nat.le_of_ble_eq_true rfl) (hts _ (vA_in _ _ (in_15 _ (zs4 (zs0))))) (fun _ h9 => h9) (hI.fr 5 (mF 5 rfl) rfl (Nat.le_of_ble_eq_true rfl) 40 rfl) dX2_statesOf_229 ?_
              refine lv_iload_n hx hb dX2_statesOf_232 rfl (lv_at hl 6 rfl) ?_
              have n166 : vp_in a0 2 := (iv_in (n := 2) i121 (by decide))
              refine th_ialdL hx hb hK hP hI 40 (mF 40 rfl) rfl rfl n166 dX2_statesOf_233 (fun y165 ey165 => ?_)
              have iy165 : 0 ≤ y165.toInt ∧ y165.toInt ≤ 99 := hI.el 40 (mF 40 rfl) rfl n166 (fun _ => rfl) ey165
              refine lv_aload_n hx hb dX2_statesOf_234 rfl (lv_at hl 4 rfl) ?_
              refine th_getL (ci := 3) (C := RX2) (T := TX2) (N := 10) (v := .ref (ad 41)) hx hb hts hinX2 hown hK hP hI 5 (mF 5 rfl) rfl rfl 4 (Nat.le_of_ble_eq_true rfl) (hts _ (vA_in _ _ (in_15 _ (zs4 (zs1 (zs0)))))) (fun _ h9 => h9) (hI.fr 5 (mF 5 rfl) rfl (Nat.le_of_ble_eq_true rfl) 41 rfl) dX2_statesOf_235 ?_
              refine lv_iload_n hx hb dX2_statesOf_238 rfl (lv_at hl 6 rfl) ?_
              have n168 : vp_in a0 2 := (iv_in (n := 2) i121 (by decide))
              refine th_ialdL hx hb hK hP hI 41 (mF 41 rfl) rfl rfl n168 dX2_statesOf_239 (fun y167 ey167 => ?_)
              have iy167 : 0 ≤ y167.toInt ∧ y167.toInt ≤ 99 := hI.el 41 (mF 41 rfl) rfl n168 (fun _ => rfl) ey167
              refine lv_icmp_le (tgt := 245) hx hb dX2_statesOf_240 (by decide) (fun c169 => ?_) (fun c169 => ?_)
              · --240 taken
                have t170 : y165.toInt ≤ y167.toInt := ti_le c169
                refine lv_aload_n hx hb dX2_statesOf_245 rfl (lv_at hl 4 rfl) ?_
                refine th_getL (ci := 3) (C := RX2) (T := TX2) (N := 10) (v := .ref (ad 39)) hx hb hts hinX2 hown hK hP hI 5 (mF 5 rfl) rfl rfl 2 (Nat.le_of_ble_eq_true rfl) (hts _ (vA_in _ _ (in_15 _ (zs1 (zs1 (zs1 (zs0))))))) (fun _ h9 => h9) (hI.fr 5 (mF 5 rfl) rfl (Nat.le_of_ble_eq_true rfl) 39 rfl) dX2_statesOf_246 ?_
                refine lv_iload_n hx hb dX2_statesOf_249 rfl (lv_at hl 6 rfl) ?_
                have n172 : vp_in a0 2 := (iv_in (n := 2) i121 (by decide))
                refine th_ialdL hx hb hK hP hI 39 (mF 39 rfl) rfl rfl n172 dX2_statesOf_250 (fun y171 ey171 => ?_)
                have iy171 : 0 ≤ y171.toInt ∧ y171.toInt ≤ 99 := hI.el 39 (mF 39 rfl) rfl n172 (fun _ => rfl) ey171
                refine lv_aload_n hx hb dX2_statesOf_251 rfl (lv_at hl 4 rfl) ?_
                refine th_getL (ci := 3) (C := RX2) (T := TX2) (N := 10) (v := .ref (ad 38)) hx hb hts hinX2 hown hK hP hI 5 (mF 5 rfl) rfl rfl 1 (Nat.le_of_ble_eq_true rfl) (hts _ (vA_in _ _ (in_15 _ (zs1 (zs1 (zs0)))))) (fun _ h9 => h9) (hI.fr 5 (mF 5 rfl) rfl (Nat.le_of_ble_eq_true rfl) 38 rfl) dX2_statesOf_252 ?_
                refine lv_iload_n hx hb dX2_statesOf_255 rfl (lv_at hl 6 rfl) ?_
                have n174 : vp_in a0 2 := (iv_in (n := 2) i121 (by decide))
                refine th_ialdL hx hb hK hP hI 38 (mF 38 rfl) rfl rfl n174 dX2_statesOf_256 (fun y173 ey173 => ?_)
                have iy173 : 0 ≤ y173.toInt ∧ y173.toInt ≤ 99 := hI.el 38 (mF 38 rfl) rfl n174 (fun _ => rfl) ey173
                refine lv_isub hx hb dX2_statesOf_257 ?_
                refine lv_topi (fun y175 ey175 => ?_)
                obtain ⟨ty175, iy175⟩ := ti_sub (e := (-99)) (f := 99) iy171 iy173 ey175 (by decide)
                have ty175 : y175.toInt = y171.toInt - y173.toInt := ty175
                have iy175 : -99 ≤ y175.toInt ∧ y175.toInt ≤ 99 := iy175
                refine lv_iconst (v := 1) hx hb dX2_statesOf_258 (by decide) ?_
                refine lv_iadd hx hb dX2_statesOf_259 ?_
                refine lv_topi (fun y176 ey176 => ?_)
                obtain ⟨ty176, iy176⟩ := ti_add (e := (-98)) (f := 100) iy175 ln_1 ey176 (by decide)
                have ty176 : y176.toInt = y175.toInt + 1 := ty176
                have iy176 : -98 ≤ y176.toInt ∧ y176.toInt ≤ 100 := iy176
                refine lv_aload_n hx hb dX2_statesOf_260 rfl (lv_at hl 4 rfl) ?_
                refine th_getL (ci := 3) (C := RX2) (T := TX2) (N := 10) (v := .ref (ad 41)) hx hb hts hinX2 hown hK hP hI 5 (mF 5 rfl) rfl rfl 4 (Nat.le_of_ble_eq_true rfl) (hts _ (vA_in _ _ (in_15 _ (zs4 (zs1 (zs0)))))) (fun _ h9 => h9) (hI.fr 5 (mF 5 rfl) rfl (Nat.le_of_ble_eq_true rfl) 41 rfl) dX2_statesOf_261 ?_
                refine lv_iload_n hx hb dX2_statesOf_264 rfl (lv_at hl 6 rfl) ?_
                have n178 : vp_in a0 2 := (iv_in (n := 2) i121 (by decide))
                refine th_ialdL hx hb hK hP hI 41 (mF 41 rfl) rfl rfl n178 dX2_statesOf_265 (fun y177 ey177 => ?_)
                have iy177 : 0 ≤ y177.toInt ∧ y177.toInt ≤ 99 := hI.el 41 (mF 41 rfl) rfl n178 (fun _ => rfl) ey177
                refine lv_aload_n hx hb dX2_statesOf_266 rfl (lv_at hl 4 rfl) ?_
                refine th_getL (ci := 3) (C := RX2) (T := TX2) (N := 10) (v := .ref (ad 40)) hx hb hts hinX2 hown hK hP hI 5 (mF 5 rfl) rfl rfl 3 (Nat.le_of_ble_eq_true rfl) (hts _ (vA_in _ _ (in_15 _ (zs4 (zs0))))) (fun _ h9 => h9) (hI.fr 5 (mF 5 rfl) rfl (Nat.le_of_ble_eq_true rfl) 40 rfl) dX2_statesOf_267 ?_
                refine lv_iload_n hx hb dX2_statesOf_270 rfl (lv_at hl 6 rfl) ?_
                have n180 : vp_in a0 2 := (iv_in (n := 2) i121 (by decide))
                refine th_ialdL hx hb hK hP hI 40 (mF 40 rfl) rfl rfl n180 dX2_statesOf_271 (fun y179 ey179 => ?_)
                have iy179 : 0 ≤ y179.toInt ∧ y179.toInt ≤ 99 := hI.el 40 (mF 40 rfl) rfl n180 (fun _ => rfl) ey179
                refine lv_isub hx hb dX2_statesOf_272 ?_
                refine lv_topi (fun y181 ey181 => ?_)
                obtain ⟨ty181, iy181⟩ := ti_sub (e := (-99)) (f := 99) iy177 iy179 ey181 (by decide)
                have ty181 : y181.toInt = y177.toInt - y179.toInt := ty181
                have iy181 : -99 ≤ y181.toInt ∧ y181.toInt ≤ 99 := iy181
                refine lv_iconst (v := 1) hx hb dX2_statesOf_273 (by decide) ?_
                refine lv_iadd hx hb dX2_statesOf_274 ?_
                refine lv_topi (fun y182 ey182 => ?_)
                obtain ⟨ty182, iy182⟩ := ti_add (e := (-98)) (f := 100) iy181 ln_1 ey182 (by decide)
                have ty182 : y182.toInt = y181.toInt + 1 := ty182
                have iy182 : -98 ≤ y182.toInt ∧ y182.toInt ≤ 100 := iy182
                refine lv_imul hx hb dX2_statesOf_275 ?_
                refine lv_topi (fun y183 ey183 => ?_)
                obtain ⟨ty183, iy183⟩ := ti_mul (e := (-9800)) (f := 10000) iy176 iy182 ey183 (by decide)
                have ty183 : y183.toInt = y176.toInt * y182.toInt := ty183
                have iy183 : -9800 ≤ y183.toInt ∧ y183.toInt ≤ 10000 := iy183
                refine lv_istore (lv' := [(7, .int y183), (6, .int v85_6), (5, .int r127), (4, .int (xi (E (64 * (i + 1) + 14)) 1)), (0, .ref (ad 5)), (1, .ref (ad (64 * (i + 1) + 14))), (2, .int a0), (3, .int a1)]) hx hb dX2_statesOf_276 hl (by decide) rfl (fun ls hl => ?_)
                refine lv_iload hx hb dX2_statesOf_278 (lv_at hl 0 rfl) ?_
                refine lv_aload_n hx hb dX2_statesOf_280 rfl (lv_at hl 4 rfl) ?_
                refine th_getL (ci := 3) (C := RX2) (T := TX2) (N := 10) (v := .ref (ad 42)) hx hb hts hinX2 hown hK hP hI 5 (mF 5 rfl) rfl rfl 5 (Nat.le_of_ble_eq_true rfl) (hts _ (vA_in _ _ (in_15 _ (zs4 (zs4 (zs4 (zs0))))))) (fun _ h9 => h9) (hI.fr 5 (mF 5 rfl) rfl (Nat.le_of_ble_eq_true rfl) 42 rfl) dX2_statesOf_281 ?_
                refine lv_iload_n hx hb dX2_statesOf_284 rfl (lv_at hl 6 rfl) ?_
                have n185 : vp_in a0 2 := (iv_in (n := 2) i121 (by decide))
                refine th_ialdL hx hb hK hP hI 42 (mF 42 rfl) rfl rfl n185 dX2_statesOf_285 (fun y184 ey184 => ?_)
                have iy184 : 0 ≤ y184.toInt ∧ y184.toInt ≤ 255 := hI.el 42 (mF 42 rfl) rfl n185 (fun _ => rfl) ey184
                refine th_pi (va_runS (As := [.int y184]) (rest := [.int y183]) ⟨hx, hb, hml, hown, hts⟩ (q_bitCount l y184 (iv_w iy184 (by decide))) (va_cwS 1 hts (gi_S (in_15 _ (zs16 (zs16 (zs4 (zs1 (zs1 (zs0))))))) (in_4 _ (zs16 (zs4 (zs4 (zs1 (zs1 (zs0))))))) (in_4 _ (zs16 (zs4 (zs4 (zs1 (zs1 (zs1 (zs0)))))))) (in_2 _ (zs4 (zs4 (zs1 (zs1 (zs0))))))) rfl rfl rfl hz_yJ6_bitCount_0f7a4_1 ⟨Nat.le_of_ble_eq_true rfl, Nat.le_of_ble_eq_true rfl⟩) ⟨fun _ _ _ _ q => q, fun _ _ _ => ⟨rfl, trivial⟩⟩ rfl rfl hl.1 rfl (lv_room (Nat.le_of_ble_eq_true rfl)) dX2_statesOf_286 ⟨Nat.le_of_ble_eq_true rfl, Nat.le_of_ble_eq_true rfl⟩) hS (fun r186 H1 locs1 hw hk1 hS => ?_)
                have hP := ub_keep hP hk1
                generalize H1 = H at hP hS ⊢
                generalize locs1 = locs at hS ⊢
                have f187 := hw
                have i188 : 0 ≤ r186.toInt ∧ r186.toInt ≤ 16 := by have h9 := f187; have h8 := pcS_le y184.toNatClampNeg 16; omega
                refine lv_imul hx hb dX2_statesOf_289 ?_
                refine lv_topi (fun y189 ey189 => ?_)
                obtain ⟨ty189, iy189⟩ := ti_mul (e := (-156800)) (f := 160000) iy183 i188 ey189 (by decide)
                have ty189 : y189.toInt = y183.toInt * r186.toInt := ty189
                have iy189 : -156800 ≤ y189.toInt ∧ y189.toInt ≤ 160000 := iy189
                rw [hQ]
                exact W.iret (v := y189) hx hb hr (fun t ht hW => ⟨⟨y189, E85_, rfl, ⟨hI, hKp, ⟨r127, k130, by rw [show (if a0.toInt = 0 then pA E i 1 else pA E i 2) = (xi (E (64 * (i + 1) + 14)) 1).toInt from (if_pos (by omega))]; exact ⟨by rw [show v85_7.toNatClampNeg = cf 4 by rw [tn_]; omega] at hx85_0; exact hx85_0, by rw [show v85_7.toNatClampNeg = cf 4 by rw [tn_]; omega] at hx85_0 hx85_1; exact hx85_0.z3 (p := y183) (c := r186) (v := y184) (hx85_1.elim (fun q9 => by omega) (fun q9 => q9.2)) (by rw [← ey156, ← ey158]; omega) (by rw [← ey165, ← ey167]; omega) (by have gy156 := congrArg Int32.toInt ey156; have gy173 := congrArg Int32.toInt ey173; have gy158 := congrArg Int32.toInt ey158; have gy171 := congrArg Int32.toInt ey171; have gy165 := congrArg Int32.toInt ey165; have gy179 := congrArg Int32.toInt ey179; have gy167 := congrArg Int32.toInt ey167; have gy177 := congrArg Int32.toInt ey177; rw [ty183]; exact mul_1 (by omega) (by omega)) ey184.symm (by omega) f187 ty189, hx85_3⟩⟩⟩, by show va_P (dC, dI) vwCl (WL (LC cf) ad E85_) t.heap; rw [ht]; exact hP⟩, hS.F ht⟩) hS.2.2 dX2_statesOf_290
              · --240 not
                have t190 : y167.toInt < y165.toInt := ti_nle c169
                have i191 : 0 ≤ y167.toInt ∧ y167.toInt ≤ 98 := iv_lt_l t190 iy167 iy165 (by decide)
                have i192 : 1 ≤ y165.toInt ∧ y165.toInt ≤ 99 := iv_lt_r t190 iy167 iy165 (by decide)
                refine lv_iconst (v := 0) hx hb dX2_statesOf_243 (by decide) ?_
                rw [hQ]
                exact W.iret (v := 0) hx hb hr (fun t ht hW => ⟨⟨0, E85_, rfl, ⟨hI, hKp, ⟨r127, k130, by rw [show (if a0.toInt = 0 then pA E i 1 else pA E i 2) = (xi (E (64 * (i + 1) + 14)) 1).toInt from (if_pos (by omega))]; exact ⟨by rw [show v85_7.toNatClampNeg = cf 4 by rw [tn_]; omega] at hx85_0; exact hx85_0, by rw [show v85_7.toNatClampNeg = cf 4 by rw [tn_]; omega] at hx85_0 hx85_1; exact hx85_0.z2 (Or.inr (by rw [← ey167, ← ey165]; omega)), hx85_3⟩⟩⟩, by show va_P (dC, dI) vwCl (WL (LC cf) ad E85_) t.heap; rw [ht]; exact hP⟩, hS.F ht⟩) hS.2.2 dX2_statesOf_244
        · --97 not
          have t193 : v85_7.toInt < r146.toInt := ti_nle c149
          have i194 : 0 ≤ v85_7.toInt ∧ v85_7.toInt ≤ 199 := iv_lt_l t193 hv85_7 f147 (by decide)
          have i195 : 1 ≤ r146.toInt ∧ r146.toInt ≤ 200 := iv_lt_r t193 hv85_7 f147 (by decide)
          refine lv_aload_n hx hb dX2_statesOf_100 rfl (lv_at hl 4 rfl) ?_
          refine th_getL (ci := 3) (C := RX2) (T := TX2) (N := 10) (v := .ref (ad 1)) hx hb hts hinX2 hown hK hP hI 5 (mF 5 rfl) rfl rfl 0 (Nat.le_of_ble_eq_true rfl) (hts _ (vA_in _ _ (in_14 _ (zs16 (zs16 (zs1 (zs1 (zs0)))))))) (fun _ h9 => h9) (hI.fr 5 (mF 5 rfl) rfl (Nat.le_of_ble_eq_true rfl) 1 rfl) dX2_statesOf_101 ?_
          refine th_getL (ci := 1) (C := RX0) (T := TX0) (N := 11) (v := .ref (ad 11)) hx hb hts hinX0 hown hK hP hI 1 (mF 1 rfl) rfl rfl 7 (Nat.le_of_ble_eq_true rfl) (hts _ (vA_in _ _ (in_15 _ (zs4 (zs4 (zs4 (zs1 (zs0)))))))) (fun _ h9 => h9) (hI.fr 1 (mF 1 rfl) rfl (Nat.le_of_ble_eq_true rfl) 11 rfl) dX2_statesOf_104 ?_
          refine lv_iload hx hb dX2_statesOf_107 (lv_at hl 0 rfl) ?_
          refine th_rrL (va_runV (As := [.int v85_7]) (rest := []) ⟨hx, hb, hml, hown, hts⟩ (q_get4 l dC dI cT cf hC ad E85_ H.size v85_7 hI (by omega)) (cwV 1 hts (gi_V (in_15 _ (zs16 (zs4 (zs1 (zs0))))) (in_4 _ (zs16 (zs16 (zs4 (zs1 (zs1 (zs0))))))) (in_4 _ (zs16 (zs16 (zs4 (zs1 (zs1 (zs1 (zs0)))))))) (in_3 _ (zs16 (zs1 (zs1 (zs0))))) (in_3 _ (zs16 (zs16 (zs4 (zs1 (zs1 (zs1 (zs0))))))))) rfl rfl rfl ⟨rfl, hz_yJx4a65c_get_915e3_1⟩ ⟨Nat.le_of_ble_eq_true rfl, Nat.le_of_ble_eq_true rfl⟩) ⟨HWL_bl, va_recv hK hP (ci := 0) (q0 := posL 11 (LC cf)) rfl (hI.ob 11 (mF 11 rfl) rfl), (HWL_wi hP hK (WL_D hD) hS hA hEV)⟩ rfl rfl hl.1 rfl (lv_room (Nat.le_of_ble_eq_true rfl)) dX2_statesOf_109 ⟨Nat.le_of_ble_eq_true rfl, Nat.le_of_ble_eq_true rfl⟩) hS hP (fun r196 H locs hw hP hS => ?_)
          obtain rfl := hw
          have lv197 : v85_7.toNatClampNeg < cf 4 := by rw [tn_]; omega
          refine va_castS (cC := dC 12) hx hb hown (hts _ (vA_in _ _ (in_15 _ (zs4 (zs4 (zs4 (zs1 (zs1 (zs0))))))))) (hK.1 12 _ rfl).2 (va_recv hK hP (ci := 12) (q0 := posL (64 * (v85_7.toNatClampNeg + 1) + 13) (LC cf)) rfl (hI.ob (64 * (v85_7.toNatClampNeg + 1) + 13) (mP 13 v85_7.toNatClampNeg (by decide) lv197 (kl_le hC 4 (by decide))) (shC_p 13 v85_7.toNatClampNeg (by decide)))) dX2_statesOf_112 ?_
          refine lv_astore (lv' := [(8, .ref (ad (64 * (v85_7.toNatClampNeg + 1) + 13))), (7, .int v85_7), (6, .int v85_6), (5, .int r127), (4, .int (xi (E (64 * (i + 1) + 14)) 1)), (0, .ref (ad 5)), (1, .ref (ad (64 * (i + 1) + 14))), (2, .int a0), (3, .int a1)]) hx hb dX2_statesOf_115 hl (by decide) rfl (fun ls hl => ?_)
          refine lv_aload hx hb dX2_statesOf_117 (lv_at hl 0 rfl) ?_
          have i198 : 0 ≤ (xi (E (64 * (v85_7.toNatClampNeg + 1) + 13)) 0).toInt ∧ (xi (E (64 * (v85_7.toNatClampNeg + 1) + 13)) 0).toInt ≤ 19 := hI0.iv (64 * (v85_7.toNatClampNeg + 1) + 13) (mP 13 v85_7.toNatClampNeg (by decide) lv197 (kl_le hC 4 (by decide))) (shC_p 13 v85_7.toNatClampNeg (by decide)) (Nat.le_of_ble_eq_true rfl) (spC_p 13 v85_7.toNatClampNeg (by decide) 0)
          refine th_getL (ci := 12) (C := RX11) (T := TX11) (N := 8) (v := .int (xi (E (64 * (v85_7.toNatClampNeg + 1) + 13)) 0)) hx hb hts hinX11 hown hK hP hI (64 * (v85_7.toNatClampNeg + 1) + 13) (mP 13 v85_7.toNatClampNeg (by decide) lv197 (kl_le hC 4 (by decide))) (shC_p 13 v85_7.toNatClampNeg (by decide)) rfl 0 (Nat.le_of_ble_eq_true rfl) (hts _ (vA_in _ _ (in_15 _ (zs4 (zs4 (zs4 (zs1 (zs1 (zs1 (zs0)))))))))) (fun _ h9 => h9) (th_v0L hKp hI0 (64 * (v85_7.toNatClampNeg + 1) + 13) (mP 13 v85_7.toNatClampNeg (by decide) lv197 (kl_le hC 4 (by decide))) (shC_p 13 v85_7.toNatClampNeg (by decide)) (Nat.le_of_ble_eq_true rfl) (spC_p 13 v85_7.toNatClampNeg (by decide) 0) (wl_p rfl rfl (by omega))) dX2_statesOf_119 ?_
          refine lv_aload_n hx hb dX2_statesOf_122 rfl (lv_at hl 6 rfl) ?_
          refine th_getL (ci := 5) (C := RX4) (T := TX4) (N := 10) (v := .int (xi (E (64 * (i + 1) + 14)) 0)) hx hb hts hinX4 hown hK hP hI (64 * (i + 1) + 14) (mP 14 i (by decide) hh0 (kl_le hC 5 (by decide))) (shC_p 14 i (by decide)) rfl 0 (Nat.le_of_ble_eq_true rfl) (hts _ (vA_in _ _ (in_14 _ (zs16 (zs16 (zs4 (zs0))))))) (fun _ h9 => h9) (th_v0L hKp hI0 (64 * (i + 1) + 14) (mP 14 i (by decide) hh0 (kl_le hC 5 (by decide))) (shC_p 14 i (by decide)) (Nat.le_of_ble_eq_true rfl) (spC_p 14 i (by decide) 0) (wl_p rfl rfl (by omega))) dX2_statesOf_123 ?_
          refine lv_icmp_ne (tgt := 202) hx hb dX2_statesOf_126 (by decide) (fun c199 => ?_) (fun c199 => ?_)
          · --126 taken
            have t200 : ¬ (xi (E (64 * (v85_7.toNatClampNeg + 1) + 13)) 0).toInt = (xi (E (64 * (i + 1) + 14)) 0).toInt := ti_ne c199
            obtain ⟨y201, ey201⟩ : ∃ y : Int32, y = v85_7 + (1 : Int32) := ⟨_, rfl⟩
            obtain ⟨ty201, iy201⟩ := ti_add (e := 1) (f := 200) i194 ln_1 ey201 (by decide)
            have ty201 : y201.toInt = v85_7.toInt + 1 := ty201
            have iy201 : 1 ≤ y201.toInt ∧ y201.toInt ≤ 200 := iy201
            refine lv_iinc (v := y201) (lv' := [(7, .int y201), (8, .ref (ad (64 * (v85_7.toNatClampNeg + 1) + 13))), (6, .int v85_6), (5, .int r127), (4, .int (xi (E (64 * (i + 1) + 14)) 1)), (0, .ref (ad 5)), (1, .ref (ad (64 * (i + 1) + 14))), (2, .int a0), (3, .int a1)]) hx hb dX2_statesOf_202 hl (k := 1) rfl (by rw [ey201]; rfl) (by decide) rfl (fun ls hl => ?_)
            refine lv_goto (tgt := 85) hx hb dX2_statesOf_205 (by decide) ?_
            exact ih85 y201 v85_6 E85_ _ _ _ (iv_w iy201 (by decide)) hv85_6 (hx85_0.skip (fun q9 => by have g1 : (xi (E (64 * (v85_7.toNatClampNeg + 1) + 13)) 0).toInt = (xi (E (64 * (i + 1) + 14)) 0).toInt := q9.1; have g2 : (xi (E (64 * (v85_7.toNatClampNeg + 1) + 13)) 1).toInt = (xi (E (64 * (i + 1) + 14)) 1).toInt := q9.2.1; have g3 : (xi (E (64 * (v85_7.toNatClampNeg + 1) + 13)) 2).toInt ≤ a1.toInt := q9.2.2; omega) (by rw [tn_, tn_]; omega)) (by rw [show y201.toNatClampNeg = v85_7.toNatClampNeg + 1 by rw [tn_, tn_]; omega]; exact hx85_1.imp (fun q8 => ⟨q8.1, fun q7 => q8.2 ((hrd_skip (fun g9 => (fun q9 => by have g1 : (xi (E (64 * (v85_7.toNatClampNeg + 1) + 13)) 0).toInt = (xi (E (64 * (i + 1) + 14)) 0).toInt := q9.1; have g2 : (xi (E (64 * (v85_7.toNatClampNeg + 1) + 13)) 1).toInt = (xi (E (64 * (i + 1) + 14)) 1).toInt := q9.2.1; have g3 : (xi (E (64 * (v85_7.toNatClampNeg + 1) + 13)) 2).toInt ≤ a1.toInt := q9.2.2; omega) g9.1)).mp q7)⟩) (fun q8 => ⟨q8.1, (hrd_skip (fun g9 => (fun q9 => by have g1 : (xi (E (64 * (v85_7.toNatClampNeg + 1) + 13)) 0).toInt = (xi (E (64 * (i + 1) + 14)) 0).toInt := q9.1; have g2 : (xi (E (64 * (v85_7.toNatClampNeg + 1) + 13)) 1).toInt = (xi (E (64 * (i + 1) + 14)) 1).toInt := q9.2.1; have g3 : (xi (E (64 * (v85_7.toNatClampNeg + 1) + 13)) 2).toInt ≤ a1.toInt := q9.2.2; omega) g9.1)).mpr q8.2⟩)) (by omega) hx85_3 (by first | exact ms_su hx85_4 ty201 (by decide) | omega) hI hKp hP hS (lv_sub hl [0, 2, 3, 4, 5, 6, 7, 8] rfl)
          · --126 not
            have t202 : (xi (E (64 * (v85_7.toNatClampNeg + 1) + 13)) 0).toInt = (xi (E (64 * (i + 1) + 14)) 0).toInt := ti_eq c199
            refine lv_aload hx hb dX2_statesOf_129 (lv_at hl 0 rfl) ?_
            have i203 : 0 ≤ (xi (E (64 * (v85_7.toNatClampNeg + 1) + 13)) 1).toInt ∧ (xi (E (64 * (v85_7.toNatClampNeg + 1) + 13)) 1).toInt ≤ 15 := hI0.iv (64 * (v85_7.toNatClampNeg + 1) + 13) (mP 13 v85_7.toNatClampNeg (by decide) lv197 (kl_le hC 4 (by decide))) (shC_p 13 v85_7.toNatClampNeg (by decide)) (Nat.le_of_ble_eq_true rfl) (spC_p 13 v85_7.toNatClampNeg (by decide) 1)
            refine th_getL (ci := 12) (C := RX11) (T := TX11) (N := 8) (v := .int (xi (E (64 * (v85_7.toNatClampNeg + 1) + 13)) 1)) hx hb hts hinX11 hown hK hP hI (64 * (v85_7.toNatClampNeg + 1) + 13) (mP 13 v85_7.toNatClampNeg (by decide) lv197 (kl_le hC 4 (by decide))) (shC_p 13 v85_7.toNatClampNeg (by decide)) rfl 1 (Nat.le_of_ble_eq_true rfl) (hts _ (vA_in _ _ (in_15 _ (zs16 (zs0))))) (fun _ h9 => h9) (th_v0L hKp hI0 (64 * (v85_7.toNatClampNeg + 1) + 13) (mP 13 v85_7.toNatClampNeg (by decide) lv197 (kl_le hC 4 (by decide))) (shC_p 13 v85_7.toNatClampNeg (by decide)) (Nat.le_of_ble_eq_true rfl) (spC_p 13 v85_7.toNatClampNeg (by decide) 1) (wl_p rfl rfl (by omega))) dX2_statesOf_131 ?_
            refine lv_iload hx hb dX2_statesOf_134 (lv_at hl 4 rfl) ?_
            refine lv_icmp_ne (tgt := 202) hx hb dX2_statesOf_136 (by decide) (fun c204 => ?_) (fun c204 => ?_)
            · --136 taken
              have t205 : ¬ (xi (E (64 * (v85_7.toNatClampNeg + 1) + 13)) 1).toInt = (xi (E (64 * (i + 1) + 14)) 1).toInt := ti_ne c204
              obtain ⟨y206, ey206⟩ : ∃ y : Int32, y = v85_7 + (1 : Int32) := ⟨_, rfl⟩
              obtain ⟨ty206, iy206⟩ := ti_add (e := 1) (f := 200) i194 ln_1 ey206 (by decide)
              have ty206 : y206.toInt = v85_7.toInt + 1 := ty206
              have iy206 : 1 ≤ y206.toInt ∧ y206.toInt ≤ 200 := iy206
              refine lv_iinc (v := y206) (lv' := [(7, .int y206), (8, .ref (ad (64 * (v85_7.toNatClampNeg + 1) + 13))), (6, .int v85_6), (5, .int r127), (4, .int (xi (E (64 * (i + 1) + 14)) 1)), (0, .ref (ad 5)), (1, .ref (ad (64 * (i + 1) + 14))), (2, .int a0), (3, .int a1)]) hx hb dX2_statesOf_202 hl (k := 1) rfl (by rw [ey206]; rfl) (by decide) rfl (fun ls hl => ?_)
              refine lv_goto (tgt := 85) hx hb dX2_statesOf_205 (by decide) ?_
              exact ih85 y206 v85_6 E85_ _ _ _ (iv_w iy206 (by decide)) hv85_6 (hx85_0.skip (fun q9 => by have g1 : (xi (E (64 * (v85_7.toNatClampNeg + 1) + 13)) 0).toInt = (xi (E (64 * (i + 1) + 14)) 0).toInt := q9.1; have g2 : (xi (E (64 * (v85_7.toNatClampNeg + 1) + 13)) 1).toInt = (xi (E (64 * (i + 1) + 14)) 1).toInt := q9.2.1; have g3 : (xi (E (64 * (v85_7.toNatClampNeg + 1) + 13)) 2).toInt ≤ a1.toInt := q9.2.2; omega) (by rw [tn_, tn_]; omega)) (by rw [show y206.toNatClampNeg = v85_7.toNatClampNeg + 1 by rw [tn_, tn_]; omega]; exact hx85_1.imp (fun q8 => ⟨q8.1, fun q7 => q8.2 ((hrd_skip (fun g9 => (fun q9 => by have g1 : (xi (E (64 * (v85_7.toNatClampNeg + 1) + 13)) 0).toInt = (xi (E (64 * (i + 1) + 14)) 0).toInt := q9.1; have g2 : (xi (E (64 * (v85_7.toNatClampNeg + 1) + 13)) 1).toInt = (xi (E (64 * (i + 1) + 14)) 1).toInt := q9.2.1; have g3 : (xi (E (64 * (v85_7.toNatClampNeg + 1) + 13)) 2).toInt ≤ a1.toInt := q9.2.2; omega) g9.1)).mp q7)⟩) (fun q8 => ⟨q8.1, (hrd_skip (fun g9 => (fun q9 => by have g1 : (xi (E (64 * (v85_7.toNatClampNeg + 1) + 13)) 0).toInt = (xi (E (64 * (i + 1) + 14)) 0).toInt := q9.1; have g2 : (xi (E (64 * (v85_7.toNatClampNeg + 1) + 13)) 1).toInt = (xi (E (64 * (i + 1) + 14)) 1).toInt := q9.2.1; have g3 : (xi (E (64 * (v85_7.toNatClampNeg + 1) + 13)) 2).toInt ≤ a1.toInt := q9.2.2; omega) g9.1)).mpr q8.2⟩)) (by omega) hx85_3 (by first | exact ms_su hx85_4 ty206 (by decide) | omega) hI hKp hP hS (lv_sub hl [0, 2, 3, 4, 5, 6, 7, 8] rfl)
            · --136 not
              have t207 : (xi (E (64 * (v85_7.toNatClampNeg + 1) + 13)) 1).toInt = (xi (E (64 * (i + 1) + 14)) 1).toInt := ti_eq c204
              refine lv_aload hx hb dX2_statesOf_139 (lv_at hl 0 rfl) ?_
              have i208 : 0 ≤ (xi (E (64 * (v85_7.toNatClampNeg + 1) + 13)) 2).toInt ∧ (xi (E (64 * (v85_7.toNatClampNeg + 1) + 13)) 2).toInt ≤ 400 := hI0.iv (64 * (v85_7.toNatClampNeg + 1) + 13) (mP 13 v85_7.toNatClampNeg (by decide) lv197 (kl_le hC 4 (by decide))) (shC_p 13 v85_7.toNatClampNeg (by decide)) (Nat.le_of_ble_eq_true rfl) (spC_p 13 v85_7.toNatClampNeg (by decide) 2)
              refine th_getL (ci := 12) (C := RX11) (T := TX11) (N := 8) (v := .int (xi (E (64 * (v85_7.toNatClampNeg + 1) + 13)) 2)) hx hb hts hinX11 hown hK hP hI (64 * (v85_7.toNatClampNeg + 1) + 13) (mP 13 v85_7.toNatClampNeg (by decide) lv197 (kl_le hC 4 (by decide))) (shC_p 13 v85_7.toNatClampNeg (by decide)) rfl 2 (Nat.le_of_ble_eq_true rfl) (hts _ (vA_in _ _ (in_15 _ (zs16 (zs1 (zs0)))))) (fun _ h9 => h9) (th_v0L hKp hI0 (64 * (v85_7.toNatClampNeg + 1) + 13) (mP 13 v85_7.toNatClampNeg (by decide) lv197 (kl_le hC 4 (by decide))) (shC_p 13 v85_7.toNatClampNeg (by decide)) (Nat.le_of_ble_eq_true rfl) (spC_p 13 v85_7.toNatClampNeg (by decide) 2) (wl_p rfl rfl (by omega))) dX2_statesOf_141 ?_
              refine lv_iload_n hx hb dX2_statesOf_144 rfl (lv_at hl 8 rfl) ?_
              refine lv_icmp_le (tgt := 151) hx hb dX2_statesOf_145 (by decide) (fun c209 => ?_) (fun c209 => ?_)
              · --145 taken
                have t210 : (xi (E (64 * (v85_7.toNatClampNeg + 1) + 13)) 2).toInt ≤ a1.toInt := ti_le c209
                refine lv_aload_n hx hb dX2_statesOf_151 rfl (lv_at hl 5 rfl) ?_
                refine lv_iload_n hx hb dX2_statesOf_152 rfl (lv_at hl 7 rfl) ?_
                refine lv_aload hx hb dX2_statesOf_153 (lv_at hl 0 rfl) ?_
                refine lv_iload hx hb dX2_statesOf_155 (lv_at hl 3 rfl) ?_
                refine lv_aload hx hb dX2_statesOf_157 (lv_at hl 0 rfl) ?_
                have i211 : 0 ≤ (xi (E (64 * (v85_7.toNatClampNeg + 1) + 13)) 3).toInt ∧ (xi (E (64 * (v85_7.toNatClampNeg + 1) + 13)) 3).toInt ≤ 100000 := hI0.iv (64 * (v85_7.toNatClampNeg + 1) + 13) (mP 13 v85_7.toNatClampNeg (by decide) lv197 (kl_le hC 4 (by decide))) (shC_p 13 v85_7.toNatClampNeg (by decide)) (Nat.le_of_ble_eq_true rfl) (spC_p 13 v85_7.toNatClampNeg (by decide) 3)
                refine th_getL (ci := 12) (C := RX11) (T := TX11) (N := 8) (v := .int (xi (E (64 * (v85_7.toNatClampNeg + 1) + 13)) 3)) hx hb hts hinX11 hown hK hP hI (64 * (v85_7.toNatClampNeg + 1) + 13) (mP 13 v85_7.toNatClampNeg (by decide) lv197 (kl_le hC 4 (by decide))) (shC_p 13 v85_7.toNatClampNeg (by decide)) rfl 3 (Nat.le_of_ble_eq_true rfl) (hts _ (vA_in _ _ (in_15 _ (zs16 (zs1 (zs1 (zs0))))))) (fun _ h9 => h9) (th_v0L hKp hI0 (64 * (v85_7.toNatClampNeg + 1) + 13) (mP 13 v85_7.toNatClampNeg (by decide) lv197 (kl_le hC 4 (by decide))) (shC_p 13 v85_7.toNatClampNeg (by decide)) (Nat.le_of_ble_eq_true rfl) (spC_p 13 v85_7.toNatClampNeg (by decide) 3) (wl_p rfl rfl (by omega))) dX2_statesOf_159 ?_
                refine lv_aload_n hx hb dX2_statesOf_162 rfl (lv_at hl 6 rfl) ?_
                have i212 : 0 ≤ (xi (E (64 * (i + 1) + 14)) 3).toInt ∧ (xi (E (64 * (i + 1) + 14)) 3).toInt ≤ 100000 := hI0.iv (64 * (i + 1) + 14) (mP 14 i (by decide) hh0 (kl_le hC 5 (by decide))) (shC_p 14 i (by decide)) (Nat.le_of_ble_eq_true rfl) (spC_p 14 i (by decide) 3)
                refine th_getL (ci := 5) (C := RX4) (T := TX4) (N := 10) (v := .int (xi (E (64 * (i + 1) + 14)) 3)) hx hb hts hinX4 hown hK hP hI (64 * (i + 1) + 14) (mP 14 i (by decide) hh0 (kl_le hC 5 (by decide))) (shC_p 14 i (by decide)) rfl 3 (Nat.le_of_ble_eq_true rfl) (hts _ (vA_in _ _ (in_15 _ (zs16 (zs1 (zs1 (zs1 (zs0)))))))) (fun _ h9 => h9) (th_v0L hKp hI0 (64 * (i + 1) + 14) (mP 14 i (by decide) hh0 (kl_le hC 5 (by decide))) (shC_p 14 i (by decide)) (Nat.le_of_ble_eq_true rfl) (spC_p 14 i (by decide) 3) (wl_p rfl rfl (by omega))) dX2_statesOf_163 ?_
                refine th_pi (va_runSN (As := [.int (xi (E (64 * (v85_7.toNatClampNeg + 1) + 13)) 3), .int (xi (E (64 * (i + 1) + 14)) 3)]) (rest := [.int r127, .ref (ad (64 * (v85_7.toNatClampNeg + 1) + 13)), .int a0, .ref (ad 5)]) ⟨hx, hb, hml, hown, hts⟩ (q_capartX l (xi (E (64 * (v85_7.toNatClampNeg + 1) + 13)) 3) (xi (E (64 * (i + 1) + 14)) 3) (iv_w i211 (by decide)) (iv_w i212 (by decide))) ⟨va_cnB 2 hts (gi_0 (in_10 _ (zs4 (zs4 (zs4 (zs1 (zs1 (zs1 (zs0))))))))) rfl rfl rfl (hEV.1.1 _ (List.mem_of_getElem? (i := 4) rfl)) (hts _ (vA_in _ _ (in_4 _ (zs16 (zs4 (zs1 (zs1 (zs1 (zs0))))))))) hz_yX12_apart_2 ⟨Nat.le_of_ble_eq_true rfl, Nat.le_of_ble_eq_true rfl⟩, (hts _ (vA_in _ _ (in_13 _ (zs16 (zs4 (zs4 (zs1 (zs0)))))))), trivial⟩ ⟨fun _ _ _ _ q => q, fun _ _ _ => ⟨rfl, trivial⟩⟩ rfl rfl hl.1 rfl (lv_room (Nat.le_of_ble_eq_true rfl)) dX2_statesOf_166 ⟨Nat.le_of_ble_eq_true rfl, Nat.le_of_ble_eq_true rfl⟩) hS (fun r213 H1 locs1 hw hk1 hS => ?_)
                have hP := ub_keep hP hk1
                generalize H1 = H at hP hS ⊢
                generalize locs1 = locs at hS ⊢
                have f214 := hw
                have i215 : 0 ≤ r213.toInt ∧ r213.toInt ≤ 100000 := by have h9 := f214; unfold ab at h9; omega
                refine lv_imul hx hb dX2_statesOf_169 ?_
                refine lv_topi (fun y216 ey216 => ?_)
                obtain ⟨ty216, iy216⟩ := ti_mul (e := 0) (f := 900000) f128 i215 ey216 (by decide)
                have ty216 : y216.toInt = r127.toInt * r213.toInt := ty216
                have iy216 : 0 ≤ y216.toInt ∧ y216.toInt ≤ 900000 := iy216
                refine th_vL (va_runV (As := [.int a0, .ref (ad (64 * (v85_7.toNatClampNeg + 1) + 13)), .int y216]) (rest := []) ⟨hx, hb, hml, hown, hts⟩ (q_narrowX l dC dI cT cf hC ad E85_ H.size a0 y216 v85_7.toNatClampNeg hI (by omega) (iv_w i121 (by decide)) iy216) (cwV 3 hts (gi_V (in_15 _ (zs16 (zs4 (zs4 (zs4 (zs1 (zs0))))))) (in_15 _ (zs16 (zs4 (zs4 (zs4 (zs1 (zs1 (zs0)))))))) (in_15 _ (zs16 (zs4 (zs4 (zs4 (zs1 (zs1 (zs1 (zs0))))))))) (in_14 _ (zs16 (zs16 (zs0)))) (in_15 _ (zs16 (zs16 (zs0))))) rfl rfl rfl ⟨rfl, hz_yX2_narrow_3⟩ ⟨Nat.le_of_ble_eq_true rfl, Nat.le_of_ble_eq_true rfl⟩) ⟨HWL_bl, va_recv hK hP (ci := 3) (q0 := posL 5 (LC cf)) rfl (hI.ob 5 (mF 5 rfl) rfl), (HWL_wi hP hK (WL_D hD) hS hA hEV)⟩ rfl rfl hl.1 rfl (lv_room (Nat.le_of_ble_eq_true rfl)) dX2_statesOf_170 ⟨Nat.le_of_ble_eq_true rfl, Nat.le_of_ble_eq_true rfl⟩) (WL_D hD) hS hA (fun E218 H locs hw hP hS => ?_)
                obtain ⟨hI, kq219, hw⟩ := hw
                have hKb := hKp
                have hKp := hKp.tr kq219 (wl_sub rfl rfl)
                have f220 := hw
                have k221 : NarE E85_ E218 a0.toNatClampNeg (wcE E 4 v85_7.toNatClampNeg) (wcE E 5 v85_7.toNatClampNeg) (wcE E 6 v85_7.toNatClampNeg) y216.toInt := by have h9 := f220; rw [hKb.ei (64 * (v85_7.toNatClampNeg + 1) + 13) 4 (wl_p rfl rfl (by omega)), hKb.ei (64 * (v85_7.toNatClampNeg + 1) + 13) 5 (wl_p rfl rfl (by omega)), hKb.ei (64 * (v85_7.toNatClampNeg + 1) + 13) 6 (wl_p rfl rfl (by omega))] at h9; exact h9
                refine lv_aload hx hb dX2_statesOf_173 (lv_at hl 0 rfl) ?_
                refine th_getL (ci := 12) (C := RX11) (T := TX11) (N := 8) (v := .int (xi (E (64 * (v85_7.toNatClampNeg + 1) + 13)) 3)) hx hb hts hinX11 hown hK hP hI (64 * (v85_7.toNatClampNeg + 1) + 13) (mP 13 v85_7.toNatClampNeg (by decide) lv197 (kl_le hC 4 (by decide))) (shC_p 13 v85_7.toNatClampNeg (by decide)) rfl 3 (Nat.le_of_ble_eq_true rfl) (hts _ (vA_in _ _ (in_15 _ (zs16 (zs1 (zs1 (zs0))))))) (fun _ h9 => h9) (th_v0L hKp hI0 (64 * (v85_7.toNatClampNeg + 1) + 13) (mP 13 v85_7.toNatClampNeg (by decide) lv197 (kl_le hC 4 (by decide))) (shC_p 13 v85_7.toNatClampNeg (by decide)) (Nat.le_of_ble_eq_true rfl) (spC_p 13 v85_7.toNatClampNeg (by decide) 3) (wl_p rfl rfl (by omega))) dX2_statesOf_175 ?_
                refine lv_aload_n hx hb dX2_statesOf_178 rfl (lv_at hl 6 rfl) ?_
                refine th_getL (ci := 5) (C := RX4) (T := TX4) (N := 10) (v := .int (xi (E (64 * (i + 1) + 14)) 3)) hx hb hts hinX4 hown hK hP hI (64 * (i + 1) + 14) (mP 14 i (by decide) hh0 (kl_le hC 5 (by decide))) (shC_p 14 i (by decide)) rfl 3 (Nat.le_of_ble_eq_true rfl) (hts _ (vA_in _ _ (in_15 _ (zs16 (zs1 (zs1 (zs1 (zs0)))))))) (fun _ h9 => h9) (th_v0L hKp hI0 (64 * (i + 1) + 14) (mP 14 i (by decide) hh0 (kl_le hC 5 (by decide))) (shC_p 14 i (by decide)) (Nat.le_of_ble_eq_true rfl) (spC_p 14 i (by decide) 3) (wl_p rfl rfl (by omega))) dX2_statesOf_179 ?_
                refine lv_icmp_ne (tgt := 202) hx hb dX2_statesOf_182 (by decide) (fun c222 => ?_) (fun c222 => ?_)
                · --182 taken
                  have t223 : ¬ (xi (E (64 * (v85_7.toNatClampNeg + 1) + 13)) 3).toInt = (xi (E (64 * (i + 1) + 14)) 3).toInt := ti_ne c222
                  obtain ⟨y224, ey224⟩ : ∃ y : Int32, y = v85_7 + (1 : Int32) := ⟨_, rfl⟩
                  obtain ⟨ty224, iy224⟩ := ti_add (e := 1) (f := 200) i194 ln_1 ey224 (by decide)
                  have ty224 : y224.toInt = v85_7.toInt + 1 := ty224
                  have iy224 : 1 ≤ y224.toInt ∧ y224.toInt ≤ 200 := iy224
                  refine lv_iinc (v := y224) (lv' := [(7, .int y224), (8, .ref (ad (64 * (v85_7.toNatClampNeg + 1) + 13))), (6, .int v85_6), (5, .int r127), (4, .int (xi (E (64 * (i + 1) + 14)) 1)), (0, .ref (ad 5)), (1, .ref (ad (64 * (i + 1) + 14))), (2, .int a0), (3, .int a1)]) hx hb dX2_statesOf_202 hl (k := 1) rfl (by rw [ey224]; rfl) (by decide) rfl (fun ls hl => ?_)
                  refine lv_goto (tgt := 85) hx hb dX2_statesOf_205 (by decide) ?_
                  exact ih85 y224 v85_6 E218 _ _ _ (iv_w iy224 (by decide)) hv85_6 (hx85_0.take (show wOf (wcE E) (xi (E (64 * (i + 1) + 14)) 0).toInt (xi (E (64 * (i + 1) + 14)) 1).toInt a1.toInt v85_7.toNatClampNeg from ⟨show (xi (E (64 * (v85_7.toNatClampNeg + 1) + 13)) 0).toInt = _ by omega, show (xi (E (64 * (v85_7.toNatClampNeg + 1) + 13)) 1).toInt = _ by omega, show (xi (E (64 * (v85_7.toNatClampNeg + 1) + 13)) 2).toInt ≤ _ by omega⟩) k221 (by rw [ty216, f214]; rfl) (show ¬ (xi (E (64 * (v85_7.toNatClampNeg + 1) + 13)) 3).toInt = (xi (E (64 * (i + 1) + 14)) 3).toInt by omega) (congrArg vi (kq219 42 _ rfl)) (by rw [tn_, tn_]; omega)) (by rw [show y224.toNatClampNeg = v85_7.toNatClampNeg + 1 by rw [tn_, tn_]; omega]; exact hx85_1.imp (fun q8 => ⟨q8.1, fun q7 => q8.2 ((hrd_skip (fun g9 => absurd g9.2 (show ¬ (xi (E (64 * (v85_7.toNatClampNeg + 1) + 13)) 3).toInt = (xi (E (64 * (i + 1) + 14)) 3).toInt by omega))).mp q7)⟩) (fun q8 => ⟨q8.1, (hrd_skip (fun g9 => absurd g9.2 (show ¬ (xi (E (64 * (v85_7.toNatClampNeg + 1) + 13)) 3).toInt = (xi (E (64 * (i + 1) + 14)) 3).toInt by omega))).mpr q8.2⟩)) (by omega) (hx85_3.nar k221 (fun j9 => congrArg vi (kq219 42 j9 rfl))) (by first | exact ms_su hx85_4 ty224 (by decide) | omega) hI hKp hP hS (lv_sub hl [0, 2, 3, 4, 5, 6, 7, 8] rfl)
                · --182 not
                  have t225 : (xi (E (64 * (v85_7.toNatClampNeg + 1) + 13)) 3).toInt = (xi (E (64 * (i + 1) + 14)) 3).toInt := ti_eq c222
                  refine lv_iconst (v := 1) hx hb dX2_statesOf_185 (by decide) ?_
                  refine lv_istore (lv' := [(6, .int 1), (8, .ref (ad (64 * (v85_7.toNatClampNeg + 1) + 13))), (7, .int v85_7), (5, .int r127), (4, .int (xi (E (64 * (i + 1) + 14)) 1)), (0, .ref (ad 5)), (1, .ref (ad (64 * (i + 1) + 14))), (2, .int a0), (3, .int a1)]) hx hb dX2_statesOf_186 hl (by decide) rfl (fun ls hl => ?_)
                  refine lv_aload_n hx hb dX2_statesOf_188 rfl (lv_at hl 5 rfl) ?_
                  refine th_getL (ci := 3) (C := RX2) (T := TX2) (N := 10) (v := .ref (ad 42)) hx hb hts hinX2 hown hK hP hI 5 (mF 5 rfl) rfl rfl 5 (Nat.le_of_ble_eq_true rfl) (hts _ (vA_in _ _ (in_15 _ (zs4 (zs4 (zs4 (zs0))))))) (fun _ h9 => h9) (hI.fr 5 (mF 5 rfl) rfl (Nat.le_of_ble_eq_true rfl) 42 rfl) dX2_statesOf_189 ?_
                  refine lv_iload_n hx hb dX2_statesOf_192 rfl (lv_at hl 7 rfl) ?_
                  refine lv_dup2_11 hx hb dX2_statesOf_193 rfl rfl ?_
                  have n227 : vp_in a0 2 := (iv_in (n := 2) i121 (by decide))
                  refine th_ialdL hx hb hK hP hI 42 (mF 42 rfl) rfl rfl n227 dX2_statesOf_194 (fun y226 ey226 => ?_)
                  have iy226 : 0 ≤ y226.toInt ∧ y226.toInt ≤ 255 := hI.el 42 (mF 42 rfl) rfl n227 (fun _ => rfl) ey226
                  refine lv_aload hx hb dX2_statesOf_195 (lv_at hl 1 rfl) ?_
                  have i228 : 0 ≤ (xi (E (64 * (v85_7.toNatClampNeg + 1) + 13)) 7).toInt ∧ (xi (E (64 * (v85_7.toNatClampNeg + 1) + 13)) 7).toInt ≤ 255 := hI0.iv (64 * (v85_7.toNatClampNeg + 1) + 13) (mP 13 v85_7.toNatClampNeg (by decide) lv197 (kl_le hC 4 (by decide))) (shC_p 13 v85_7.toNatClampNeg (by decide)) (Nat.le_of_ble_eq_true rfl) (spC_p 13 v85_7.toNatClampNeg (by decide) 7)
                  refine th_getL (ci := 12) (C := RX11) (T := TX11) (N := 8) (v := .int (xi (E (64 * (v85_7.toNatClampNeg + 1) + 13)) 7)) hx hb hts hinX11 hown hK hP hI (64 * (v85_7.toNatClampNeg + 1) + 13) (mP 13 v85_7.toNatClampNeg (by decide) lv197 (kl_le hC 4 (by decide))) (shC_p 13 v85_7.toNatClampNeg (by decide)) rfl 7 (Nat.le_of_ble_eq_true rfl) (hts _ (vA_in _ _ (in_15 _ (zs16 (zs4 (zs0)))))) (fun _ h9 => h9) (th_v0L hKp hI0 (64 * (v85_7.toNatClampNeg + 1) + 13) (mP 13 v85_7.toNatClampNeg (by decide) lv197 (kl_le hC 4 (by decide))) (shC_p 13 v85_7.toNatClampNeg (by decide)) (Nat.le_of_ble_eq_true rfl) (spC_p 13 v85_7.toNatClampNeg (by decide) 7) (wl_p rfl rfl (by omega))) dX2_statesOf_197 ?_
                  refine lv_iand hx hb dX2_statesOf_200 ?_
                  refine lv_topi (fun y229 ey229 => ?_)
                  have iy229 : 0 ≤ y229.toInt ∧ y229.toInt ≤ 255 := by have h8 := i228; have h9 := ti_and (x := y226) (m := (xi (E (64 * (v85_7.toNatClampNeg + 1) + 13)) 7)) (by omega) ey229; omega
                  have n230 : vp_in a0 2 := (iv_in (n := 2) i121 (by decide))
                  refine th_iastL hx hb hK hP (WL_D hD) hS hI 42 (mF 42 rfl) rfl rfl n230 (okI rfl iy229) dX2_statesOf_201 (fun H locs E231 pw232 hI hP hS => ?_)
                  have hKp := hKp.pw pw232 rfl
                  obtain ⟨y233, ey233⟩ : ∃ y : Int32, y = v85_7 + (1 : Int32) := ⟨_, rfl⟩
                  obtain ⟨ty233, iy233⟩ := ti_add (e := 1) (f := 200) i194 ln_1 ey233 (by decide)
                  have ty233 : y233.toInt = v85_7.toInt + 1 := ty233
                  have iy233 : 1 ≤ y233.toInt ∧ y233.toInt ≤ 200 := iy233
                  refine lv_iinc (v := y233) (lv' := [(7, .int y233), (6, .int 1), (8, .ref (ad (64 * (v85_7.toNatClampNeg + 1) + 13))), (5, .int r127), (4, .int (xi (E (64 * (i + 1) + 14)) 1)), (0, .ref (ad 5)), (1, .ref (ad (64 * (i + 1) + 14))), (2, .int a0), (3, .int a1)]) hx hb dX2_statesOf_202 hl (k := 2) rfl (by rw [ey233]; rfl) (by decide) rfl (fun ls hl => ?_)
                  refine lv_goto (tgt := 85) hx hb dX2_statesOf_205 (by decide) ?_
                  exact ih85 y233 (1 : Int32) E231 _ _ _ (iv_w iy233 (by decide)) (iv_w ln_1 (by decide)) (hx85_0.takeD (show wOf (wcE E) (xi (E (64 * (i + 1) + 14)) 0).toInt (xi (E (64 * (i + 1) + 14)) 1).toInt a1.toInt v85_7.toNatClampNeg from ⟨show (xi (E (64 * (v85_7.toNatClampNeg + 1) + 13)) 0).toInt = _ by omega, show (xi (E (64 * (v85_7.toNatClampNeg + 1) + 13)) 1).toInt = _ by omega, show (xi (E (64 * (v85_7.toNatClampNeg + 1) + 13)) 2).toInt ≤ _ by omega⟩) k221 (by rw [ty216, f214]; rfl) (show (xi (E (64 * (v85_7.toNatClampNeg + 1) + 13)) 3).toInt = (xi (E (64 * (i + 1) + 14)) 3).toInt by omega) (fun o9 h9 g9 => congrArg vi (pw232.2 o9 _ (fun q9 => by omega))) (vi_e pw232.1) (show y229 = xi (E85_ 42) a0.toNatClampNeg &&& wdE E v85_7.toNatClampNeg from ey229.trans (by rw [ey226, show xi (E218 42) a0.toNatClampNeg = xi (E85_ 42) a0.toNatClampNeg from congrArg vi (kq219 42 _ rfl)]; rfl)) (by rw [tn_, tn_]; omega)) (by rw [show y233.toNatClampNeg = v85_7.toNatClampNeg + 1 by rw [tn_, tn_]; omega]; exact Or.inr ⟨by omega, hrd_take (show wOf (wcE E) (xi (E (64 * (i + 1) + 14)) 0).toInt (xi (E (64 * (i + 1) + 14)) 1).toInt a1.toInt v85_7.toNatClampNeg from ⟨show (xi (E (64 * (v85_7.toNatClampNeg + 1) + 13)) 0).toInt = _ by omega, show (xi (E (64 * (v85_7.toNatClampNeg + 1) + 13)) 1).toInt = _ by omega, show (xi (E (64 * (v85_7.toNatClampNeg + 1) + 13)) 2).toInt ≤ _ by omega⟩) (show (xi (E (64 * (v85_7.toNatClampNeg + 1) + 13)) 3).toInt = (xi (E (64 * (i + 1) + 14)) 3).toInt by omega)⟩) (by omega) ((hx85_3.nar k221 (fun j9 => congrArg vi (kq219 42 j9 rfl))).pw pw232 rfl) (by first | exact ms_su hx85_4 ty233 (by decide) | omega) hI hKp hP hS (lv_sub hl [0, 1, 3, 4, 5, 6, 7, 8] rfl)
              · --145 not
                have t234 : a1.toInt < (xi (E (64 * (v85_7.toNatClampNeg + 1) + 13)) 2).toInt := ti_nle c209
                have i235 : 0 ≤ a1.toInt ∧ a1.toInt ≤ 399 := iv_lt_l t234 hh2 i208 (by decide)
                have i236 : 1 ≤ (xi (E (64 * (v85_7.toNatClampNeg + 1) + 13)) 2).toInt ∧ (xi (E (64 * (v85_7.toNatClampNeg + 1) + 13)) 2).toInt ≤ 400 := iv_lt_r t234 hh2 i208 (by decide)
                refine lv_goto (tgt := 202) hx hb dX2_statesOf_148 (by decide) ?_
                obtain ⟨y237, ey237⟩ : ∃ y : Int32, y = v85_7 + (1 : Int32) := ⟨_, rfl⟩
                obtain ⟨ty237, iy237⟩ := ti_add (e := 1) (f := 200) i194 ln_1 ey237 (by decide)
                have ty237 : y237.toInt = v85_7.toInt + 1 := ty237
                have iy237 : 1 ≤ y237.toInt ∧ y237.toInt ≤ 200 := iy237
                refine lv_iinc (v := y237) (lv' := [(7, .int y237), (8, .ref (ad (64 * (v85_7.toNatClampNeg + 1) + 13))), (6, .int v85_6), (5, .int r127), (4, .int (xi (E (64 * (i + 1) + 14)) 1)), (0, .ref (ad 5)), (1, .ref (ad (64 * (i + 1) + 14))), (2, .int a0), (3, .int a1)]) hx hb dX2_statesOf_202 hl (k := 1) rfl (by rw [ey237]; rfl) (by decide) rfl (fun ls hl => ?_)
                refine lv_goto (tgt := 85) hx hb dX2_statesOf_205 (by decide) ?_
                exact ih85 y237 v85_6 E85_ _ _ _ (iv_w iy237 (by decide)) hv85_6 (hx85_0.skip (fun q9 => by have g1 : (xi (E (64 * (v85_7.toNatClampNeg + 1) + 13)) 0).toInt = (xi (E (64 * (i + 1) + 14)) 0).toInt := q9.1; have g2 : (xi (E (64 * (v85_7.toNatClampNeg + 1) + 13)) 1).toInt = (xi (E (64 * (i + 1) + 14)) 1).toInt := q9.2.1; have g3 : (xi (E (64 * (v85_7.toNatClampNeg + 1) + 13)) 2).toInt ≤ a1.toInt := q9.2.2; omega) (by rw [tn_, tn_]; omega)) (by rw [show y237.toNatClampNeg = v85_7.toNatClampNeg + 1 by rw [tn_, tn_]; omega]; exact hx85_1.imp (fun q8 => ⟨q8.1, fun q7 => q8.2 ((hrd_skip (fun g9 => (fun q9 => by have g1 : (xi (E (64 * (v85_7.toNatClampNeg + 1) + 13)) 0).toInt = (xi (E (64 * (i + 1) + 14)) 0).toInt := q9.1; have g2 : (xi (E (64 * (v85_7.toNatClampNeg + 1) + 13)) 1).toInt = (xi (E (64 * (i + 1) + 14)) 1).toInt := q9.2.1; have g3 : (xi (E (64 * (v85_7.toNatClampNeg + 1) + 13)) 2).toInt ≤ a1.toInt := q9.2.2; omega) g9.1)).mp q7)⟩) (fun q8 => ⟨q8.1, (hrd_skip (fun g9 => (fun q9 => by have g1 : (xi (E (64 * (v85_7.toNatClampNeg + 1) + 13)) 0).toInt = (xi (E (64 * (i + 1) + 14)) 0).toInt := q9.1; have g2 : (xi (E (64 * (v85_7.toNatClampNeg + 1) + 13)) 1).toInt = (xi (E (64 * (i + 1) + 14)) 1).toInt := q9.2.1; have g3 : (xi (E (64 * (v85_7.toNatClampNeg + 1) + 13)) 2).toInt ≤ a1.toInt := q9.2.2; omega) g9.1)).mpr q8.2⟩)) (by omega) hx85_3 (by first | exact ms_su hx85_4 ty237 (by decide) | omega) hI hKp hP hS (lv_sub hl [0, 2, 3, 4, 5, 6, 7, 8] rfl)
    exact hL85 (201) (0 : Int32) (0 : Int32) E144 _ _ _ (iv_w ln_0 (by decide)) (iv_w ln_0 (by decide)) (StC.start (by rw [show xi (E144 38) a0.toNatClampNeg = (0 : Int32) from (congrArg vi (pw145.2 38 a0.toNatClampNeg (fun q9 => absurd q9.1 (by decide)))).trans ((congrArg vi (pw142.2 38 a0.toNatClampNeg (fun q9 => absurd q9.1 (by decide)))).trans ((congrArg vi (pw139.2 38 a0.toNatClampNeg (fun q9 => absurd q9.1 (by decide)))).trans ((congrArg vi (pw136.2 38 a0.toNatClampNeg (fun q9 => absurd q9.1 (by decide)))).trans (vi_e pw133.1))))]; rfl) (by rw [show xi (E144 39) a0.toNatClampNeg = (99 : Int32) from (congrArg vi (pw145.2 39 a0.toNatClampNeg (fun q9 => absurd q9.1 (by decide)))).trans ((congrArg vi (pw142.2 39 a0.toNatClampNeg (fun q9 => absurd q9.1 (by decide)))).trans (vi_e pw139.1))]; rfl) (by rw [show xi (E144 40) a0.toNatClampNeg = (0 : Int32) from (congrArg vi (pw145.2 40 a0.toNatClampNeg (fun q9 => absurd q9.1 (by decide)))).trans ((congrArg vi (pw142.2 40 a0.toNatClampNeg (fun q9 => absurd q9.1 (by decide)))).trans ((congrArg vi (pw139.2 40 a0.toNatClampNeg (fun q9 => absurd q9.1 (by decide)))).trans (vi_e pw136.1)))]; rfl) (by rw [show xi (E144 41) a0.toNatClampNeg = (99 : Int32) from (congrArg vi (pw145.2 41 a0.toNatClampNeg (fun q9 => absurd q9.1 (by decide)))).trans (vi_e pw142.1)]; rfl) (vi_e pw145.1)) (Or.inl ⟨rfl, hrd_0⟩) (by omega) ((((((OthE.rf.pw pw133 rfl).pw pw136 rfl).pw pw139 rfl).pw pw142 rfl).pw pw145 rfl)) (by have h9 := ln_0; first | exact ms_bu h9.1 (by decide) | omega) hI hKp hP hS (lv_sub hl [0, 1, 2, 3, 4, 5, 6, 7] rfl)
