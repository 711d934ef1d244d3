

def v_readClauseV : List Cond := .code yX10_readClause cX10_readClause 3 none :: vA
abbrev rm_readClauseV : Room := { frames := 70, cells := 0, slots := 0, locals := 2800 }
def w_readClauseV : Nat → Nat → Bool := wl [22, 23, 24, 25] [(2, 2), (2, 3), (2, 5), (2, 9)]
set_option maxHeartbeats 4000000 in
set_option maxRecDepth 100000 in
theorem q_readClauseV (l : Launch) (dC : Nat → ClassId) (dI : Nat → Nat → Nat) (cT : Nat → ClassId) (cf : Nat → Nat) (hC : CF cf) (ad : Nat → Nat) (E : Nat → va_E) (sz : Nat)  (hI0 : IXL cT (shC cf) (spC cf) (LC cf) ad E) (hh0 : TPok (xi (E 24)) (xi (E 25)) (xi (E 2) 9) (xi (E 2) 5)) (hh1 : ClO (xi (E 2) 9) E) : Met l yX10_readClause v_readClauseV rm_readClauseV (va_Pc [.ref (ad 2)] (HWL dC dI (TYC cT) cf ad E sz)) (va_Qv (S := Nat → va_E) (fun u => IXL cT (shC cf) (spC cf) (LC cf) ad u ∧ Kp w_readClauseV E u ∧ (((xi (E 2) 5).toInt ≤ (xi (u 2) 5).toInt) ∧ (TPok (xi (u 24)) (xi (u 25)) (xi (u 2) 9) (xi (u 2) 5)) ∧ (RdC (fun t m a => clauseS false t m a) E u) ∧ (ClP (xi (E 2) 9) (xi (u 2) 9) u) ∧ (RdK E u))) (HBL dC dI (LC cf) ad) (va_A (WL (LC cf) ad E) sz)) 0 0 (va_A (WL (LC cf) ad E) sz) := by
  obtain ⟨⟨hc0, hc1, hc2, hc3, hc4, hc5⟩, hcr⟩ := id hC
  refine Met.ofW (cc := cX10_readClause) (maxL := 3) (ret := none) (by decide) rfl ?_
  intro p e s m args below meth c s₁ B hml hv
  obtain ⟨hargs, hsz, hP, hK, hD0, hEV⟩ := hv
  subst hsz
  have hx := B.exec
  have hb := B.bytes
  have hr := B.returns
  have hts := atoms_spec (ws := v_readClauseV) B.pre
  have hown : s.vm.findClass RX10 = some m.cls := findClass_of_methodNamed B.named
  have hlocks := B.notSynchronized
  have hinX10 : ∀ w ∈ u_ws RX10 TX10 10, w ∈ v_readClauseV := fun w h => vA_in _ w (in_X10 w h)
  generalize hAe : va_A (WL (LC cf) ad E) s.heap.size = A at hEV ⊢
  have hA : ∀ q : Nat, s.heap.size ≤ q → A q := fun q h => by rw [← hAe]; exact Or.inr h
  have hD : va_D A (WL (LC cf) ad E) := by rw [← hAe]; exact hD0.self
  have hS : va_S A s.heap s.heap [] := va_S.rf
  have hI := hI0
  have hKp : Kp w_readClauseV E E := Kp.rf
  have hl := lv_entry ([.ref (ad 2)]) (n := 3) (Nat.le_of_ble_eq_true rfl)
  obtain ⟨Q, hQ⟩ : ∃ Q, Q = MQ below (va_Qv (S := Nat → va_E) (fun u => IXL cT (shC cf) (spC cf) (LC cf) ad u ∧ Kp w_readClauseV E u ∧ (((xi (E 2) 5).toInt ≤ (xi (u 2) 5).toInt) ∧ (TPok (xi (u 24)) (xi (u 25)) (xi (u 2) 9) (xi (u 2) 5)) ∧ (RdC (fun t m a => clauseS false t m a) E u) ∧ (ClP (xi (E 2) 9) (xi (u 2) 9) u) ∧ (RdK E u))) (HBL dC dI (LC cf) ad) (A)) args s 0 0 (A) := ⟨_, rfl⟩
  rw [← hQ, show entryFrame m args 3 = _ from (congrArg (fun z => entryFrame m z 3) hargs).trans (lg_entry_eq _ _ _)]
  generalize (lg_sl ([.ref (ad 2)]) ++ List.replicate (3 - (lg_sl ([.ref (ad 2)])).length) Slot.unset).toArray = ls at hl ⊢
  have hl : lv_has ls 3 [(0, .ref (ad 2))] := hl
  obtain ⟨y1, ey1⟩ : ∃ y, xi (E 2) 5 = y := ⟨_, rfl⟩
  have fy1 : xv (E 2) 5 = .int y1 := (hI.fi 2 (mF 2 rfl) rfl (Nat.le_of_ble_eq_true rfl) rfl).trans (congrArg Value.int ey1)
  have i2 : 0 ≤ y1.toInt ∧ y1.toInt ≤ 200 := by rw [← ey1]; exact hI.iv 2 (mF 2 rfl) rfl (Nat.le_of_ble_eq_true rfl) rfl
  obtain ⟨g3, hg3⟩ : ∃ g, xi (E 24) = g := ⟨_, rfl⟩
  obtain ⟨g4, hg4⟩ : ∃ g, xi (E 25) = g := ⟨_, rfl⟩
  obtain ⟨y5, ey5⟩ : ∃ y, xi (E 2) 9 = y := ⟨_, rfl⟩
  have fy5 : xv (E 2) 9 = .int y5 := (hI.fi 2 (mF 2 rfl) rfl (Nat.le_of_ble_eq_true rfl) rfl).trans (congrArg Value.int ey5)
  have i6 : 0 ≤ y5.toInt ∧ y5.toInt ≤ 51 := by rw [← ey5]; exact hI.iv 2 (mF 2 rfl) rfl (Nat.le_of_ble_eq_true rfl) rfl
  have hTP := hh0
  try rw [show xi (E 24) = g3 from hg3] at hTP
  try rw [show xi (E 25) = g4 from hg4] at hTP
  try rw [show xi (E 2) 9 = y5 from vi_e fy5] at hTP
  try rw [show xi (E 2) 5 = y1 from vi_e fy1] at hTP
  have i7 : 0 ≤ (xi (E 2) 1).toInt ∧ (xi (E 2) 1).toInt ≤ 200 := hI0.iv 2 (mF 2 rfl) rfl (Nat.le_of_ble_eq_true rfl) rfl
  obtain ⟨g8, hg8⟩ : ∃ g, xi (E 23) = g := ⟨_, rfl⟩
  refine lv_aload_n hx hb dX10_readClause_0 rfl (lv_at hl 0 rfl) ?_
  refine th_iL (va_runV (As := []) (rest := []) ⟨hx, hb, hml, hown, hts⟩ (q_nextX l dC dI cT cf hC ad E s.heap.size hI) (cwV 0 hts (gi_V (in_8 _ (zs16 (zs4 (zs4 (zs1 (zs1 (zs1 (zs0)))))))) (in_8 _ (zs16 (zs4 (zs4 (zs4 (zs0)))))) (in_8 _ (zs16 (zs4 (zs4 (zs4 (zs1 (zs0))))))) (in_8 _ (zs4 (zs4 (zs4 (zs1 (zs1 (zs0))))))) (in_8 _ (zs16 (zs1 (zs1 (zs1 (zs0))))))) rfl rfl rfl ⟨rfl, hz_yX10_next_0⟩ ⟨Nat.le_of_ble_eq_true rfl, Nat.le_of_ble_eq_true rfl⟩) ⟨HWL_bl, va_recv hK hP (ci := 11) (q0 := posL 2 (LC cf)) rfl (hI.ob 2 (mF 2 rfl) rfl), (HWL_wi hP hK (WL_D hD) hS hA hEV)⟩ rfl rfl hl.1 rfl (lv_room (Nat.le_of_ble_eq_true rfl)) dX10_readClause_1 ⟨Nat.le_of_ble_eq_true rfl, Nat.le_of_ble_eq_true rfl⟩) (WL_D hD) hS hA (fun r9 E10 H locs hw hP hS => ?_)
  obtain ⟨hI, kq11, hw⟩ := hw
  have hKb := hKp
  have hKp := hKp.tr kq11 (wl_sub rfl rfl)
  obtain ⟨y12, ey12⟩ : ∃ y, xi (E10 2) 2 = y := ⟨_, rfl⟩
  have fy12 : xv (E10 2) 2 = .int y12 := (hI.fi 2 (mF 2 rfl) rfl (Nat.le_of_ble_eq_true rfl) rfl).trans (congrArg Value.int ey12)
  have i13 : 0 ≤ y12.toInt ∧ y12.toInt ≤ 200 := by rw [← ey12]; exact hI.iv 2 (mF 2 rfl) rfl (Nat.le_of_ble_eq_true rfl) rfl
  obtain ⟨f14, f15, f16⟩ := hw
  try rw [(show xi (E10 2) 2 = y12 from vi_e fy12)] at f15
  have k17 : SZ E E10 := SZ.tr SZ.rf (SZ.kp kq11 (fun _ => rfl) rfl : SZ E E10)
  refine lv_istore_n (lv' := [(1, .int r9), (0, .ref (ad 2))]) hx hb dX10_readClause_4 rfl hl (by decide) rfl (fun ls hl => ?_)
  obtain ⟨qs18, vs19, hRqs18, hSSqs18⟩ := hEV.2.1.1
  refine va_ldcS hx hb hown hRqs18 dX10_readClause_5 ?_
  refine lv_iload_n hx hb dX10_readClause_7 rfl (lv_at hl 0 rfl) ?_
  refine th_pi (va_runSN (As := [.ref qs18, .int r9]) (rest := []) ⟨hx, hb, hml, hown, hts⟩ (q_isOneOfX l qs18 vs19 tLAB r9 (by decide) (by decide) f14) ⟨va_cnB 2 hts (gi_0 (in_8 _ (zs16 (zs4 (zs4 (zs4 (zs1 (zs1 (zs1 (zs0)))))))))) rfl rfl rfl (hEV.1.1 _ (List.mem_of_getElem? (i := 12) rfl)) (hts _ (vA_in _ _ (in_4 _ (zs16 (zs4 (zs1 (zs1 (zs1 (zs0))))))))) hz_yX12_isOneOf_2 ⟨Nat.le_of_ble_eq_true rfl, Nat.le_of_ble_eq_true rfl⟩, (hts _ (vA_in _ _ (in_8 _ (zs16 (zs4 (zs4 (zs4 (zs1 (zs1 (zs0)))))))))), trivial⟩ ⟨fun a U g mk q => ⟨q.1, SS_c q.2⟩, fun U hU hW => ⟨rfl, SS_w hU hW hS (fun _ h => h.elim) hSSqs18⟩⟩ rfl rfl hl.1 rfl (lv_room (Nat.le_of_ble_eq_true rfl)) dX10_readClause_8 ⟨Nat.le_of_ble_eq_true rfl, Nat.le_of_ble_eq_true rfl⟩) hS (fun r20 H1 locs1 hw hk1 hS => ?_)
  have hP := ub_keep hP hk1
  generalize H1 = H at hP hS ⊢
  generalize locs1 = locs at hS ⊢
  rcases hw with hw | hw
  · -- isOneOfX, case 0
    obtain ⟨rfl, f21⟩ := hw
    refine lv_if_eq (tgt := 23) hx hb dX10_readClause_11 (by decide) (fun c22 => ?_) (fun c22 => ?_)
    · --11 taken
      exact absurd c22 (by decide)
    · --11 not
      refine lv_aload_n hx hb dX10_readClause_14 rfl (lv_at hl 1 rfl) ?_
      refine th_getL (ci := 11) (C := RX10) (T := TX10) (N := 10) (v := .int y5) hx hb hts hinX10 hown hK hP hI 2 (mF 2 rfl) rfl rfl 9 (Nat.le_of_ble_eq_true rfl) (hts _ (vA_in _ _ (in_7 _ (zs16 (zs16 (zs4 (zs0))))))) (fun _ h9 => h9) ((kq11 2 9 rfl).trans fy5) dX10_readClause_15 ?_
      refine lv_bipush (v := 51) hx hb dX10_readClause_18 (by decide) ?_
      refine lv_icmp_lt (tgt := 28) hx hb dX10_readClause_20 (by decide) (fun c23 => ?_) (fun c23 => ?_)
      · --20 taken
        have t24 : y5.toInt < 51 := ti_lt c23
        have i25 : 0 ≤ y5.toInt ∧ y5.toInt ≤ 50 := iv_lt_l t24 i6 (il_ 51) (by decide)
        refine lv_aload_n hx hb dX10_readClause_28 rfl (lv_at hl 1 rfl) ?_
        refine lv_dup hx hb dX10_readClause_29 rfl ?_
        refine th_getL (ci := 11) (C := RX10) (T := TX10) (N := 10) (v := .int y12) hx hb hts hinX10 hown hK hP hI 2 (mF 2 rfl) rfl rfl 2 (Nat.le_of_ble_eq_true rfl) (hts _ (vA_in _ _ (in_8 _ (zs4 (zs4 (zs1 (zs0))))))) (fun _ h9 => h9) fy12 dX10_readClause_30 ?_
        refine lv_iconst (v := 1) hx hb dX10_readClause_33 (by decide) ?_
        refine lv_iadd hx hb dX10_readClause_34 ?_
        refine lv_topi (fun y26 ey26 => ?_)
        obtain ⟨ty26, iy26⟩ := ti_add (e := 1) (f := 201) i13 ln_1 ey26 (by decide)
        have ty26 : y26.toInt = y12.toInt + 1 := ty26
        have iy26 : 1 ≤ y26.toInt ∧ y26.toInt ≤ 201 := iy26
        have i27 : 1 ≤ y26.toInt ∧ y26.toInt ≤ 200 := by omega
        refine th_putL (ci := 11) (C := RX10) (T := TX10) (N := 10) (v := .int y26) (ty := .int) hx hb hts hinX10 tyX10 tyX10_ok nmX10 hown hK hP (WL_D hD) hS hI 2 (mF 2 rfl) rfl rfl 2 (Nat.le_of_ble_eq_true rfl) (hts _ (vA_in _ _ (in_8 _ (zs4 (zs4 (zs1 (zs0))))))) (fun _ h9 => h9) rfl (by decide +kernel) rfl rfl (okI rfl (iv_w i27 (by decide))) dX10_readClause_35 (fun H locs E28 pw29 hI hP hS => ?_)
        have hKp := hKp.pw pw29 rfl
        have k30 : AtP E10 E28 := AtP.pw pw29.2 (vi_e fy12) (vi_e pw29.1) ty26 (by omega)
        have k31 : SZ E E28 := SZ.tr k17 (SZ.pw pw29 (by decide) (fun _ => by decide) : SZ E10 E28)
        refine lv_aload_n hx hb dX10_readClause_38 rfl (lv_at hl 1 rfl) ?_
        refine lv_bipush (v := 58) hx hb dX10_readClause_39 (by decide) ?_
        refine th_vL (va_runV (As := [.int 58]) (rest := []) ⟨hx, hb, hml, hown, hts⟩ (q_takeX l dC dI cT cf hC ad E28 H.size (58 : Int32) hI (iv_w ln_58 (by decide))) (cwV 1 hts (gi_V (in_8 _ (zs16 (zs16 (zs1 (zs1 (zs1 (zs0))))))) (in_8 _ (zs16 (zs16 (zs4 (zs0))))) (in_8 _ (zs16 (zs16 (zs4 (zs1 (zs0)))))) (in_8 _ (zs4 (zs4 (zs4 (zs1 (zs1 (zs0))))))) (in_8 _ (zs16 (zs16 (zs4 (zs1 (zs1 (zs0)))))))) rfl rfl rfl ⟨rfl, hz_yX10_take_1⟩ ⟨Nat.le_of_ble_eq_true rfl, Nat.le_of_ble_eq_true rfl⟩) ⟨HWL_bl, va_recv hK hP (ci := 11) (q0 := posL 2 (LC cf)) rfl (hI.ob 2 (mF 2 rfl) rfl), (HWL_wi hP hK (WL_D hD) hS hA hEV)⟩ rfl rfl hl.1 rfl (lv_room (Nat.le_of_ble_eq_true rfl)) dX10_readClause_41 ⟨Nat.le_of_ble_eq_true rfl, Nat.le_of_ble_eq_true rfl⟩) (WL_D hD) hS hA (fun E33 H locs hw hP hS => ?_)
        obtain ⟨hI, kq34, hw⟩ := hw
        have hKb := hKp
        have hKp := hKp.tr kq34 (wl_sub rfl rfl)
        have f35 := hw
        have k36 : SZ E E33 := SZ.tr k31 (SZ.kp kq34 (fun _ => rfl) rfl : SZ E28 E33)
        refine lv_aload_n hx hb dX10_readClause_44 rfl (lv_at hl 1 rfl) ?_
        refine th_getL (ci := 11) (C := RX10) (T := TX10) (N := 10) (v := .ref (ad 23)) hx hb hts hinX10 hown hK hP hI 2 (mF 2 rfl) rfl rfl 6 (Nat.le_of_ble_eq_true rfl) (hts _ (vA_in _ _ (in_7 _ (zs16 (zs16 (zs1 (zs1 (zs1 (zs0))))))))) (fun _ h9 => h9) (hI.fr 2 (mF 2 rfl) rfl (Nat.le_of_ble_eq_true rfl) 23 rfl) dX10_readClause_45 ?_
        refine lv_aload_n hx hb dX10_readClause_48 rfl (lv_at hl 1 rfl) ?_
        refine th_getL (ci := 11) (C := RX10) (T := TX10) (N := 10) (v := .int y5) hx hb hts hinX10 hown hK hP hI 2 (mF 2 rfl) rfl rfl 9 (Nat.le_of_ble_eq_true rfl) (hts _ (vA_in _ _ (in_7 _ (zs16 (zs16 (zs4 (zs0))))))) (fun _ h9 => h9) ((kq34 2 9 rfl).trans ((pw29.2 2 9 (fun q9 => absurd q9.2 (Nat.ne_of_beq_eq_false rfl))).trans ((kq11 2 9 rfl).trans fy5))) dX10_readClause_49 ?_
        refine lv_iload_n hx hb dX10_readClause_52 rfl (lv_at hl 0 rfl) ?_
        have n37 : vp_in y5 51 := (iv_in (n := 51) i25 (by decide))
        have i40 : 0 ≤ r9.toInt ∧ r9.toInt ≤ 255 := by omega
        refine th_iastL hx hb hK hP (WL_D hD) hS hI 23 (mF 23 rfl) rfl rfl n37 (okI rfl i40) dX10_readClause_53 (fun H locs E38 pw39 hI hP hS => ?_)
        have hKp := hKp.pw pw39 rfl
        obtain ⟨g41, eg41⟩ : ∃ z : Nat → Int32, z = upd g8 y5.toNatClampNeg r9 := ⟨_, rfl⟩
        have hg41 : xi (E38 23) = g41 := by rw [pw39.eu, ((kq34.ef 23 (fun _ => rfl)).trans ((pw29.ef 23 (Nat.ne_of_beq_eq_false rfl)).trans ((kq11.ef 23 (fun _ => rfl)).trans hg8))), eg41]
        have k42 : KS E33 E38 := KS.pw pw39.2 (by decide) (fun q => absurd q (by decide))
        have k43 : SZ E E38 := SZ.tr k36 (SZ.pw pw39 (by decide) (fun q9 => absurd q9 (by decide)) : SZ E33 E38)
        refine lv_aload_n hx hb dX10_readClause_54 rfl (lv_at hl 1 rfl) ?_
        refine th_getL (ci := 11) (C := RX10) (T := TX10) (N := 10) (v := .ref (ad 24)) hx hb hts hinX10 hown hK hP hI 2 (mF 2 rfl) rfl rfl 7 (Nat.le_of_ble_eq_true rfl) (hts _ (vA_in _ _ (in_7 _ (zs16 (zs16 (zs4 (zs1 (zs0)))))))) (fun _ h9 => h9) (hI.fr 2 (mF 2 rfl) rfl (Nat.le_of_ble_eq_true rfl) 24 rfl) dX10_readClause_55 ?_
        refine lv_aload_n hx hb dX10_readClause_58 rfl (lv_at hl 1 rfl) ?_
        refine th_getL (ci := 11) (C := RX10) (T := TX10) (N := 10) (v := .int y5) hx hb hts hinX10 hown hK hP hI 2 (mF 2 rfl) rfl rfl 9 (Nat.le_of_ble_eq_true rfl) (hts _ (vA_in _ _ (in_7 _ (zs16 (zs16 (zs4 (zs0))))))) (fun _ h9 => h9) ((pw39.2 2 9 (fun q9 => absurd q9.1 (Nat.ne_of_beq_eq_false rfl))).trans ((kq34 2 9 rfl).trans ((pw29.2 2 9 (fun q9 => absurd q9.2 (Nat.ne_of_beq_eq_false rfl))).trans ((kq11 2 9 rfl).trans fy5)))) dX10_readClause_59 ?_
        refine lv_aload_n hx hb dX10_readClause_62 rfl (lv_at hl 1 rfl) ?_
        refine th_getL (ci := 11) (C := RX10) (T := TX10) (N := 10) (v := .int y1) hx hb hts hinX10 hown hK hP hI 2 (mF 2 rfl) rfl rfl 5 (Nat.le_of_ble_eq_true rfl) (hts _ (vA_in _ _ (in_7 _ (zs16 (zs4 (zs4 (zs4 (zs1 (zs1 (zs0)))))))))) (fun _ h9 => h9) ((pw39.2 2 5 (fun q9 => absurd q9.1 (Nat.ne_of_beq_eq_false rfl))).trans ((kq34 2 5 rfl).trans ((pw29.2 2 5 (fun q9 => absurd q9.2 (Nat.ne_of_beq_eq_false rfl))).trans ((kq11 2 5 rfl).trans fy1)))) dX10_readClause_63 ?_
        have n44 : vp_in y5 52 := (iv_in (n := 52) i25 (by decide))
        refine th_iastL hx hb hK hP (WL_D hD) hS hI 24 (mF 24 rfl) rfl rfl n44 (okI rfl i2) dX10_readClause_66 (fun H locs E45 pw46 hI hP hS => ?_)
        have hKp := hKp.pw pw46 rfl
        obtain ⟨g47, eg47⟩ : ∃ z : Nat → Int32, z = upd g3 y5.toNatClampNeg y1 := ⟨_, rfl⟩
        have hg47 : xi (E45 24) = g47 := by rw [pw46.eu, ((pw39.ef 24 (Nat.ne_of_beq_eq_false rfl)).trans ((kq34.ef 24 (fun _ => rfl)).trans ((pw29.ef 24 (Nat.ne_of_beq_eq_false rfl)).trans ((kq11.ef 24 (fun _ => rfl)).trans hg3)))), eg47]
        have k48 : KS E38 E45 := KS.pw pw46.2 (by decide) (fun q => absurd q (by decide))
        have k49 : SZ E E45 := SZ.tr k43 (SZ.pw pw46 (by decide) (fun q9 => absurd q9 (by decide)) : SZ E38 E45)
        refine lv_aload_n hx hb dX10_readClause_67 rfl (lv_at hl 1 rfl) ?_
        refine th_getL (ci := 11) (C := RX10) (T := TX10) (N := 10) (v := .ref (ad 25)) hx hb hts hinX10 hown hK hP hI 2 (mF 2 rfl) rfl rfl 8 (Nat.le_of_ble_eq_true rfl) (hts _ (vA_in _ _ (in_7 _ (zs16 (zs16 (zs4 (zs1 (zs1 (zs0))))))))) (fun _ h9 => h9) (hI.fr 2 (mF 2 rfl) rfl (Nat.le_of_ble_eq_true rfl) 25 rfl) dX10_readClause_68 ?_
        refine lv_aload_n hx hb dX10_readClause_71 rfl (lv_at hl 1 rfl) ?_
        refine th_getL (ci := 11) (C := RX10) (T := TX10) (N := 10) (v := .int y5) hx hb hts hinX10 hown hK hP hI 2 (mF 2 rfl) rfl rfl 9 (Nat.le_of_ble_eq_true rfl) (hts _ (vA_in _ _ (in_7 _ (zs16 (zs16 (zs4 (zs0))))))) (fun _ h9 => h9) ((pw46.2 2 9 (fun q9 => absurd q9.1 (Nat.ne_of_beq_eq_false rfl))).trans ((pw39.2 2 9 (fun q9 => absurd q9.1 (Nat.ne_of_beq_eq_false rfl))).trans ((kq34 2 9 rfl).trans ((pw29.2 2 9 (fun q9 => absurd q9.2 (Nat.ne_of_beq_eq_false rfl))).trans ((kq11 2 9 rfl).trans fy5))))) dX10_readClause_72 ?_
        refine lv_aload_n hx hb dX10_readClause_75 rfl (lv_at hl 1 rfl) ?_
        refine th_getL (ci := 11) (C := RX10) (T := TX10) (N := 10) (v := .int y1) hx hb hts hinX10 hown hK hP hI 2 (mF 2 rfl) rfl rfl 5 (Nat.le_of_ble_eq_true rfl) (hts _ (vA_in _ _ (in_7 _ (zs16 (zs4 (zs4 (zs4 (zs1 (zs1 (zs0)))))))))) (fun _ h9 => h9) ((pw46.2 2 5 (fun q9 => absurd q9.1 (Nat.ne_of_beq_eq_false rfl))).trans ((pw39.2 2 5 (fun q9 => absurd q9.1 (Nat.ne_of_beq_eq_false rfl))).trans ((kq34 2 5 rfl).trans ((pw29.2 2 5 (fun q9 => absurd q9.2 (Nat.ne_of_beq_eq_false rfl))).trans ((kq11 2 5 rfl).trans fy1))))) dX10_readClause_76 ?_
        have n50 : vp_in y5 51 := (iv_in (n := 51) i25 (by decide))
        refine th_iastL hx hb hK hP (WL_D hD) hS hI 25 (mF 25 rfl) rfl rfl n50 (okI rfl i2) dX10_readClause_79 (fun H locs E51 pw52 hI hP hS => ?_)
        have hKp := hKp.pw pw52 rfl
        obtain ⟨g53, eg53⟩ : ∃ z : Nat → Int32, z = upd g4 y5.toNatClampNeg y1 := ⟨_, rfl⟩
        have hg53 : xi (E51 25) = g53 := by rw [pw52.eu, ((pw46.ef 25 (Nat.ne_of_beq_eq_false rfl)).trans ((pw39.ef 25 (Nat.ne_of_beq_eq_false rfl)).trans ((kq34.ef 25 (fun _ => rfl)).trans ((pw29.ef 25 (Nat.ne_of_beq_eq_false rfl)).trans ((kq11.ef 25 (fun _ => rfl)).trans hg4))))), eg53]
        have k54 : KS E45 E51 := KS.pw pw52.2 (by decide) (fun q => absurd q (by decide))
        have k55 : SZ E E51 := SZ.tr k49 (SZ.pw pw52 (by decide) (fun q9 => absurd q9 (by decide)) : SZ E45 E51)
        obtain ⟨qs56, vs57, hRqs56, hSSqs56⟩ := hEV.2.1.2.1
        refine va_ldcS hx hb hown hRqs56 dX10_readClause_80 ?_
        refine lv_aload_n hx hb dX10_readClause_82 rfl (lv_at hl 1 rfl) ?_
        refine th_iL (va_runV (As := []) (rest := [.ref qs56]) ⟨hx, hb, hml, hown, hts⟩ (q_nextX l dC dI cT cf hC ad E51 H.size hI) (cwV 0 hts (gi_V (in_8 _ (zs16 (zs4 (zs4 (zs1 (zs1 (zs1 (zs0)))))))) (in_8 _ (zs16 (zs4 (zs4 (zs4 (zs0)))))) (in_8 _ (zs16 (zs4 (zs4 (zs4 (zs1 (zs0))))))) (in_8 _ (zs4 (zs4 (zs4 (zs1 (zs1 (zs0))))))) (in_8 _ (zs16 (zs1 (zs1 (zs1 (zs0))))))) rfl rfl rfl ⟨rfl, hz_yX10_next_0⟩ ⟨Nat.le_of_ble_eq_true rfl, Nat.le_of_ble_eq_true rfl⟩) ⟨HWL_bl, va_recv hK hP (ci := 11) (q0 := posL 2 (LC cf)) rfl (hI.ob 2 (mF 2 rfl) rfl), (HWL_wi hP hK (WL_D hD) hS hA hEV)⟩ rfl rfl hl.1 rfl (lv_room (Nat.le_of_ble_eq_true rfl)) dX10_readClause_83 ⟨Nat.le_of_ble_eq_true rfl, Nat.le_of_ble_eq_true rfl⟩) (WL_D hD) hS hA (fun r58 E59 H locs hw hP hS => ?_)
        obtain ⟨hI, kq60, hw⟩ := hw
        have hKb := hKp
        have hKp := hKp.tr kq60 (wl_sub rfl rfl)
        obtain ⟨y61, ey61⟩ : ∃ y, xi (E59 2) 2 = y := ⟨_, rfl⟩
        have fy61 : xv (E59 2) 2 = .int y61 := (hI.fi 2 (mF 2 rfl) rfl (Nat.le_of_ble_eq_true rfl) rfl).trans (congrArg Value.int ey61)
        have i62 : 0 ≤ y61.toInt ∧ y61.toInt ≤ 200 := by rw [← ey61]; exact hI.iv 2 (mF 2 rfl) rfl (Nat.le_of_ble_eq_true rfl) rfl
        obtain ⟨f63, f64, f65⟩ := hw
        try rw [hKb.ei 2 1 rfl] at f64
        try rw [(show xi (E59 2) 2 = y61 from vi_e fy61)] at f64
        have k66 : SZ E E59 := SZ.tr k55 (SZ.kp kq60 (fun _ => rfl) rfl : SZ E51 E59)
        refine th_pi (va_runSN (As := [.ref qs56, .int r58]) (rest := []) ⟨hx, hb, hml, hown, hts⟩ (q_isOneOfX l qs56 vs57 tCON r58 (by decide) (by decide) f63) ⟨va_cnB 2 hts (gi_0 (in_8 _ (zs16 (zs4 (zs4 (zs4 (zs1 (zs1 (zs1 (zs0)))))))))) rfl rfl rfl (hEV.1.1 _ (List.mem_of_getElem? (i := 12) rfl)) (hts _ (vA_in _ _ (in_4 _ (zs16 (zs4 (zs1 (zs1 (zs1 (zs0))))))))) hz_yX12_isOneOf_2 ⟨Nat.le_of_ble_eq_true rfl, Nat.le_of_ble_eq_true rfl⟩, (hts _ (vA_in _ _ (in_8 _ (zs16 (zs4 (zs4 (zs4 (zs1 (zs1 (zs0)))))))))), trivial⟩ ⟨fun a U g mk q => ⟨q.1, SS_c q.2⟩, fun U hU hW => ⟨rfl, SS_w hU hW hS (fun _ h => h.elim) hSSqs56⟩⟩ rfl rfl hl.1 rfl (lv_room (Nat.le_of_ble_eq_true rfl)) dX10_readClause_86 ⟨Nat.le_of_ble_eq_true rfl, Nat.le_of_ble_eq_true rfl⟩) hS (fun r67 H1 locs1 hw hk1 hS => ?_)
        have hP := ub_keep hP hk1
        generalize H1 = H at hP hS ⊢
        generalize locs1 = locs at hS ⊢
        rcases hw with hw | hw
        · -- isOneOfX, case 0
          obtain ⟨rfl, f68⟩ := hw
          refine lv_istore_n (lv' := [(2, .int 1), (1, .int r9), (0, .ref (ad 2))]) hx hb dX10_readClause_89 rfl hl (by decide) rfl (fun ls hl => ?_)
          refine lv_iload_n hx hb dX10_readClause_90 rfl (lv_at hl 0 rfl) ?_
          refine lv_if_ne (tgt := 99) hx hb dX10_readClause_91 (by decide) (fun c69 => ?_) (fun c69 => ?_)
          · --91 taken
            refine lv_iload_n hx hb dX10_readClause_99 rfl (lv_at hl 0 rfl) ?_
            refine lv_if_ne (tgt := 115) hx hb dX10_readClause_100 (by decide) (fun c70 => ?_) (fun c70 => ?_)
            · --100 taken
              refine lv_aload_n hx hb dX10_readClause_115 rfl (lv_at hl 2 rfl) ?_
              refine lv_iconst (v := 0) hx hb dX10_readClause_116 (by decide) ?_
              refine lv_iload_n hx hb dX10_readClause_117 rfl (lv_at hl 0 rfl) ?_
              refine lv_if_ne (tgt := 125) hx hb dX10_readClause_118 (by decide) (fun c71 => ?_) (fun c71 => ?_)
              · --118 taken
                refine lv_iconst (v := 0) hx hb dX10_readClause_125 (by decide) ?_
                have z0 := ln_0
                refine th_vL (va_runV (As := [.int 0, .int 0]) (rest := []) ⟨hx, hb, hml, hown, hts⟩ ((q_cgroupV l 8).2.2 dC dI cT cf hC ad E59 H.size (0 : Int32) (0 : Int32) hI (iv_w ln_0 (by decide)) (by omega) (iv_w ln_0 (by decide))) (cwV 2 hts (gi_V (in_9 _ (zs16 (zs4 (zs4 (zs4 (zs0)))))) (in_9 _ (zs16 (zs4 (zs4 (zs4 (zs1 (zs0))))))) (in_9 _ (zs16 (zs4 (zs4 (zs4 (zs1 (zs1 (zs0)))))))) (in_8 _ (zs4 (zs4 (zs4 (zs1 (zs1 (zs0))))))) (in_9 _ (zs16 (zs4 (zs4 (zs4 (zs1 (zs1 (zs1 (zs0)))))))))) rfl rfl rfl (by decide +kernel) ⟨(show 7 * 8 + 13 + 1 ≤ 70 from Nat.le_of_ble_eq_true rfl), (show 8 + (4 + 11) + 40 * (7 * 8 + 13) ≤ 40 * (70) from Nat.le_of_ble_eq_true rfl)⟩) ⟨HWL_bl, va_recv hK hP (ci := 11) (q0 := posL 2 (LC cf)) rfl (hI.ob 2 (mF 2 rfl) rfl), (HWL_wi hP hK (WL_D hD) hS hA hEV)⟩ rfl rfl hl.1 rfl (lv_room (Nat.le_of_ble_eq_true rfl)) dX10_readClause_126 ⟨Nat.le_of_ble_eq_true rfl, Nat.le_of_ble_eq_true rfl⟩) (WL_D hD) hS hA (fun E73 H locs hw hP hS => ?_)
                obtain ⟨hI, kq74, hw⟩ := hw
                have hKb := hKp
                have hKp := hKp.tr kq74 (wl_sub rfl rfl)
                obtain ⟨y75, ey75⟩ : ∃ y, xi (E73 2) 5 = y := ⟨_, rfl⟩
                have fy75 : xv (E73 2) 5 = .int y75 := (hI.fi 2 (mF 2 rfl) rfl (Nat.le_of_ble_eq_true rfl) rfl).trans (congrArg Value.int ey75)
                have i76 : 0 ≤ y75.toInt ∧ y75.toInt ≤ 200 := by rw [← ey75]; exact hI.iv 2 (mF 2 rfl) rfl (Nat.le_of_ble_eq_true rfl) rfl
                obtain ⟨f77, f78, f79⟩ := hw
                try rw [(show xi (E59 2) 5 = y1 from vi_e ((kq60 2 5 rfl).trans ((pw52.2 2 5 (fun q9 => absurd q9.1 (Nat.ne_of_beq_eq_false rfl))).trans ((pw46.2 2 5 (fun q9 => absurd q9.1 (Nat.ne_of_beq_eq_false rfl))).trans ((pw39.2 2 5 (fun q9 => absurd q9.1 (Nat.ne_of_beq_eq_false rfl))).trans ((kq34 2 5 rfl).trans ((pw29.2 2 5 (fun q9 => absurd q9.2 (Nat.ne_of_beq_eq_false rfl))).trans ((kq11 2 5 rfl).trans fy1))))))))] at f77
                try rw [(show xi (E73 2) 5 = y75 from vi_e fy75)] at f77
                refine lv_aload_n hx hb dX10_readClause_129 rfl (lv_at hl 2 rfl) ?_
                refine lv_bipush (v := 63) hx hb dX10_readClause_130 (by decide) ?_
                refine th_vL (va_runV (As := [.int 63]) (rest := []) ⟨hx, hb, hml, hown, hts⟩ (q_takeX l dC dI cT cf hC ad E73 H.size (63 : Int32) hI (iv_w ln_63 (by decide))) (cwV 1 hts (gi_V (in_8 _ (zs16 (zs16 (zs1 (zs1 (zs1 (zs0))))))) (in_8 _ (zs16 (zs16 (zs4 (zs0))))) (in_8 _ (zs16 (zs16 (zs4 (zs1 (zs0)))))) (in_8 _ (zs4 (zs4 (zs4 (zs1 (zs1 (zs0))))))) (in_8 _ (zs16 (zs16 (zs4 (zs1 (zs1 (zs0)))))))) rfl rfl rfl ⟨rfl, hz_yX10_take_1⟩ ⟨Nat.le_of_ble_eq_true rfl, Nat.le_of_ble_eq_true rfl⟩) ⟨HWL_bl, va_recv hK hP (ci := 11) (q0 := posL 2 (LC cf)) rfl (hI.ob 2 (mF 2 rfl) rfl), (HWL_wi hP hK (WL_D hD) hS hA hEV)⟩ rfl rfl hl.1 rfl (lv_room (Nat.le_of_ble_eq_true rfl)) dX10_readClause_132 ⟨Nat.le_of_ble_eq_true rfl, Nat.le_of_ble_eq_true rfl⟩) (WL_D hD) hS hA (fun E81 H locs hw hP hS => ?_)
                obtain ⟨hI, kq82, hw⟩ := hw
                have hKb := hKp
                have hKp := hKp.tr kq82 (wl_sub rfl rfl)
                have f83 := hw
                have k84 : SZ E73 E81 := SZ.tr SZ.rf (SZ.kp kq82 (fun _ => rfl) rfl : SZ E73 E81)
                refine lv_aload_n hx hb dX10_readClause_135 rfl (lv_at hl 2 rfl) ?_
                refine th_getL (ci := 11) (C := RX10) (T := TX10) (N := 10) (v := .ref (ad 25)) hx hb hts hinX10 hown hK hP hI 2 (mF 2 rfl) rfl rfl 8 (Nat.le_of_ble_eq_true rfl) (hts _ (vA_in _ _ (in_7 _ (zs16 (zs16 (zs4 (zs1 (zs1 (zs0))))))))) (fun _ h9 => h9) (hI.fr 2 (mF 2 rfl) rfl (Nat.le_of_ble_eq_true rfl) 25 rfl) dX10_readClause_136 ?_
                refine lv_aload_n hx hb dX10_readClause_139 rfl (lv_at hl 2 rfl) ?_
                refine th_getL (ci := 11) (C := RX10) (T := TX10) (N := 10) (v := .int y5) hx hb hts hinX10 hown hK hP hI 2 (mF 2 rfl) rfl rfl 9 (Nat.le_of_ble_eq_true rfl) (hts _ (vA_in _ _ (in_7 _ (zs16 (zs16 (zs4 (zs0))))))) (fun _ h9 => h9) ((kq82 2 9 rfl).trans ((kq74 2 9 rfl).trans ((kq60 2 9 rfl).trans ((pw52.2 2 9 (fun q9 => absurd q9.1 (Nat.ne_of_beq_eq_false rfl))).trans ((pw46.2 2 9 (fun q9 => absurd q9.1 (Nat.ne_of_beq_eq_false rfl))).trans ((pw39.2 2 9 (fun q9 => absurd q9.1 (Nat.ne_of_beq_eq_false rfl))).trans ((kq34 2 9 rfl).trans ((pw29.2 2 9 (fun q9 => absurd q9.2 (Nat.ne_of_beq_eq_false rfl))).trans ((kq11 2 9 rfl).trans fy5))))))))) dX10_readClause_140 ?_
                refine lv_aload_n hx hb dX10_readClause_143 rfl (lv_at hl 2 rfl) ?_
                refine th_getL (ci := 11) (C := RX10) (T := TX10) (N := 10) (v := .int y75) hx hb hts hinX10 hown hK hP hI 2 (mF 2 rfl) rfl rfl 5 (Nat.le_of_ble_eq_true rfl) (hts _ (vA_in _ _ (in_7 _ (zs16 (zs4 (zs4 (zs4 (zs1 (zs1 (zs0)))))))))) (fun _ h9 => h9) ((kq82 2 5 rfl).trans fy75) dX10_readClause_144 ?_
                have n85 : vp_in y5 51 := (iv_in (n := 51) i25 (by decide))
                refine th_iastL hx hb hK hP (WL_D hD) hS hI 25 (mF 25 rfl) rfl rfl n85 (okI rfl i76) dX10_readClause_147 (fun H locs E86 pw87 hI hP hS => ?_)
                have hKp := hKp.pw pw87 rfl
                obtain ⟨g88, eg88⟩ : ∃ z : Nat → Int32, z = upd g53 y5.toNatClampNeg y75 := ⟨_, rfl⟩
                have hg88 : xi (E86 25) = g88 := by rw [pw87.eu, ((kq82.ef 25 (fun _ => rfl)).trans ((kq74.ef 25 (fun _ => rfl)).trans ((kq60.ef 25 (fun _ => rfl)).trans hg53))), eg88]
                have k89 : KS E81 E86 := KS.pw pw87.2 (by decide) (fun q => absurd q (by decide))
                have k90 : SZ E73 E86 := SZ.tr k84 (SZ.pw pw87 (by decide) (fun q9 => absurd q9 (by decide)) : SZ E81 E86)
                refine lv_aload_n hx hb dX10_readClause_148 rfl (lv_at hl 2 rfl) ?_
                refine lv_iconst (v := 0) hx hb dX10_readClause_149 (by decide) ?_
                refine th_vL (va_runV (As := [.int 0]) (rest := []) ⟨hx, hb, hml, hown, hts⟩ ((q_cgroupV l 8).1 dC dI cT cf hC ad E86 H.size (0 : Int32) hI (iv_w ln_0 (by decide)) (by omega)) (cwV 1 hts (gi_V (in_8 _ (zs16 (zs16 (zs4 (zs1 (zs1 (zs1 (zs0)))))))) (in_9 _ zs0) (in_9 _ (zs1 (zs0))) (in_8 _ (zs4 (zs4 (zs4 (zs1 (zs1 (zs0))))))) (in_9 _ (zs1 (zs1 (zs0))))) rfl rfl rfl (by decide +kernel) ⟨(show 7 * 8 + 9 + 1 ≤ 70 from Nat.le_of_ble_eq_true rfl), (show 8 + (4 + 11) + 40 * (7 * 8 + 9) ≤ 40 * (70) from Nat.le_of_ble_eq_true rfl)⟩) ⟨HWL_bl, va_recv hK hP (ci := 11) (q0 := posL 2 (LC cf)) rfl (hI.ob 2 (mF 2 rfl) rfl), (HWL_wi hP hK (WL_D hD) hS hA hEV)⟩ rfl rfl hl.1 rfl (lv_room (Nat.le_of_ble_eq_true rfl)) dX10_readClause_150 ⟨Nat.le_of_ble_eq_true rfl, Nat.le_of_ble_eq_true rfl⟩) (WL_D hD) hS hA (fun E92 H locs hw hP hS => ?_)
                obtain ⟨hI, kq93, hw⟩ := hw
                have hKb := hKp
                have hKp := hKp.tr kq93 (wl_sub rfl rfl)
                obtain ⟨y94, ey94⟩ : ∃ y, xi (E92 2) 5 = y := ⟨_, rfl⟩
                have fy94 : xv (E92 2) 5 = .int y94 := (hI.fi 2 (mF 2 rfl) rfl (Nat.le_of_ble_eq_true rfl) rfl).trans (congrArg Value.int ey94)
                have i95 : 0 ≤ y94.toInt ∧ y94.toInt ≤ 200 := by rw [← ey94]; exact hI.iv 2 (mF 2 rfl) rfl (Nat.le_of_ble_eq_true rfl) rfl
                obtain ⟨f96, f97, f98⟩ := hw
                try rw [(show xi (E86 2) 5 = y75 from vi_e ((pw87.2 2 5 (fun q9 => absurd q9.1 (Nat.ne_of_beq_eq_false rfl))).trans ((kq82 2 5 rfl).trans fy75)))] at f96
                try rw [(show xi (E92 2) 5 = y94 from vi_e fy94)] at f96
                refine lv_aload_n hx hb dX10_readClause_153 rfl (lv_at hl 2 rfl) ?_
                refine lv_dup hx hb dX10_readClause_154 rfl ?_
                refine th_getL (ci := 11) (C := RX10) (T := TX10) (N := 10) (v := .int y5) hx hb hts hinX10 hown hK hP hI 2 (mF 2 rfl) rfl rfl 9 (Nat.le_of_ble_eq_true rfl) (hts _ (vA_in _ _ (in_7 _ (zs16 (zs16 (zs4 (zs0))))))) (fun _ h9 => h9) ((kq93 2 9 rfl).trans ((pw87.2 2 9 (fun q9 => absurd q9.1 (Nat.ne_of_beq_eq_false rfl))).trans ((kq82 2 9 rfl).trans ((kq74 2 9 rfl).trans ((kq60 2 9 rfl).trans ((pw52.2 2 9 (fun q9 => absurd q9.1 (Nat.ne_of_beq_eq_false rfl))).trans ((pw46.2 2 9 (fun q9 => absurd q9.1 (Nat.ne_of_beq_eq_false rfl))).trans ((pw39.2 2 9 (fun q9 => absurd q9.1 (Nat.ne_of_beq_eq_false rfl))).trans ((kq34 2 9 rfl).trans ((pw29.2 2 9 (fun q9 => absurd q9.2 (Nat.ne_of_beq_eq_false rfl))).trans ((kq11 2 9 rfl).trans fy5))))))))))) dX10_readClause_155 ?_
                refine lv_iconst (v := 1) hx hb dX10_readClause_158 (by decide) ?_
                refine lv_iadd hx hb dX10_readClause_159 ?_
                refine lv_topi (fun y99 ey99 => ?_)
                obtain ⟨ty99, iy99⟩ := ti_add (e := 1) (f := 51) i25 ln_1 ey99 (by decide)
                have ty99 : y99.toInt = y5.toInt + 1 := ty99
                have iy99 : 1 ≤ y99.toInt ∧ y99.toInt ≤ 51 := iy99
                refine th_putL (ci := 11) (C := RX10) (T := TX10) (N := 10) (v := .int y99) (ty := .int) hx hb hts hinX10 tyX10 tyX10_ok nmX10 hown hK hP (WL_D hD) hS hI 2 (mF 2 rfl) rfl rfl 9 (Nat.le_of_ble_eq_true rfl) (hts _ (vA_in _ _ (in_7 _ (zs16 (zs16 (zs4 (zs0))))))) (fun _ h9 => h9) rfl (by decide +kernel) rfl rfl (okI rfl (iv_w iy99 (by decide))) dX10_readClause_160 (fun H locs E100 pw101 hI hP hS => ?_)
                have hKp := hKp.pw pw101 rfl
                have k102 : KS E92 E100 := KS.pw pw101.2 (by decide) (fun _ => by decide)
                have k103 : SZ E92 E100 := SZ.tr SZ.rf (SZ.pw pw101 (by decide) (fun _ => by decide) : SZ E92 E100)
                rw [hQ]
                exact W.vret hx hb hr (fun t ht hW => ⟨⟨E100, rfl, ⟨hI, hKp, ⟨by (try rw [(show xi (E100 2) 5 = y94 from vi_e ((pw101.2 2 5 (fun q9 => absurd q9.2 (Nat.ne_of_beq_eq_false rfl))).trans fy94))]); (try rw [ey1]); all_goals omega, by (try rw [show xi (E100 24) = g47 from ((pw101.ef 24 (Nat.ne_of_beq_eq_false rfl)).trans ((kq93.ef 24 (fun _ => rfl)).trans ((pw87.ef 24 (Nat.ne_of_beq_eq_false rfl)).trans ((kq82.ef 24 (fun _ => rfl)).trans ((kq74.ef 24 (fun _ => rfl)).trans ((kq60.ef 24 (fun _ => rfl)).trans ((pw52.ef 24 (Nat.ne_of_beq_eq_false rfl)).trans hg47)))))))]); (try rw [show xi (E100 25) = g88 from ((pw101.ef 25 (Nat.ne_of_beq_eq_false rfl)).trans ((kq93.ef 25 (fun _ => rfl)).trans hg88))]); (try rw [show xi (E100 2) 9 = y99 from vi_e pw101.1]); (try rw [show xi (E100 2) 5 = y94 from vi_e ((pw101.2 2 5 (fun q9 => absurd q9.2 (Nat.ne_of_beq_eq_false rfl))).trans fy94)]); exact TPok_push hTP (by omega) (by omega) (by omega) (fun k hk => by rw [eg47, pk_un hk]) (fun k hk => by rw [eg88, pk_un hk, eg53, pk_un hk]) (by rw [eg47, pk_us]; omega) (by rw [eg88, pk_us]; omega), clC f16 (ix_lab.mp f21.2) k30 f35 ((k42.tr k48).tr k54) (vC_c f65 (con_or.mp (ix_con.mp f68.2)) f78 (qsC f83 k89 f97 KS.rf)) k102, fun _ => by rw [show xi (E100 2) 9 = y99 from vi_e pw101.1, ey5]; omega, RdK.of (E6 := E73) (k := y5.toNatClampNeg) (clV_c f16 (ix_lab.mp f21.2) k30 f35 ((k42.tr k48).tr k54) f65 (con_or.mp (ix_con.mp f68.2)) k66 f78 f79 f83 k89 k90 f97 f98 k102 k103) (by show _ = (xi (E 2) 9).toNatClampNeg; rw [ey5]) (fun j9 hj9 => ⟨(by rw [show xi (E100 23) = g41 from ((pw101.ef 23 (Nat.ne_of_beq_eq_false rfl)).trans ((kq93.ef 23 (fun _ => rfl)).trans ((pw87.ef 23 (Nat.ne_of_beq_eq_false rfl)).trans ((kq82.ef 23 (fun _ => rfl)).trans ((kq74.ef 23 (fun _ => rfl)).trans ((kq60.ef 23 (fun _ => rfl)).trans ((pw52.ef 23 (Nat.ne_of_beq_eq_false rfl)).trans ((pw46.ef 23 (Nat.ne_of_beq_eq_false rfl)).trans hg41)))))))), eg41, pk_un hj9, show xi (E 23) = g8 from hg8]), (by rw [show xi (E100 24) = g47 from ((pw101.ef 24 (Nat.ne_of_beq_eq_false rfl)).trans ((kq93.ef 24 (fun _ => rfl)).trans ((pw87.ef 24 (Nat.ne_of_beq_eq_false rfl)).trans ((kq82.ef 24 (fun _ => rfl)).trans ((kq74.ef 24 (fun _ => rfl)).trans ((kq60.ef 24 (fun _ => rfl)).trans ((pw52.ef 24 (Nat.ne_of_beq_eq_false rfl)).trans hg47))))))), eg47, pk_un hj9, show xi (E 24) = g3 from hg3]), (by rw [show xi (E100 25) = g88 from ((pw101.ef 25 (Nat.ne_of_beq_eq_false rfl)).trans ((kq93.ef 25 (fun _ => rfl)).trans hg88)), eg88, pk_un hj9, eg53, pk_un hj9, show xi (E 25) = g4 from hg4])⟩) (by rw [show xi (E100 23) = g41 from ((pw101.ef 23 (Nat.ne_of_beq_eq_false rfl)).trans ((kq93.ef 23 (fun _ => rfl)).trans ((pw87.ef 23 (Nat.ne_of_beq_eq_false rfl)).trans ((kq82.ef 23 (fun _ => rfl)).trans ((kq74.ef 23 (fun _ => rfl)).trans ((kq60.ef 23 (fun _ => rfl)).trans ((pw52.ef 23 (Nat.ne_of_beq_eq_false rfl)).trans ((pw46.ef 23 (Nat.ne_of_beq_eq_false rfl)).trans hg41)))))))), eg41, pk_us]) (by rw [show xi (E100 24) = g47 from ((pw101.ef 24 (Nat.ne_of_beq_eq_false rfl)).trans ((kq93.ef 24 (fun _ => rfl)).trans ((pw87.ef 24 (Nat.ne_of_beq_eq_false rfl)).trans ((kq82.ef 24 (fun _ => rfl)).trans ((kq74.ef 24 (fun _ => rfl)).trans ((kq60.ef 24 (fun _ => rfl)).trans ((pw52.ef 24 (Nat.ne_of_beq_eq_false rfl)).trans hg47))))))), eg47, pk_us]; exact ey1.symm) (by rw [show xi (E100 25) = g88 from ((pw101.ef 25 (Nat.ne_of_beq_eq_false rfl)).trans ((kq93.ef 25 (fun _ => rfl)).trans hg88)), eg88, pk_us]; exact ey75.symm) (by show (xi (E100 2) 9).toNatClampNeg = _; rw [show xi (E100 2) 9 = y99 from vi_e pw101.1, tn_, tn_]; omega) (by rw [ey1]; omega) (by rw [ey75]; omega)⟩⟩, by show va_P (dC, dI) vwCl (WL (LC cf) ad E100) t.heap; rw [ht]; exact hP⟩, hS.F ht⟩) hS.2.2 dX10_readClause_163
              · --118 not
                exact absurd c71 (by decide)
            · --100 not
              exact absurd c70 (by decide)
          · --91 not
            exact absurd c69 (by decide)
        · -- isOneOfX, case 1
          obtain ⟨rfl, f104⟩ := hw
          refine lv_istore_n (lv' := [(2, .int 0), (1, .int r9), (0, .ref (ad 2))]) hx hb dX10_readClause_89 rfl hl (by decide) rfl (fun ls hl => ?_)
          refine lv_iload_n hx hb dX10_readClause_90 rfl (lv_at hl 0 rfl) ?_
          refine lv_if_ne (tgt := 99) hx hb dX10_readClause_91 (by decide) (fun c105 => ?_) (fun c105 => ?_)
          · --91 taken
            exact absurd c105 (by decide)
          · --91 not
            refine lv_aload_n hx hb dX10_readClause_94 rfl (lv_at hl 2 rfl) ?_
            refine lv_iconst (v := 0) hx hb dX10_readClause_95 (by decide) ?_
            have z0 := ln_0
            refine th_vL (va_runV (As := [.int 0]) (rest := []) ⟨hx, hb, hml, hown, hts⟩ ((q_cgroupV l 8).1 dC dI cT cf hC ad E59 H.size (0 : Int32) hI (iv_w ln_0 (by decide)) (by omega)) (cwV 1 hts (gi_V (in_8 _ (zs16 (zs16 (zs4 (zs1 (zs1 (zs1 (zs0)))))))) (in_9 _ zs0) (in_9 _ (zs1 (zs0))) (in_8 _ (zs4 (zs4 (zs4 (zs1 (zs1 (zs0))))))) (in_9 _ (zs1 (zs1 (zs0))))) rfl rfl rfl (by decide +kernel) ⟨(show 7 * 8 + 9 + 1 ≤ 70 from Nat.le_of_ble_eq_true rfl), (show 8 + (4 + 11) + 40 * (7 * 8 + 9) ≤ 40 * (70) from Nat.le_of_ble_eq_true rfl)⟩) ⟨HWL_bl, va_recv hK hP (ci := 11) (q0 := posL 2 (LC cf)) rfl (hI.ob 2 (mF 2 rfl) rfl), (HWL_wi hP hK (WL_D hD) hS hA hEV)⟩ rfl rfl hl.1 rfl (lv_room (Nat.le_of_ble_eq_true rfl)) dX10_readClause_96 ⟨Nat.le_of_ble_eq_true rfl, Nat.le_of_ble_eq_true rfl⟩) (WL_D hD) hS hA (fun E107 H locs hw hP hS => ?_)
            obtain ⟨hI, kq108, hw⟩ := hw
            have hKb := hKp
            have hKp := hKp.tr kq108 (wl_sub rfl rfl)
            obtain ⟨y109, ey109⟩ : ∃ y, xi (E107 2) 5 = y := ⟨_, rfl⟩
            have fy109 : xv (E107 2) 5 = .int y109 := (hI.fi 2 (mF 2 rfl) rfl (Nat.le_of_ble_eq_true rfl) rfl).trans (congrArg Value.int ey109)
            have i110 : 0 ≤ y109.toInt ∧ y109.toInt ≤ 200 := by rw [← ey109]; exact hI.iv 2 (mF 2 rfl) rfl (Nat.le_of_ble_eq_true rfl) rfl
            obtain ⟨f111, f112, f113⟩ := hw
            try rw [(show xi (E59 2) 5 = y1 from vi_e ((kq60 2 5 rfl).trans ((pw52.2 2 5 (fun q9 => absurd q9.1 (Nat.ne_of_beq_eq_false rfl))).trans ((pw46.2 2 5 (fun q9 => absurd q9.1 (Nat.ne_of_beq_eq_false rfl))).trans ((pw39.2 2 5 (fun q9 => absurd q9.1 (Nat.ne_of_beq_eq_false rfl))).trans ((kq34 2 5 rfl).trans ((pw29.2 2 5 (fun q9 => absurd q9.2 (Nat.ne_of_beq_eq_false rfl))).trans ((kq11 2 5 rfl).trans fy1))))))))] at f111
            try rw [(show xi (E107 2) 5 = y109 from vi_e fy109)] at f111
            refine lv_iload_n hx hb dX10_readClause_99 rfl (lv_at hl 0 rfl) ?_
            refine lv_if_ne (tgt := 115) hx hb dX10_readClause_100 (by decide) (fun c114 => ?_) (fun c114 => ?_)
            · --100 taken
              exact absurd c114 (by decide)
            · --100 not
              obtain ⟨qs115, vs116, hRqs115, hSSqs115⟩ := hEV.2.1.2.2.1
              refine va_ldcS hx hb hown hRqs115 dX10_readClause_103 ?_
              refine lv_aload_n hx hb dX10_readClause_105 rfl (lv_at hl 2 rfl) ?_
              refine th_iL (va_runV (As := []) (rest := [.ref qs115]) ⟨hx, hb, hml, hown, hts⟩ (q_nextX l dC dI cT cf hC ad E107 H.size hI) (cwV 0 hts (gi_V (in_8 _ (zs16 (zs4 (zs4 (zs1 (zs1 (zs1 (zs0)))))))) (in_8 _ (zs16 (zs4 (zs4 (zs4 (zs0)))))) (in_8 _ (zs16 (zs4 (zs4 (zs4 (zs1 (zs0))))))) (in_8 _ (zs4 (zs4 (zs4 (zs1 (zs1 (zs0))))))) (in_8 _ (zs16 (zs1 (zs1 (zs1 (zs0))))))) rfl rfl rfl ⟨rfl, hz_yX10_next_0⟩ ⟨Nat.le_of_ble_eq_true rfl, Nat.le_of_ble_eq_true rfl⟩) ⟨HWL_bl, va_recv hK hP (ci := 11) (q0 := posL 2 (LC cf)) rfl (hI.ob 2 (mF 2 rfl) rfl), (HWL_wi hP hK (WL_D hD) hS hA hEV)⟩ rfl rfl hl.1 rfl (lv_room (Nat.le_of_ble_eq_true rfl)) dX10_readClause_106 ⟨Nat.le_of_ble_eq_true rfl, Nat.le_of_ble_eq_true rfl⟩) (WL_D hD) hS hA (fun r117 E118 H locs hw hP hS => ?_)
              obtain ⟨hI, kq119, hw⟩ := hw
              have hKb := hKp
              have hKp := hKp.tr kq119 (wl_sub rfl rfl)
              obtain ⟨y120, ey120⟩ : ∃ y, xi (E118 2) 2 = y := ⟨_, rfl⟩
              have fy120 : xv (E118 2) 2 = .int y120 := (hI.fi 2 (mF 2 rfl) rfl (Nat.le_of_ble_eq_true rfl) rfl).trans (congrArg Value.int ey120)
              have i121 : 0 ≤ y120.toInt ∧ y120.toInt ≤ 200 := by rw [← ey120]; exact hI.iv 2 (mF 2 rfl) rfl (Nat.le_of_ble_eq_true rfl) rfl
              obtain ⟨f122, f123, f124⟩ := hw
              try rw [hKb.ei 2 1 rfl] at f123
              try rw [(show xi (E118 2) 2 = y120 from vi_e fy120)] at f123
              have k125 : SZ E107 E118 := SZ.tr SZ.rf (SZ.kp kq119 (fun _ => rfl) rfl : SZ E107 E118)
              refine th_pi (va_runSN (As := [.ref qs115, .int r117]) (rest := []) ⟨hx, hb, hml, hown, hts⟩ (q_isOneOfX l qs115 vs116 tCMP r117 (by decide) (by decide) f122) ⟨va_cnB 2 hts (gi_0 (in_8 _ (zs16 (zs4 (zs4 (zs4 (zs1 (zs1 (zs1 (zs0)))))))))) rfl rfl rfl (hEV.1.1 _ (List.mem_of_getElem? (i := 12) rfl)) (hts _ (vA_in _ _ (in_4 _ (zs16 (zs4 (zs1 (zs1 (zs1 (zs0))))))))) hz_yX12_isOneOf_2 ⟨Nat.le_of_ble_eq_true rfl, Nat.le_of_ble_eq_true rfl⟩, (hts _ (vA_in _ _ (in_8 _ (zs16 (zs4 (zs4 (zs4 (zs1 (zs1 (zs0)))))))))), trivial⟩ ⟨fun a U g mk q => ⟨q.1, SS_c q.2⟩, fun U hU hW => ⟨rfl, SS_w hU hW hS (fun _ h => h.elim) hSSqs115⟩⟩ rfl rfl hl.1 rfl (lv_room (Nat.le_of_ble_eq_true rfl)) dX10_readClause_109 ⟨Nat.le_of_ble_eq_true rfl, Nat.le_of_ble_eq_true rfl⟩) hS (fun r126 H1 locs1 hw hk1 hS => ?_)
              have hP := ub_keep hP hk1
              generalize H1 = H at hP hS ⊢
              generalize locs1 = locs at hS ⊢
              rcases hw with hw | hw
              · -- isOneOfX, case 0
                obtain ⟨rfl, f127⟩ := hw
                refine lv_if_eq (tgt := 153) hx hb dX10_readClause_112 (by decide) (fun c128 => ?_) (fun c128 => ?_)
                · --112 taken
                  exact absurd c128 (by decide)
                · --112 not
                  refine lv_aload_n hx hb dX10_readClause_115 rfl (lv_at hl 2 rfl) ?_
                  refine lv_iconst (v := 0) hx hb dX10_readClause_116 (by decide) ?_
                  refine lv_iload_n hx hb dX10_readClause_117 rfl (lv_at hl 0 rfl) ?_
                  refine lv_if_ne (tgt := 125) hx hb dX10_readClause_118 (by decide) (fun c129 => ?_) (fun c129 => ?_)
                  · --118 taken
                    exact absurd c129 (by decide)
                  · --118 not
                    refine lv_iconst (v := 1) hx hb dX10_readClause_121 (by decide) ?_
                    refine lv_goto (tgt := 126) hx hb dX10_readClause_122 (by decide) ?_
                    have z1 := ln_1
                    refine th_vL (va_runV (As := [.int 0, .int 1]) (rest := []) ⟨hx, hb, hml, hown, hts⟩ ((q_cgroupV l 8).2.2 dC dI cT cf hC ad E118 H.size (0 : Int32) (1 : Int32) hI (iv_w ln_0 (by decide)) (by omega) (iv_w ln_1 (by decide))) (cwV 2 hts (gi_V (in_9 _ (zs16 (zs4 (zs4 (zs4 (zs0)))))) (in_9 _ (zs16 (zs4 (zs4 (zs4 (zs1 (zs0))))))) (in_9 _ (zs16 (zs4 (zs4 (zs4 (zs1 (zs1 (zs0)))))))) (in_8 _ (zs4 (zs4 (zs4 (zs1 (zs1 (zs0))))))) (in_9 _ (zs16 (zs4 (zs4 (zs4 (zs1 (zs1 (zs1 (zs0)))))))))) rfl rfl rfl (by decide +kernel) ⟨(show 7 * 8 + 13 + 1 ≤ 70 from Nat.le_of_ble_eq_true rfl), (show 8 + (4 + 11) + 40 * (7 * 8 + 13) ≤ 40 * (70) from Nat.le_of_ble_eq_true rfl)⟩) ⟨HWL_bl, va_recv hK hP (ci := 11) (q0 := posL 2 (LC cf)) rfl (hI.ob 2 (mF 2 rfl) rfl), (HWL_wi hP hK (WL_D hD) hS hA hEV)⟩ rfl rfl hl.1 rfl (lv_room (Nat.le_of_ble_eq_true rfl)) dX10_readClause_126 ⟨Nat.le_of_ble_eq_true rfl, Nat.le_of_ble_eq_true rfl⟩) (WL_D hD) hS hA (fun E131 H locs hw hP hS => ?_)
                    obtain ⟨hI, kq132, hw⟩ := hw
                    have hKb := hKp
                    have hKp := hKp.tr kq132 (wl_sub rfl rfl)
                    obtain ⟨y133, ey133⟩ : ∃ y, xi (E131 2) 5 = y := ⟨_, rfl⟩
                    have fy133 : xv (E131 2) 5 = .int y133 := (hI.fi 2 (mF 2 rfl) rfl (Nat.le_of_ble_eq_true rfl) rfl).trans (congrArg Value.int ey133)
                    have i134 : 0 ≤ y133.toInt ∧ y133.toInt ≤ 200 := by rw [← ey133]; exact hI.iv 2 (mF 2 rfl) rfl (Nat.le_of_ble_eq_true rfl) rfl
                    obtain ⟨f135, f136, f137⟩ := hw
                    try rw [(show xi (E118 2) 5 = y109 from vi_e ((kq119 2 5 rfl).trans fy109))] at f135
                    try rw [(show xi (E131 2) 5 = y133 from vi_e fy133)] at f135
                    refine lv_aload_n hx hb dX10_readClause_129 rfl (lv_at hl 2 rfl) ?_
                    refine lv_bipush (v := 63) hx hb dX10_readClause_130 (by decide) ?_
                    refine th_vL (va_runV (As := [.int 63]) (rest := []) ⟨hx, hb, hml, hown, hts⟩ (q_takeX l dC dI cT cf hC ad E131 H.size (63 : Int32) hI (iv_w ln_63 (by decide))) (cwV 1 hts (gi_V (in_8 _ (zs16 (zs16 (zs1 (zs1 (zs1 (zs0))))))) (in_8 _ (zs16 (zs16 (zs4 (zs0))))) (in_8 _ (zs16 (zs16 (zs4 (zs1 (zs0)))))) (in_8 _ (zs4 (zs4 (zs4 (zs1 (zs1 (zs0))))))) (in_8 _ (zs16 (zs16 (zs4 (zs1 (zs1 (zs0)))))))) rfl rfl rfl ⟨rfl, hz_yX10_take_1⟩ ⟨Nat.le_of_ble_eq_true rfl, Nat.le_of_ble_eq_true rfl⟩) ⟨HWL_bl, va_recv hK hP (ci := 11) (q0 := posL 2 (LC cf)) rfl (hI.ob 2 (mF 2 rfl) rfl), (HWL_wi hP hK (WL_D hD) hS hA hEV)⟩ rfl rfl hl.1 rfl (lv_room (Nat.le_of_ble_eq_true rfl)) dX10_readClause_132 ⟨Nat.le_of_ble_eq_true rfl, Nat.le_of_ble_eq_true rfl⟩) (WL_D hD) hS hA (fun E139 H locs hw hP hS => ?_)
                    obtain ⟨hI, kq140, hw⟩ := hw
                    have hKb := hKp
                    have hKp := hKp.tr kq140 (wl_sub rfl rfl)
                    have f141 := hw
                    have k142 : SZ E131 E139 := SZ.tr SZ.rf (SZ.kp kq140 (fun _ => rfl) rfl : SZ E131 E139)
                    refine lv_aload_n hx hb dX10_readClause_135 rfl (lv_at hl 2 rfl) ?_
                    refine th_getL (ci := 11) (C := RX10) (T := TX10) (N := 10) (v := .ref (ad 25)) hx hb hts hinX10 hown hK hP hI 2 (mF 2 rfl) rfl rfl 8 (Nat.le_of_ble_eq_true rfl) (hts _ (vA_in _ _ (in_7 _ (zs16 (zs16 (zs4 (zs1 (zs1 (zs0))))))))) (fun _ h9 => h9) (hI.fr 2 (mF 2 rfl) rfl (Nat.le_of_ble_eq_true rfl) 25 rfl) dX10_readClause_136 ?_
                    refine lv_aload_n hx hb dX10_readClause_139 rfl (lv_at hl 2 rfl) ?_
                    refine th_getL (ci := 11) (C := RX10) (T := TX10) (N := 10) (v := .int y5) hx hb hts hinX10 hown hK hP hI 2 (mF 2 rfl) rfl rfl 9 (Nat.le_of_ble_eq_true rfl) (hts _ (vA_in _ _ (in_7 _ (zs16 (zs16 (zs4 (zs0))))))) (fun _ h9 => h9) ((kq140 2 9 rfl).trans ((kq132 2 9 rfl).trans ((kq119 2 9 rfl).trans ((kq108 2 9 rfl).trans ((kq60 2 9 rfl).trans ((pw52.2 2 9 (fun q9 => absurd q9.1 (Nat.ne_of_beq_eq_false rfl))).trans ((pw46.2 2 9 (fun q9 => absurd q9.1 (Nat.ne_of_beq_eq_false rfl))).trans ((pw39.2 2 9 (fun q9 => absurd q9.1 (Nat.ne_of_beq_eq_false rfl))).trans ((kq34 2 9 rfl).trans ((pw29.2 2 9 (fun q9 => absurd q9.2 (Nat.ne_of_beq_eq_false rfl))).trans ((kq11 2 9 rfl).trans fy5))))))))))) dX10_readClause_140 ?_
                    refine lv_aload_n hx hb dX10_readClause_143 rfl (lv_at hl 2 rfl) ?_
                    refine th_getL (ci := 11) (C := RX10) (T := TX10) (N := 10) (v := .int y133) hx hb hts hinX10 hown hK hP hI 2 (mF 2 rfl) rfl rfl 5 (Nat.le_of_ble_eq_true rfl) (hts _ (vA_in _ _ (in_7 _ (zs16 (zs4 (zs4 (zs4 (zs1 (zs1 (zs0)))))))))) (fun _ h9 => h9) ((kq140 2 5 rfl).trans fy133) dX10_readClause_144 ?_
                    have n143 : vp_in y5 51 := (iv_in (n := 51) i25 (by decide))
                    refine th_iastL hx hb hK hP (WL_D hD) hS hI 25 (mF 25 rfl) rfl rfl n143 (okI rfl i134) dX10_readClause_147 (fun H locs E144 pw145 hI hP hS => ?_)
                    have hKp := hKp.pw pw145 rfl
                    obtain ⟨g146, eg146⟩ : ∃ z : Nat → Int32, z = upd g53 y5.toNatClampNeg y133 := ⟨_, rfl⟩
                    have hg146 : xi (E144 25) = g146 := by rw [pw145.eu, ((kq140.ef 25 (fun _ => rfl)).trans ((kq132.ef 25 (fun _ => rfl)).trans ((kq119.ef 25 (fun _ => rfl)).trans ((kq108.ef 25 (fun _ => rfl)).trans ((kq60.ef 25 (fun _ => rfl)).trans hg53))))), eg146]
                    have k147 : KS E139 E144 := KS.pw pw145.2 (by decide) (fun q => absurd q (by decide))
                    have k148 : SZ E131 E144 := SZ.tr k142 (SZ.pw pw145 (by decide) (fun q9 => absurd q9 (by decide)) : SZ E139 E144)
                    refine lv_aload_n hx hb dX10_readClause_148 rfl (lv_at hl 2 rfl) ?_
                    refine lv_iconst (v := 0) hx hb dX10_readClause_149 (by decide) ?_
                    refine th_vL (va_runV (As := [.int 0]) (rest := []) ⟨hx, hb, hml, hown, hts⟩ ((q_cgroupV l 8).1 dC dI cT cf hC ad E144 H.size (0 : Int32) hI (iv_w ln_0 (by decide)) (by omega)) (cwV 1 hts (gi_V (in_8 _ (zs16 (zs16 (zs4 (zs1 (zs1 (zs1 (zs0)))))))) (in_9 _ zs0) (in_9 _ (zs1 (zs0))) (in_8 _ (zs4 (zs4 (zs4 (zs1 (zs1 (zs0))))))) (in_9 _ (zs1 (zs1 (zs0))))) rfl rfl rfl (by decide +kernel) ⟨(show 7 * 8 + 9 + 1 ≤ 70 from Nat.le_of_ble_eq_true rfl), (show 8 + (4 + 11) + 40 * (7 * 8 + 9) ≤ 40 * (70) from Nat.le_of_ble_eq_true rfl)⟩) ⟨HWL_bl, va_recv hK hP (ci := 11) (q0 := posL 2 (LC cf)) rfl (hI.ob 2 (mF 2 rfl) rfl), (HWL_wi hP hK (WL_D hD) hS hA hEV)⟩ rfl rfl hl.1 rfl (lv_room (Nat.le_of_ble_eq_true rfl)) dX10_readClause_150 ⟨Nat.le_of_ble_eq_true rfl, Nat.le_of_ble_eq_true rfl⟩) (WL_D hD) hS hA (fun E150 H locs hw hP hS => ?_)
                    obtain ⟨hI, kq151, hw⟩ := hw
                    have hKb := hKp
                    have hKp := hKp.tr kq151 (wl_sub rfl rfl)
                    obtain ⟨y152, ey152⟩ : ∃ y, xi (E150 2) 5 = y := ⟨_, rfl⟩
                    have fy152 : xv (E150 2) 5 = .int y152 := (hI.fi 2 (mF 2 rfl) rfl (Nat.le_of_ble_eq_true rfl) rfl).trans (congrArg Value.int ey152)
                    have i153 : 0 ≤ y152.toInt ∧ y152.toInt ≤ 200 := by rw [← ey152]; exact hI.iv 2 (mF 2 rfl) rfl (Nat.le_of_ble_eq_true rfl) rfl
                    obtain ⟨f154, f155, f156⟩ := hw
                    try rw [(show xi (E144 2) 5 = y133 from vi_e ((pw145.2 2 5 (fun q9 => absurd q9.1 (Nat.ne_of_beq_eq_false rfl))).trans ((kq140 2 5 rfl).trans fy133)))] at f154
                    try rw [(show xi (E150 2) 5 = y152 from vi_e fy152)] at f154
                    refine lv_aload_n hx hb dX10_readClause_153 rfl (lv_at hl 2 rfl) ?_
                    refine lv_dup hx hb dX10_readClause_154 rfl ?_
                    refine th_getL (ci := 11) (C := RX10) (T := TX10) (N := 10) (v := .int y5) hx hb hts hinX10 hown hK hP hI 2 (mF 2 rfl) rfl rfl 9 (Nat.le_of_ble_eq_true rfl) (hts _ (vA_in _ _ (in_7 _ (zs16 (zs16 (zs4 (zs0))))))) (fun _ h9 => h9) ((kq151 2 9 rfl).trans ((pw145.2 2 9 (fun q9 => absurd q9.1 (Nat.ne_of_beq_eq_false rfl))).trans ((kq140 2 9 rfl).trans ((kq132 2 9 rfl).trans ((kq119 2 9 rfl).trans ((kq108 2 9 rfl).trans ((kq60 2 9 rfl).trans ((pw52.2 2 9 (fun q9 => absurd q9.1 (Nat.ne_of_beq_eq_false rfl))).trans ((pw46.2 2 9 (fun q9 => absurd q9.1 (Nat.ne_of_beq_eq_false rfl))).trans ((pw39.2 2 9 (fun q9 => absurd q9.1 (Nat.ne_of_beq_eq_false rfl))).trans ((kq34 2 9 rfl).trans ((pw29.2 2 9 (fun q9 => absurd q9.2 (Nat.ne_of_beq_eq_false rfl))).trans ((kq11 2 9 rfl).trans fy5))))))))))))) dX10_readClause_155 ?_
                    refine lv_iconst (v := 1) hx hb dX10_readClause_158 (by decide) ?_
                    refine lv_iadd hx hb dX10_readClause_159 ?_
                    refine lv_topi (fun y157 ey157 => ?_)
                    obtain ⟨ty157, iy157⟩ := ti_add (e := 1) (f := 51) i25 ln_1 ey157 (by decide)
                    have ty157 : y157.toInt = y5.toInt + 1 := ty157
                    have iy157 : 1 ≤ y157.toInt ∧ y157.toInt ≤ 51 := iy157
                    refine th_putL (ci := 11) (C := RX10) (T := TX10) (N := 10) (v := .int y157) (ty := .int) hx hb hts hinX10 tyX10 tyX10_ok nmX10 hown hK hP (WL_D hD) hS hI 2 (mF 2 rfl) rfl rfl 9 (Nat.le_of_ble_eq_true rfl) (hts _ (vA_in _ _ (in_7 _ (zs16 (zs16 (zs4 (zs0))))))) (fun _ h9 => h9) rfl (by decide +kernel) rfl rfl (okI rfl (iv_w iy157 (by decide))) dX10_readClause_160 (fun H locs E158 pw159 hI hP hS => ?_)
                    have hKp := hKp.pw pw159 rfl
                    have k160 : KS E150 E158 := KS.pw pw159.2 (by decide) (fun _ => by decide)
                    have k161 : SZ E150 E158 := SZ.tr SZ.rf (SZ.pw pw159 (by decide) (fun _ => by decide) : SZ E150 E158)
                    rw [hQ]
                    exact W.vret hx hb hr (fun t ht hW => ⟨⟨E158, rfl, ⟨hI, hKp, ⟨by (try rw [(show xi (E158 2) 5 = y152 from vi_e ((pw159.2 2 5 (fun q9 => absurd q9.2 (Nat.ne_of_beq_eq_false rfl))).trans fy152))]); (try rw [ey1]); all_goals omega, by (try rw [show xi (E158 24) = g47 from ((pw159.ef 24 (Nat.ne_of_beq_eq_false rfl)).trans ((kq151.ef 24 (fun _ => rfl)).trans ((pw145.ef 24 (Nat.ne_of_beq_eq_false rfl)).trans ((kq140.ef 24 (fun _ => rfl)).trans ((kq132.ef 24 (fun _ => rfl)).trans ((kq119.ef 24 (fun _ => rfl)).trans ((kq108.ef 24 (fun _ => rfl)).trans ((kq60.ef 24 (fun _ => rfl)).trans ((pw52.ef 24 (Nat.ne_of_beq_eq_false rfl)).trans hg47)))))))))]); (try rw [show xi (E158 25) = g146 from ((pw159.ef 25 (Nat.ne_of_beq_eq_false rfl)).trans ((kq151.ef 25 (fun _ => rfl)).trans hg146))]); (try rw [show xi (E158 2) 9 = y157 from vi_e pw159.1]); (try rw [show xi (E158 2) 5 = y152 from vi_e ((pw159.2 2 5 (fun q9 => absurd q9.2 (Nat.ne_of_beq_eq_false rfl))).trans fy152)]); exact TPok_push hTP (by omega) (by omega) (by omega) (fun k hk => by rw [eg47, pk_un hk]) (fun k hk => by rw [eg146, pk_un hk, eg53, pk_un hk]) (by rw [eg47, pk_us]; omega) (by rw [eg146, pk_us]; omega), clC f16 (ix_lab.mp f21.2) k30 f35 ((k42.tr k48).tr k54) (vC_b f65 (no_con f104) f112 f124 (ix_cmp.mp f127.2) f136 (qsC f141 k147 f155 KS.rf)) k160, fun _ => by rw [show xi (E158 2) 9 = y157 from vi_e pw159.1, ey5]; omega, RdK.of (E6 := E131) (k := y5.toNatClampNeg) (clV_b f16 (ix_lab.mp f21.2) k30 f35 ((k42.tr k48).tr k54) f65 (no_con f104) k66 f112 f113 f124 (ix_cmp.mp f127.2) k125 f136 f137 f141 k147 k148 f155 f156 k160 k161) (by show _ = (xi (E 2) 9).toNatClampNeg; rw [ey5]) (fun j9 hj9 => ⟨(by rw [show xi (E158 23) = g41 from ((pw159.ef 23 (Nat.ne_of_beq_eq_false rfl)).trans ((kq151.ef 23 (fun _ => rfl)).trans ((pw145.ef 23 (Nat.ne_of_beq_eq_false rfl)).trans ((kq140.ef 23 (fun _ => rfl)).trans ((kq132.ef 23 (fun _ => rfl)).trans ((kq119.ef 23 (fun _ => rfl)).trans ((kq108.ef 23 (fun _ => rfl)).trans ((kq60.ef 23 (fun _ => rfl)).trans ((pw52.ef 23 (Nat.ne_of_beq_eq_false rfl)).trans ((pw46.ef 23 (Nat.ne_of_beq_eq_false rfl)).trans hg41)))))))))), eg41, pk_un hj9, show xi (E 23) = g8 from hg8]), (by rw [show xi (E158 24) = g47 from ((pw159.ef 24 (Nat.ne_of_beq_eq_false rfl)).trans ((kq151.ef 24 (fun _ => rfl)).trans ((pw145.ef 24 (Nat.ne_of_beq_eq_false rfl)).trans ((kq140.ef 24 (fun _ => rfl)).trans ((kq132.ef 24 (fun _ => rfl)).trans ((kq119.ef 24 (fun _ => rfl)).trans ((kq108.ef 24 (fun _ => rfl)).trans ((kq60.ef 24 (fun _ => rfl)).trans ((pw52.ef 24 (Nat.ne_of_beq_eq_false rfl)).trans hg47))))))))), eg47, pk_un hj9, show xi (E 24) = g3 from hg3]), (by rw [show xi (E158 25) = g146 from ((pw159.ef 25 (Nat.ne_of_beq_eq_false rfl)).trans ((kq151.ef 25 (fun _ => rfl)).trans hg146)), eg146, pk_un hj9, eg53, pk_un hj9, show xi (E 25) = g4 from hg4])⟩) (by rw [show xi (E158 23) = g41 from ((pw159.ef 23 (Nat.ne_of_beq_eq_false rfl)).trans ((kq151.ef 23 (fun _ => rfl)).trans ((pw145.ef 23 (Nat.ne_of_beq_eq_false rfl)).trans ((kq140.ef 23 (fun _ => rfl)).trans ((kq132.ef 23 (fun _ => rfl)).trans ((kq119.ef 23 (fun _ => rfl)).trans ((kq108.ef 23 (fun _ => rfl)).trans ((kq60.ef 23 (fun _ => rfl)).trans ((pw52.ef 23 (Nat.ne_of_beq_eq_false rfl)).trans ((pw46.ef 23 (Nat.ne_of_beq_eq_false rfl)).trans hg41)))))))))), eg41, pk_us]) (by rw [show xi (E158 24) = g47 from ((pw159.ef 24 (Nat.ne_of_beq_eq_false rfl)).trans ((kq151.ef 24 (fun _ => rfl)).trans ((pw145.ef 24 (Nat.ne_of_beq_eq_false rfl)).trans ((kq140.ef 24 (fun _ => rfl)).trans ((kq132.ef 24 (fun _ => rfl)).trans ((kq119.ef 24 (fun _ => rfl)).trans ((kq108.ef 24 (fun _ => rfl)).trans ((kq60.ef 24 (fun _ => rfl)).trans ((pw52.ef 24 (Nat.ne_of_beq_eq_false rfl)).trans hg47))))))))), eg47, pk_us]; exact ey1.symm) (by rw [show xi (E158 25) = g146 from ((pw159.ef 25 (Nat.ne_of_beq_eq_false rfl)).trans ((kq151.ef 25 (fun _ => rfl)).trans hg146)), eg146, pk_us]; exact ey133.symm) (by show (xi (E158 2) 9).toNatClampNeg = _; rw [show xi (E158 2) 9 = y157 from vi_e pw159.1, tn_, tn_]; omega) (by rw [ey1]; omega) (by rw [ey133]; omega)⟩⟩, by show va_P (dC, dI) vwCl (WL (LC cf) ad E158) t.heap; rw [ht]; exact hP⟩, hS.F ht⟩) hS.2.2 dX10_readClause_163
              · -- isOneOfX, case 1
                obtain ⟨rfl, f162⟩ := hw
                refine lv_if_eq (tgt := 153) hx hb dX10_readClause_112 (by decide) (fun c163 => ?_) (fun c163 => ?_)
                · --112 taken
                  refine lv_aload_n hx hb dX10_readClause_153 rfl (lv_at hl 2 rfl) ?_
                  refine lv_dup hx hb dX10_readClause_154 rfl ?_
                  refine th_getL (ci := 11) (C := RX10) (T := TX10) (N := 10) (v := .int y5) hx hb hts hinX10 hown hK hP hI 2 (mF 2 rfl) rfl rfl 9 (Nat.le_of_ble_eq_true rfl) (hts _ (vA_in _ _ (in_7 _ (zs16 (zs16 (zs4 (zs0))))))) (fun _ h9 => h9) ((kq119 2 9 rfl).trans ((kq108 2 9 rfl).trans ((kq60 2 9 rfl).trans ((pw52.2 2 9 (fun q9 => absurd q9.1 (Nat.ne_of_beq_eq_false rfl))).trans ((pw46.2 2 9 (fun q9 => absurd q9.1 (Nat.ne_of_beq_eq_false rfl))).trans ((pw39.2 2 9 (fun q9 => absurd q9.1 (Nat.ne_of_beq_eq_false rfl))).trans ((kq34 2 9 rfl).trans ((pw29.2 2 9 (fun q9 => absurd q9.2 (Nat.ne_of_beq_eq_false rfl))).trans ((kq11 2 9 rfl).trans fy5))))))))) dX10_readClause_155 ?_
                  refine lv_iconst (v := 1) hx hb dX10_readClause_158 (by decide) ?_
                  refine lv_iadd hx hb dX10_readClause_159 ?_
                  refine lv_topi (fun y164 ey164 => ?_)
                  obtain ⟨ty164, iy164⟩ := ti_add (e := 1) (f := 51) i25 ln_1 ey164 (by decide)
                  have ty164 : y164.toInt = y5.toInt + 1 := ty164
                  have iy164 : 1 ≤ y164.toInt ∧ y164.toInt ≤ 51 := iy164
                  refine th_putL (ci := 11) (C := RX10) (T := TX10) (N := 10) (v := .int y164) (ty := .int) hx hb hts hinX10 tyX10 tyX10_ok nmX10 hown hK hP (WL_D hD) hS hI 2 (mF 2 rfl) rfl rfl 9 (Nat.le_of_ble_eq_true rfl) (hts _ (vA_in _ _ (in_7 _ (zs16 (zs16 (zs4 (zs0))))))) (fun _ h9 => h9) rfl (by decide +kernel) rfl rfl (okI rfl (iv_w iy164 (by decide))) dX10_readClause_160 (fun H locs E165 pw166 hI hP hS => ?_)
                  have hKp := hKp.pw pw166 rfl
                  have k167 : KS E118 E165 := KS.pw pw166.2 (by decide) (fun _ => by decide)
                  have k168 : SZ E107 E165 := SZ.tr k125 (SZ.pw pw166 (by decide) (fun _ => by decide) : SZ E118 E165)
                  rw [hQ]
                  exact W.vret hx hb hr (fun t ht hW => ⟨⟨E165, rfl, ⟨hI, hKp, ⟨by (try rw [(show xi (E165 2) 5 = y109 from vi_e ((pw166.2 2 5 (fun q9 => absurd q9.2 (Nat.ne_of_beq_eq_false rfl))).trans ((kq119 2 5 rfl).trans fy109)))]); (try rw [ey1]); all_goals omega, by (try rw [show xi (E165 24) = g47 from ((pw166.ef 24 (Nat.ne_of_beq_eq_false rfl)).trans ((kq119.ef 24 (fun _ => rfl)).trans ((kq108.ef 24 (fun _ => rfl)).trans ((kq60.ef 24 (fun _ => rfl)).trans ((pw52.ef 24 (Nat.ne_of_beq_eq_false rfl)).trans hg47)))))]); (try rw [show xi (E165 25) = g53 from ((pw166.ef 25 (Nat.ne_of_beq_eq_false rfl)).trans ((kq119.ef 25 (fun _ => rfl)).trans ((kq108.ef 25 (fun _ => rfl)).trans ((kq60.ef 25 (fun _ => rfl)).trans hg53))))]); (try rw [show xi (E165 2) 9 = y164 from vi_e pw166.1]); (try rw [show xi (E165 2) 5 = y109 from vi_e ((pw166.2 2 5 (fun q9 => absurd q9.2 (Nat.ne_of_beq_eq_false rfl))).trans ((kq119 2 5 rfl).trans fy109))]); exact TPok_push hTP (by omega) (by omega) (by omega) (fun k hk => by rw [eg47, pk_un hk]) (fun k hk => by rw [eg53, pk_un hk]) (by rw [eg47, pk_us]; omega) (by rw [eg53, pk_us]; omega), clC f16 (ix_lab.mp f21.2) k30 f35 ((k42.tr k48).tr k54) (vC_s f65 (no_con f104) f112 f124 (no_cmp f162)) k167, fun _ => by rw [show xi (E165 2) 9 = y164 from vi_e pw166.1, ey5]; omega, RdK.of (E6 := E) (k := y5.toNatClampNeg) (clV_s f16 (ix_lab.mp f21.2) k30 f35 ((k42.tr k48).tr k54) f65 (no_con f104) k66 f112 f113 f124 (no_cmp f162) k167 k168) (by show _ = (xi (E 2) 9).toNatClampNeg; rw [ey5]) (fun j9 hj9 => ⟨(by rw [show xi (E165 23) = g41 from ((pw166.ef 23 (Nat.ne_of_beq_eq_false rfl)).trans ((kq119.ef 23 (fun _ => rfl)).trans ((kq108.ef 23 (fun _ => rfl)).trans ((kq60.ef 23 (fun _ => rfl)).trans ((pw52.ef 23 (Nat.ne_of_beq_eq_false rfl)).trans ((pw46.ef 23 (Nat.ne_of_beq_eq_false rfl)).trans hg41)))))), eg41, pk_un hj9, show xi (E 23) = g8 from hg8]), (by rw [show xi (E165 24) = g47 from ((pw166.ef 24 (Nat.ne_of_beq_eq_false rfl)).trans ((kq119.ef 24 (fun _ => rfl)).trans ((kq108.ef 24 (fun _ => rfl)).trans ((kq60.ef 24 (fun _ => rfl)).trans ((pw52.ef 24 (Nat.ne_of_beq_eq_false rfl)).trans hg47))))), eg47, pk_un hj9, show xi (E 24) = g3 from hg3]), (by rw [show xi (E165 25) = g53 from ((pw166.ef 25 (Nat.ne_of_beq_eq_false rfl)).trans ((kq119.ef 25 (fun _ => rfl)).trans ((kq108.ef 25 (fun _ => rfl)).trans ((kq60.ef 25 (fun _ => rfl)).trans hg53)))), eg53, pk_un hj9, show xi (E 25) = g4 from hg4])⟩) (by rw [show xi (E165 23) = g41 from ((pw166.ef 23 (Nat.ne_of_beq_eq_false rfl)).trans ((kq119.ef 23 (fun _ => rfl)).trans ((kq108.ef 23 (fun _ => rfl)).trans ((kq60.ef 23 (fun _ => rfl)).trans ((pw52.ef 23 (Nat.ne_of_beq_eq_false rfl)).trans ((pw46.ef 23 (Nat.ne_of_beq_eq_false rfl)).trans hg41)))))), eg41, pk_us]) (by rw [show xi (E165 24) = g47 from ((pw166.ef 24 (Nat.ne_of_beq_eq_false rfl)).trans ((kq119.ef 24 (fun _ => rfl)).trans ((kq108.ef 24 (fun _ => rfl)).trans ((kq60.ef 24 (fun _ => rfl)).trans ((pw52.ef 24 (Nat.ne_of_beq_eq_false rfl)).trans hg47))))), eg47, pk_us]; exact ey1.symm) (by rw [show xi (E165 25) = g53 from ((pw166.ef 25 (Nat.ne_of_beq_eq_false rfl)).trans ((kq119.ef 25 (fun _ => rfl)).trans ((kq108.ef 25 (fun _ => rfl)).trans ((kq60.ef 25 (fun _ => rfl)).trans hg53)))), eg53, pk_us]; exact ey1.symm) (by show (xi (E165 2) 9).toNatClampNeg = _; rw [show xi (E165 2) 9 = y164 from vi_e pw166.1, tn_, tn_]; omega) (by rw [ey1]; omega) (by rw [ey1]; omega)⟩⟩, by show va_P (dC, dI) vwCl (WL (LC cf) ad E165) t.heap; rw [ht]; exact hP⟩, hS.F ht⟩) hS.2.2 dX10_readClause_163
                · --112 not
                  exact absurd c163 (by decide)
      · --20 not
        have t169 : (51 : Int) ≤ y5.toInt := ti_nlt c23
        have i170 : 51 ≤ y5.toInt ∧ y5.toInt ≤ 51 := iv_le_r t169 (il_ 51) i6 (by decide)
        refine lv_aload_n hx hb dX10_readClause_23 rfl (lv_at hl 1 rfl) ?_
        refine th_vL (va_runV (As := []) (rest := []) ⟨hx, hb, hml, hown, hts⟩ (q_failX l dC dI cT cf hC ad E10 H.size hI) (cwV 0 hts (gi_V (in_8 _ (zs4 (zs4 (zs1 (zs1 (zs1 (zs0))))))) (in_8 _ (zs4 (zs4 (zs4 (zs0))))) (in_8 _ (zs4 (zs4 (zs4 (zs1 (zs0)))))) (in_8 _ (zs4 (zs4 (zs4 (zs1 (zs1 (zs0))))))) (in_8 _ (zs4 (zs1 (zs1 (zs1 (zs0))))))) rfl rfl rfl ⟨rfl, hz_yX10_fail_0⟩ ⟨Nat.le_of_ble_eq_true rfl, Nat.le_of_ble_eq_true rfl⟩) ⟨HWL_bl, va_recv hK hP (ci := 11) (q0 := posL 2 (LC cf)) rfl (hI.ob 2 (mF 2 rfl) rfl), (HWL_wi hP hK (WL_D hD) hS hA hEV)⟩ rfl rfl hl.1 rfl (lv_room (Nat.le_of_ble_eq_true rfl)) dX10_readClause_24 ⟨Nat.le_of_ble_eq_true rfl, Nat.le_of_ble_eq_true rfl⟩) (WL_D hD) hS hA (fun E172 H locs hw hP hS => ?_)
        obtain ⟨hI, kq173, hw⟩ := hw
        have hKb := hKp
        have hKp := hKp.tr kq173 (wl_sub rfl rfl)
        have f174 := hw
        rw [hQ]
        exact W.vret hx hb hr (fun t ht hW => ⟨⟨E172, rfl, ⟨hI, hKp, ⟨by (try rw [(show xi (E172 2) 5 = y1 from vi_e ((kq173 2 5 rfl).trans ((kq11 2 5 rfl).trans fy1)))]); (try rw [ey1]); all_goals omega, by (try rw [show xi (E172 24) = g3 from ((kq173.ef 24 (fun _ => rfl)).trans ((kq11.ef 24 (fun _ => rfl)).trans hg3))]); (try rw [show xi (E172 25) = g4 from ((kq173.ef 25 (fun _ => rfl)).trans ((kq11.ef 25 (fun _ => rfl)).trans hg4))]); (try rw [show xi (E172 2) 9 = y5 from vi_e ((kq173 2 9 rfl).trans ((kq11 2 9 rfl).trans fy5))]); (try rw [show xi (E172 2) 5 = y1 from vi_e ((kq173 2 5 rfl).trans ((kq11 2 5 rfl).trans fy1))]); exact TPok_m hTP (by omega), (cl51 f16 (by omega) hh1 (by rw [ey5]; omega) (by have ka := tA_e fy12 (by omega); omega)).elim, fun q9 => by exfalso; exact rdF_no f16 f174 q9, RdK.no f174⟩⟩, by show va_P (dC, dI) vwCl (WL (LC cf) ad E172) t.heap; rw [ht]; exact hP⟩, hS.F ht⟩) hS.2.2 dX10_readClause_27
  · -- isOneOfX, case 1
    obtain ⟨rfl, f175⟩ := hw
    refine lv_if_eq (tgt := 23) hx hb dX10_readClause_11 (by decide) (fun c176 => ?_) (fun c176 => ?_)
    · --11 taken
      refine lv_aload_n hx hb dX10_readClause_23 rfl (lv_at hl 1 rfl) ?_
      refine th_vL (va_runV (As := []) (rest := []) ⟨hx, hb, hml, hown, hts⟩ (q_failX l dC dI cT cf hC ad E10 H.size hI) (cwV 0 hts (gi_V (in_8 _ (zs4 (zs4 (zs1 (zs1 (zs1 (zs0))))))) (in_8 _ (zs4 (zs4 (zs4 (zs0))))) (in_8 _ (zs4 (zs4 (zs4 (zs1 (zs0)))))) (in_8 _ (zs4 (zs4 (zs4 (zs1 (zs1 (zs0))))))) (in_8 _ (zs4 (zs1 (zs1 (zs1 (zs0))))))) rfl rfl rfl ⟨rfl, hz_yX10_fail_0⟩ ⟨Nat.le_of_ble_eq_true rfl, Nat.le_of_ble_eq_true rfl⟩) ⟨HWL_bl, va_recv hK hP (ci := 11) (q0 := posL 2 (LC cf)) rfl (hI.ob 2 (mF 2 rfl) rfl), (HWL_wi hP hK (WL_D hD) hS hA hEV)⟩ rfl rfl hl.1 rfl (lv_room (Nat.le_of_ble_eq_true rfl)) dX10_readClause_24 ⟨Nat.le_of_ble_eq_true rfl, Nat.le_of_ble_eq_true rfl⟩) (WL_D hD) hS hA (fun E178 H locs hw hP hS => ?_)
      obtain ⟨hI, kq179, hw⟩ := hw
      have hKb := hKp
      have hKp := hKp.tr kq179 (wl_sub rfl rfl)
      have f180 := hw
      rw [hQ]
      exact W.vret hx hb hr (fun t ht hW => ⟨⟨E178, rfl, ⟨hI, hKp, ⟨by (try rw [(show xi (E178 2) 5 = y1 from vi_e ((kq179 2 5 rfl).trans ((kq11 2 5 rfl).trans fy1)))]); (try rw [ey1]); all_goals omega, by (try rw [show xi (E178 24) = g3 from ((kq179.ef 24 (fun _ => rfl)).trans ((kq11.ef 24 (fun _ => rfl)).trans hg3))]); (try rw [show xi (E178 25) = g4 from ((kq179.ef 25 (fun _ => rfl)).trans ((kq11.ef 25 (fun _ => rfl)).trans hg4))]); (try rw [show xi (E178 2) 9 = y5 from vi_e ((kq179 2 9 rfl).trans ((kq11 2 9 rfl).trans fy5))]); (try rw [show xi (E178 2) 5 = y1 from vi_e ((kq179 2 5 rfl).trans ((kq11 2 5 rfl).trans fy1))]); exact TPok_m hTP (by omega), clC_no f16 (no_lab f175) f180, fun q9 => by exfalso; exact rdF_no f16 f180 q9, RdK.no f180⟩⟩, by show va_P (dC, dI) vwCl (WL (LC cf) ad E178) t.heap; rw [ht]; exact hP⟩, hS.F ht⟩) hS.2.2 dX10_readClause_27
    · --11 not
      exact absurd c176 (by decide)
def v_readV : List Cond := .code yX10_read cX10_read 2 (some .int) :: vA
abbrev rm_readV : Room := { frames := 71, cells := 0, slots := 0, locals := 2840 }
def w_readV : Nat → Nat → Bool := wl [22, 23, 24, 25] [(2, 2), (2, 3), (2, 5), (2, 9)]
set_option maxHeartbeats 4000000 in
set_option maxRecDepth 100000 in
theorem q_readV (l : Launch) (dC : Nat → ClassId) (dI : Nat → Nat → Nat) (cT : Nat → ClassId) (cf : Nat → Nat) (hC : CF cf) (ad : Nat → Nat) (E : Nat → va_E) (sz : Nat)  (hI0 : IXL cT (shC cf) (spC cf) (LC cf) ad E)  : Met l yX10_read v_readV rm_readV (va_Pc [.ref (ad 2)] (HWL dC dI (TYC cT) cf ad E sz)) (va_Qi (S := Nat → va_E) (fun r u => IXL cT (shC cf) (spC cf) (LC cf) ad u ∧ Kp w_readV E u ∧ ((-1 ≤ r.toInt ∧ r.toInt ≤ 200) ∧ ((TPok (xi (u 24)) (xi (u 25)) (xi (u 2) 9) (xi (u 2) 5) ∧ (xi (u 24) (xi (u 2) 9).toNatClampNeg).toInt ≤ (xi (u 2) 5).toInt)) ∧ (Flt E u) ∧ (r.toInt = tF u) ∧ (Txt E u))) (HBL dC dI (LC cf) ad) (va_A (WL (LC cf) ad E) sz)) 0 0 (va_A (WL (LC cf) ad E) sz) := by
  obtain ⟨⟨hc0, hc1, hc2, hc3, hc4, hc5⟩, hcr⟩ := id hC
  refine Met.ofW (cc := cX10_read) (maxL := 2) (ret := (some .int)) (by decide) rfl ?_
  intro p e s m args below meth c s₁ B hml hv
  obtain ⟨hargs, hsz, hP, hK, hD0, hEV⟩ := hv
  subst hsz
  have hx := B.exec
  have hb := B.bytes
  have hr := B.returns
  have hts := atoms_spec (ws := v_readV) B.pre
  have hown : s.vm.findClass RX10 = some m.cls := findClass_of_methodNamed B.named
  have hlocks := B.notSynchronized
  have hinX10 : ∀ w ∈ u_ws RX10 TX10 10, w ∈ v_readV := fun w h => vA_in _ w (in_X10 w h)
  generalize hAe : va_A (WL (LC cf) ad E) s.heap.size = A at hEV ⊢
  have hA : ∀ q : Nat, s.heap.size ≤ q → A q := fun q h => by rw [← hAe]; exact Or.inr h
  have hD : va_D A (WL (LC cf) ad E) := by rw [← hAe]; exact hD0.self
  have hS : va_S A s.heap s.heap [] := va_S.rf
  have hI := hI0
  have hKp : Kp w_readV E E := Kp.rf
  have hl := lv_entry ([.ref (ad 2)]) (n := 2) (Nat.le_of_ble_eq_true rfl)
  obtain ⟨Q, hQ⟩ : ∃ Q, Q = MQ below (va_Qi (S := Nat → va_E) (fun r u => IXL cT (shC cf) (spC cf) (LC cf) ad u ∧ Kp w_readV E u ∧ ((-1 ≤ r.toInt ∧ r.toInt ≤ 200) ∧ ((TPok (xi (u 24)) (xi (u 25)) (xi (u 2) 9) (xi (u 2) 5) ∧ (xi (u 24) (xi (u 2) 9).toNatClampNeg).toInt ≤ (xi (u 2) 5).toInt)) ∧ (Flt E u) ∧ (r.toInt = tF u) ∧ (Txt E u))) (HBL dC dI (LC cf) ad) (A)) args s 0 0 (A) := ⟨_, rfl⟩
  rw [← hQ, show entryFrame m args 2 = _ from (congrArg (fun z => entryFrame m z 2) hargs).trans (lg_entry_eq _ _ _)]
  generalize (lg_sl ([.ref (ad 2)]) ++ List.replicate (2 - (lg_sl ([.ref (ad 2)])).length) Slot.unset).toArray = ls at hl ⊢
  have hl : lv_has ls 2 [(0, .ref (ad 2))] := hl
  have i1 : 0 ≤ (xi (E 2) 1).toInt ∧ (xi (E 2) 1).toInt ≤ 200 := hI0.iv 2 (mF 2 rfl) rfl (Nat.le_of_ble_eq_true rfl) rfl
  refine lv_aload_n hx hb dX10_read_0 rfl (lv_at hl 0 rfl) ?_
  refine lv_iconst (v := 0) hx hb dX10_read_1 (by decide) ?_
  refine th_putL (ci := 11) (C := RX10) (T := TX10) (N := 10) (v := .int 0) (ty := .int) hx hb hts hinX10 tyX10 tyX10_ok nmX10 hown hK hP (WL_D hD) hS hI 2 (mF 2 rfl) rfl rfl 2 (Nat.le_of_ble_eq_true rfl) (hts _ (vA_in _ _ (in_8 _ (zs4 (zs4 (zs1 (zs0))))))) (fun _ h9 => h9) rfl (by decide +kernel) rfl rfl (okI rfl (iv_w ln_0 (by decide))) dX10_read_2 (fun H locs E2 pw3 hI hP hS => ?_)
  have hKp := hKp.pw pw3 rfl
  refine lv_aload_n hx hb dX10_read_5 rfl (lv_at hl 0 rfl) ?_
  refine lv_iconst (v := -1) hx hb dX10_read_6 (by decide) ?_
  refine th_putL (ci := 11) (C := RX10) (T := TX10) (N := 10) (v := .int (-1)) (ty := .int) hx hb hts hinX10 tyX10 tyX10_ok nmX10 hown hK hP (WL_D hD) hS hI 2 (mF 2 rfl) rfl rfl 3 (Nat.le_of_ble_eq_true rfl) (hts _ (vA_in _ _ (in_8 _ (zs4 (zs4 (zs0)))))) (fun _ h9 => h9) rfl (by decide +kernel) rfl rfl (okI rfl (iv_w ln_m1 (by decide))) dX10_read_7 (fun H locs E4 pw5 hI hP hS => ?_)
  have hKp := hKp.pw pw5 rfl
  refine lv_aload_n hx hb dX10_read_10 rfl (lv_at hl 0 rfl) ?_
  refine lv_iconst (v := 0) hx hb dX10_read_11 (by decide) ?_
  refine th_putL (ci := 11) (C := RX10) (T := TX10) (N := 10) (v := .int 0) (ty := .int) hx hb hts hinX10 tyX10 tyX10_ok nmX10 hown hK hP (WL_D hD) hS hI 2 (mF 2 rfl) rfl rfl 5 (Nat.le_of_ble_eq_true rfl) (hts _ (vA_in _ _ (in_7 _ (zs16 (zs4 (zs4 (zs4 (zs1 (zs1 (zs0)))))))))) (fun _ h9 => h9) rfl (by decide +kernel) rfl rfl (okI rfl (iv_w ln_0 (by decide))) dX10_read_12 (fun H locs E6 pw7 hI hP hS => ?_)
  have hKp := hKp.pw pw7 rfl
  refine lv_aload_n hx hb dX10_read_15 rfl (lv_at hl 0 rfl) ?_
  refine lv_iconst (v := 0) hx hb dX10_read_16 (by decide) ?_
  refine th_putL (ci := 11) (C := RX10) (T := TX10) (N := 10) (v := .int 0) (ty := .int) hx hb hts hinX10 tyX10 tyX10_ok nmX10 hown hK hP (WL_D hD) hS hI 2 (mF 2 rfl) rfl rfl 9 (Nat.le_of_ble_eq_true rfl) (hts _ (vA_in _ _ (in_7 _ (zs16 (zs16 (zs4 (zs0))))))) (fun _ h9 => h9) rfl (by decide +kernel) rfl rfl (okI rfl (iv_w ln_0 (by decide))) dX10_read_17 (fun H locs E8 pw9 hI hP hS => ?_)
  have hKp := hKp.pw pw9 rfl
  have kts : TS E E8 := TS.kp hKp (fun _ => rfl) rfl
  have kf0 : tF E8 = -1 := by show (xi (E8 2) 3).toInt = -1; rw [show xi (E8 2) 3 = (-1 : Int32) from vi_e ((pw9.2 2 3 (fun q9 => absurd q9.2 (Nat.ne_of_beq_eq_false rfl))).trans ((pw7.2 2 3 (fun q9 => absurd q9.2 (Nat.ne_of_beq_eq_false rfl))).trans pw5.1))]; rfl
  have ka0 : tA E8 = 0 := by show (xi (E8 2) 2).toNatClampNeg = 0; rw [show xi (E8 2) 2 = (0 : Int32) from vi_e ((pw9.2 2 2 (fun q9 => absurd q9.2 (Nat.ne_of_beq_eq_false rfl))).trans ((pw7.2 2 2 (fun q9 => absurd q9.2 (Nat.ne_of_beq_eq_false rfl))).trans ((pw5.2 2 2 (fun q9 => absurd q9.2 (Nat.ne_of_beq_eq_false rfl))).trans pw3.1)))]; rfl
  have kc0 : ClO (0 : Int32) E8 := fun _ => by have z0 : (0 : Int32).toInt = 0 := rfl; omega
  have kt5 : tS E8 = 0 := by show (xi (E8 2) 5).toNatClampNeg = 0; rw [show xi (E8 2) 5 = (0 : Int32) from vi_e ((pw9.2 2 5 (fun q9 => absurd q9.2 (Nat.ne_of_beq_eq_false rfl))).trans pw7.1)]; rfl
  have kt9 : tC E8 = 0 := by show (xi (E8 2) 9).toNatClampNeg = 0; rw [show xi (E8 2) 9 = (0 : Int32) from vi_e pw9.1]; rfl
  refine lv_aload_n hx hb dX10_read_20 rfl (lv_at hl 0 rfl) ?_
  obtain ⟨g10, hg10⟩ : ∃ g, xi (E8 24) = g := ⟨_, rfl⟩
  obtain ⟨g11, hg11⟩ : ∃ g, xi (E8 25) = g := ⟨_, rfl⟩
  have z0 := ln_0
  refine th_vL (va_runV (As := []) (rest := []) ⟨hx, hb, hml, hown, hts⟩ (q_readClauseV l dC dI cT cf hC ad E8 H.size hI (by (try rw [(show xi (E8 2) 5 = (0 : Int32) from vi_e ((pw9.2 2 5 (fun q9 => absurd q9.2 (Nat.ne_of_beq_eq_false rfl))).trans pw7.1))]); (try rw [(show xi (E8 2) 9 = (0 : Int32) from vi_e pw9.1)]); (try rw [show xi (E8 24) = g10 from hg10]); (try rw [show xi (E8 25) = g11 from hg11]); (try rw [show xi (E8 2) 9 = (0 : Int32) from vi_e pw9.1]); (try rw [show xi (E8 2) 5 = (0 : Int32) from vi_e ((pw9.2 2 5 (fun q9 => absurd q9.2 (Nat.ne_of_beq_eq_false rfl))).trans pw7.1)]); exact TPok_0) (by (try rw [(show xi (E8 2) 9 = (0 : Int32) from vi_e pw9.1)]); (try rw [show xi (E8 24) = g10 from hg10]); (try rw [show xi (E8 25) = g11 from hg11]); (try rw [show xi (E8 2) 9 = (0 : Int32) from vi_e pw9.1]); (try rw [show xi (E8 2) 5 = (0 : Int32) from vi_e ((pw9.2 2 5 (fun q9 => absurd q9.2 (Nat.ne_of_beq_eq_false rfl))).trans pw7.1)]); exact kc0)) (cwV 0 hts (gi_V (in_8 _ (zs16 (zs4 (zs1 (zs1 (zs1 (zs0))))))) (in_8 _ (zs16 (zs4 (zs4 (zs0))))) (in_8 _ (zs16 (zs4 (zs4 (zs1 (zs0)))))) (in_8 _ (zs4 (zs4 (zs4 (zs1 (zs1 (zs0))))))) (in_8 _ (zs16 (zs4 (zs4 (zs1 (zs1 (zs0)))))))) rfl rfl rfl ⟨rfl, hz_yX10_readClause_0⟩ ⟨Nat.le_of_ble_eq_true rfl, Nat.le_of_ble_eq_true rfl⟩) ⟨HWL_bl, va_recv hK hP (ci := 11) (q0 := posL 2 (LC cf)) rfl (hI.ob 2 (mF 2 rfl) rfl), (HWL_wi hP hK (WL_D hD) hS hA hEV)⟩ rfl rfl hl.1 rfl (lv_room (Nat.le_of_ble_eq_true rfl)) dX10_read_21 ⟨Nat.le_of_ble_eq_true rfl, Nat.le_of_ble_eq_true rfl⟩) (WL_D hD) hS hA (fun E13 H locs hw hP hS => ?_)
  obtain ⟨hI, kq14, hw⟩ := hw
  have hKb := hKp
  have hKp := hKp.tr kq14 (wl_sub rfl rfl)
  obtain ⟨y15, ey15⟩ : ∃ y, xi (E13 2) 5 = y := ⟨_, rfl⟩
  have fy15 : xv (E13 2) 5 = .int y15 := (hI.fi 2 (mF 2 rfl) rfl (Nat.le_of_ble_eq_true rfl) rfl).trans (congrArg Value.int ey15)
  have i16 : 0 ≤ y15.toInt ∧ y15.toInt ≤ 200 := by rw [← ey15]; exact hI.iv 2 (mF 2 rfl) rfl (Nat.le_of_ble_eq_true rfl) rfl
  obtain ⟨y17, ey17⟩ : ∃ y, xi (E13 2) 9 = y := ⟨_, rfl⟩
  have fy17 : xv (E13 2) 9 = .int y17 := (hI.fi 2 (mF 2 rfl) rfl (Nat.le_of_ble_eq_true rfl) rfl).trans (congrArg Value.int ey17)
  have i18 : 0 ≤ y17.toInt ∧ y17.toInt ≤ 51 := by rw [← ey17]; exact hI.iv 2 (mF 2 rfl) rfl (Nat.le_of_ble_eq_true rfl) rfl
  obtain ⟨f19, f20, f21, f22, f23⟩ := hw
  try rw [(show xi (E8 2) 5 = (0 : Int32) from vi_e ((pw9.2 2 5 (fun q9 => absurd q9.2 (Nat.ne_of_beq_eq_false rfl))).trans pw7.1))] at f19
  try rw [(show xi (E13 2) 5 = y15 from vi_e fy15)] at f19
  try rw [(show xi (E8 2) 5 = (0 : Int32) from vi_e ((pw9.2 2 5 (fun q9 => absurd q9.2 (Nat.ne_of_beq_eq_false rfl))).trans pw7.1))] at f20
  try rw [(show xi (E8 2) 9 = (0 : Int32) from vi_e pw9.1)] at f20
  try rw [(show xi (E13 2) 5 = y15 from vi_e fy15)] at f20
  try rw [(show xi (E13 2) 9 = y17 from vi_e fy17)] at f20
  try rw [(show xi (E8 2) 9 = (0 : Int32) from vi_e pw9.1)] at f22
  try rw [(show xi (E13 2) 9 = y17 from vi_e fy17)] at f22
  have habf23 : tA E13 ≤ 200 := by have q9 : 0 ≤ (xi (E13 2) 2).toInt ∧ (xi (E13 2) 2).toInt ≤ 200 := hI.iv 2 (mF 2 rfl) rfl (Nat.le_of_ble_eq_true rfl) rfl; show (xi (E13 2) 2).toNatClampNeg ≤ 200; rw [tn_]; omega
  obtain ⟨g24, hg24⟩ : ∃ g, xi (E13 24) = g := ⟨_, rfl⟩
  obtain ⟨g25, hg25⟩ : ∃ g, xi (E13 25) = g := ⟨_, rfl⟩
  try rw [show xi (E13 24) = g24 from hg24] at f20
  try rw [show xi (E13 25) = g25 from hg25] at f20
  try rw [show xi (E13 2) 9 = y17 from vi_e fy17] at f20
  try rw [show xi (E13 2) 5 = y15 from vi_e fy15] at f20
  have hf20 : TPok g24 g25 y17 y15 := f20
  have k26 : ClI y17 E13 := ClI.of kc0 f22 f21
  refine lv_iconst (v := 0) hx hb dX10_read_24 (by decide) ?_
  refine lv_istore_n (lv' := [(1, .int 0), (0, .ref (ad 2))]) hx hb dX10_read_25 rfl hl (by decide) rfl (fun ls hl => ?_)
  have hL26 : ∀ d : Nat, ∀ (w26_2_9 : Int32) (w26_2_5 : Int32) (g26_24 : Nat → Int32) (g26_25 : Nat → Int32) (v26_1 : Int32) (E26_ : Nat → va_E) (H : Heap) (locs : List Loc) (ls : Array Slot), 0 ≤ w26_2_9.toInt ∧ w26_2_9.toInt ≤ 51 → 0 ≤ w26_2_5.toInt ∧ w26_2_5.toInt ≤ 200 → 0 ≤ v26_1.toInt ∧ v26_1.toInt ≤ 200 → TPok g26_24 g26_25 w26_2_9 w26_2_5 → Lp (fun t m a => textL false t m a) (fun t m => opL t m isSem cbC (clauseS false t m)) v26_1.toInt E8 E26_ → ClI w26_2_9 E26_ → LpK E8 E26_ → 200 - v26_1.toInt < (d : Int) → IXL cT (shC cf) (spC cf) (LC cf) ad E26_ → Kp w_readV E E26_ → xv (E26_ 2) 9 = .int w26_2_9 → xv (E26_ 2) 5 = .int w26_2_5 → xi (E26_ 24) = g26_24 → xi (E26_ 25) = g26_25 → va_P (dC, dI) vwCl (WL (LC cf) ad E26_) H → va_S A s.heap H locs → lv_has ls 2 [(1, .int v26_1), (0, .ref (ad 2))] → W p l e (headSpec v_readV rm_readV).room s m args below meth c H locs 0 0 Q (F0 m 26 ls []) := by
    intro d
    induction d with
    | zero =>
      intro w26_2_9 w26_2_5 g26_24 g26_25 v26_1 E26_ H locs ls hw26_2_9 hw26_2_5 hv26_1 hx26_0 hx26_1 hx26_2 hx26_3 hx26_4 hI hKp hs26_2_9 hs26_2_5 hr26_24 hr26_25 hP hS hl
      exact absurd hx26_4 (by first | exact ms_zu hv26_1.2 | omega)
    | succ d ih26 =>
      intro w26_2_9 w26_2_5 g26_24 g26_25 v26_1 E26_ H locs ls hw26_2_9 hw26_2_5 hv26_1 hx26_0 hx26_1 hx26_2 hx26_3 hx26_4 hI hKp hs26_2_9 hs26_2_5 hr26_24 hr26_25 hP hS hl
      refine lv_iload_n hx hb dX10_read_26 rfl (lv_at hl 0 rfl) ?_
      refine lv_sipush (v := 200) hx hb dX10_read_27 (by decide) ?_
      refine lv_icmp_ge (tgt := 62) hx hb dX10_read_30 (by decide) (fun c27 => ?_) (fun c27 => ?_)
      · --30 taken
        have t28 : (200 : Int) ≤ v26_1.toInt := ti_le c27
        have i29 : 200 ≤ v26_1.toInt ∧ v26_1.toInt ≤ 200 := iv_le_r t28 (il_ 200) hv26_1 (by decide)
        have k30 : RdC (fun t m a => textL false t m a) E8 E26_ := Lp.fin (op := isSem) hx26_1 (by rw [kts.2]; have kl := tN_e (E := E) (by omega); omega) rfl (fun t m a c h => opL_0 h)
        have k31 : TxK E8 E26_ := LpK.fin hx26_1 hx26_3 (by rw [kts.2]; have kl := tN_e (E := E) (by omega); omega)
        refine lv_aload_n hx hb dX10_read_62 rfl (lv_at hl 1 rfl) ?_
        refine th_iL (va_runV (As := []) (rest := []) ⟨hx, hb, hml, hown, hts⟩ (q_nextX l dC dI cT cf hC ad E26_ H.size hI) (cwV 0 hts (gi_V (in_8 _ (zs16 (zs4 (zs4 (zs1 (zs1 (zs1 (zs0)))))))) (in_8 _ (zs16 (zs4 (zs4 (zs4 (zs0)))))) (in_8 _ (zs16 (zs4 (zs4 (zs4 (zs1 (zs0))))))) (in_8 _ (zs4 (zs4 (zs4 (zs1 (zs1 (zs0))))))) (in_8 _ (zs16 (zs1 (zs1 (zs1 (zs0))))))) rfl rfl rfl ⟨rfl, hz_yX10_next_0⟩ ⟨Nat.le_of_ble_eq_true rfl, Nat.le_of_ble_eq_true rfl⟩) ⟨HWL_bl, va_recv hK hP (ci := 11) (q0 := posL 2 (LC cf)) rfl (hI.ob 2 (mF 2 rfl) rfl), (HWL_wi hP hK (WL_D hD) hS hA hEV)⟩ rfl rfl hl.1 rfl (lv_room (Nat.le_of_ble_eq_true rfl)) dX10_read_63 ⟨Nat.le_of_ble_eq_true rfl, Nat.le_of_ble_eq_true rfl⟩) (WL_D hD) hS hA (fun r32 E33 H locs hw hP hS => ?_)
        obtain ⟨hI, kq34, hw⟩ := hw
        have hKb := hKp
        have hKp := hKp.tr kq34 (wl_sub rfl rfl)
        obtain ⟨y35, ey35⟩ : ∃ y, xi (E33 2) 2 = y := ⟨_, rfl⟩
        have fy35 : xv (E33 2) 2 = .int y35 := (hI.fi 2 (mF 2 rfl) rfl (Nat.le_of_ble_eq_true rfl) rfl).trans (congrArg Value.int ey35)
        have i36 : 0 ≤ y35.toInt ∧ y35.toInt ≤ 200 := by rw [← ey35]; exact hI.iv 2 (mF 2 rfl) rfl (Nat.le_of_ble_eq_true rfl) rfl
        obtain ⟨f37, f38, f39⟩ := hw
        try rw [hKb.ei 2 1 rfl] at f38
        try rw [(show xi (E33 2) 2 = y35 from vi_e fy35)] at f38
        have k40 : SR E26_ E33 := SR.kp kq34 (fun _ => rfl) (fun _ => rfl) (fun _ => rfl) (fun _ => rfl) rfl rfl
        refine lv_iconst (v := -1) hx hb dX10_read_66 (by decide) ?_
        refine lv_icmp_eq (tgt := 74) hx hb dX10_read_67 (by decide) (fun c41 => ?_) (fun c41 => ?_)
        · --67 taken
          have t42 : r32.toInt = -1 := ti_eq c41
          have i43 : -1 ≤ r32.toInt ∧ r32.toInt ≤ -1 := iv_eqi t42 f37 (il_ (-1)) (by decide)
          refine lv_aload_n hx hb dX10_read_74 rfl (lv_at hl 1 rfl) ?_
          refine th_getL (ci := 11) (C := RX10) (T := TX10) (N := 10) (v := .ref (ad 24)) hx hb hts hinX10 hown hK hP hI 2 (mF 2 rfl) rfl rfl 7 (Nat.le_of_ble_eq_true rfl) (hts _ (vA_in _ _ (in_7 _ (zs16 (zs16 (zs4 (zs1 (zs0)))))))) (fun _ h9 => h9) (hI.fr 2 (mF 2 rfl) rfl (Nat.le_of_ble_eq_true rfl) 24 rfl) dX10_read_75 ?_
          refine lv_aload_n hx hb dX10_read_78 rfl (lv_at hl 1 rfl) ?_
          refine th_getL (ci := 11) (C := RX10) (T := TX10) (N := 10) (v := .int w26_2_9) hx hb hts hinX10 hown hK hP hI 2 (mF 2 rfl) rfl rfl 9 (Nat.le_of_ble_eq_true rfl) (hts _ (vA_in _ _ (in_7 _ (zs16 (zs16 (zs4 (zs0))))))) (fun _ h9 => h9) ((kq34 2 9 rfl).trans hs26_2_9) dX10_read_79 ?_
          refine lv_aload_n hx hb dX10_read_82 rfl (lv_at hl 1 rfl) ?_
          refine th_getL (ci := 11) (C := RX10) (T := TX10) (N := 10) (v := .int w26_2_5) hx hb hts hinX10 hown hK hP hI 2 (mF 2 rfl) rfl rfl 5 (Nat.le_of_ble_eq_true rfl) (hts _ (vA_in _ _ (in_7 _ (zs16 (zs4 (zs4 (zs4 (zs1 (zs1 (zs0)))))))))) (fun _ h9 => h9) ((kq34 2 5 rfl).trans hs26_2_5) dX10_read_83 ?_
          have n44 : vp_in w26_2_9 52 := (iv_in (n := 52) hw26_2_9 (by decide))
          refine th_iastL hx hb hK hP (WL_D hD) hS hI 24 (mF 24 rfl) rfl rfl n44 (okI rfl hw26_2_5) dX10_read_86 (fun H locs E45 pw46 hI hP hS => ?_)
          have hKp := hKp.pw pw46 rfl
          obtain ⟨g47, eg47⟩ : ∃ z : Nat → Int32, z = upd g26_24 w26_2_9.toNatClampNeg w26_2_5 := ⟨_, rfl⟩
          have hg47 : xi (E45 24) = g47 := by rw [pw46.eu, ((kq34.ef 24 (fun _ => rfl)).trans hr26_24), eg47]
          have k48 : KS E33 E45 := KS.pw pw46.2 (by decide) (fun q => absurd q (by decide))
          refine lv_aload_n hx hb dX10_read_87 rfl (lv_at hl 1 rfl) ?_
          obtain ⟨y49, ey49⟩ : ∃ y, xi (E45 2) 3 = y := ⟨_, rfl⟩
          have fy49 : xv (E45 2) 3 = .int y49 := (hI.fi 2 (mF 2 rfl) rfl (Nat.le_of_ble_eq_true rfl) rfl).trans (congrArg Value.int ey49)
          have i50 : -1 ≤ y49.toInt ∧ y49.toInt ≤ 200 := by rw [← ey49]; exact hI.iv 2 (mF 2 rfl) rfl (Nat.le_of_ble_eq_true rfl) rfl
          refine th_getL (ci := 11) (C := RX10) (T := TX10) (N := 10) (v := .int y49) hx hb hts hinX10 hown hK hP hI 2 (mF 2 rfl) rfl rfl 3 (Nat.le_of_ble_eq_true rfl) (hts _ (vA_in _ _ (in_8 _ (zs4 (zs4 (zs0)))))) (fun _ h9 => h9) fy49 dX10_read_88 ?_
          rw [hQ]
          exact W.iret (v := y49) hx hb hr (fun t ht hW => ⟨⟨y49, E45, rfl, ⟨hI, hKp, ⟨i50, by (try rw [show xi (E45 24) = g47 from hg47]); (try rw [show xi (E45 25) = g26_25 from ((pw46.ef 25 (Nat.ne_of_beq_eq_false rfl)).trans ((kq34.ef 25 (fun _ => rfl)).trans hr26_25))]); (try rw [show xi (E45 2) 9 = w26_2_9 from vi_e ((pw46.2 2 9 (fun q9 => absurd q9.1 (Nat.ne_of_beq_eq_false rfl))).trans ((kq34 2 9 rfl).trans hs26_2_9))]); (try rw [show xi (E45 2) 5 = w26_2_5 from vi_e ((pw46.2 2 5 (fun q9 => absurd q9.1 (Nat.ne_of_beq_eq_false rfl))).trans ((kq34 2 5 rfl).trans hs26_2_5))]); exact ⟨fun k hk => by rw [eg47, pk_un (by rw [tn_]; omega)]; exact hx26_0 k hk, by rw [eg47, pk_us]; omega⟩, (flt_ok kts kf0 ka0 k30 f39 (by omega)).ks k48, (by show _ = (xi (E45 2) 3).toInt; rw [show xi (E45 2) 3 = y49 from vi_e fy49]), Txt.ok kts kf0 ka0 k30 k31 f39 k40 (by omega) pw46 (vi_e ((kq34 2 9 rfl).trans hs26_2_9)) (vi_e ((kq34 2 5 rfl).trans hs26_2_5)) (by omega)⟩⟩, by show va_P (dC, dI) vwCl (WL (LC cf) ad E45) t.heap; rw [ht]; exact hP⟩, hS.F ht⟩) hS.2.2 dX10_read_91
        · --67 not
          have t51 : ¬ r32.toInt = -1 := ti_ne c41
          refine lv_aload_n hx hb dX10_read_70 rfl (lv_at hl 1 rfl) ?_
          refine th_vL (va_runV (As := []) (rest := []) ⟨hx, hb, hml, hown, hts⟩ (q_failX l dC dI cT cf hC ad E33 H.size hI) (cwV 0 hts (gi_V (in_8 _ (zs4 (zs4 (zs1 (zs1 (zs1 (zs0))))))) (in_8 _ (zs4 (zs4 (zs4 (zs0))))) (in_8 _ (zs4 (zs4 (zs4 (zs1 (zs0)))))) (in_8 _ (zs4 (zs4 (zs4 (zs1 (zs1 (zs0))))))) (in_8 _ (zs4 (zs1 (zs1 (zs1 (zs0))))))) rfl rfl rfl ⟨rfl, hz_yX10_fail_0⟩ ⟨Nat.le_of_ble_eq_true rfl, Nat.le_of_ble_eq_true rfl⟩) ⟨HWL_bl, va_recv hK hP (ci := 11) (q0 := posL 2 (LC cf)) rfl (hI.ob 2 (mF 2 rfl) rfl), (HWL_wi hP hK (WL_D hD) hS hA hEV)⟩ rfl rfl hl.1 rfl (lv_room (Nat.le_of_ble_eq_true rfl)) dX10_read_71 ⟨Nat.le_of_ble_eq_true rfl, Nat.le_of_ble_eq_true rfl⟩) (WL_D hD) hS hA (fun E53 H locs hw hP hS => ?_)
          obtain ⟨hI, kq54, hw⟩ := hw
          have hKb := hKp
          have hKp := hKp.tr kq54 (wl_sub rfl rfl)
          have f55 := hw
          refine lv_aload_n hx hb dX10_read_74 rfl (lv_at hl 1 rfl) ?_
          refine th_getL (ci := 11) (C := RX10) (T := TX10) (N := 10) (v := .ref (ad 24)) hx hb hts hinX10 hown hK hP hI 2 (mF 2 rfl) rfl rfl 7 (Nat.le_of_ble_eq_true rfl) (hts _ (vA_in _ _ (in_7 _ (zs16 (zs16 (zs4 (zs1 (zs0)))))))) (fun _ h9 => h9) (hI.fr 2 (mF 2 rfl) rfl (Nat.le_of_ble_eq_true rfl) 24 rfl) dX10_read_75 ?_
          refine lv_aload_n hx hb dX10_read_78 rfl (lv_at hl 1 rfl) ?_
          refine th_getL (ci := 11) (C := RX10) (T := TX10) (N := 10) (v := .int w26_2_9) hx hb hts hinX10 hown hK hP hI 2 (mF 2 rfl) rfl rfl 9 (Nat.le_of_ble_eq_true rfl) (hts _ (vA_in _ _ (in_7 _ (zs16 (zs16 (zs4 (zs0))))))) (fun _ h9 => h9) ((kq54 2 9 rfl).trans ((kq34 2 9 rfl).trans hs26_2_9)) dX10_read_79 ?_
          refine lv_aload_n hx hb dX10_read_82 rfl (lv_at hl 1 rfl) ?_
          refine th_getL (ci := 11) (C := RX10) (T := TX10) (N := 10) (v := .int w26_2_5) hx hb hts hinX10 hown hK hP hI 2 (mF 2 rfl) rfl rfl 5 (Nat.le_of_ble_eq_true rfl) (hts _ (vA_in _ _ (in_7 _ (zs16 (zs4 (zs4 (zs4 (zs1 (zs1 (zs0)))))))))) (fun _ h9 => h9) ((kq54 2 5 rfl).trans ((kq34 2 5 rfl).trans hs26_2_5)) dX10_read_83 ?_
          have n56 : vp_in w26_2_9 52 := (iv_in (n := 52) hw26_2_9 (by decide))
          refine th_iastL hx hb hK hP (WL_D hD) hS hI 24 (mF 24 rfl) rfl rfl n56 (okI rfl hw26_2_5) dX10_read_86 (fun H locs E57 pw58 hI hP hS => ?_)
          have hKp := hKp.pw pw58 rfl
          obtain ⟨g59, eg59⟩ : ∃ z : Nat → Int32, z = upd g26_24 w26_2_9.toNatClampNeg w26_2_5 := ⟨_, rfl⟩
          have hg59 : xi (E57 24) = g59 := by rw [pw58.eu, ((kq54.ef 24 (fun _ => rfl)).trans ((kq34.ef 24 (fun _ => rfl)).trans hr26_24)), eg59]
          have k60 : KS E53 E57 := KS.pw pw58.2 (by decide) (fun q => absurd q (by decide))
          refine lv_aload_n hx hb dX10_read_87 rfl (lv_at hl 1 rfl) ?_
          obtain ⟨y61, ey61⟩ : ∃ y, xi (E57 2) 3 = y := ⟨_, rfl⟩
          have fy61 : xv (E57 2) 3 = .int y61 := (hI.fi 2 (mF 2 rfl) rfl (Nat.le_of_ble_eq_true rfl) rfl).trans (congrArg Value.int ey61)
          have i62 : -1 ≤ y61.toInt ∧ y61.toInt ≤ 200 := by rw [← ey61]; exact hI.iv 2 (mF 2 rfl) rfl (Nat.le_of_ble_eq_true rfl) rfl
          refine th_getL (ci := 11) (C := RX10) (T := TX10) (N := 10) (v := .int y61) hx hb hts hinX10 hown hK hP hI 2 (mF 2 rfl) rfl rfl 3 (Nat.le_of_ble_eq_true rfl) (hts _ (vA_in _ _ (in_8 _ (zs4 (zs4 (zs0)))))) (fun _ h9 => h9) fy61 dX10_read_88 ?_
          rw [hQ]
          exact W.iret (v := y61) hx hb hr (fun t ht hW => ⟨⟨y61, E57, rfl, ⟨hI, hKp, ⟨i62, by (try rw [show xi (E57 24) = g59 from hg59]); (try rw [show xi (E57 25) = g26_25 from ((pw58.ef 25 (Nat.ne_of_beq_eq_false rfl)).trans ((kq54.ef 25 (fun _ => rfl)).trans ((kq34.ef 25 (fun _ => rfl)).trans hr26_25)))]); (try rw [show xi (E57 2) 9 = w26_2_9 from vi_e ((pw58.2 2 9 (fun q9 => absurd q9.1 (Nat.ne_of_beq_eq_false rfl))).trans ((kq54 2 9 rfl).trans ((kq34 2 9 rfl).trans hs26_2_9)))]); (try rw [show xi (E57 2) 5 = w26_2_5 from vi_e ((pw58.2 2 5 (fun q9 => absurd q9.1 (Nat.ne_of_beq_eq_false rfl))).trans ((kq54 2 5 rfl).trans ((kq34 2 5 rfl).trans hs26_2_5)))]); exact ⟨fun k hk => by rw [eg59, pk_un (by rw [tn_]; omega)]; exact hx26_0 k hk, by rw [eg59, pk_us]; omega⟩, (flt_no kts kf0 ka0 k30 f39 (by omega) f55).ks k60, (by show _ = (xi (E57 2) 3).toInt; rw [show xi (E57 2) 3 = y61 from vi_e fy61]), Txt.no f55 (congrArg Int32.toInt (congrArg vi (pw58.2 2 3 (fun q9 => absurd q9.1 (by decide)))))⟩⟩, by show va_P (dC, dI) vwCl (WL (LC cf) ad E57) t.heap; rw [ht]; exact hP⟩, hS.F ht⟩) hS.2.2 dX10_read_91
      · --30 not
        have t63 : v26_1.toInt < 200 := ti_nle c27
        have i64 : 0 ≤ v26_1.toInt ∧ v26_1.toInt ≤ 199 := iv_lt_l t63 hv26_1 (il_ 200) (by decide)
        refine lv_aload_n hx hb dX10_read_33 rfl (lv_at hl 1 rfl) ?_
        refine th_iL (va_runV (As := []) (rest := []) ⟨hx, hb, hml, hown, hts⟩ (q_nextX l dC dI cT cf hC ad E26_ H.size hI) (cwV 0 hts (gi_V (in_8 _ (zs16 (zs4 (zs4 (zs1 (zs1 (zs1 (zs0)))))))) (in_8 _ (zs16 (zs4 (zs4 (zs4 (zs0)))))) (in_8 _ (zs16 (zs4 (zs4 (zs4 (zs1 (zs0))))))) (in_8 _ (zs4 (zs4 (zs4 (zs1 (zs1 (zs0))))))) (in_8 _ (zs16 (zs1 (zs1 (zs1 (zs0))))))) rfl rfl rfl ⟨rfl, hz_yX10_next_0⟩ ⟨Nat.le_of_ble_eq_true rfl, Nat.le_of_ble_eq_true rfl⟩) ⟨HWL_bl, va_recv hK hP (ci := 11) (q0 := posL 2 (LC cf)) rfl (hI.ob 2 (mF 2 rfl) rfl), (HWL_wi hP hK (WL_D hD) hS hA hEV)⟩ rfl rfl hl.1 rfl (lv_room (Nat.le_of_ble_eq_true rfl)) dX10_read_34 ⟨Nat.le_of_ble_eq_true rfl, Nat.le_of_ble_eq_true rfl⟩) (WL_D hD) hS hA (fun r65 E66 H locs hw hP hS => ?_)
        obtain ⟨hI, kq67, hw⟩ := hw
        have hKb := hKp
        have hKp := hKp.tr kq67 (wl_sub rfl rfl)
        obtain ⟨y68, ey68⟩ : ∃ y, xi (E66 2) 2 = y := ⟨_, rfl⟩
        have fy68 : xv (E66 2) 2 = .int y68 := (hI.fi 2 (mF 2 rfl) rfl (Nat.le_of_ble_eq_true rfl) rfl).trans (congrArg Value.int ey68)
        have i69 : 0 ≤ y68.toInt ∧ y68.toInt ≤ 200 := by rw [← ey68]; exact hI.iv 2 (mF 2 rfl) rfl (Nat.le_of_ble_eq_true rfl) rfl
        obtain ⟨f70, f71, f72⟩ := hw
        try rw [hKb.ei 2 1 rfl] at f71
        try rw [(show xi (E66 2) 2 = y68 from vi_e fy68)] at f71
        have k73 : SR E26_ E66 := SR.kp kq67 (fun _ => rfl) (fun _ => rfl) (fun _ => rfl) (fun _ => rfl) rfl rfl
        refine lv_bipush (v := 59) hx hb dX10_read_37 (by decide) ?_
        refine lv_icmp_ne (tgt := 62) hx hb dX10_read_39 (by decide) (fun c74 => ?_) (fun c74 => ?_)
        · --39 taken
          have t75 : ¬ r65.toInt = 59 := ti_ne c74
          have k76 : RdC (fun t m a => textL false t m a) E8 E66 := Lp.exit (op := isSem) hx26_1 f72 (fun q9 => by have q8 := is_sem.mp q9; omega) (fun t m a c h => opL_0 h)
          have k77 : TxK E8 E66 := LpK.exit hx26_1 hx26_3 f72 k73 (fun q9 => by have q8 := is_sem.mp q9; omega)
          refine lv_aload_n hx hb dX10_read_62 rfl (lv_at hl 1 rfl) ?_
          refine th_iL (va_runV (As := []) (rest := []) ⟨hx, hb, hml, hown, hts⟩ (q_nextX l dC dI cT cf hC ad E66 H.size hI) (cwV 0 hts (gi_V (in_8 _ (zs16 (zs4 (zs4 (zs1 (zs1 (zs1 (zs0)))))))) (in_8 _ (zs16 (zs4 (zs4 (zs4 (zs0)))))) (in_8 _ (zs16 (zs4 (zs4 (zs4 (zs1 (zs0))))))) (in_8 _ (zs4 (zs4 (zs4 (zs1 (zs1 (zs0))))))) (in_8 _ (zs16 (zs1 (zs1 (zs1 (zs0))))))) rfl rfl rfl ⟨rfl, hz_yX10_next_0⟩ ⟨Nat.le_of_ble_eq_true rfl, Nat.le_of_ble_eq_true rfl⟩) ⟨HWL_bl, va_recv hK hP (ci := 11) (q0 := posL 2 (LC cf)) rfl (hI.ob 2 (mF 2 rfl) rfl), (HWL_wi hP hK (WL_D hD) hS hA hEV)⟩ rfl rfl hl.1 rfl (lv_room (Nat.le_of_ble_eq_true rfl)) dX10_read_63 ⟨Nat.le_of_ble_eq_true rfl, Nat.le_of_ble_eq_true rfl⟩) (WL_D hD) hS hA (fun r78 E79 H locs hw hP hS => ?_)
          obtain ⟨hI, kq80, hw⟩ := hw
          have hKb := hKp
          have hKp := hKp.tr kq80 (wl_sub rfl rfl)
          obtain ⟨y81, ey81⟩ : ∃ y, xi (E79 2) 2 = y := ⟨_, rfl⟩
          have fy81 : xv (E79 2) 2 = .int y81 := (hI.fi 2 (mF 2 rfl) rfl (Nat.le_of_ble_eq_true rfl) rfl).trans (congrArg Value.int ey81)
          have i82 : 0 ≤ y81.toInt ∧ y81.toInt ≤ 200 := by rw [← ey81]; exact hI.iv 2 (mF 2 rfl) rfl (Nat.le_of_ble_eq_true rfl) rfl
          obtain ⟨f83, f84, f85⟩ := hw
          try rw [hKb.ei 2 1 rfl] at f84
          try rw [(show xi (E79 2) 2 = y81 from vi_e fy81)] at f84
          have k86 : SR E66 E79 := SR.kp kq80 (fun _ => rfl) (fun _ => rfl) (fun _ => rfl) (fun _ => rfl) rfl rfl
          refine lv_iconst (v := -1) hx hb dX10_read_66 (by decide) ?_
          refine lv_icmp_eq (tgt := 74) hx hb dX10_read_67 (by decide) (fun c87 => ?_) (fun c87 => ?_)
          · --67 taken
            have t88 : r78.toInt = -1 := ti_eq c87
            have i89 : -1 ≤ r78.toInt ∧ r78.toInt ≤ -1 := iv_eqi t88 f83 (il_ (-1)) (by decide)
            refine lv_aload_n hx hb dX10_read_74 rfl (lv_at hl 1 rfl) ?_
            refine th_getL (ci := 11) (C := RX10) (T := TX10) (N := 10) (v := .ref (ad 24)) hx hb hts hinX10 hown hK hP hI 2 (mF 2 rfl) rfl rfl 7 (Nat.le_of_ble_eq_true rfl) (hts _ (vA_in _ _ (in_7 _ (zs16 (zs16 (zs4 (zs1 (zs0)))))))) (fun _ h9 => h9) (hI.fr 2 (mF 2 rfl) rfl (Nat.le_of_ble_eq_true rfl) 24 rfl) dX10_read_75 ?_
            refine lv_aload_n hx hb dX10_read_78 rfl (lv_at hl 1 rfl) ?_
            refine th_getL (ci := 11) (C := RX10) (T := TX10) (N := 10) (v := .int w26_2_9) hx hb hts hinX10 hown hK hP hI 2 (mF 2 rfl) rfl rfl 9 (Nat.le_of_ble_eq_true rfl) (hts _ (vA_in _ _ (in_7 _ (zs16 (zs16 (zs4 (zs0))))))) (fun _ h9 => h9) ((kq80 2 9 rfl).trans ((kq67 2 9 rfl).trans hs26_2_9)) dX10_read_79 ?_
            refine lv_aload_n hx hb dX10_read_82 rfl (lv_at hl 1 rfl) ?_
            refine th_getL (ci := 11) (C := RX10) (T := TX10) (N := 10) (v := .int w26_2_5) hx hb hts hinX10 hown hK hP hI 2 (mF 2 rfl) rfl rfl 5 (Nat.le_of_ble_eq_true rfl) (hts _ (vA_in _ _ (in_7 _ (zs16 (zs4 (zs4 (zs4 (zs1 (zs1 (zs0)))))))))) (fun _ h9 => h9) ((kq80 2 5 rfl).trans ((kq67 2 5 rfl).trans hs26_2_5)) dX10_read_83 ?_
            have n90 : vp_in w26_2_9 52 := (iv_in (n := 52) hw26_2_9 (by decide))
            refine th_iastL hx hb hK hP (WL_D hD) hS hI 24 (mF 24 rfl) rfl rfl n90 (okI rfl hw26_2_5) dX10_read_86 (fun H locs E91 pw92 hI hP hS => ?_)
            have hKp := hKp.pw pw92 rfl
            obtain ⟨g93, eg93⟩ : ∃ z : Nat → Int32, z = upd g26_24 w26_2_9.toNatClampNeg w26_2_5 := ⟨_, rfl⟩
            have hg93 : xi (E91 24) = g93 := by rw [pw92.eu, ((kq80.ef 24 (fun _ => rfl)).trans ((kq67.ef 24 (fun _ => rfl)).trans hr26_24)), eg93]
            have k94 : KS E79 E91 := KS.pw pw92.2 (by decide) (fun q => absurd q (by decide))
            refine lv_aload_n hx hb dX10_read_87 rfl (lv_at hl 1 rfl) ?_
            obtain ⟨y95, ey95⟩ : ∃ y, xi (E91 2) 3 = y := ⟨_, rfl⟩
            have fy95 : xv (E91 2) 3 = .int y95 := (hI.fi 2 (mF 2 rfl) rfl (Nat.le_of_ble_eq_true rfl) rfl).trans (congrArg Value.int ey95)
            have i96 : -1 ≤ y95.toInt ∧ y95.toInt ≤ 200 := by rw [← ey95]; exact hI.iv 2 (mF 2 rfl) rfl (Nat.le_of_ble_eq_true rfl) rfl
            refine th_getL (ci := 11) (C := RX10) (T := TX10) (N := 10) (v := .int y95) hx hb hts hinX10 hown hK hP hI 2 (mF 2 rfl) rfl rfl 3 (Nat.le_of_ble_eq_true rfl) (hts _ (vA_in _ _ (in_8 _ (zs4 (zs4 (zs0)))))) (fun _ h9 => h9) fy95 dX10_read_88 ?_
            rw [hQ]
            exact W.iret (v := y95) hx hb hr (fun t ht hW => ⟨⟨y95, E91, rfl, ⟨hI, hKp, ⟨i96, by (try rw [show xi (E91 24) = g93 from hg93]); (try rw [show xi (E91 25) = g26_25 from ((pw92.ef 25 (Nat.ne_of_beq_eq_false rfl)).trans ((kq80.ef 25 (fun _ => rfl)).trans ((kq67.ef 25 (fun _ => rfl)).trans hr26_25)))]); (try rw [show xi (E91 2) 9 = w26_2_9 from vi_e ((pw92.2 2 9 (fun q9 => absurd q9.1 (Nat.ne_of_beq_eq_false rfl))).trans ((kq80 2 9 rfl).trans ((kq67 2 9 rfl).trans hs26_2_9)))]); (try rw [show xi (E91 2) 5 = w26_2_5 from vi_e ((pw92.2 2 5 (fun q9 => absurd q9.1 (Nat.ne_of_beq_eq_false rfl))).trans ((kq80 2 5 rfl).trans ((kq67 2 5 rfl).trans hs26_2_5)))]); exact ⟨fun k hk => by rw [eg93, pk_un (by rw [tn_]; omega)]; exact hx26_0 k hk, by rw [eg93, pk_us]; omega⟩, (flt_ok kts kf0 ka0 k76 f85 (by omega)).ks k94, (by show _ = (xi (E91 2) 3).toInt; rw [show xi (E91 2) 3 = y95 from vi_e fy95]), Txt.ok kts kf0 ka0 k76 k77 f85 k86 (by omega) pw92 (vi_e ((kq80 2 9 rfl).trans ((kq67 2 9 rfl).trans hs26_2_9))) (vi_e ((kq80 2 5 rfl).trans ((kq67 2 5 rfl).trans hs26_2_5))) (by omega)⟩⟩, by show va_P (dC, dI) vwCl (WL (LC cf) ad E91) t.heap; rw [ht]; exact hP⟩, hS.F ht⟩) hS.2.2 dX10_read_91
          · --67 not
            have t97 : ¬ r78.toInt = -1 := ti_ne c87
            refine lv_aload_n hx hb dX10_read_70 rfl (lv_at hl 1 rfl) ?_
            refine th_vL (va_runV (As := []) (rest := []) ⟨hx, hb, hml, hown, hts⟩ (q_failX l dC dI cT cf hC ad E79 H.size hI) (cwV 0 hts (gi_V (in_8 _ (zs4 (zs4 (zs1 (zs1 (zs1 (zs0))))))) (in_8 _ (zs4 (zs4 (zs4 (zs0))))) (in_8 _ (zs4 (zs4 (zs4 (zs1 (zs0)))))) (in_8 _ (zs4 (zs4 (zs4 (zs1 (zs1 (zs0))))))) (in_8 _ (zs4 (zs1 (zs1 (zs1 (zs0))))))) rfl rfl rfl ⟨rfl, hz_yX10_fail_0⟩ ⟨Nat.le_of_ble_eq_true rfl, Nat.le_of_ble_eq_true rfl⟩) ⟨HWL_bl, va_recv hK hP (ci := 11) (q0 := posL 2 (LC cf)) rfl (hI.ob 2 (mF 2 rfl) rfl), (HWL_wi hP hK (WL_D hD) hS hA hEV)⟩ rfl rfl hl.1 rfl (lv_room (Nat.le_of_ble_eq_true rfl)) dX10_read_71 ⟨Nat.le_of_ble_eq_true rfl, Nat.le_of_ble_eq_true rfl⟩) (WL_D hD) hS hA (fun E99 H locs hw hP hS => ?_)
            obtain ⟨hI, kq100, hw⟩ := hw
            have hKb := hKp
            have hKp := hKp.tr kq100 (wl_sub rfl rfl)
            have f101 := hw
            refine lv_aload_n hx hb dX10_read_74 rfl (lv_at hl 1 rfl) ?_
            refine th_getL (ci := 11) (C := RX10) (T := TX10) (N := 10) (v := .ref (ad 24)) hx hb hts hinX10 hown hK hP hI 2 (mF 2 rfl) rfl rfl 7 (Nat.le_of_ble_eq_true rfl) (hts _ (vA_in _ _ (in_7 _ (zs16 (zs16 (zs4 (zs1 (zs0)))))))) (fun _ h9 => h9) (hI.fr 2 (mF 2 rfl) rfl (Nat.le_of_ble_eq_true rfl) 24 rfl) dX10_read_75 ?_
            refine lv_aload_n hx hb dX10_read_78 rfl (lv_at hl 1 rfl) ?_
            refine th_getL (ci := 11) (C := RX10) (T := TX10) (N := 10) (v := .int w26_2_9) hx hb hts hinX10 hown hK hP hI 2 (mF 2 rfl) rfl rfl 9 (Nat.le_of_ble_eq_true rfl) (hts _ (vA_in _ _ (in_7 _ (zs16 (zs16 (zs4 (zs0))))))) (fun _ h9 => h9) ((kq100 2 9 rfl).trans ((kq80 2 9 rfl).trans ((kq67 2 9 rfl).trans hs26_2_9))) dX10_read_79 ?_
            refine lv_aload_n hx hb dX10_read_82 rfl (lv_at hl 1 rfl) ?_
            refine th_getL (ci := 11) (C := RX10) (T := TX10) (N := 10) (v := .int w26_2_5) hx hb hts hinX10 hown hK hP hI 2 (mF 2 rfl) rfl rfl 5 (Nat.le_of_ble_eq_true rfl) (hts _ (vA_in _ _ (in_7 _ (zs16 (zs4 (zs4 (zs4 (zs1 (zs1 (zs0)))))))))) (fun _ h9 => h9) ((kq100 2 5 rfl).trans ((kq80 2 5 rfl).trans ((kq67 2 5 rfl).trans hs26_2_5))) dX10_read_83 ?_
            have n102 : vp_in w26_2_9 52 := (iv_in (n := 52) hw26_2_9 (by decide))
            refine th_iastL hx hb hK hP (WL_D hD) hS hI 24 (mF 24 rfl) rfl rfl n102 (okI rfl hw26_2_5) dX10_read_86 (fun H locs E103 pw104 hI hP hS => ?_)
            have hKp := hKp.pw pw104 rfl
            obtain ⟨g105, eg105⟩ : ∃ z : Nat → Int32, z = upd g26_24 w26_2_9.toNatClampNeg w26_2_5 := ⟨_, rfl⟩
            have hg105 : xi (E103 24) = g105 := by rw [pw104.eu, ((kq100.ef 24 (fun _ => rfl)).trans ((kq80.ef 24 (fun _ => rfl)).trans ((kq67.ef 24 (fun _ => rfl)).trans hr26_24))), eg105]
            have k106 : KS E99 E103 := KS.pw pw104.2 (by decide) (fun q => absurd q (by decide))
            refine lv_aload_n hx hb dX10_read_87 rfl (lv_at hl 1 rfl) ?_
            obtain ⟨y107, ey107⟩ : ∃ y, xi (E103 2) 3 = y := ⟨_, rfl⟩
            have fy107 : xv (E103 2) 3 = .int y107 := (hI.fi 2 (mF 2 rfl) rfl (Nat.le_of_ble_eq_true rfl) rfl).trans (congrArg Value.int ey107)
            have i108 : -1 ≤ y107.toInt ∧ y107.toInt ≤ 200 := by rw [← ey107]; exact hI.iv 2 (mF 2 rfl) rfl (Nat.le_of_ble_eq_true rfl) rfl
            refine th_getL (ci := 11) (C := RX10) (T := TX10) (N := 10) (v := .int y107) hx hb hts hinX10 hown hK hP hI 2 (mF 2 rfl) rfl rfl 3 (Nat.le_of_ble_eq_true rfl) (hts _ (vA_in _ _ (in_8 _ (zs4 (zs4 (zs0)))))) (fun _ h9 => h9) fy107 dX10_read_88 ?_
            rw [hQ]
            exact W.iret (v := y107) hx hb hr (fun t ht hW => ⟨⟨y107, E103, rfl, ⟨hI, hKp, ⟨i108, by (try rw [show xi (E103 24) = g105 from hg105]); (try rw [show xi (E103 25) = g26_25 from ((pw104.ef 25 (Nat.ne_of_beq_eq_false rfl)).trans ((kq100.ef 25 (fun _ => rfl)).trans ((kq80.ef 25 (fun _ => rfl)).trans ((kq67.ef 25 (fun _ => rfl)).trans hr26_25))))]); (try rw [show xi (E103 2) 9 = w26_2_9 from vi_e ((pw104.2 2 9 (fun q9 => absurd q9.1 (Nat.ne_of_beq_eq_false rfl))).trans ((kq100 2 9 rfl).trans ((kq80 2 9 rfl).trans ((kq67 2 9 rfl).trans hs26_2_9))))]); (try rw [show xi (E103 2) 5 = w26_2_5 from vi_e ((pw104.2 2 5 (fun q9 => absurd q9.1 (Nat.ne_of_beq_eq_false rfl))).trans ((kq100 2 5 rfl).trans ((kq80 2 5 rfl).trans ((kq67 2 5 rfl).trans hs26_2_5))))]); exact ⟨fun k hk => by rw [eg105, pk_un (by rw [tn_]; omega)]; exact hx26_0 k hk, by rw [eg105, pk_us]; omega⟩, (flt_no kts kf0 ka0 k76 f85 (by omega) f101).ks k106, (by show _ = (xi (E103 2) 3).toInt; rw [show xi (E103 2) 3 = y107 from vi_e fy107]), Txt.no f101 (congrArg Int32.toInt (congrArg vi (pw104.2 2 3 (fun q9 => absurd q9.1 (by decide)))))⟩⟩, by show va_P (dC, dI) vwCl (WL (LC cf) ad E103) t.heap; rw [ht]; exact hP⟩, hS.F ht⟩) hS.2.2 dX10_read_91
        · --39 not
          have t109 : r65.toInt = 59 := ti_eq c74
          have i110 : 59 ≤ r65.toInt ∧ r65.toInt ≤ 59 := iv_eqi t109 f70 (il_ 59) (by decide)
          refine lv_aload_n hx hb dX10_read_42 rfl (lv_at hl 1 rfl) ?_
          refine lv_dup hx hb dX10_read_43 rfl ?_
          refine th_getL (ci := 11) (C := RX10) (T := TX10) (N := 10) (v := .int y68) hx hb hts hinX10 hown hK hP hI 2 (mF 2 rfl) rfl rfl 2 (Nat.le_of_ble_eq_true rfl) (hts _ (vA_in _ _ (in_8 _ (zs4 (zs4 (zs1 (zs0))))))) (fun _ h9 => h9) fy68 dX10_read_44 ?_
          refine lv_iconst (v := 1) hx hb dX10_read_47 (by decide) ?_
          refine lv_iadd hx hb dX10_read_48 ?_
          refine lv_topi (fun y111 ey111 => ?_)
          obtain ⟨ty111, iy111⟩ := ti_add (e := 1) (f := 201) i69 ln_1 ey111 (by decide)
          have ty111 : y111.toInt = y68.toInt + 1 := ty111
          have iy111 : 1 ≤ y111.toInt ∧ y111.toInt ≤ 201 := iy111
          have i112 : 1 ≤ y111.toInt ∧ y111.toInt ≤ 200 := by omega
          refine th_putL (ci := 11) (C := RX10) (T := TX10) (N := 10) (v := .int y111) (ty := .int) hx hb hts hinX10 tyX10 tyX10_ok nmX10 hown hK hP (WL_D hD) hS hI 2 (mF 2 rfl) rfl rfl 2 (Nat.le_of_ble_eq_true rfl) (hts _ (vA_in _ _ (in_8 _ (zs4 (zs4 (zs1 (zs0))))))) (fun _ h9 => h9) rfl (by decide +kernel) rfl rfl (okI rfl (iv_w i112 (by decide))) dX10_read_49 (fun H locs E113 pw114 hI hP hS => ?_)
          have hKp := hKp.pw pw114 rfl
          have k115 : AtP E66 E113 := AtP.pw pw114.2 (vi_e fy68) (vi_e pw114.1) ty111 (by omega)
          have k116 : ClO w26_2_9 E113 := ClO.of hx26_2 f72 k115
          have k117 : SR E66 E113 := SR.pw pw114 (by decide) (by decide)
          refine lv_aload_n hx hb dX10_read_52 rfl (lv_at hl 1 rfl) ?_
          refine th_vL (va_runV (As := []) (rest := []) ⟨hx, hb, hml, hown, hts⟩ (q_readClauseV l dC dI cT cf hC ad E113 H.size hI (by (try rw [(show xi (E113 2) 5 = w26_2_5 from vi_e ((pw114.2 2 5 (fun q9 => absurd q9.2 (Nat.ne_of_beq_eq_false rfl))).trans ((kq67 2 5 rfl).trans hs26_2_5)))]); (try rw [(show xi (E113 2) 9 = w26_2_9 from vi_e ((pw114.2 2 9 (fun q9 => absurd q9.2 (Nat.ne_of_beq_eq_false rfl))).trans ((kq67 2 9 rfl).trans hs26_2_9)))]); (try rw [show xi (E113 24) = g26_24 from ((pw114.ef 24 (Nat.ne_of_beq_eq_false rfl)).trans ((kq67.ef 24 (fun _ => rfl)).trans hr26_24))]); (try rw [show xi (E113 25) = g26_25 from ((pw114.ef 25 (Nat.ne_of_beq_eq_false rfl)).trans ((kq67.ef 25 (fun _ => rfl)).trans hr26_25))]); (try rw [show xi (E113 2) 9 = w26_2_9 from vi_e ((pw114.2 2 9 (fun q9 => absurd q9.2 (Nat.ne_of_beq_eq_false rfl))).trans ((kq67 2 9 rfl).trans hs26_2_9))]); (try rw [show xi (E113 2) 5 = w26_2_5 from vi_e ((pw114.2 2 5 (fun q9 => absurd q9.2 (Nat.ne_of_beq_eq_false rfl))).trans ((kq67 2 5 rfl).trans hs26_2_5))]); exact hx26_0) (by (try rw [(show xi (E113 2) 9 = w26_2_9 from vi_e ((pw114.2 2 9 (fun q9 => absurd q9.2 (Nat.ne_of_beq_eq_false rfl))).trans ((kq67 2 9 rfl).trans hs26_2_9)))]); (try rw [show xi (E113 24) = g26_24 from ((pw114.ef 24 (Nat.ne_of_beq_eq_false rfl)).trans ((kq67.ef 24 (fun _ => rfl)).trans hr26_24))]); (try rw [show xi (E113 25) = g26_25 from ((pw114.ef 25 (Nat.ne_of_beq_eq_false rfl)).trans ((kq67.ef 25 (fun _ => rfl)).trans hr26_25))]); (try rw [show xi (E113 2) 9 = w26_2_9 from vi_e ((pw114.2 2 9 (fun q9 => absurd q9.2 (Nat.ne_of_beq_eq_false rfl))).trans ((kq67 2 9 rfl).trans hs26_2_9))]); (try rw [show xi (E113 2) 5 = w26_2_5 from vi_e ((pw114.2 2 5 (fun q9 => absurd q9.2 (Nat.ne_of_beq_eq_false rfl))).trans ((kq67 2 5 rfl).trans hs26_2_5))]); exact k116)) (cwV 0 hts (gi_V (in_8 _ (zs16 (zs4 (zs1 (zs1 (zs1 (zs0))))))) (in_8 _ (zs16 (zs4 (zs4 (zs0))))) (in_8 _ (zs16 (zs4 (zs4 (zs1 (zs0)))))) (in_8 _ (zs4 (zs4 (zs4 (zs1 (zs1 (zs0))))))) (in_8 _ (zs16 (zs4 (zs4 (zs1 (zs1 (zs0)))))))) rfl rfl rfl ⟨rfl, hz_yX10_readClause_0⟩ ⟨Nat.le_of_ble_eq_true rfl, Nat.le_of_ble_eq_true rfl⟩) ⟨HWL_bl, va_recv hK hP (ci := 11) (q0 := posL 2 (LC cf)) rfl (hI.ob 2 (mF 2 rfl) rfl), (HWL_wi hP hK (WL_D hD) hS hA hEV)⟩ rfl rfl hl.1 rfl (lv_room (Nat.le_of_ble_eq_true rfl)) dX10_read_53 ⟨Nat.le_of_ble_eq_true rfl, Nat.le_of_ble_eq_true rfl⟩) (WL_D hD) hS hA (fun E119 H locs hw hP hS => ?_)
          obtain ⟨hI, kq120, hw⟩ := hw
          have hKb := hKp
          have hKp := hKp.tr kq120 (wl_sub rfl rfl)
          obtain ⟨y121, ey121⟩ : ∃ y, xi (E119 2) 5 = y := ⟨_, rfl⟩
          have fy121 : xv (E119 2) 5 = .int y121 := (hI.fi 2 (mF 2 rfl) rfl (Nat.le_of_ble_eq_true rfl) rfl).trans (congrArg Value.int ey121)
          have i122 : 0 ≤ y121.toInt ∧ y121.toInt ≤ 200 := by rw [← ey121]; exact hI.iv 2 (mF 2 rfl) rfl (Nat.le_of_ble_eq_true rfl) rfl
          obtain ⟨y123, ey123⟩ : ∃ y, xi (E119 2) 9 = y := ⟨_, rfl⟩
          have fy123 : xv (E119 2) 9 = .int y123 := (hI.fi 2 (mF 2 rfl) rfl (Nat.le_of_ble_eq_true rfl) rfl).trans (congrArg Value.int ey123)
          have i124 : 0 ≤ y123.toInt ∧ y123.toInt ≤ 51 := by rw [← ey123]; exact hI.iv 2 (mF 2 rfl) rfl (Nat.le_of_ble_eq_true rfl) rfl
          obtain ⟨f125, f126, f127, f128, f129⟩ := hw
          try rw [(show xi (E113 2) 5 = w26_2_5 from vi_e ((pw114.2 2 5 (fun q9 => absurd q9.2 (Nat.ne_of_beq_eq_false rfl))).trans ((kq67 2 5 rfl).trans hs26_2_5)))] at f125
          try rw [(show xi (E119 2) 5 = y121 from vi_e fy121)] at f125
          try rw [(show xi (E113 2) 5 = w26_2_5 from vi_e ((pw114.2 2 5 (fun q9 => absurd q9.2 (Nat.ne_of_beq_eq_false rfl))).trans ((kq67 2 5 rfl).trans hs26_2_5)))] at f126
          try rw [(show xi (E113 2) 9 = w26_2_9 from vi_e ((pw114.2 2 9 (fun q9 => absurd q9.2 (Nat.ne_of_beq_eq_false rfl))).trans ((kq67 2 9 rfl).trans hs26_2_9)))] at f126
          try rw [(show xi (E119 2) 5 = y121 from vi_e fy121)] at f126
          try rw [(show xi (E119 2) 9 = y123 from vi_e fy123)] at f126
          try rw [(show xi (E113 2) 9 = w26_2_9 from vi_e ((pw114.2 2 9 (fun q9 => absurd q9.2 (Nat.ne_of_beq_eq_false rfl))).trans ((kq67 2 9 rfl).trans hs26_2_9)))] at f128
          try rw [(show xi (E119 2) 9 = y123 from vi_e fy123)] at f128
          have habf129 : tA E119 ≤ 200 := by have q9 : 0 ≤ (xi (E119 2) 2).toInt ∧ (xi (E119 2) 2).toInt ≤ 200 := hI.iv 2 (mF 2 rfl) rfl (Nat.le_of_ble_eq_true rfl) rfl; show (xi (E119 2) 2).toNatClampNeg ≤ 200; rw [tn_]; omega
          obtain ⟨g130, hg130⟩ : ∃ g, xi (E119 24) = g := ⟨_, rfl⟩
          obtain ⟨g131, hg131⟩ : ∃ g, xi (E119 25) = g := ⟨_, rfl⟩
          try rw [show xi (E119 24) = g130 from hg130] at f126
          try rw [show xi (E119 25) = g131 from hg131] at f126
          try rw [show xi (E119 2) 9 = y123 from vi_e fy123] at f126
          try rw [show xi (E119 2) 5 = y121 from vi_e fy121] at f126
          have hf126 : TPok g130 g131 y123 y121 := f126
          have k132 : ClI y123 E119 := ClI.of k116 f128 f127
          obtain ⟨y133, ey133⟩ : ∃ y : Int32, y = v26_1 + (1 : Int32) := ⟨_, rfl⟩
          obtain ⟨ty133, iy133⟩ := ti_add (e := 1) (f := 200) i64 ln_1 ey133 (by decide)
          have ty133 : y133.toInt = v26_1.toInt + 1 := ty133
          have iy133 : 1 ≤ y133.toInt ∧ y133.toInt ≤ 200 := iy133
          refine lv_iinc (v := y133) (lv' := [(1, .int y133), (0, .ref (ad 2))]) hx hb dX10_read_56 hl (k := 0) rfl (by rw [ey133]; rfl) (by decide) rfl (fun ls hl => ?_)
          refine lv_goto (tgt := 26) hx hb dX10_read_59 (by decide) ?_
          exact ih26 y123 y121 g130 g131 y133 E119 _ _ _ i124 i122 (iv_w iy133 (by decide)) (hf126) (Lp.step (op := isSem) (cb := cbC) hx26_1 f72 (is_sem.mpr (by omega)) (by omega) k115 f127 KS.rf ty133 (fun t m => clauseS_mono false t m) (fun t m a c h => opL_1 (clauseS_mono false t m) rfl h)) (k132) (LpK.step hx26_1 hx26_3 f72 k73 (is_sem.mpr (by omega)) k115 k117 f127 f129 habf129) (by first | exact ms_su hx26_4 ty133 (by decide) | omega) hI hKp fy123 fy121 hg130 hg131 hP hS (lv_sub hl [0, 1] rfl)
  exact hL26 (201) y17 y15 g24 g25 (0 : Int32) E13 _ _ _ i18 i16 (iv_w ln_0 (by decide)) (hf20) (Lp.start f21 lpX (by decide)) (k26) (LpK.start f23 kt5 kt9 habf23) (by have h9 := ln_0; first | exact ms_bu h9.1 (by decide) | omega) hI hKp fy17 fy15 hg24 hg25 hP hS (lv_sub hl [0, 1] rfl)
