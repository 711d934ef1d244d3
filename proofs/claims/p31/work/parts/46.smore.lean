

def v_lookX : List Cond := .code yX13_look cX13_look 1 (some .int) :: vA
abbrev rm_lookX : Room := { frames := 0, cells := 0, slots := 0, locals := 0 }
def w_lookX : Nat → Nat → Bool := wl [] [(0, 21)]
set_option maxHeartbeats 4000000 in
set_option maxRecDepth 100000 in
theorem q_lookX (l : Launch) (dC : Nat → ClassId) (dI : Nat → Nat → Nat) (cT : Nat → ClassId) (ad : Nat → Nat) (E : Nat → va_E) (sz : Nat) (k : Nat) (nl : Nat) (hI0 : IX cT shM spM 72 ad E) (hh0 : k < 72) (hh1 : shM k = (1, 1, nl)) (hh2 : ∀ j, spM k j = (0, -128, 127)) (hh3 : xv (E 0) 18 = .ref (ad k)) (hh4 : (xi (E 0) 19).toInt + 200 ≤ (nl : Int)) : Met l yX13_look v_lookX rm_lookX (va_Pc [.ref (ad 0)] (HW dC dI (TYM cT) 72 ad E sz)) (va_Qi (S := Nat → va_E) (fun r u => IX cT shM spM 72 ad u ∧ Kp w_lookX E u ∧ ((-1 ≤ r.toInt ∧ r.toInt ≤ 255) ∧ ((xi (E 0) 21).toInt ≤ (xi (u 0) 21).toInt) ∧ ((xi (u 0) 21).toInt ≤ (xi (E 0) 21).toInt ∨ (xi (u 0) 21).toInt ≤ (xi (E 0) 20).toInt) ∧ (0 ≤ r.toInt → (xi (u 0) 21).toInt < (xi (E 0) 20).toInt) ∧ (RdL k E u r))) (HB dC dI 72 ad) (va_A (WX 72 ad E) sz)) 0 0 (va_A (WX 72 ad E) sz) := by
  refine Met.ofW (cc := cX13_look) (maxL := 1) (ret := (some .int)) (by decide) rfl ?_
  intro p e s m args below meth c s₁ B hml hv
  obtain ⟨hargs, hsz, hP, hK, hD0, hEV⟩ := hv
  subst hsz
  have hx := B.exec
  have hb := B.bytes
  have hr := B.returns
  have hts := atoms_spec (ws := v_lookX) B.pre
  have hown : s.vm.findClass RX13 = some m.cls := findClass_of_methodNamed B.named
  have hlocks := B.notSynchronized
  have hinX13 : ∀ w ∈ u_ws RX13 TX13 97, w ∈ v_lookX := fun w h => vA_in _ w (in_X13 w h)
  generalize hAe : va_A (WX 72 ad E) s.heap.size = A at hEV ⊢
  have hA : ∀ q : Nat, s.heap.size ≤ q → A q := fun q h => by rw [← hAe]; exact Or.inr h
  have hD : va_D A (WX 72 ad E) := by rw [← hAe]; exact hD0.self
  have hS : va_S A s.heap s.heap [] := va_S.rf
  have hI := hI0
  have hKp : Kp w_lookX E E := Kp.rf
  have hl := lv_entry ([.ref (ad 0)]) (n := 1) (Nat.le_of_ble_eq_true rfl)
  obtain ⟨Q, hQ⟩ : ∃ Q, Q = MQ below (va_Qi (S := Nat → va_E) (fun r u => IX cT shM spM 72 ad u ∧ Kp w_lookX E u ∧ ((-1 ≤ r.toInt ∧ r.toInt ≤ 255) ∧ ((xi (E 0) 21).toInt ≤ (xi (u 0) 21).toInt) ∧ ((xi (u 0) 21).toInt ≤ (xi (E 0) 21).toInt ∨ (xi (u 0) 21).toInt ≤ (xi (E 0) 20).toInt) ∧ (0 ≤ r.toInt → (xi (u 0) 21).toInt < (xi (E 0) 20).toInt) ∧ (RdL k E u r))) (HB dC dI 72 ad) (A)) args s 0 0 (A) := ⟨_, rfl⟩
  rw [← hQ, show entryFrame m args 1 = _ from (congrArg (fun z => entryFrame m z 1) hargs).trans (lg_entry_eq _ _ _)]
  generalize (lg_sl ([.ref (ad 0)]) ++ List.replicate (1 - (lg_sl ([.ref (ad 0)])).length) Slot.unset).toArray = ls at hl ⊢
  have hl : lv_has ls 1 [(0, .ref (ad 0))] := hl
  obtain ⟨y1, ey1⟩ : ∃ y, xi (E 0) 21 = y := ⟨_, rfl⟩
  have fy1 : xv (E 0) 21 = .int y1 := (hI.fi 0 (Nat.le_of_ble_eq_true rfl) rfl (Nat.le_of_ble_eq_true rfl) rfl).trans (congrArg Value.int ey1)
  have iy1 : 0 ≤ y1.toInt ∧ y1.toInt ≤ 201 := by rw [← ey1]; exact hI.iv 0 (Nat.le_of_ble_eq_true rfl) rfl (Nat.le_of_ble_eq_true rfl) rfl
  have hk0 : ¬ k = 0 := fun q9 => by rw [q9] at hh1; exact absurd (show (shM 0).1 = 1 from congrArg Prod.fst hh1) (by decide)
  have hL0 : ∀ d : Nat, ∀ (w0_0_21 : Int32) (E0_ : Nat → va_E) (H : Heap) (locs : List Loc) (ls : Array Slot), 0 ≤ w0_0_21.toInt ∧ w0_0_21.toInt ≤ 201 → y1.toInt ≤ w0_0_21.toInt → (w0_0_21.toInt ≤ y1.toInt ∨ w0_0_21.toInt ≤ (xi (E 0) 20).toInt) → NexM k E E0_ → 201 - w0_0_21.toInt < (d : Int) → IX cT shM spM 72 ad E0_ → Kp w_lookX E E0_ → xv (E0_ 0) 21 = .int w0_0_21 → va_P (dC, dI) vwCl (WX 72 ad E0_) H → va_S A s.heap H locs → lv_has ls 1 [(0, .ref (ad 0))] → W p l e (headSpec v_lookX rm_lookX).room s m args below meth c H locs 0 0 Q (F0 m 0 ls []) := by
    intro d
    induction d with
    | zero =>
      intro w0_0_21 E0_ H locs ls hw0_0_21 hx0_0 hx0_1 hx0_2 hx0_3 hI hKp hs0_0_21 hP hS hl
      exact absurd hx0_3 (by first | exact ms_zu hw0_0_21.2 | omega)
    | succ d ih0 =>
      intro w0_0_21 E0_ H locs ls hw0_0_21 hx0_0 hx0_1 hx0_2 hx0_3 hI hKp hs0_0_21 hP hS hl
      refine lv_aload_n hx hb dX13_look_0 rfl (lv_at hl 0 rfl) ?_
      refine th_get (ci := 14) (C := RX13) (T := TX13) (N := 97) (v := .int w0_0_21) hx hb hts hinX13 hown hK hP hI 0 (Nat.le_of_ble_eq_true rfl) rfl rfl 21 (Nat.le_of_ble_eq_true rfl) (hts _ (vA_in _ _ (in_25 _ (zs16 (zs16 (zs4 (zs0))))))) (fun _ h9 => h9) hs0_0_21 dX13_look_1 ?_
      refine lv_aload_n hx hb dX13_look_4 rfl (lv_at hl 0 rfl) ?_
      have i2 : 0 ≤ (xi (E 0) 20).toInt ∧ (xi (E 0) 20).toInt ≤ 200 := hI0.iv 0 (Nat.le_of_ble_eq_true rfl) rfl (Nat.le_of_ble_eq_true rfl) rfl
      refine th_get (ci := 14) (C := RX13) (T := TX13) (N := 97) (v := .int (xi (E 0) 20)) hx hb hts hinX13 hown hK hP hI 0 (Nat.le_of_ble_eq_true rfl) rfl rfl 20 (Nat.le_of_ble_eq_true rfl) (hts _ (vA_in _ _ (in_26 _ (zs4 (zs1 (zs1 (zs0))))))) (fun _ h9 => h9) (th_v0 hKp hI0 0 (Nat.le_of_ble_eq_true rfl) rfl (Nat.le_of_ble_eq_true rfl) rfl rfl) dX13_look_5 ?_
      refine lv_icmp_ge (tgt := 43) hx hb dX13_look_8 (by decide) (fun c3 => ?_) (fun c3 => ?_)
      · --8 taken
        have t4 : (xi (E 0) 20).toInt ≤ w0_0_21.toInt := ti_le c3
        refine lv_aload_n hx hb dX13_look_43 rfl (lv_at hl 0 rfl) ?_
        refine th_get (ci := 14) (C := RX13) (T := TX13) (N := 97) (v := .int w0_0_21) hx hb hts hinX13 hown hK hP hI 0 (Nat.le_of_ble_eq_true rfl) rfl rfl 21 (Nat.le_of_ble_eq_true rfl) (hts _ (vA_in _ _ (in_25 _ (zs16 (zs16 (zs4 (zs0))))))) (fun _ h9 => h9) hs0_0_21 dX13_look_44 ?_
        refine lv_aload_n hx hb dX13_look_47 rfl (lv_at hl 0 rfl) ?_
        refine th_get (ci := 14) (C := RX13) (T := TX13) (N := 97) (v := .int (xi (E 0) 20)) hx hb hts hinX13 hown hK hP hI 0 (Nat.le_of_ble_eq_true rfl) rfl rfl 20 (Nat.le_of_ble_eq_true rfl) (hts _ (vA_in _ _ (in_26 _ (zs4 (zs1 (zs1 (zs0))))))) (fun _ h9 => h9) (th_v0 hKp hI0 0 (Nat.le_of_ble_eq_true rfl) rfl (Nat.le_of_ble_eq_true rfl) rfl rfl) dX13_look_48 ?_
        refine lv_icmp_ge (tgt := 75) hx hb dX13_look_51 (by decide) (fun c5 => ?_) (fun c5 => ?_)
        · --51 taken
          have t6 : (xi (E 0) 20).toInt ≤ w0_0_21.toInt := ti_le c5
          refine lv_iconst (v := -1) hx hb dX13_look_75 (by decide) ?_
          rw [hQ]
          exact W.iret (v := (-1)) hx hb hr (fun t ht hW => ⟨⟨(-1), E0_, rfl, ⟨hI, hKp, ⟨(iv_w ln_m1 (by decide)), by (try rw [(show xi (E0_ 0) 21 = w0_0_21 from vi_e hs0_0_21)]); (try rw [ey1]); first | done | exact hx0_0 | have h8 := ln_m1; all_goals omega, by have h8 := ln_m1; (try rw [(show xi (E0_ 0) 21 = w0_0_21 from vi_e hs0_0_21)]); (try rw [ey1]); all_goals omega, by have h8 := ln_m1; (try rw [(show xi (E0_ 0) 21 = w0_0_21 from vi_e hs0_0_21)]); (try rw [ey1]); all_goals omega, NexM.out hx0_2 (fun q9 => by obtain ⟨q8, q7⟩ := q9; have ka := mA_e hs0_0_21 (by omega); have kl : (mN E0_ : Int) = (xi (E 0) 20).toInt := (mN_e (E := E0_) (by rw [hKp.ei 0 20 rfl]; omega)).trans (by rw [hKp.ei 0 20 rfl]); omega) (by have ka := mA_e hs0_0_21 (by omega); have kl : (mN E0_ : Int) = (xi (E 0) 20).toInt := (mN_e (E := E0_) (by rw [hKp.ei 0 20 rfl]; omega)).trans (by rw [hKp.ei 0 20 rfl]); rw [if_neg (by omega)]; exact rfl)⟩⟩, by show va_P (dC, dI) vwCl (WX 72 ad E0_) t.heap; rw [ht]; exact hP⟩, hS.F ht⟩) hS.2.2 dX13_look_76
        · --51 not
          have t7 : w0_0_21.toInt < (xi (E 0) 20).toInt := ti_nle c5
          have i8 : 0 ≤ w0_0_21.toInt ∧ w0_0_21.toInt ≤ 199 := iv_lt_l t7 hw0_0_21 i2 (by decide)
          have i9 : 1 ≤ (xi (E 0) 20).toInt ∧ (xi (E 0) 20).toInt ≤ 200 := iv_lt_r t7 hw0_0_21 i2 (by decide)
          refine lv_aload_n hx hb dX13_look_54 rfl (lv_at hl 0 rfl) ?_
          refine th_get (ci := 14) (C := RX13) (T := TX13) (N := 97) (v := .ref (ad k)) hx hb hts hinX13 hown hK hP hI 0 (Nat.le_of_ble_eq_true rfl) rfl rfl 18 (Nat.le_of_ble_eq_true rfl) (hts _ (vA_in _ _ (in_26 _ zs0))) (fun _ h9 => h9) ((hKp 0 18 rfl).trans hh3) dX13_look_55 ?_
          refine lv_aload_n hx hb dX13_look_58 rfl (lv_at hl 0 rfl) ?_
          have i10 : 0 ≤ (xi (E 0) 19).toInt ∧ (xi (E 0) 19).toInt ≤ 3000 := hI0.iv 0 (Nat.le_of_ble_eq_true rfl) rfl (Nat.le_of_ble_eq_true rfl) rfl
          refine th_get (ci := 14) (C := RX13) (T := TX13) (N := 97) (v := .int (xi (E 0) 19)) hx hb hts hinX13 hown hK hP hI 0 (Nat.le_of_ble_eq_true rfl) rfl rfl 19 (Nat.le_of_ble_eq_true rfl) (hts _ (vA_in _ _ (in_26 _ (zs1 (zs0))))) (fun _ h9 => h9) (th_v0 hKp hI0 0 (Nat.le_of_ble_eq_true rfl) rfl (Nat.le_of_ble_eq_true rfl) rfl rfl) dX13_look_59 ?_
          refine lv_aload_n hx hb dX13_look_62 rfl (lv_at hl 0 rfl) ?_
          refine th_get (ci := 14) (C := RX13) (T := TX13) (N := 97) (v := .int w0_0_21) hx hb hts hinX13 hown hK hP hI 0 (Nat.le_of_ble_eq_true rfl) rfl rfl 21 (Nat.le_of_ble_eq_true rfl) (hts _ (vA_in _ _ (in_25 _ (zs16 (zs16 (zs4 (zs0))))))) (fun _ h9 => h9) hs0_0_21 dX13_look_63 ?_
          refine lv_iadd hx hb dX13_look_66 ?_
          refine lv_topi (fun y11 ey11 => ?_)
          obtain ⟨ty11, iy11⟩ := ti_add (e := 0) (f := 3199) i10 i8 ey11 (by decide)
          have ty11 : y11.toInt = (xi (E 0) 19).toInt + w0_0_21.toInt := ty11
          have iy11 : 0 ≤ y11.toInt ∧ y11.toInt ≤ 3199 := iy11
          have n13 : vp_in y11 nl := (vp_in_iff.mpr ⟨by omega, by omega⟩)
          refine th_bald hx hb hK hP hI k hh0 hh1 rfl n13 dX13_look_67 (fun y12 ey12 => ?_)
          have iy12 : -128 ≤ y12.toInt ∧ y12.toInt ≤ 127 := hI.el k hh0 hh1 n13 hh2 ey12
          refine lv_sipush (v := 255) hx hb dX13_look_68 (by decide) ?_
          refine lv_iand hx hb dX13_look_71 ?_
          refine lv_topi (fun y14 ey14 => ?_)
          have iy14 : 0 ≤ y14.toInt ∧ y14.toInt ≤ 255 := ti_and (by decide) ey14
          refine lv_goto (tgt := 76) hx hb dX13_look_72 (by decide) ?_
          rw [hQ]
          exact W.iret (v := y14) hx hb hr (fun t ht hW => ⟨⟨y14, E0_, rfl, ⟨hI, hKp, ⟨(iv_w iy14 (by decide)), by (try rw [(show xi (E0_ 0) 21 = w0_0_21 from vi_e hs0_0_21)]); (try rw [ey1]); first | done | exact hx0_0 | all_goals omega, by (try rw [(show xi (E0_ 0) 21 = w0_0_21 from vi_e hs0_0_21)]); (try rw [ey1]); all_goals omega, by (try rw [(show xi (E0_ 0) 21 = w0_0_21 from vi_e hs0_0_21)]); (try rw [ey1]); all_goals omega, NexM.out hx0_2 (fun q9 => by obtain ⟨q8, q7⟩ := q9; have ka := mA_e hs0_0_21 (by omega); have kl : (mN E0_ : Int) = (xi (E 0) 20).toInt := (mN_e (E := E0_) (by rw [hKp.ei 0 20 rfl]; omega)).trans (by rw [hKp.ei 0 20 rfl]); have by12 := mT_e (k := k) hs0_0_21 (by omega) ey12 (by rw [hKp.ei 0 19 rfl]; omega) (by rw [hKp.ei 0 19 rfl]; omega); omega) (by have ka := mA_e hs0_0_21 (by omega); have kl : (mN E0_ : Int) = (xi (E 0) 20).toInt := (mN_e (E := E0_) (by rw [hKp.ei 0 20 rfl]; omega)).trans (by rw [hKp.ei 0 20 rfl]); have by12 := mT_e (k := k) hs0_0_21 (by omega) ey12 (by rw [hKp.ei 0 19 rfl]; omega) (by rw [hKp.ei 0 19 rfl]; omega); rw [if_pos (by omega), by12]; exact by255 (by omega) ey14)⟩⟩, by show va_P (dC, dI) vwCl (WX 72 ad E0_) t.heap; rw [ht]; exact hP⟩, hS.F ht⟩) hS.2.2 dX13_look_76
      · --8 not
        have t15 : w0_0_21.toInt < (xi (E 0) 20).toInt := ti_nle c3
        have i16 : 0 ≤ w0_0_21.toInt ∧ w0_0_21.toInt ≤ 199 := iv_lt_l t15 hw0_0_21 i2 (by decide)
        have i17 : 1 ≤ (xi (E 0) 20).toInt ∧ (xi (E 0) 20).toInt ≤ 200 := iv_lt_r t15 hw0_0_21 i2 (by decide)
        refine lv_aload_n hx hb dX13_look_11 rfl (lv_at hl 0 rfl) ?_
        refine th_get (ci := 14) (C := RX13) (T := TX13) (N := 97) (v := .ref (ad k)) hx hb hts hinX13 hown hK hP hI 0 (Nat.le_of_ble_eq_true rfl) rfl rfl 18 (Nat.le_of_ble_eq_true rfl) (hts _ (vA_in _ _ (in_26 _ zs0))) (fun _ h9 => h9) ((hKp 0 18 rfl).trans hh3) dX13_look_12 ?_
        refine lv_aload_n hx hb dX13_look_15 rfl (lv_at hl 0 rfl) ?_
        have i18 : 0 ≤ (xi (E 0) 19).toInt ∧ (xi (E 0) 19).toInt ≤ 3000 := hI0.iv 0 (Nat.le_of_ble_eq_true rfl) rfl (Nat.le_of_ble_eq_true rfl) rfl
        refine th_get (ci := 14) (C := RX13) (T := TX13) (N := 97) (v := .int (xi (E 0) 19)) hx hb hts hinX13 hown hK hP hI 0 (Nat.le_of_ble_eq_true rfl) rfl rfl 19 (Nat.le_of_ble_eq_true rfl) (hts _ (vA_in _ _ (in_26 _ (zs1 (zs0))))) (fun _ h9 => h9) (th_v0 hKp hI0 0 (Nat.le_of_ble_eq_true rfl) rfl (Nat.le_of_ble_eq_true rfl) rfl rfl) dX13_look_16 ?_
        refine lv_aload_n hx hb dX13_look_19 rfl (lv_at hl 0 rfl) ?_
        refine th_get (ci := 14) (C := RX13) (T := TX13) (N := 97) (v := .int w0_0_21) hx hb hts hinX13 hown hK hP hI 0 (Nat.le_of_ble_eq_true rfl) rfl rfl 21 (Nat.le_of_ble_eq_true rfl) (hts _ (vA_in _ _ (in_25 _ (zs16 (zs16 (zs4 (zs0))))))) (fun _ h9 => h9) hs0_0_21 dX13_look_20 ?_
        refine lv_iadd hx hb dX13_look_23 ?_
        refine lv_topi (fun y19 ey19 => ?_)
        obtain ⟨ty19, iy19⟩ := ti_add (e := 0) (f := 3199) i18 i16 ey19 (by decide)
        have ty19 : y19.toInt = (xi (E 0) 19).toInt + w0_0_21.toInt := ty19
        have iy19 : 0 ≤ y19.toInt ∧ y19.toInt ≤ 3199 := iy19
        have n21 : vp_in y19 nl := (vp_in_iff.mpr ⟨by omega, by omega⟩)
        refine th_bald hx hb hK hP hI k hh0 hh1 rfl n21 dX13_look_24 (fun y20 ey20 => ?_)
        have iy20 : -128 ≤ y20.toInt ∧ y20.toInt ≤ 127 := hI.el k hh0 hh1 n21 hh2 ey20
        refine lv_bipush (v := 32) hx hb dX13_look_25 (by decide) ?_
        refine lv_icmp_ne (tgt := 43) hx hb dX13_look_27 (by decide) (fun c22 => ?_) (fun c22 => ?_)
        · --27 taken
          have t23 : ¬ y20.toInt = 32 := ti_ne c22
          refine lv_aload_n hx hb dX13_look_43 rfl (lv_at hl 0 rfl) ?_
          refine th_get (ci := 14) (C := RX13) (T := TX13) (N := 97) (v := .int w0_0_21) hx hb hts hinX13 hown hK hP hI 0 (Nat.le_of_ble_eq_true rfl) rfl rfl 21 (Nat.le_of_ble_eq_true rfl) (hts _ (vA_in _ _ (in_25 _ (zs16 (zs16 (zs4 (zs0))))))) (fun _ h9 => h9) hs0_0_21 dX13_look_44 ?_
          refine lv_aload_n hx hb dX13_look_47 rfl (lv_at hl 0 rfl) ?_
          refine th_get (ci := 14) (C := RX13) (T := TX13) (N := 97) (v := .int (xi (E 0) 20)) hx hb hts hinX13 hown hK hP hI 0 (Nat.le_of_ble_eq_true rfl) rfl rfl 20 (Nat.le_of_ble_eq_true rfl) (hts _ (vA_in _ _ (in_26 _ (zs4 (zs1 (zs1 (zs0))))))) (fun _ h9 => h9) (th_v0 hKp hI0 0 (Nat.le_of_ble_eq_true rfl) rfl (Nat.le_of_ble_eq_true rfl) rfl rfl) dX13_look_48 ?_
          refine lv_icmp_ge (tgt := 75) hx hb dX13_look_51 (by decide) (fun c24 => ?_) (fun c24 => ?_)
          · --51 taken
            have t25 : (xi (E 0) 20).toInt ≤ w0_0_21.toInt := ti_le c24
            have i26 : 1 ≤ (xi (E 0) 20).toInt ∧ (xi (E 0) 20).toInt ≤ 199 := iv_le_l t25 i17 i16 (by decide)
            have i27 : 1 ≤ w0_0_21.toInt ∧ w0_0_21.toInt ≤ 199 := iv_le_r t25 i17 i16 (by decide)
            refine lv_iconst (v := -1) hx hb dX13_look_75 (by decide) ?_
            rw [hQ]
            exact W.iret (v := (-1)) hx hb hr (fun t ht hW => ⟨⟨(-1), E0_, rfl, ⟨hI, hKp, ⟨(iv_w ln_m1 (by decide)), by (try rw [(show xi (E0_ 0) 21 = w0_0_21 from vi_e hs0_0_21)]); (try rw [ey1]); first | done | exact hx0_0 | have h8 := ln_m1; all_goals omega, by have h8 := ln_m1; (try rw [(show xi (E0_ 0) 21 = w0_0_21 from vi_e hs0_0_21)]); (try rw [ey1]); all_goals omega, by have h8 := ln_m1; (try rw [(show xi (E0_ 0) 21 = w0_0_21 from vi_e hs0_0_21)]); (try rw [ey1]); all_goals omega, NexM.out hx0_2 (fun q9 => by obtain ⟨q8, q7⟩ := q9; have ka := mA_e hs0_0_21 (by omega); have kl : (mN E0_ : Int) = (xi (E 0) 20).toInt := (mN_e (E := E0_) (by rw [hKp.ei 0 20 rfl]; omega)).trans (by rw [hKp.ei 0 20 rfl]); have by20 := mT_e (k := k) hs0_0_21 (by omega) ey20 (by rw [hKp.ei 0 19 rfl]; omega) (by rw [hKp.ei 0 19 rfl]; omega); omega) (by have ka := mA_e hs0_0_21 (by omega); have kl : (mN E0_ : Int) = (xi (E 0) 20).toInt := (mN_e (E := E0_) (by rw [hKp.ei 0 20 rfl]; omega)).trans (by rw [hKp.ei 0 20 rfl]); rw [if_neg (by omega)]; exact rfl)⟩⟩, by show va_P (dC, dI) vwCl (WX 72 ad E0_) t.heap; rw [ht]; exact hP⟩, hS.F ht⟩) hS.2.2 dX13_look_76
          · --51 not
            have t28 : w0_0_21.toInt < (xi (E 0) 20).toInt := ti_nle c24
            refine lv_aload_n hx hb dX13_look_54 rfl (lv_at hl 0 rfl) ?_
            refine th_get (ci := 14) (C := RX13) (T := TX13) (N := 97) (v := .ref (ad k)) hx hb hts hinX13 hown hK hP hI 0 (Nat.le_of_ble_eq_true rfl) rfl rfl 18 (Nat.le_of_ble_eq_true rfl) (hts _ (vA_in _ _ (in_26 _ zs0))) (fun _ h9 => h9) ((hKp 0 18 rfl).trans hh3) dX13_look_55 ?_
            refine lv_aload_n hx hb dX13_look_58 rfl (lv_at hl 0 rfl) ?_
            refine th_get (ci := 14) (C := RX13) (T := TX13) (N := 97) (v := .int (xi (E 0) 19)) hx hb hts hinX13 hown hK hP hI 0 (Nat.le_of_ble_eq_true rfl) rfl rfl 19 (Nat.le_of_ble_eq_true rfl) (hts _ (vA_in _ _ (in_26 _ (zs1 (zs0))))) (fun _ h9 => h9) (th_v0 hKp hI0 0 (Nat.le_of_ble_eq_true rfl) rfl (Nat.le_of_ble_eq_true rfl) rfl rfl) dX13_look_59 ?_
            refine lv_aload_n hx hb dX13_look_62 rfl (lv_at hl 0 rfl) ?_
            refine th_get (ci := 14) (C := RX13) (T := TX13) (N := 97) (v := .int w0_0_21) hx hb hts hinX13 hown hK hP hI 0 (Nat.le_of_ble_eq_true rfl) rfl rfl 21 (Nat.le_of_ble_eq_true rfl) (hts _ (vA_in _ _ (in_25 _ (zs16 (zs16 (zs4 (zs0))))))) (fun _ h9 => h9) hs0_0_21 dX13_look_63 ?_
            refine lv_iadd hx hb dX13_look_66 ?_
            refine lv_topi (fun y29 ey29 => ?_)
            obtain ⟨ty29, iy29⟩ := ti_add (e := 0) (f := 3199) i18 i16 ey29 (by decide)
            have ty29 : y29.toInt = (xi (E 0) 19).toInt + w0_0_21.toInt := ty29
            have iy29 : 0 ≤ y29.toInt ∧ y29.toInt ≤ 3199 := iy29
            have n31 : vp_in y29 nl := (vp_in_iff.mpr ⟨by omega, by omega⟩)
            refine th_bald hx hb hK hP hI k hh0 hh1 rfl n31 dX13_look_67 (fun y30 ey30 => ?_)
            have iy30 : -128 ≤ y30.toInt ∧ y30.toInt ≤ 127 := hI.el k hh0 hh1 n31 hh2 ey30
            refine lv_sipush (v := 255) hx hb dX13_look_68 (by decide) ?_
            refine lv_iand hx hb dX13_look_71 ?_
            refine lv_topi (fun y32 ey32 => ?_)
            have iy32 : 0 ≤ y32.toInt ∧ y32.toInt ≤ 255 := ti_and (by decide) ey32
            refine lv_goto (tgt := 76) hx hb dX13_look_72 (by decide) ?_
            rw [hQ]
            exact W.iret (v := y32) hx hb hr (fun t ht hW => ⟨⟨y32, E0_, rfl, ⟨hI, hKp, ⟨(iv_w iy32 (by decide)), by (try rw [(show xi (E0_ 0) 21 = w0_0_21 from vi_e hs0_0_21)]); (try rw [ey1]); first | done | exact hx0_0 | all_goals omega, by (try rw [(show xi (E0_ 0) 21 = w0_0_21 from vi_e hs0_0_21)]); (try rw [ey1]); all_goals omega, by (try rw [(show xi (E0_ 0) 21 = w0_0_21 from vi_e hs0_0_21)]); (try rw [ey1]); all_goals omega, NexM.out hx0_2 (fun q9 => by obtain ⟨q8, q7⟩ := q9; have ka := mA_e hs0_0_21 (by omega); have kl : (mN E0_ : Int) = (xi (E 0) 20).toInt := (mN_e (E := E0_) (by rw [hKp.ei 0 20 rfl]; omega)).trans (by rw [hKp.ei 0 20 rfl]); have by20 := mT_e (k := k) hs0_0_21 (by omega) ey20 (by rw [hKp.ei 0 19 rfl]; omega) (by rw [hKp.ei 0 19 rfl]; omega); have by30 := mT_e (k := k) hs0_0_21 (by omega) ey30 (by rw [hKp.ei 0 19 rfl]; omega) (by rw [hKp.ei 0 19 rfl]; omega); omega) (by have ka := mA_e hs0_0_21 (by omega); have kl : (mN E0_ : Int) = (xi (E 0) 20).toInt := (mN_e (E := E0_) (by rw [hKp.ei 0 20 rfl]; omega)).trans (by rw [hKp.ei 0 20 rfl]); have by20 := mT_e (k := k) hs0_0_21 (by omega) ey20 (by rw [hKp.ei 0 19 rfl]; omega) (by rw [hKp.ei 0 19 rfl]; omega); have by30 := mT_e (k := k) hs0_0_21 (by omega) ey30 (by rw [hKp.ei 0 19 rfl]; omega) (by rw [hKp.ei 0 19 rfl]; omega); rw [if_pos (by omega), by30]; exact by255 (by omega) ey32)⟩⟩, by show va_P (dC, dI) vwCl (WX 72 ad E0_) t.heap; rw [ht]; exact hP⟩, hS.F ht⟩) hS.2.2 dX13_look_76
        · --27 not
          have t33 : y20.toInt = 32 := ti_eq c22
          have i34 : 32 ≤ y20.toInt ∧ y20.toInt ≤ 32 := iv_eqi t33 iy20 (il_ 32) (by decide)
          refine lv_aload_n hx hb dX13_look_30 rfl (lv_at hl 0 rfl) ?_
          refine lv_dup hx hb dX13_look_31 rfl ?_
          refine th_get (ci := 14) (C := RX13) (T := TX13) (N := 97) (v := .int w0_0_21) hx hb hts hinX13 hown hK hP hI 0 (Nat.le_of_ble_eq_true rfl) rfl rfl 21 (Nat.le_of_ble_eq_true rfl) (hts _ (vA_in _ _ (in_25 _ (zs16 (zs16 (zs4 (zs0))))))) (fun _ h9 => h9) hs0_0_21 dX13_look_32 ?_
          refine lv_iconst (v := 1) hx hb dX13_look_35 (by decide) ?_
          refine lv_iadd hx hb dX13_look_36 ?_
          refine lv_topi (fun y35 ey35 => ?_)
          obtain ⟨ty35, iy35⟩ := ti_add (e := 1) (f := 200) i16 ln_1 ey35 (by decide)
          have ty35 : y35.toInt = w0_0_21.toInt + 1 := ty35
          have iy35 : 1 ≤ y35.toInt ∧ y35.toInt ≤ 200 := iy35
          have k36 := mT_e (k := k) hs0_0_21 (by omega) ey20 (by rw [hKp.ei 0 19 rfl]; omega) (by rw [hKp.ei 0 19 rfl]; omega)
          have k37 : (mN E0_ : Int) = (xi (E 0) 20).toInt := (mN_e (E := E0_) (by rw [hKp.ei 0 20 rfl]; omega)).trans (by rw [hKp.ei 0 20 rfl])
          refine th_put (ci := 14) (C := RX13) (T := TX13) (N := 97) (v := .int y35) (ty := .int) hx hb hts hinX13 tyX13 tyX13_ok nmX13 hown hK hP (WX_D hD) hS hI 0 (Nat.le_of_ble_eq_true rfl) rfl rfl 21 (Nat.le_of_ble_eq_true rfl) (hts _ (vA_in _ _ (in_25 _ (zs16 (zs16 (zs4 (zs0))))))) (fun _ h9 => h9) rfl (by decide +kernel) rfl rfl (okI rfl (iv_w iy35 (by decide))) dX13_look_37 (fun H locs E38 pw39 hI hP hS => ?_)
          have hKp := hKp.pw pw39 rfl
          have k40 : AtM k E0_ E38 := AtM.pw pw39.2 hk0 (vi_e hs0_0_21) (vi_e pw39.1) ty35 (by omega)
          refine lv_goto (tgt := 0) hx hb dX13_look_40 (by decide) ?_
          exact ih0 y35 E38 _ _ _ (iv_w iy35 (by decide)) (by omega) (by omega) (hx0_2.step k40 (by have ka := mA_e hs0_0_21 (by omega); have kl := k37; omega) (by rw [k36]; omega)) (by omega) hI hKp pw39.1 hP hS (lv_sub hl [0] rfl)
  exact hL0 (202) y1 E _ _ _ iy1 (by omega) (by omega) (NexM.rf) (by have h9 := iy1; first | exact ms_bu h9.1 (by decide) | omega) hI hKp fy1 hP hS (lv_sub hl [0] rfl)
def v_stopX : List Cond := .code yX13_stop cX13_stop 1 (some .boolean) :: vA
abbrev rm_stopX : Room := { frames := 0, cells := 0, slots := 0, locals := 0 }
def w_stopX : Nat → Nat → Bool := wl [] [(0, 22)]
set_option maxHeartbeats 4000000 in
set_option maxRecDepth 100000 in
theorem q_stopX (l : Launch) (dC : Nat → ClassId) (dI : Nat → Nat → Nat) (cT : Nat → ClassId) (ad : Nat → Nat) (E : Nat → va_E) (sz : Nat) (k : Nat) (nl : Nat) (hI0 : IX cT shM spM 72 ad E) (hh0 : k < 72) (hh1 : shM k = (1, 1, nl)) (hh2 : ∀ j, spM k j = (0, -128, 127)) (hh3 : xv (E 0) 18 = .ref (ad k)) (hh4 : (xi (E 0) 19).toInt + 200 ≤ (nl : Int)) : Met l yX13_stop v_stopX rm_stopX (va_Pc [.ref (ad 0)] (HW dC dI (TYM cT) 72 ad E sz)) (va_Qi (S := Nat → va_E) (fun r u => IX cT shM spM 72 ad u ∧ Kp w_stopX E u ∧ (r = 0 ∧ (¬ (xi (u 0) 22).toInt = -1) ∧ (RdS k E u))) (HB dC dI 72 ad) (va_A (WX 72 ad E) sz)) 0 0 (va_A (WX 72 ad E) sz) := by
  refine Met.ofW (cc := cX13_stop) (maxL := 1) (ret := (some .boolean)) (by decide) rfl ?_
  intro p e s m args below meth c s₁ B hml hv
  obtain ⟨hargs, hsz, hP, hK, hD0, hEV⟩ := hv
  subst hsz
  have hx := B.exec
  have hb := B.bytes
  have hr := B.returns
  have hts := atoms_spec (ws := v_stopX) B.pre
  have hown : s.vm.findClass RX13 = some m.cls := findClass_of_methodNamed B.named
  have hlocks := B.notSynchronized
  have hinX13 : ∀ w ∈ u_ws RX13 TX13 97, w ∈ v_stopX := fun w h => vA_in _ w (in_X13 w h)
  generalize hAe : va_A (WX 72 ad E) s.heap.size = A at hEV ⊢
  have hA : ∀ q : Nat, s.heap.size ≤ q → A q := fun q h => by rw [← hAe]; exact Or.inr h
  have hD : va_D A (WX 72 ad E) := by rw [← hAe]; exact hD0.self
  have hS : va_S A s.heap s.heap [] := va_S.rf
  have hI := hI0
  have hKp : Kp w_stopX E E := Kp.rf
  have hl := lv_entry ([.ref (ad 0)]) (n := 1) (Nat.le_of_ble_eq_true rfl)
  obtain ⟨Q, hQ⟩ : ∃ Q, Q = MQ below (va_Qi (S := Nat → va_E) (fun r u => IX cT shM spM 72 ad u ∧ Kp w_stopX E u ∧ (r = 0 ∧ (¬ (xi (u 0) 22).toInt = -1) ∧ (RdS k E u))) (HB dC dI 72 ad) (A)) args s 0 0 (A) := ⟨_, rfl⟩
  rw [← hQ, show entryFrame m args 1 = _ from (congrArg (fun z => entryFrame m z 1) hargs).trans (lg_entry_eq _ _ _)]
  generalize (lg_sl ([.ref (ad 0)]) ++ List.replicate (1 - (lg_sl ([.ref (ad 0)])).length) Slot.unset).toArray = ls at hl ⊢
  have hl : lv_has ls 1 [(0, .ref (ad 0))] := hl
  have i1 : 0 ≤ (xi (E 0) 21).toInt ∧ (xi (E 0) 21).toInt ≤ 201 := (show 0 ≤ (xi (E 0) 21).toInt ∧ (xi (E 0) 21).toInt ≤ 201 from hI0.iv 0 (Nat.le_of_ble_eq_true rfl) rfl (Nat.le_of_ble_eq_true rfl) rfl)
  obtain ⟨y2, ey2⟩ : ∃ y, xi (E 0) 22 = y := ⟨_, rfl⟩
  have fy2 : xv (E 0) 22 = .int y2 := (hI.fi 0 (Nat.le_of_ble_eq_true rfl) rfl (Nat.le_of_ble_eq_true rfl) rfl).trans (congrArg Value.int ey2)
  have iy2 : -1 ≤ y2.toInt ∧ y2.toInt ≤ 201 := by rw [← ey2]; exact hI.iv 0 (Nat.le_of_ble_eq_true rfl) rfl (Nat.le_of_ble_eq_true rfl) rfl
  have hk0 : ¬ k = 0 := fun q9 => by rw [q9] at hh1; exact absurd (show (shM 0).1 = 1 from congrArg Prod.fst hh1) (by decide)
  refine lv_aload_n hx hb dX13_stop_0 rfl (lv_at hl 0 rfl) ?_
  refine th_get (ci := 14) (C := RX13) (T := TX13) (N := 97) (v := .int y2) hx hb hts hinX13 hown hK hP hI 0 (Nat.le_of_ble_eq_true rfl) rfl rfl 22 (Nat.le_of_ble_eq_true rfl) (hts _ (vA_in _ _ (in_25 _ (zs16 (zs16 (zs4 (zs1 (zs1 (zs1 (zs0)))))))))) (fun _ h9 => h9) fy2 dX13_stop_1 ?_
  refine lv_iconst (v := -1) hx hb dX13_stop_4 (by decide) ?_
  refine lv_icmp_ne (tgt := 16) hx hb dX13_stop_5 (by decide) (fun c3 => ?_) (fun c3 => ?_)
  · --5 taken
    have t4 : ¬ y2.toInt = -1 := ti_ne c3
    have i5 : 0 ≤ y2.toInt ∧ y2.toInt ≤ 201 := iv_ne_l t4 iy2 (il_ (-1))
    refine lv_iconst (v := 0) hx hb dX13_stop_16 (by decide) ?_
    rw [hQ]
    exact W.zret (v := 0) hx hb hr rfl (fun t ht hW => ⟨⟨0, E, rfl, ⟨hI, hKp, ⟨rfl, by have h8 := ln_0; (try rw [(show xi (E 0) 22 = y2 from vi_e fy2)]); (try rw [ey2]); all_goals omega, RdS.no (by rw [ey2]; omega)⟩⟩, by show va_P (dC, dI) vwCl (WX 72 ad E) t.heap; rw [ht]; exact hP⟩, hS.F ht⟩) hS.2.2 dX13_stop_17
  · --5 not
    have t6 : y2.toInt = -1 := ti_eq c3
    have i7 : -1 ≤ y2.toInt ∧ y2.toInt ≤ -1 := iv_eqi t6 iy2 (il_ (-1)) (by decide)
    refine lv_aload_n hx hb dX13_stop_8 rfl (lv_at hl 0 rfl) ?_
    refine lv_aload_n hx hb dX13_stop_9 rfl (lv_at hl 0 rfl) ?_
    refine th_get (ci := 14) (C := RX13) (T := TX13) (N := 97) (v := .int (xi (E 0) 21)) hx hb hts hinX13 hown hK hP hI 0 (Nat.le_of_ble_eq_true rfl) rfl rfl 21 (Nat.le_of_ble_eq_true rfl) (hts _ (vA_in _ _ (in_25 _ (zs16 (zs16 (zs4 (zs0))))))) (fun _ h9 => h9) (th_v0 hKp hI0 0 (Nat.le_of_ble_eq_true rfl) rfl (Nat.le_of_ble_eq_true rfl) rfl rfl) dX13_stop_10 ?_
    refine th_put (ci := 14) (C := RX13) (T := TX13) (N := 97) (v := .int (xi (E 0) 21)) (ty := .int) hx hb hts hinX13 tyX13 tyX13_ok nmX13 hown hK hP (WX_D hD) hS hI 0 (Nat.le_of_ble_eq_true rfl) rfl rfl 22 (Nat.le_of_ble_eq_true rfl) (hts _ (vA_in _ _ (in_25 _ (zs16 (zs16 (zs4 (zs1 (zs1 (zs1 (zs0)))))))))) (fun _ h9 => h9) rfl (by decide +kernel) rfl rfl (okI rfl (iv_w i1 (by decide))) dX13_stop_13 (fun H locs E8 pw9 hI hP hS => ?_)
    have hKp := hKp.pw pw9 rfl
    refine lv_iconst (v := 0) hx hb dX13_stop_16 (by decide) ?_
    rw [hQ]
    exact W.zret (v := 0) hx hb hr rfl (fun t ht hW => ⟨⟨0, E8, rfl, ⟨hI, hKp, ⟨rfl, by have h8 := ln_0; (try rw [(show xi (E8 0) 22 = (xi (E 0) 21) from vi_e pw9.1)]); (try rw [ey2]); all_goals omega, RdS.of pw9.2 hk0 pw9.1 rfl (by omega) (by rw [ey2]; omega)⟩⟩, by show va_P (dC, dI) vwCl (WX 72 ad E8) t.heap; rw [ht]; exact hP⟩, hS.F ht⟩) hS.2.2 dX13_stop_17
def v_goesInX : List Cond := .code yX13_goesIn cX13_goesIn 1 (some .boolean) :: vA
abbrev rm_goesInX : Room := { frames := 1, cells := 0, slots := 0, locals := 40 }
def w_goesInX : Nat → Nat → Bool := wl [] [(0, 21), (0, 22), (0, 23)]
set_option maxHeartbeats 4000000 in
set_option maxRecDepth 100000 in
theorem q_goesInX (l : Launch) (dC : Nat → ClassId) (dI : Nat → Nat → Nat) (cT : Nat → ClassId) (ad : Nat → Nat) (E : Nat → va_E) (sz : Nat) (k : Nat) (nl : Nat) (hI0 : IX cT shM spM 72 ad E) (hh0 : k < 72) (hh1 : shM k = (1, 1, nl)) (hh2 : ∀ j, spM k j = (0, -128, 127)) (hh3 : xv (E 0) 18 = .ref (ad k)) (hh4 : (xi (E 0) 19).toInt + 200 ≤ (nl : Int)) (hh5 : (xi (E 0) 21).toInt < 200) : Met l yX13_goesIn v_goesInX rm_goesInX (va_Pc [.ref (ad 0)] (HW dC dI (TYM cT) 72 ad E sz)) (va_Qi (S := Nat → va_E) (fun r u => IX cT shM spM 72 ad u ∧ Kp w_goesInX E u ∧ ((r = 1 ∧ ((xi (u 0) 23).toInt = (xi (E 0) 23).toInt + 1) ∧ ((xi (u 0) 22).toInt = (xi (E 0) 22).toInt) ∧ ((xi (E 0) 23).toInt < 8) ∧ ((xi (u 0) 21).toInt = (xi (E 0) 21).toInt + 1) ∧ (AtM k E u)) ∨ (r = 0 ∧ ((xi (E 0) 23).toInt = 8) ∧ (¬ (xi (u 0) 22).toInt = -1) ∧ ((xi (u 0) 21).toInt = (xi (E 0) 21).toInt) ∧ ((xi (u 0) 23).toInt = (xi (E 0) 23).toInt) ∧ (RdS k E u)))) (HB dC dI 72 ad) (va_A (WX 72 ad E) sz)) 0 0 (va_A (WX 72 ad E) sz) := by
  refine Met.ofW (cc := cX13_goesIn) (maxL := 1) (ret := (some .boolean)) (by decide) rfl ?_
  intro p e s m args below meth c s₁ B hml hv
  obtain ⟨hargs, hsz, hP, hK, hD0, hEV⟩ := hv
  subst hsz
  have hx := B.exec
  have hb := B.bytes
  have hr := B.returns
  have hts := atoms_spec (ws := v_goesInX) B.pre
  have hown : s.vm.findClass RX13 = some m.cls := findClass_of_methodNamed B.named
  have hlocks := B.notSynchronized
  have hinX13 : ∀ w ∈ u_ws RX13 TX13 97, w ∈ v_goesInX := fun w h => vA_in _ w (in_X13 w h)
  generalize hAe : va_A (WX 72 ad E) s.heap.size = A at hEV ⊢
  have hA : ∀ q : Nat, s.heap.size ≤ q → A q := fun q h => by rw [← hAe]; exact Or.inr h
  have hD : va_D A (WX 72 ad E) := by rw [← hAe]; exact hD0.self
  have hS : va_S A s.heap s.heap [] := va_S.rf
  have hI := hI0
  have hKp : Kp w_goesInX E E := Kp.rf
  have hl := lv_entry ([.ref (ad 0)]) (n := 1) (Nat.le_of_ble_eq_true rfl)
  obtain ⟨Q, hQ⟩ : ∃ Q, Q = MQ below (va_Qi (S := Nat → va_E) (fun r u => IX cT shM spM 72 ad u ∧ Kp w_goesInX E u ∧ ((r = 1 ∧ ((xi (u 0) 23).toInt = (xi (E 0) 23).toInt + 1) ∧ ((xi (u 0) 22).toInt = (xi (E 0) 22).toInt) ∧ ((xi (E 0) 23).toInt < 8) ∧ ((xi (u 0) 21).toInt = (xi (E 0) 21).toInt + 1) ∧ (AtM k E u)) ∨ (r = 0 ∧ ((xi (E 0) 23).toInt = 8) ∧ (¬ (xi (u 0) 22).toInt = -1) ∧ ((xi (u 0) 21).toInt = (xi (E 0) 21).toInt) ∧ ((xi (u 0) 23).toInt = (xi (E 0) 23).toInt) ∧ (RdS k E u)))) (HB dC dI 72 ad) (A)) args s 0 0 (A) := ⟨_, rfl⟩
  rw [← hQ, show entryFrame m args 1 = _ from (congrArg (fun z => entryFrame m z 1) hargs).trans (lg_entry_eq _ _ _)]
  generalize (lg_sl ([.ref (ad 0)]) ++ List.replicate (1 - (lg_sl ([.ref (ad 0)])).length) Slot.unset).toArray = ls at hl ⊢
  have hl : lv_has ls 1 [(0, .ref (ad 0))] := hl
  obtain ⟨y1, ey1⟩ : ∃ y, xi (E 0) 21 = y := ⟨_, rfl⟩
  have fy1 : xv (E 0) 21 = .int y1 := (hI.fi 0 (Nat.le_of_ble_eq_true rfl) rfl (Nat.le_of_ble_eq_true rfl) rfl).trans (congrArg Value.int ey1)
  have iy1 : 0 ≤ y1.toInt ∧ y1.toInt ≤ 201 := by rw [← ey1]; exact hI.iv 0 (Nat.le_of_ble_eq_true rfl) rfl (Nat.le_of_ble_eq_true rfl) rfl
  rw [ey1] at hh5
  obtain ⟨y2, ey2⟩ : ∃ y, xi (E 0) 22 = y := ⟨_, rfl⟩
  have fy2 : xv (E 0) 22 = .int y2 := (hI.fi 0 (Nat.le_of_ble_eq_true rfl) rfl (Nat.le_of_ble_eq_true rfl) rfl).trans (congrArg Value.int ey2)
  have iy2 : -1 ≤ y2.toInt ∧ y2.toInt ≤ 201 := by rw [← ey2]; exact hI.iv 0 (Nat.le_of_ble_eq_true rfl) rfl (Nat.le_of_ble_eq_true rfl) rfl
  obtain ⟨y3, ey3⟩ : ∃ y, xi (E 0) 23 = y := ⟨_, rfl⟩
  have fy3 : xv (E 0) 23 = .int y3 := (hI.fi 0 (Nat.le_of_ble_eq_true rfl) rfl (Nat.le_of_ble_eq_true rfl) rfl).trans (congrArg Value.int ey3)
  have iy3 : 0 ≤ y3.toInt ∧ y3.toInt ≤ 8 := by rw [← ey3]; exact hI.iv 0 (Nat.le_of_ble_eq_true rfl) rfl (Nat.le_of_ble_eq_true rfl) rfl
  have hk0 : ¬ k = 0 := fun q9 => by rw [q9] at hh1; exact absurd (show (shM 0).1 = 1 from congrArg Prod.fst hh1) (by decide)
  refine lv_aload_n hx hb dX13_goesIn_0 rfl (lv_at hl 0 rfl) ?_
  refine th_get (ci := 14) (C := RX13) (T := TX13) (N := 97) (v := .int y3) hx hb hts hinX13 hown hK hP hI 0 (Nat.le_of_ble_eq_true rfl) rfl rfl 23 (Nat.le_of_ble_eq_true rfl) (hts _ (vA_in _ _ (in_25 _ (zs16 (zs16 (zs4 (zs1 (zs1 (zs0))))))))) (fun _ h9 => h9) fy3 dX13_goesIn_1 ?_
  refine lv_bipush (v := 8) hx hb dX13_goesIn_4 (by decide) ?_
  refine lv_icmp_ne (tgt := 14) hx hb dX13_goesIn_6 (by decide) (fun c4 => ?_) (fun c4 => ?_)
  · --6 taken
    have t5 : ¬ y3.toInt = 8 := ti_ne c4
    have i6 : 0 ≤ y3.toInt ∧ y3.toInt ≤ 7 := iv_ne_r t5 iy3 (il_ 8)
    refine lv_aload_n hx hb dX13_goesIn_14 rfl (lv_at hl 0 rfl) ?_
    refine lv_dup hx hb dX13_goesIn_15 rfl ?_
    refine th_get (ci := 14) (C := RX13) (T := TX13) (N := 97) (v := .int y3) hx hb hts hinX13 hown hK hP hI 0 (Nat.le_of_ble_eq_true rfl) rfl rfl 23 (Nat.le_of_ble_eq_true rfl) (hts _ (vA_in _ _ (in_25 _ (zs16 (zs16 (zs4 (zs1 (zs1 (zs0))))))))) (fun _ h9 => h9) fy3 dX13_goesIn_16 ?_
    refine lv_iconst (v := 1) hx hb dX13_goesIn_19 (by decide) ?_
    refine lv_iadd hx hb dX13_goesIn_20 ?_
    refine lv_topi (fun y7 ey7 => ?_)
    obtain ⟨ty7, iy7⟩ := ti_add (e := 1) (f := 8) i6 ln_1 ey7 (by decide)
    have ty7 : y7.toInt = y3.toInt + 1 := ty7
    have iy7 : 1 ≤ y7.toInt ∧ y7.toInt ≤ 8 := iy7
    refine th_put (ci := 14) (C := RX13) (T := TX13) (N := 97) (v := .int y7) (ty := .int) hx hb hts hinX13 tyX13 tyX13_ok nmX13 hown hK hP (WX_D hD) hS hI 0 (Nat.le_of_ble_eq_true rfl) rfl rfl 23 (Nat.le_of_ble_eq_true rfl) (hts _ (vA_in _ _ (in_25 _ (zs16 (zs16 (zs4 (zs1 (zs1 (zs0))))))))) (fun _ h9 => h9) rfl (by decide +kernel) rfl rfl (okI rfl (iv_w iy7 (by decide))) dX13_goesIn_21 (fun H locs E8 pw9 hI hP hS => ?_)
    have hKp := hKp.pw pw9 rfl
    have k10 : KM k E E8 := KM.pw pw9.2 hk0 (by decide)
    refine lv_aload_n hx hb dX13_goesIn_24 rfl (lv_at hl 0 rfl) ?_
    refine lv_dup hx hb dX13_goesIn_25 rfl ?_
    refine th_get (ci := 14) (C := RX13) (T := TX13) (N := 97) (v := .int y1) hx hb hts hinX13 hown hK hP hI 0 (Nat.le_of_ble_eq_true rfl) rfl rfl 21 (Nat.le_of_ble_eq_true rfl) (hts _ (vA_in _ _ (in_25 _ (zs16 (zs16 (zs4 (zs0))))))) (fun _ h9 => h9) ((pw9.2 0 21 (fun q9 => absurd q9.2 (Nat.ne_of_beq_eq_false rfl))).trans fy1) dX13_goesIn_26 ?_
    refine lv_iconst (v := 1) hx hb dX13_goesIn_29 (by decide) ?_
    refine lv_iadd hx hb dX13_goesIn_30 ?_
    refine lv_topi (fun y11 ey11 => ?_)
    obtain ⟨ty11, iy11⟩ := ti_add (e := 1) (f := 202) iy1 ln_1 ey11 (by decide)
    have ty11 : y11.toInt = y1.toInt + 1 := ty11
    have iy11 : 1 ≤ y11.toInt ∧ y11.toInt ≤ 202 := iy11
    have i12 : 1 ≤ y11.toInt ∧ y11.toInt ≤ 201 := by omega
    refine th_put (ci := 14) (C := RX13) (T := TX13) (N := 97) (v := .int y11) (ty := .int) hx hb hts hinX13 tyX13 tyX13_ok nmX13 hown hK hP (WX_D hD) hS hI 0 (Nat.le_of_ble_eq_true rfl) rfl rfl 21 (Nat.le_of_ble_eq_true rfl) (hts _ (vA_in _ _ (in_25 _ (zs16 (zs16 (zs4 (zs0))))))) (fun _ h9 => h9) rfl (by decide +kernel) rfl rfl (okI rfl (iv_w i12 (by decide))) dX13_goesIn_31 (fun H locs E13 pw14 hI hP hS => ?_)
    have hKp := hKp.pw pw14 rfl
    have k15 : AtM k E8 E13 := AtM.pw pw14.2 hk0 (vi_e ((pw9.2 0 21 (fun q9 => absurd q9.2 (Nat.ne_of_beq_eq_false rfl))).trans fy1)) (vi_e pw14.1) ty11 (by omega)
    refine lv_iconst (v := 1) hx hb dX13_goesIn_34 (by decide) ?_
    rw [hQ]
    exact W.zret (v := 1) hx hb hr rfl (fun t ht hW => ⟨⟨1, E13, rfl, ⟨hI, hKp, Or.inl ⟨rfl, by have h8 := ln_1; (try rw [(show xi (E13 0) 23 = y7 from vi_e ((pw14.2 0 23 (fun q9 => absurd q9.2 (Nat.ne_of_beq_eq_false rfl))).trans pw9.1))]); (try rw [ey1]); (try rw [ey2]); (try rw [ey3]); all_goals omega, by have h8 := ln_1; (try rw [(show xi (E13 0) 22 = y2 from vi_e ((pw14.2 0 22 (fun q9 => absurd q9.2 (Nat.ne_of_beq_eq_false rfl))).trans ((pw9.2 0 22 (fun q9 => absurd q9.2 (Nat.ne_of_beq_eq_false rfl))).trans fy2)))]); (try rw [ey1]); (try rw [ey2]); (try rw [ey3]); all_goals omega, by have h8 := ln_1; (try rw [(show xi (E13 0) 23 = y7 from vi_e ((pw14.2 0 23 (fun q9 => absurd q9.2 (Nat.ne_of_beq_eq_false rfl))).trans pw9.1))]); (try rw [ey1]); (try rw [ey2]); (try rw [ey3]); all_goals omega, by have h8 := ln_1; (try rw [(show xi (E13 0) 21 = y11 from vi_e pw14.1)]); (try rw [ey1]); (try rw [ey2]); (try rw [ey3]); all_goals omega, AtM.km k10 k15⟩⟩, by show va_P (dC, dI) vwCl (WX 72 ad E13) t.heap; rw [ht]; exact hP⟩, hS.F ht⟩) hS.2.2 dX13_goesIn_35
  · --6 not
    have t16 : y3.toInt = 8 := ti_eq c4
    have i17 : 8 ≤ y3.toInt ∧ y3.toInt ≤ 8 := iv_eqi t16 iy3 (il_ 8) (by decide)
    refine lv_aload_n hx hb dX13_goesIn_9 rfl (lv_at hl 0 rfl) ?_
    refine th_i (va_runV (As := []) (rest := []) ⟨hx, hb, hml, hown, hts⟩ (q_stopX l dC dI cT ad E s.heap.size k nl hI (by exact hh0) (by exact hh1) (by exact hh2) (by exact hh3) (by exact hh4)) (cwV 0 hts (gi_V (in_26 _ (zs4 (zs4 (zs4 (zs0))))) (in_26 _ (zs4 (zs4 (zs4 (zs1 (zs0)))))) (in_26 _ (zs4 (zs4 (zs4 (zs1 (zs1 (zs0))))))) (in_24 _ (zs4 (zs4 (zs4 (zs1 (zs1 (zs1 (zs0)))))))) (in_26 _ (zs4 (zs4 (zs4 (zs1 (zs1 (zs1 (zs0))))))))) rfl rfl rfl ⟨rfl, hz_yX13_stop_0⟩ ⟨Nat.le_of_ble_eq_true rfl, Nat.le_of_ble_eq_true rfl⟩) ⟨HW_bl, va_recv hK hP (ci := 14) (q0 := 0) rfl (hI.ob 0 (Nat.le_of_ble_eq_true rfl) rfl), (HW_wi hP hK (WX_D hD) hS hA hEV)⟩ rfl rfl hl.1 rfl (lv_room (Nat.le_of_ble_eq_true rfl)) dX13_goesIn_10 ⟨Nat.le_of_ble_eq_true rfl, Nat.le_of_ble_eq_true rfl⟩) (WX_D hD) hS hA (fun r18 E19 H locs hw hP hS => ?_)
    obtain ⟨hI, kq20, hw⟩ := hw
    have hKb := hKp
    have hKp := hKp.tr kq20 (wl_sub rfl rfl)
    obtain ⟨y21, ey21⟩ : ∃ y, xi (E19 0) 22 = y := ⟨_, rfl⟩
    have fy21 : xv (E19 0) 22 = .int y21 := (hI.fi 0 (Nat.le_of_ble_eq_true rfl) rfl (Nat.le_of_ble_eq_true rfl) rfl).trans (congrArg Value.int ey21)
    have iy21 : -1 ≤ y21.toInt ∧ y21.toInt ≤ 201 := by rw [← ey21]; exact hI.iv 0 (Nat.le_of_ble_eq_true rfl) rfl (Nat.le_of_ble_eq_true rfl) rfl
    obtain ⟨rfl, f22, f23⟩ := hw
    have i24 : 0 ≤ (xi (E 0) 19).toInt ∧ (xi (E 0) 19).toInt ≤ 3000 := (show 0 ≤ (xi (E 0) 19).toInt ∧ (xi (E 0) 19).toInt ≤ 3000 from hI0.iv 0 (Nat.le_of_ble_eq_true rfl) rfl (Nat.le_of_ble_eq_true rfl) rfl)
    try rw [(show xi (E 0) 22 = y2 from vi_e fy2)] at f22
    try rw [(show xi (E19 0) 22 = y21 from vi_e fy21)] at f22
    rw [hQ]
    exact W.zret (v := 0) hx hb hr rfl (fun t ht hW => ⟨⟨0, E19, rfl, ⟨hI, hKp, Or.inr (⟨rfl, by have h8 := ln_0; (try rw [(show xi (E19 0) 23 = y3 from vi_e ((kq20 0 23 rfl).trans fy3))]); (try rw [ey1]); (try rw [ey2]); (try rw [ey3]); all_goals omega, by have h8 := ln_0; (try rw [(show xi (E19 0) 22 = y21 from vi_e fy21)]); (try rw [ey1]); (try rw [ey2]); (try rw [ey3]); all_goals omega, by have h8 := ln_0; (try rw [(show xi (E19 0) 21 = y1 from vi_e ((kq20 0 21 rfl).trans fy1))]); (try rw [ey1]); (try rw [ey2]); (try rw [ey3]); all_goals omega, by have h8 := ln_0; (try rw [(show xi (E19 0) 23 = y3 from vi_e ((kq20 0 23 rfl).trans fy3))]); (try rw [ey1]); (try rw [ey2]); (try rw [ey3]); all_goals omega, f23⟩)⟩, by show va_P (dC, dI) vwCl (WX 72 ad E19) t.heap; rw [ht]; exact hP⟩, hS.F ht⟩) hS.2.2 dX13_goesIn_13
def v_takesX : List Cond := .code yX13_takes cX13_takes 2 (some .boolean) :: vA
abbrev rm_takesX : Room := { frames := 1, cells := 0, slots := 0, locals := 40 }
def w_takesX : Nat → Nat → Bool := wl [] [(0, 21), (0, 22)]
set_option maxHeartbeats 4000000 in
set_option maxRecDepth 100000 in
theorem q_takesX (l : Launch) (dC : Nat → ClassId) (dI : Nat → Nat → Nat) (cT : Nat → ClassId) (ad : Nat → Nat) (E : Nat → va_E) (sz : Nat) (a0 : Int32) (k : Nat) (nl : Nat) (hI0 : IX cT shM spM 72 ad E) (hh0 : k < 72) (hh1 : shM k = (1, 1, nl)) (hh2 : ∀ j, spM k j = (0, -128, 127)) (hh3 : xv (E 0) 18 = .ref (ad k)) (hh4 : (xi (E 0) 19).toInt + 200 ≤ (nl : Int)) (hh5 : 0 ≤ a0.toInt ∧ a0.toInt ≤ 255) : Met l yX13_takes v_takesX rm_takesX (va_Pc [.ref (ad 0), .int a0] (HW dC dI (TYM cT) 72 ad E sz)) (va_Qi (S := Nat → va_E) (fun r u => IX cT shM spM 72 ad u ∧ Kp w_takesX E u ∧ ((r = 1 ∧ ((xi (E 0) 22).toInt = -1) ∧ ((xi (u 0) 22).toInt = -1) ∧ ((xi (E 0) 21).toInt + 1 ≤ (xi (u 0) 21).toInt) ∧ ((xi (E 0) 21).toInt ≤ (xi (u 0) 21).toInt) ∧ (RdM k (fun t n a => clo t n a0.toInt a ()) E u)) ∨ (r = 0 ∧ (¬ (xi (u 0) 22).toInt = -1) ∧ ((xi (E 0) 21).toInt ≤ (xi (u 0) 21).toInt) ∧ (RdM k (fun t n a => clo t n a0.toInt a ()) E u)))) (HB dC dI 72 ad) (va_A (WX 72 ad E) sz)) 0 0 (va_A (WX 72 ad E) sz) := by
  refine Met.ofW (cc := cX13_takes) (maxL := 2) (ret := (some .boolean)) (by decide) rfl ?_
  intro p e s m args below meth c s₁ B hml hv
  obtain ⟨hargs, hsz, hP, hK, hD0, hEV⟩ := hv
  subst hsz
  have hx := B.exec
  have hb := B.bytes
  have hr := B.returns
  have hts := atoms_spec (ws := v_takesX) B.pre
  have hown : s.vm.findClass RX13 = some m.cls := findClass_of_methodNamed B.named
  have hlocks := B.notSynchronized
  have hinX13 : ∀ w ∈ u_ws RX13 TX13 97, w ∈ v_takesX := fun w h => vA_in _ w (in_X13 w h)
  generalize hAe : va_A (WX 72 ad E) s.heap.size = A at hEV ⊢
  have hA : ∀ q : Nat, s.heap.size ≤ q → A q := fun q h => by rw [← hAe]; exact Or.inr h
  have hD : va_D A (WX 72 ad E) := by rw [← hAe]; exact hD0.self
  have hS : va_S A s.heap s.heap [] := va_S.rf
  have hI := hI0
  have hKp : Kp w_takesX E E := Kp.rf
  have hl := lv_entry ([.ref (ad 0), .int a0]) (n := 2) (Nat.le_of_ble_eq_true rfl)
  obtain ⟨Q, hQ⟩ : ∃ Q, Q = MQ below (va_Qi (S := Nat → va_E) (fun r u => IX cT shM spM 72 ad u ∧ Kp w_takesX E u ∧ ((r = 1 ∧ ((xi (E 0) 22).toInt = -1) ∧ ((xi (u 0) 22).toInt = -1) ∧ ((xi (E 0) 21).toInt + 1 ≤ (xi (u 0) 21).toInt) ∧ ((xi (E 0) 21).toInt ≤ (xi (u 0) 21).toInt) ∧ (RdM k (fun t n a => clo t n a0.toInt a ()) E u)) ∨ (r = 0 ∧ (¬ (xi (u 0) 22).toInt = -1) ∧ ((xi (E 0) 21).toInt ≤ (xi (u 0) 21).toInt) ∧ (RdM k (fun t n a => clo t n a0.toInt a ()) E u)))) (HB dC dI 72 ad) (A)) args s 0 0 (A) := ⟨_, rfl⟩
  rw [← hQ, show entryFrame m args 2 = _ from (congrArg (fun z => entryFrame m z 2) hargs).trans (lg_entry_eq _ _ _)]
  generalize (lg_sl ([.ref (ad 0), .int a0]) ++ List.replicate (2 - (lg_sl ([.ref (ad 0), .int a0])).length) Slot.unset).toArray = ls at hl ⊢
  have hl : lv_has ls 2 [(0, .ref (ad 0)), (1, .int a0)] := hl
  obtain ⟨y1, ey1⟩ : ∃ y, xi (E 0) 21 = y := ⟨_, rfl⟩
  have fy1 : xv (E 0) 21 = .int y1 := (hI.fi 0 (Nat.le_of_ble_eq_true rfl) rfl (Nat.le_of_ble_eq_true rfl) rfl).trans (congrArg Value.int ey1)
  have iy1 : 0 ≤ y1.toInt ∧ y1.toInt ≤ 201 := by rw [← ey1]; exact hI.iv 0 (Nat.le_of_ble_eq_true rfl) rfl (Nat.le_of_ble_eq_true rfl) rfl
  obtain ⟨y2, ey2⟩ : ∃ y, xi (E 0) 22 = y := ⟨_, rfl⟩
  have fy2 : xv (E 0) 22 = .int y2 := (hI.fi 0 (Nat.le_of_ble_eq_true rfl) rfl (Nat.le_of_ble_eq_true rfl) rfl).trans (congrArg Value.int ey2)
  have iy2 : -1 ≤ y2.toInt ∧ y2.toInt ≤ 201 := by rw [← ey2]; exact hI.iv 0 (Nat.le_of_ble_eq_true rfl) rfl (Nat.le_of_ble_eq_true rfl) rfl
  have hk0 : ¬ k = 0 := fun q9 => by rw [q9] at hh1; exact absurd (show (shM 0).1 = 1 from congrArg Prod.fst hh1) (by decide)
  refine lv_aload_n hx hb dX13_takes_0 rfl (lv_at hl 0 rfl) ?_
  refine th_get (ci := 14) (C := RX13) (T := TX13) (N := 97) (v := .int y2) hx hb hts hinX13 hown hK hP hI 0 (Nat.le_of_ble_eq_true rfl) rfl rfl 22 (Nat.le_of_ble_eq_true rfl) (hts _ (vA_in _ _ (in_25 _ (zs16 (zs16 (zs4 (zs1 (zs1 (zs1 (zs0)))))))))) (fun _ h9 => h9) fy2 dX13_takes_1 ?_
  refine lv_iconst (v := -1) hx hb dX13_takes_4 (by decide) ?_
  refine lv_icmp_ne (tgt := 16) hx hb dX13_takes_5 (by decide) (fun c3 => ?_) (fun c3 => ?_)
  · --5 taken
    have t4 : ¬ y2.toInt = -1 := ti_ne c3
    have i5 : 0 ≤ y2.toInt ∧ y2.toInt ≤ 201 := iv_ne_l t4 iy2 (il_ (-1))
    refine lv_aload_n hx hb dX13_takes_16 rfl (lv_at hl 0 rfl) ?_
    refine th_i (va_runV (As := []) (rest := []) ⟨hx, hb, hml, hown, hts⟩ (q_stopX l dC dI cT ad E s.heap.size k nl hI (by exact hh0) (by exact hh1) (by exact hh2) (by exact hh3) (by exact hh4)) (cwV 0 hts (gi_V (in_26 _ (zs4 (zs4 (zs4 (zs0))))) (in_26 _ (zs4 (zs4 (zs4 (zs1 (zs0)))))) (in_26 _ (zs4 (zs4 (zs4 (zs1 (zs1 (zs0))))))) (in_24 _ (zs4 (zs4 (zs4 (zs1 (zs1 (zs1 (zs0)))))))) (in_26 _ (zs4 (zs4 (zs4 (zs1 (zs1 (zs1 (zs0))))))))) rfl rfl rfl ⟨rfl, hz_yX13_stop_0⟩ ⟨Nat.le_of_ble_eq_true rfl, Nat.le_of_ble_eq_true rfl⟩) ⟨HW_bl, va_recv hK hP (ci := 14) (q0 := 0) rfl (hI.ob 0 (Nat.le_of_ble_eq_true rfl) rfl), (HW_wi hP hK (WX_D hD) hS hA hEV)⟩ rfl rfl hl.1 rfl (lv_room (Nat.le_of_ble_eq_true rfl)) dX13_takes_17 ⟨Nat.le_of_ble_eq_true rfl, Nat.le_of_ble_eq_true rfl⟩) (WX_D hD) hS hA (fun r6 E7 H locs hw hP hS => ?_)
    obtain ⟨hI, kq8, hw⟩ := hw
    have hKb := hKp
    have hKp := hKp.tr kq8 (wl_sub rfl rfl)
    obtain ⟨y9, ey9⟩ : ∃ y, xi (E7 0) 22 = y := ⟨_, rfl⟩
    have fy9 : xv (E7 0) 22 = .int y9 := (hI.fi 0 (Nat.le_of_ble_eq_true rfl) rfl (Nat.le_of_ble_eq_true rfl) rfl).trans (congrArg Value.int ey9)
    have iy9 : -1 ≤ y9.toInt ∧ y9.toInt ≤ 201 := by rw [← ey9]; exact hI.iv 0 (Nat.le_of_ble_eq_true rfl) rfl (Nat.le_of_ble_eq_true rfl) rfl
    obtain ⟨rfl, f10, f11⟩ := hw
    have i12 : 0 ≤ (xi (E 0) 19).toInt ∧ (xi (E 0) 19).toInt ≤ 3000 := (show 0 ≤ (xi (E 0) 19).toInt ∧ (xi (E 0) 19).toInt ≤ 3000 from hI0.iv 0 (Nat.le_of_ble_eq_true rfl) rfl (Nat.le_of_ble_eq_true rfl) rfl)
    try rw [(show xi (E 0) 22 = y2 from vi_e fy2)] at f10
    try rw [(show xi (E7 0) 22 = y9 from vi_e fy9)] at f10
    rw [hQ]
    exact W.zret (v := 0) hx hb hr rfl (fun t ht hW => ⟨⟨0, E7, rfl, ⟨hI, hKp, Or.inr (⟨rfl, by have h8 := ln_0; (try rw [(show xi (E7 0) 22 = y9 from vi_e fy9)]); (try rw [ey1]); (try rw [ey2]); all_goals omega, by (try rw [(show xi (E7 0) 21 = y1 from vi_e ((kq8 0 21 rfl).trans fy1))]); (try rw [ey1]); first | done | exact Int.le_refl _ | have h8 := ln_0; all_goals omega, tkM_f f11 (by show ¬ (xi (E 0) 22).toInt = -1; rw [ey2]; omega)⟩)⟩, by show va_P (dC, dI) vwCl (WX 72 ad E7) t.heap; rw [ht]; exact hP⟩, hS.F ht⟩) hS.2.2 dX13_takes_20
  · --5 not
    have t13 : y2.toInt = -1 := ti_eq c3
    have i14 : -1 ≤ y2.toInt ∧ y2.toInt ≤ -1 := iv_eqi t13 iy2 (il_ (-1)) (by decide)
    refine lv_aload_n hx hb dX13_takes_8 rfl (lv_at hl 0 rfl) ?_
    refine th_i (va_runV (As := []) (rest := []) ⟨hx, hb, hml, hown, hts⟩ (q_lookX l dC dI cT ad E s.heap.size k nl hI (by exact hh0) (by exact hh1) (by exact hh2) (by exact hh3) (by exact hh4)) (cwV 0 hts (gi_V (in_26 _ (zs1 (zs1 (zs0)))) (in_26 _ (zs1 (zs1 (zs1 (zs0))))) (in_26 _ (zs4 (zs0))) (in_24 _ (zs4 (zs4 (zs4 (zs1 (zs1 (zs1 (zs0)))))))) (in_26 _ (zs4 (zs1 (zs0))))) rfl rfl rfl ⟨rfl, hz_yX13_look_0⟩ ⟨Nat.le_of_ble_eq_true rfl, Nat.le_of_ble_eq_true rfl⟩) ⟨HW_bl, va_recv hK hP (ci := 14) (q0 := 0) rfl (hI.ob 0 (Nat.le_of_ble_eq_true rfl) rfl), (HW_wi hP hK (WX_D hD) hS hA hEV)⟩ rfl rfl hl.1 rfl (lv_room (Nat.le_of_ble_eq_true rfl)) dX13_takes_9 ⟨Nat.le_of_ble_eq_true rfl, Nat.le_of_ble_eq_true rfl⟩) (WX_D hD) hS hA (fun r15 E16 H locs hw hP hS => ?_)
    obtain ⟨hI, kq17, hw⟩ := hw
    have hKb := hKp
    have hKp := hKp.tr kq17 (wl_sub rfl rfl)
    obtain ⟨y18, ey18⟩ : ∃ y, xi (E16 0) 21 = y := ⟨_, rfl⟩
    have fy18 : xv (E16 0) 21 = .int y18 := (hI.fi 0 (Nat.le_of_ble_eq_true rfl) rfl (Nat.le_of_ble_eq_true rfl) rfl).trans (congrArg Value.int ey18)
    have iy18 : 0 ≤ y18.toInt ∧ y18.toInt ≤ 201 := by rw [← ey18]; exact hI.iv 0 (Nat.le_of_ble_eq_true rfl) rfl (Nat.le_of_ble_eq_true rfl) rfl
    obtain ⟨f19, f20, f21, f22, f23⟩ := hw
    have i24 : 0 ≤ (xi (E 0) 19).toInt ∧ (xi (E 0) 19).toInt ≤ 3000 := (show 0 ≤ (xi (E 0) 19).toInt ∧ (xi (E 0) 19).toInt ≤ 3000 from hI0.iv 0 (Nat.le_of_ble_eq_true rfl) rfl (Nat.le_of_ble_eq_true rfl) rfl)
    have i25 : 0 ≤ (xi (E 0) 20).toInt ∧ (xi (E 0) 20).toInt ≤ 200 := (show 0 ≤ (xi (E 0) 20).toInt ∧ (xi (E 0) 20).toInt ≤ 200 from hI0.iv 0 (Nat.le_of_ble_eq_true rfl) rfl (Nat.le_of_ble_eq_true rfl) rfl)
    try rw [(show xi (E 0) 21 = y1 from vi_e fy1)] at f20
    try rw [(show xi (E16 0) 21 = y18 from vi_e fy18)] at f20
    try rw [(show xi (E 0) 21 = y1 from vi_e fy1)] at f21
    try rw [(show xi (E16 0) 21 = y18 from vi_e fy18)] at f21
    try rw [(show xi (E 0) 21 = y1 from vi_e fy1)] at f22
    try rw [(show xi (E16 0) 21 = y18 from vi_e fy18)] at f22
    refine lv_iload_n hx hb dX13_takes_12 rfl (lv_at hl 1 rfl) ?_
    refine lv_icmp_eq (tgt := 21) hx hb dX13_takes_13 (by decide) (fun c26 => ?_) (fun c26 => ?_)
    · --13 taken
      have t27 : r15.toInt = a0.toInt := ti_eq c26
      have i28 : 0 ≤ r15.toInt ∧ r15.toInt ≤ 255 := iv_eqi t27 f19 hh5 (by decide)
      refine lv_aload_n hx hb dX13_takes_21 rfl (lv_at hl 0 rfl) ?_
      refine lv_dup hx hb dX13_takes_22 rfl ?_
      refine th_get (ci := 14) (C := RX13) (T := TX13) (N := 97) (v := .int y18) hx hb hts hinX13 hown hK hP hI 0 (Nat.le_of_ble_eq_true rfl) rfl rfl 21 (Nat.le_of_ble_eq_true rfl) (hts _ (vA_in _ _ (in_25 _ (zs16 (zs16 (zs4 (zs0))))))) (fun _ h9 => h9) fy18 dX13_takes_23 ?_
      refine lv_iconst (v := 1) hx hb dX13_takes_26 (by decide) ?_
      refine lv_iadd hx hb dX13_takes_27 ?_
      refine lv_topi (fun y29 ey29 => ?_)
      obtain ⟨ty29, iy29⟩ := ti_add (e := 1) (f := 202) iy18 ln_1 ey29 (by decide)
      have ty29 : y29.toInt = y18.toInt + 1 := ty29
      have iy29 : 1 ≤ y29.toInt ∧ y29.toInt ≤ 202 := iy29
      have i30 : 1 ≤ y29.toInt ∧ y29.toInt ≤ 201 := by omega
      refine th_put (ci := 14) (C := RX13) (T := TX13) (N := 97) (v := .int y29) (ty := .int) hx hb hts hinX13 tyX13 tyX13_ok nmX13 hown hK hP (WX_D hD) hS hI 0 (Nat.le_of_ble_eq_true rfl) rfl rfl 21 (Nat.le_of_ble_eq_true rfl) (hts _ (vA_in _ _ (in_25 _ (zs16 (zs16 (zs4 (zs0))))))) (fun _ h9 => h9) rfl (by decide +kernel) rfl rfl (okI rfl (iv_w i30 (by decide))) dX13_takes_28 (fun H locs E31 pw32 hI hP hS => ?_)
      have hKp := hKp.pw pw32 rfl
      have k33 : AtM k E16 E31 := AtM.pw pw32.2 hk0 (vi_e fy18) (vi_e pw32.1) ty29 (by omega)
      refine lv_iconst (v := 1) hx hb dX13_takes_31 (by decide) ?_
      rw [hQ]
      exact W.zret (v := 1) hx hb hr rfl (fun t ht hW => ⟨⟨1, E31, rfl, ⟨hI, hKp, Or.inl ⟨rfl, by have h8 := ln_1; (try rw [(show xi (E31 0) 22 = y2 from vi_e ((pw32.2 0 22 (fun q9 => absurd q9.2 (Nat.ne_of_beq_eq_false rfl))).trans ((kq17 0 22 rfl).trans fy2)))]); (try rw [ey1]); (try rw [ey2]); all_goals omega, by have h8 := ln_1; (try rw [(show xi (E31 0) 22 = y2 from vi_e ((pw32.2 0 22 (fun q9 => absurd q9.2 (Nat.ne_of_beq_eq_false rfl))).trans ((kq17 0 22 rfl).trans fy2)))]); (try rw [ey1]); (try rw [ey2]); all_goals omega, by have h8 := ln_1; (try rw [(show xi (E31 0) 21 = y29 from vi_e pw32.1)]); (try rw [ey1]); (try rw [ey2]); all_goals omega, by (try rw [(show xi (E31 0) 21 = y29 from vi_e pw32.1)]); (try rw [ey1]); first | done | exact (Int.le_trans f20 (Int.le_trans (Int.le_add_of_nonneg_right (by decide)) (Int.le_of_eq ty29.symm))) | have h8 := ln_1; all_goals omega, tkM f23 (by omega) k33⟩⟩, by show va_P (dC, dI) vwCl (WX 72 ad E31) t.heap; rw [ht]; exact hP⟩, hS.F ht⟩) hS.2.2 dX13_takes_32
    · --13 not
      have t34 : ¬ r15.toInt = a0.toInt := ti_ne c26
      refine lv_aload_n hx hb dX13_takes_16 rfl (lv_at hl 0 rfl) ?_
      refine th_i (va_runV (As := []) (rest := []) ⟨hx, hb, hml, hown, hts⟩ (q_stopX l dC dI cT ad E16 H.size k nl hI (by exact hh0) (by exact hh1) (by exact hh2) (by exact (hKp 0 18 rfl).trans hh3) (by (try rw [hKp.ei 0 19 rfl]); exact hh4)) (cwV 0 hts (gi_V (in_26 _ (zs4 (zs4 (zs4 (zs0))))) (in_26 _ (zs4 (zs4 (zs4 (zs1 (zs0)))))) (in_26 _ (zs4 (zs4 (zs4 (zs1 (zs1 (zs0))))))) (in_24 _ (zs4 (zs4 (zs4 (zs1 (zs1 (zs1 (zs0)))))))) (in_26 _ (zs4 (zs4 (zs4 (zs1 (zs1 (zs1 (zs0))))))))) rfl rfl rfl ⟨rfl, hz_yX13_stop_0⟩ ⟨Nat.le_of_ble_eq_true rfl, Nat.le_of_ble_eq_true rfl⟩) ⟨HW_bl, va_recv hK hP (ci := 14) (q0 := 0) rfl (hI.ob 0 (Nat.le_of_ble_eq_true rfl) rfl), (HW_wi hP hK (WX_D hD) hS hA hEV)⟩ rfl rfl hl.1 rfl (lv_room (Nat.le_of_ble_eq_true rfl)) dX13_takes_17 ⟨Nat.le_of_ble_eq_true rfl, Nat.le_of_ble_eq_true rfl⟩) (WX_D hD) hS hA (fun r35 E36 H locs hw hP hS => ?_)
      obtain ⟨hI, kq37, hw⟩ := hw
      have hKb := hKp
      have hKp := hKp.tr kq37 (wl_sub rfl rfl)
      obtain ⟨y38, ey38⟩ : ∃ y, xi (E36 0) 22 = y := ⟨_, rfl⟩
      have fy38 : xv (E36 0) 22 = .int y38 := (hI.fi 0 (Nat.le_of_ble_eq_true rfl) rfl (Nat.le_of_ble_eq_true rfl) rfl).trans (congrArg Value.int ey38)
      have iy38 : -1 ≤ y38.toInt ∧ y38.toInt ≤ 201 := by rw [← ey38]; exact hI.iv 0 (Nat.le_of_ble_eq_true rfl) rfl (Nat.le_of_ble_eq_true rfl) rfl
      obtain ⟨rfl, f39, f40⟩ := hw
      try rw [(show xi (E16 0) 22 = y2 from vi_e ((kq17 0 22 rfl).trans fy2))] at f39
      try rw [(show xi (E36 0) 22 = y38 from vi_e fy38)] at f39
      rw [hQ]
      exact W.zret (v := 0) hx hb hr rfl (fun t ht hW => ⟨⟨0, E36, rfl, ⟨hI, hKp, Or.inr (⟨rfl, by have h8 := ln_0; (try rw [(show xi (E36 0) 22 = y38 from vi_e fy38)]); (try rw [ey1]); (try rw [ey2]); all_goals omega, by (try rw [(show xi (E36 0) 21 = y18 from vi_e ((kq37 0 21 rfl).trans fy18))]); (try rw [ey1]); first | done | exact f20 | have h8 := ln_0; all_goals omega, tkM_no f23 (by omega) f40⟩)⟩, by show va_P (dC, dI) vwCl (WX 72 ad E36) t.heap; rw [ht]; exact hP⟩, hS.F ht⟩) hS.2.2 dX13_takes_20
def v_isDigitX : List Cond := .code yX13_isDigit cX13_isDigit 1 (some .boolean) :: vA
abbrev rm_isDigitX : Room := { frames := 0, cells := 0, slots := 0, locals := 0 }
set_option maxHeartbeats 4000000 in
set_option maxRecDepth 100000 in
theorem q_isDigitX (l : Launch) (dC : Nat → ClassId) (dI : Nat → Nat → Nat) (cT : Nat → ClassId) (ad : Nat → Nat) (E : Nat → va_E) (sz : Nat) (k : Nat) (nl : Nat) (hI0 : IX cT shM spM 72 ad E) (hh0 : k < 72) (hh1 : shM k = (1, 1, nl)) (hh2 : ∀ j, spM k j = (0, -128, 127)) (hh3 : xv (E 0) 18 = .ref (ad k)) (hh4 : (xi (E 0) 19).toInt + 200 ≤ (nl : Int)) : Met l yX13_isDigit v_isDigitX rm_isDigitX (va_Pc [.ref (ad 0)] (HW dC dI (TYM cT) 72 ad E sz)) (va_Qi (S := Unit) (fun r _ => (r = 1 ∧ ((xi (E 0) 21).toInt < (xi (E 0) 20).toInt) ∧ (mA E < mN E ∧ dgt (mT k E (mA E)))) ∨ (r = 0 ∧ (¬ (mA E < mN E ∧ dgt (mT k E (mA E)))))) (fun _ _ => True) (fun _ => False)) 0 0 (fun _ => False) := by
  refine Met.ofW (cc := cX13_isDigit) (maxL := 1) (ret := (some .boolean)) (by decide) rfl ?_
  intro p e s m args below meth c s₁ B hml hv
  obtain ⟨hargs, hsz, hP, hK, hD0, hEV⟩ := hv
  subst hsz
  have hx := B.exec
  have hb := B.bytes
  have hr := B.returns
  have hts := atoms_spec (ws := v_isDigitX) B.pre
  have hown : s.vm.findClass RX13 = some m.cls := findClass_of_methodNamed B.named
  have hlocks := B.notSynchronized
  have hinX13 : ∀ w ∈ u_ws RX13 TX13 97, w ∈ v_isDigitX := fun w h => vA_in _ w (in_X13 w h)
  have hS : va_S (fun _ : Nat => False) s.heap s.heap [] := va_S.rf
  have hD := hD0
  have hI := hI0
  have hKp : Kp (wl [] []) E E := Kp.rf
  have hl := lv_entry ([.ref (ad 0)]) (n := 1) (Nat.le_of_ble_eq_true rfl)
  obtain ⟨Q, hQ⟩ : ∃ Q, Q = MQ below (va_Qi (S := Unit) (fun r _ => (r = 1 ∧ ((xi (E 0) 21).toInt < (xi (E 0) 20).toInt) ∧ (mA E < mN E ∧ dgt (mT k E (mA E)))) ∨ (r = 0 ∧ (¬ (mA E < mN E ∧ dgt (mT k E (mA E)))))) (fun _ _ => True) (fun _ => False)) args s 0 0 (fun _ => False) := ⟨_, rfl⟩
  rw [← hQ, show entryFrame m args 1 = _ from (congrArg (fun z => entryFrame m z 1) hargs).trans (lg_entry_eq _ _ _)]
  generalize (lg_sl ([.ref (ad 0)]) ++ List.replicate (1 - (lg_sl ([.ref (ad 0)])).length) Slot.unset).toArray = ls at hl ⊢
  have hl : lv_has ls 1 [(0, .ref (ad 0))] := hl
  refine lv_aload_n hx hb dX13_isDigit_0 rfl (lv_at hl 0 rfl) ?_
  have i1 : 0 ≤ (xi (E 0) 21).toInt ∧ (xi (E 0) 21).toInt ≤ 201 := hI0.iv 0 (Nat.le_of_ble_eq_true rfl) rfl (Nat.le_of_ble_eq_true rfl) rfl
  refine th_get (ci := 14) (C := RX13) (T := TX13) (N := 97) (v := .int (xi (E 0) 21)) hx hb hts hinX13 hown hK hP hI 0 (Nat.le_of_ble_eq_true rfl) rfl rfl 21 (Nat.le_of_ble_eq_true rfl) (hts _ (vA_in _ _ (in_25 _ (zs16 (zs16 (zs4 (zs0))))))) (fun _ h9 => h9) (th_v0 hKp hI0 0 (Nat.le_of_ble_eq_true rfl) rfl (Nat.le_of_ble_eq_true rfl) rfl rfl) dX13_isDigit_1 ?_
  refine lv_aload_n hx hb dX13_isDigit_4 rfl (lv_at hl 0 rfl) ?_
  have i2 : 0 ≤ (xi (E 0) 20).toInt ∧ (xi (E 0) 20).toInt ≤ 200 := hI0.iv 0 (Nat.le_of_ble_eq_true rfl) rfl (Nat.le_of_ble_eq_true rfl) rfl
  refine th_get (ci := 14) (C := RX13) (T := TX13) (N := 97) (v := .int (xi (E 0) 20)) hx hb hts hinX13 hown hK hP hI 0 (Nat.le_of_ble_eq_true rfl) rfl rfl 20 (Nat.le_of_ble_eq_true rfl) (hts _ (vA_in _ _ (in_26 _ (zs4 (zs1 (zs1 (zs0))))))) (fun _ h9 => h9) (th_v0 hKp hI0 0 (Nat.le_of_ble_eq_true rfl) rfl (Nat.le_of_ble_eq_true rfl) rfl rfl) dX13_isDigit_5 ?_
  refine lv_icmp_ge (tgt := 53) hx hb dX13_isDigit_8 (by decide) (fun c3 => ?_) (fun c3 => ?_)
  · --8 taken
    have t4 : (xi (E 0) 20).toInt ≤ (xi (E 0) 21).toInt := ti_le c3
    refine lv_iconst (v := 0) hx hb dX13_isDigit_53 (by decide) ?_
    rw [hQ]
    exact W.zret (v := 0) hx hb hr rfl (fun t ht hW => ⟨⟨0, (), rfl, Or.inr (⟨rfl, fun q9 => by obtain ⟨q8, q7⟩ := q9; have ka := mA_e (E := E) (th_v0 hKp hI0 0 (Nat.le_of_ble_eq_true rfl) rfl (Nat.le_of_ble_eq_true rfl) rfl rfl) (by omega); have kl := mN_e (E := E) (by omega); unfold dgt at q7; omega⟩), trivial⟩, hS.F ht⟩) hS.2.2 dX13_isDigit_54
  · --8 not
    have t5 : (xi (E 0) 21).toInt < (xi (E 0) 20).toInt := ti_nle c3
    have i6 : 0 ≤ (xi (E 0) 21).toInt ∧ (xi (E 0) 21).toInt ≤ 199 := iv_lt_l t5 i1 i2 (by decide)
    have i7 : 1 ≤ (xi (E 0) 20).toInt ∧ (xi (E 0) 20).toInt ≤ 200 := iv_lt_r t5 i1 i2 (by decide)
    refine lv_aload_n hx hb dX13_isDigit_11 rfl (lv_at hl 0 rfl) ?_
    refine th_get (ci := 14) (C := RX13) (T := TX13) (N := 97) (v := .ref (ad k)) hx hb hts hinX13 hown hK hP hI 0 (Nat.le_of_ble_eq_true rfl) rfl rfl 18 (Nat.le_of_ble_eq_true rfl) (hts _ (vA_in _ _ (in_26 _ zs0))) (fun _ h9 => h9) ((hKp 0 18 rfl).trans hh3) dX13_isDigit_12 ?_
    refine lv_aload_n hx hb dX13_isDigit_15 rfl (lv_at hl 0 rfl) ?_
    have i8 : 0 ≤ (xi (E 0) 19).toInt ∧ (xi (E 0) 19).toInt ≤ 3000 := hI0.iv 0 (Nat.le_of_ble_eq_true rfl) rfl (Nat.le_of_ble_eq_true rfl) rfl
    refine th_get (ci := 14) (C := RX13) (T := TX13) (N := 97) (v := .int (xi (E 0) 19)) hx hb hts hinX13 hown hK hP hI 0 (Nat.le_of_ble_eq_true rfl) rfl rfl 19 (Nat.le_of_ble_eq_true rfl) (hts _ (vA_in _ _ (in_26 _ (zs1 (zs0))))) (fun _ h9 => h9) (th_v0 hKp hI0 0 (Nat.le_of_ble_eq_true rfl) rfl (Nat.le_of_ble_eq_true rfl) rfl rfl) dX13_isDigit_16 ?_
    refine lv_aload_n hx hb dX13_isDigit_19 rfl (lv_at hl 0 rfl) ?_
    refine th_get (ci := 14) (C := RX13) (T := TX13) (N := 97) (v := .int (xi (E 0) 21)) hx hb hts hinX13 hown hK hP hI 0 (Nat.le_of_ble_eq_true rfl) rfl rfl 21 (Nat.le_of_ble_eq_true rfl) (hts _ (vA_in _ _ (in_25 _ (zs16 (zs16 (zs4 (zs0))))))) (fun _ h9 => h9) (th_v0 hKp hI0 0 (Nat.le_of_ble_eq_true rfl) rfl (Nat.le_of_ble_eq_true rfl) rfl rfl) dX13_isDigit_20 ?_
    refine lv_iadd hx hb dX13_isDigit_23 ?_
    refine lv_topi (fun y9 ey9 => ?_)
    obtain ⟨ty9, iy9⟩ := ti_add (e := 0) (f := 3199) i8 i6 ey9 (by decide)
    have ty9 : y9.toInt = (xi (E 0) 19).toInt + (xi (E 0) 21).toInt := ty9
    have iy9 : 0 ≤ y9.toInt ∧ y9.toInt ≤ 3199 := iy9
    have n11 : vp_in y9 nl := (vp_in_iff.mpr ⟨by omega, by omega⟩)
    refine th_bald hx hb hK hP hI k hh0 hh1 rfl n11 dX13_isDigit_24 (fun y10 ey10 => ?_)
    have iy10 : -128 ≤ y10.toInt ∧ y10.toInt ≤ 127 := hI.el k hh0 hh1 n11 hh2 ey10
    refine lv_bipush (v := 48) hx hb dX13_isDigit_25 (by decide) ?_
    refine lv_icmp_lt (tgt := 53) hx hb dX13_isDigit_27 (by decide) (fun c12 => ?_) (fun c12 => ?_)
    · --27 taken
      have t13 : y10.toInt < 48 := ti_lt c12
      have i14 : -128 ≤ y10.toInt ∧ y10.toInt ≤ 47 := iv_lt_l t13 iy10 (il_ 48) (by decide)
      refine lv_iconst (v := 0) hx hb dX13_isDigit_53 (by decide) ?_
      rw [hQ]
      exact W.zret (v := 0) hx hb hr rfl (fun t ht hW => ⟨⟨0, (), rfl, Or.inr (⟨rfl, fun q9 => by obtain ⟨q8, q7⟩ := q9; have ka := mA_e (E := E) (th_v0 hKp hI0 0 (Nat.le_of_ble_eq_true rfl) rfl (Nat.le_of_ble_eq_true rfl) rfl rfl) (by omega); have kl := mN_e (E := E) (by omega); have by10 := mT_e (k := k) (E := E) (th_v0 hKp hI0 0 (Nat.le_of_ble_eq_true rfl) rfl (Nat.le_of_ble_eq_true rfl) rfl rfl) (by omega) ey10 (by omega) (by omega); unfold dgt at q7; omega⟩), trivial⟩, hS.F ht⟩) hS.2.2 dX13_isDigit_54
    · --27 not
      have t15 : (48 : Int) ≤ y10.toInt := ti_nlt c12
      have i16 : 48 ≤ y10.toInt ∧ y10.toInt ≤ 127 := iv_le_r t15 (il_ 48) iy10 (by decide)
      refine lv_aload_n hx hb dX13_isDigit_30 rfl (lv_at hl 0 rfl) ?_
      refine th_get (ci := 14) (C := RX13) (T := TX13) (N := 97) (v := .ref (ad k)) hx hb hts hinX13 hown hK hP hI 0 (Nat.le_of_ble_eq_true rfl) rfl rfl 18 (Nat.le_of_ble_eq_true rfl) (hts _ (vA_in _ _ (in_26 _ zs0))) (fun _ h9 => h9) ((hKp 0 18 rfl).trans hh3) dX13_isDigit_31 ?_
      refine lv_aload_n hx hb dX13_isDigit_34 rfl (lv_at hl 0 rfl) ?_
      refine th_get (ci := 14) (C := RX13) (T := TX13) (N := 97) (v := .int (xi (E 0) 19)) hx hb hts hinX13 hown hK hP hI 0 (Nat.le_of_ble_eq_true rfl) rfl rfl 19 (Nat.le_of_ble_eq_true rfl) (hts _ (vA_in _ _ (in_26 _ (zs1 (zs0))))) (fun _ h9 => h9) (th_v0 hKp hI0 0 (Nat.le_of_ble_eq_true rfl) rfl (Nat.le_of_ble_eq_true rfl) rfl rfl) dX13_isDigit_35 ?_
      refine lv_aload_n hx hb dX13_isDigit_38 rfl (lv_at hl 0 rfl) ?_
      refine th_get (ci := 14) (C := RX13) (T := TX13) (N := 97) (v := .int (xi (E 0) 21)) hx hb hts hinX13 hown hK hP hI 0 (Nat.le_of_ble_eq_true rfl) rfl rfl 21 (Nat.le_of_ble_eq_true rfl) (hts _ (vA_in _ _ (in_25 _ (zs16 (zs16 (zs4 (zs0))))))) (fun _ h9 => h9) (th_v0 hKp hI0 0 (Nat.le_of_ble_eq_true rfl) rfl (Nat.le_of_ble_eq_true rfl) rfl rfl) dX13_isDigit_39 ?_
      refine lv_iadd hx hb dX13_isDigit_42 ?_
      refine lv_topi (fun y17 ey17 => ?_)
      obtain ⟨ty17, iy17⟩ := ti_add (e := 0) (f := 3199) i8 i6 ey17 (by decide)
      have ty17 : y17.toInt = (xi (E 0) 19).toInt + (xi (E 0) 21).toInt := ty17
      have iy17 : 0 ≤ y17.toInt ∧ y17.toInt ≤ 3199 := iy17
      have n19 : vp_in y17 nl := (vp_in_iff.mpr ⟨by omega, by omega⟩)
      refine th_bald hx hb hK hP hI k hh0 hh1 rfl n19 dX13_isDigit_43 (fun y18 ey18 => ?_)
      have iy18 : -128 ≤ y18.toInt ∧ y18.toInt ≤ 127 := hI.el k hh0 hh1 n19 hh2 ey18
      refine lv_bipush (v := 57) hx hb dX13_isDigit_44 (by decide) ?_
      refine lv_icmp_gt (tgt := 53) hx hb dX13_isDigit_46 (by decide) (fun c20 => ?_) (fun c20 => ?_)
      · --46 taken
        have t21 : (57 : Int) < y18.toInt := ti_lt c20
        have i22 : 58 ≤ y18.toInt ∧ y18.toInt ≤ 127 := iv_lt_r t21 (il_ 57) iy18 (by decide)
        refine lv_iconst (v := 0) hx hb dX13_isDigit_53 (by decide) ?_
        rw [hQ]
        exact W.zret (v := 0) hx hb hr rfl (fun t ht hW => ⟨⟨0, (), rfl, Or.inr (⟨rfl, fun q9 => by obtain ⟨q8, q7⟩ := q9; have ka := mA_e (E := E) (th_v0 hKp hI0 0 (Nat.le_of_ble_eq_true rfl) rfl (Nat.le_of_ble_eq_true rfl) rfl rfl) (by omega); have kl := mN_e (E := E) (by omega); have by10 := mT_e (k := k) (E := E) (th_v0 hKp hI0 0 (Nat.le_of_ble_eq_true rfl) rfl (Nat.le_of_ble_eq_true rfl) rfl rfl) (by omega) ey10 (by omega) (by omega); have by18 := mT_e (k := k) (E := E) (th_v0 hKp hI0 0 (Nat.le_of_ble_eq_true rfl) rfl (Nat.le_of_ble_eq_true rfl) rfl rfl) (by omega) ey18 (by omega) (by omega); unfold dgt at q7; omega⟩), trivial⟩, hS.F ht⟩) hS.2.2 dX13_isDigit_54
      · --46 not
        have t23 : y18.toInt ≤ 57 := ti_nlt c20
        have i24 : -128 ≤ y18.toInt ∧ y18.toInt ≤ 57 := iv_le_l t23 iy18 (il_ 57) (by decide)
        refine lv_iconst (v := 1) hx hb dX13_isDigit_49 (by decide) ?_
        refine lv_goto (tgt := 54) hx hb dX13_isDigit_50 (by decide) ?_
        rw [hQ]
        exact W.zret (v := 1) hx hb hr rfl (fun t ht hW => ⟨⟨1, (), rfl, Or.inl ⟨rfl, by have h8 := ln_1; all_goals omega, by have ka := mA_e (E := E) (th_v0 hKp hI0 0 (Nat.le_of_ble_eq_true rfl) rfl (Nat.le_of_ble_eq_true rfl) rfl rfl) (by omega); have kl := mN_e (E := E) (by omega); have by10 := mT_e (k := k) (E := E) (th_v0 hKp hI0 0 (Nat.le_of_ble_eq_true rfl) rfl (Nat.le_of_ble_eq_true rfl) rfl rfl) (by omega) ey10 (by omega) (by omega); have by18 := mT_e (k := k) (E := E) (th_v0 hKp hI0 0 (Nat.le_of_ble_eq_true rfl) rfl (Nat.le_of_ble_eq_true rfl) rfl rfl) (by omega) ey18 (by omega) (by omega); exact ⟨by omega, by unfold dgt; omega⟩⟩, trivial⟩, hS.F ht⟩) hS.2.2 dX13_isDigit_54
def v_atomX : List Cond := .code yX13_atom cX13_atom 4 (some .int) :: vA
abbrev rm_atomX (n : Nat) : Room := { frames := 7 * n + 5, cells := 0, slots := 0, locals := 40 * (7 * n + 5) }
def w_atomX : Nat → Nat → Bool := wl [] [(0, 21), (0, 22), (0, 23)]
def C_atomX (l : Launch) (n : Nat) : Prop := ∀ (dC : Nat → ClassId) (dI : Nat → Nat → Nat) (cT : Nat → ClassId) (ad : Nat → Nat) (E : Nat → va_E) (sz : Nat) (k : Nat) (nl : Nat) (hI0 : IX cT shM spM 72 ad E) (hh0 : k < 72) (hh1 : shM k = (1, 1, nl)) (hh2 : ∀ j, spM k j = (0, -128, 127)) (hh3 : xv (E 0) 18 = .ref (ad k)) (hh4 : (xi (E 0) 19).toInt + 200 ≤ (nl : Int)) (hh5 : (xi (E 0) 23).toInt + (n : Int) = 8) (hh6 : (xi (E 0) 22).toInt = -1), Met l yX13_atom v_atomX (rm_atomX n) (va_Pc [.ref (ad 0)] (HW dC dI (TYM cT) 72 ad E sz)) (va_Qi (S := Nat → va_E) (fun r u => IX cT shM spM 72 ad u ∧ Kp w_atomX E u ∧ (((xi (E 0) 21).toInt ≤ (xi (u 0) 21).toInt) ∧ ((xi (E 0) 23).toInt ≤ (xi (u 0) 23).toInt) ∧ ((xi (u 0) 22).toInt = -1 → (xi (u 0) 23).toInt = (xi (E 0) 23).toInt) ∧ ((xi (u 0) 22).toInt = -1 → (xi (E 0) 22).toInt = -1) ∧ (RdM k (fun t m a => atomS true t m n a) E u))) (HB dC dI 72 ad) (va_A (WX 72 ad E) sz)) 0 0 (va_A (WX 72 ad E) sz)
def v_termX : List Cond := .code yX13_term cX13_term 5 (some .int) :: vA
abbrev rm_termX (n : Nat) : Room := { frames := 7 * n + 6, cells := 0, slots := 0, locals := 40 * (7 * n + 6) }
def w_termX : Nat → Nat → Bool := wl [] [(0, 21), (0, 22), (0, 23)]
def C_termX (l : Launch) (n : Nat) : Prop := ∀ (dC : Nat → ClassId) (dI : Nat → Nat → Nat) (cT : Nat → ClassId) (ad : Nat → Nat) (E : Nat → va_E) (sz : Nat) (k : Nat) (nl : Nat) (hI0 : IX cT shM spM 72 ad E) (hh0 : k < 72) (hh1 : shM k = (1, 1, nl)) (hh2 : ∀ j, spM k j = (0, -128, 127)) (hh3 : xv (E 0) 18 = .ref (ad k)) (hh4 : (xi (E 0) 19).toInt + 200 ≤ (nl : Int)) (hh5 : (xi (E 0) 23).toInt + (n : Int) = 8) (hh6 : (xi (E 0) 22).toInt = -1), Met l yX13_term v_termX (rm_termX n) (va_Pc [.ref (ad 0)] (HW dC dI (TYM cT) 72 ad E sz)) (va_Qi (S := Nat → va_E) (fun r u => IX cT shM spM 72 ad u ∧ Kp w_termX E u ∧ (((xi (E 0) 21).toInt ≤ (xi (u 0) 21).toInt) ∧ ((xi (E 0) 23).toInt ≤ (xi (u 0) 23).toInt) ∧ ((xi (u 0) 22).toInt = -1 → (xi (u 0) 23).toInt = (xi (E 0) 23).toInt) ∧ ((xi (u 0) 22).toInt = -1 → (xi (E 0) 22).toInt = -1) ∧ (RdM k (fun t m a => termS true t m n a) E u))) (HB dC dI 72 ad) (va_A (WX 72 ad E) sz)) 0 0 (va_A (WX 72 ad E) sz)
def v_sumX : List Cond := .code yX13_sum cX13_sum 5 (some .int) :: vA
abbrev rm_sumX (n : Nat) : Room := { frames := 7 * n + 7, cells := 0, slots := 0, locals := 40 * (7 * n + 7) }
def w_sumX : Nat → Nat → Bool := wl [] [(0, 21), (0, 22), (0, 23)]
def C_sumX (l : Launch) (n : Nat) : Prop := ∀ (dC : Nat → ClassId) (dI : Nat → Nat → Nat) (cT : Nat → ClassId) (ad : Nat → Nat) (E : Nat → va_E) (sz : Nat) (k : Nat) (nl : Nat) (hI0 : IX cT shM spM 72 ad E) (hh0 : k < 72) (hh1 : shM k = (1, 1, nl)) (hh2 : ∀ j, spM k j = (0, -128, 127)) (hh3 : xv (E 0) 18 = .ref (ad k)) (hh4 : (xi (E 0) 19).toInt + 200 ≤ (nl : Int)) (hh5 : (xi (E 0) 23).toInt + (n : Int) = 8) (hh6 : (xi (E 0) 22).toInt = -1), Met l yX13_sum v_sumX (rm_sumX n) (va_Pc [.ref (ad 0)] (HW dC dI (TYM cT) 72 ad E sz)) (va_Qi (S := Nat → va_E) (fun r u => IX cT shM spM 72 ad u ∧ Kp w_sumX E u ∧ (((xi (E 0) 21).toInt ≤ (xi (u 0) 21).toInt) ∧ ((xi (E 0) 23).toInt ≤ (xi (u 0) 23).toInt) ∧ ((xi (u 0) 22).toInt = -1 → (xi (u 0) 23).toInt = (xi (E 0) 23).toInt) ∧ ((xi (u 0) 22).toInt = -1 → (xi (E 0) 22).toInt = -1) ∧ (RdM k (fun t m a => sumS true t m n a) E u))) (HB dC dI 72 ad) (va_A (WX 72 ad E) sz)) 0 0 (va_A (WX 72 ad E) sz)
def v_comparesX : List Cond := .code yX13_compares cX13_compares 6 (some .boolean) :: vA
abbrev rm_comparesX (n : Nat) : Room := { frames := 7 * n + 8, cells := 0, slots := 0, locals := 40 * (7 * n + 8) }
def w_comparesX : Nat → Nat → Bool := wl [] [(0, 21), (0, 22), (0, 23)]
def C_comparesX (l : Launch) (n : Nat) : Prop := ∀ (dC : Nat → ClassId) (dI : Nat → Nat → Nat) (cT : Nat → ClassId) (ad : Nat → Nat) (E : Nat → va_E) (sz : Nat) (a0 : Int32) (a1 : Int32) (k : Nat) (nl : Nat) (hI0 : IX cT shM spM 72 ad E) (hh0 : k < 72) (hh1 : shM k = (1, 1, nl)) (hh2 : ∀ j, spM k j = (0, -128, 127)) (hh3 : xv (E 0) 18 = .ref (ad k)) (hh4 : (xi (E 0) 19).toInt + 200 ≤ (nl : Int)) (hh5 : (xi (E 0) 23).toInt + (n : Int) = 8) (hh6 : (xi (E 0) 22).toInt = -1) (hh7 : 0 ≤ a0.toInt ∧ a0.toInt ≤ 1), Met l yX13_compares v_comparesX (rm_comparesX n) (va_Pc [.ref (ad 0), .int a0, .int a1] (HW dC dI (TYM cT) 72 ad E sz)) (va_Qi (S := Nat → va_E) (fun r u => IX cT shM spM 72 ad u ∧ Kp w_comparesX E u ∧ ((0 ≤ r.toInt ∧ r.toInt ≤ 1) ∧ ((xi (E 0) 21).toInt ≤ (xi (u 0) 21).toInt) ∧ ((xi (E 0) 23).toInt ≤ (xi (u 0) 23).toInt) ∧ ((xi (u 0) 22).toInt = -1 → (xi (u 0) 23).toInt = (xi (E 0) 23).toInt) ∧ ((xi (u 0) 22).toInt = -1 → (xi (E 0) 22).toInt = -1) ∧ (RdM k (cpX a0 n) E u))) (HB dC dI 72 ad) (va_A (WX 72 ad E) sz)) 0 0 (va_A (WX 72 ad E) sz)
def v_unitX : List Cond := .code yX13_unit cX13_unit 3 (some .boolean) :: vA
abbrev rm_unitX (n : Nat) : Room := { frames := 7 * n + 9, cells := 0, slots := 0, locals := 40 * (7 * n + 9) }
def w_unitX : Nat → Nat → Bool := wl [] [(0, 21), (0, 22), (0, 23)]
def C_unitX (l : Launch) (n : Nat) : Prop := ∀ (dC : Nat → ClassId) (dI : Nat → Nat → Nat) (cT : Nat → ClassId) (ad : Nat → Nat) (E : Nat → va_E) (sz : Nat) (k : Nat) (nl : Nat) (hI0 : IX cT shM spM 72 ad E) (hh0 : k < 72) (hh1 : shM k = (1, 1, nl)) (hh2 : ∀ j, spM k j = (0, -128, 127)) (hh3 : xv (E 0) 18 = .ref (ad k)) (hh4 : (xi (E 0) 19).toInt + 200 ≤ (nl : Int)) (hh5 : (xi (E 0) 23).toInt + (n : Int) = 8) (hh6 : (xi (E 0) 22).toInt = -1), Met l yX13_unit v_unitX (rm_unitX n) (va_Pc [.ref (ad 0)] (HW dC dI (TYM cT) 72 ad E sz)) (va_Qi (S := Nat → va_E) (fun r u => IX cT shM spM 72 ad u ∧ Kp w_unitX E u ∧ ((0 ≤ r.toInt ∧ r.toInt ≤ 1) ∧ ((xi (E 0) 21).toInt ≤ (xi (u 0) 21).toInt) ∧ ((xi (E 0) 23).toInt ≤ (xi (u 0) 23).toInt) ∧ ((xi (u 0) 22).toInt = -1 → (xi (u 0) 23).toInt = (xi (E 0) 23).toInt) ∧ ((xi (u 0) 22).toInt = -1 → (xi (E 0) 22).toInt = -1) ∧ (RdM k (unY 0 n) E u))) (HB dC dI 72 ad) (va_A (WX 72 ad E) sz)) 0 0 (va_A (WX 72 ad E) sz)
def v_partX : List Cond := .code yX13_part cX13_part 5 (some .boolean) :: vA
abbrev rm_partX (n : Nat) : Room := { frames := 7 * n + 10, cells := 0, slots := 0, locals := 40 * (7 * n + 10) }
def w_partX : Nat → Nat → Bool := wl [] [(0, 21), (0, 22), (0, 23)]
def C_partX (l : Launch) (n : Nat) : Prop := ∀ (dC : Nat → ClassId) (dI : Nat → Nat → Nat) (cT : Nat → ClassId) (ad : Nat → Nat) (E : Nat → va_E) (sz : Nat) (a0 : Int32) (a1 : Int32) (k : Nat) (nl : Nat) (hI0 : IX cT shM spM 72 ad E) (hh0 : k < 72) (hh1 : shM k = (1, 1, nl)) (hh2 : ∀ j, spM k j = (0, -128, 127)) (hh3 : xv (E 0) 18 = .ref (ad k)) (hh4 : (xi (E 0) 19).toInt + 200 ≤ (nl : Int)) (hh5 : (xi (E 0) 23).toInt + (n : Int) = 8) (hh6 : (xi (E 0) 22).toInt = -1) (hh7 : 0 ≤ a0.toInt ∧ a0.toInt ≤ 1), Met l yX13_part v_partX (rm_partX n) (va_Pc [.ref (ad 0), .int a0, .int a1] (HW dC dI (TYM cT) 72 ad E sz)) (va_Qi (S := Nat → va_E) (fun r u => IX cT shM spM 72 ad u ∧ Kp w_partX E u ∧ ((0 ≤ r.toInt ∧ r.toInt ≤ 1) ∧ ((xi (E 0) 21).toInt ≤ (xi (u 0) 21).toInt) ∧ ((xi (E 0) 23).toInt ≤ (xi (u 0) 23).toInt) ∧ ((xi (u 0) 22).toInt = -1 → (xi (u 0) 23).toInt = (xi (E 0) 23).toInt) ∧ ((xi (u 0) 22).toInt = -1 → (xi (E 0) 22).toInt = -1) ∧ (RdM k (paY a0 n) E u))) (HB dC dI 72 ad) (va_A (WX 72 ad E) sz)) 0 0 (va_A (WX 72 ad E) sz)
def v_conditionX : List Cond := .code yX13_condition cX13_condition 5 (some .boolean) :: vA
abbrev rm_conditionX (n : Nat) : Room := { frames := 7 * n + 11, cells := 0, slots := 0, locals := 40 * (7 * n + 11) }
def w_conditionX : Nat → Nat → Bool := wl [] [(0, 21), (0, 22), (0, 23)]
def C_conditionX (l : Launch) (n : Nat) : Prop := ∀ (dC : Nat → ClassId) (dI : Nat → Nat → Nat) (cT : Nat → ClassId) (ad : Nat → Nat) (E : Nat → va_E) (sz : Nat) (a0 : Int32) (a1 : Int32) (k : Nat) (nl : Nat) (hI0 : IX cT shM spM 72 ad E) (hh0 : k < 72) (hh1 : shM k = (1, 1, nl)) (hh2 : ∀ j, spM k j = (0, -128, 127)) (hh3 : xv (E 0) 18 = .ref (ad k)) (hh4 : (xi (E 0) 19).toInt + 200 ≤ (nl : Int)) (hh5 : (xi (E 0) 23).toInt + (n : Int) = 8) (hh6 : (xi (E 0) 22).toInt = -1) (hh7 : 0 ≤ a0.toInt ∧ a0.toInt ≤ 1), Met l yX13_condition v_conditionX (rm_conditionX n) (va_Pc [.ref (ad 0), .int a0, .int a1] (HW dC dI (TYM cT) 72 ad E sz)) (va_Qi (S := Nat → va_E) (fun r u => IX cT shM spM 72 ad u ∧ Kp w_conditionX E u ∧ ((0 ≤ r.toInt ∧ r.toInt ≤ 1) ∧ ((xi (E 0) 21).toInt ≤ (xi (u 0) 21).toInt) ∧ ((xi (E 0) 23).toInt ≤ (xi (u 0) 23).toInt) ∧ ((xi (u 0) 22).toInt = -1 → (xi (u 0) 23).toInt = (xi (E 0) 23).toInt) ∧ ((xi (u 0) 22).toInt = -1 → (xi (E 0) 22).toInt = -1) ∧ (RdM k (coY a0 n) E u))) (HB dC dI 72 ad) (va_A (WX 72 ad E) sz)) 0 0 (va_A (WX 72 ad E) sz)
set_option maxHeartbeats 4000000 in
set_option maxRecDepth 100000 in
theorem q_atomX (l : Launch) (n : Nat) (gSum : ∀ k, k < n → C_sumX l k) : C_atomX l n := by
  intro dC dI cT ad E sz k nl hI0 hh0 hh1 hh2 hh3 hh4 hh5 hh6
  refine Met.ofW (cc := cX13_atom) (maxL := 4) (ret := (some .int)) (by decide) rfl ?_
  intro p e s m args below meth c s₁ B hml hv
  obtain ⟨hargs, hsz, hP, hK, hD0, hEV⟩ := hv
  subst hsz
  have hx := B.exec
  have hb := B.bytes
  have hr := B.returns
  have hts := atoms_spec (ws := v_atomX) B.pre
  have hown : s.vm.findClass RX13 = some m.cls := findClass_of_methodNamed B.named
  have hlocks := B.notSynchronized
  have hinX13 : ∀ w ∈ u_ws RX13 TX13 97, w ∈ v_atomX := fun w h => vA_in _ w (in_X13 w h)
  generalize hAe : va_A (WX 72 ad E) s.heap.size = A at hEV ⊢
  have hA : ∀ q : Nat, s.heap.size ≤ q → A q := fun q h => by rw [← hAe]; exact Or.inr h
  have hD : va_D A (WX 72 ad E) := by rw [← hAe]; exact hD0.self
  have hS : va_S A s.heap s.heap [] := va_S.rf
  have hI := hI0
  have hKp : Kp w_atomX E E := Kp.rf
  have hl := lv_entry ([.ref (ad 0)]) (n := 4) (Nat.le_of_ble_eq_true rfl)
  obtain ⟨Q, hQ⟩ : ∃ Q, Q = MQ below (va_Qi (S := Nat → va_E) (fun r u => IX cT shM spM 72 ad u ∧ Kp w_atomX E u ∧ (((xi (E 0) 21).toInt ≤ (xi (u 0) 21).toInt) ∧ ((xi (E 0) 23).toInt ≤ (xi (u 0) 23).toInt) ∧ ((xi (u 0) 22).toInt = -1 → (xi (u 0) 23).toInt = (xi (E 0) 23).toInt) ∧ ((xi (u 0) 22).toInt = -1 → (xi (E 0) 22).toInt = -1) ∧ (RdM k (fun t m a => atomS true t m n a) E u))) (HB dC dI 72 ad) (A)) args s 0 0 (A) := ⟨_, rfl⟩
  rw [← hQ, show entryFrame m args 4 = _ from (congrArg (fun z => entryFrame m z 4) hargs).trans (lg_entry_eq _ _ _)]
  generalize (lg_sl ([.ref (ad 0)]) ++ List.replicate (4 - (lg_sl ([.ref (ad 0)])).length) Slot.unset).toArray = ls at hl ⊢
  have hl : lv_has ls 4 [(0, .ref (ad 0))] := hl
  obtain ⟨y1, ey1⟩ : ∃ y, xi (E 0) 21 = y := ⟨_, rfl⟩
  have fy1 : xv (E 0) 21 = .int y1 := (hI.fi 0 (Nat.le_of_ble_eq_true rfl) rfl (Nat.le_of_ble_eq_true rfl) rfl).trans (congrArg Value.int ey1)
  have iy1 : 0 ≤ y1.toInt ∧ y1.toInt ≤ 201 := by rw [← ey1]; exact hI.iv 0 (Nat.le_of_ble_eq_true rfl) rfl (Nat.le_of_ble_eq_true rfl) rfl
  obtain ⟨y2, ey2⟩ : ∃ y, xi (E 0) 22 = y := ⟨_, rfl⟩
  have fy2 : xv (E 0) 22 = .int y2 := (hI.fi 0 (Nat.le_of_ble_eq_true rfl) rfl (Nat.le_of_ble_eq_true rfl) rfl).trans (congrArg Value.int ey2)
  have iy2 : -1 ≤ y2.toInt ∧ y2.toInt ≤ 201 := by rw [← ey2]; exact hI.iv 0 (Nat.le_of_ble_eq_true rfl) rfl (Nat.le_of_ble_eq_true rfl) rfl
  rw [ey2] at hh6
  obtain ⟨y3, ey3⟩ : ∃ y, xi (E 0) 23 = y := ⟨_, rfl⟩
  have fy3 : xv (E 0) 23 = .int y3 := (hI.fi 0 (Nat.le_of_ble_eq_true rfl) rfl (Nat.le_of_ble_eq_true rfl) rfl).trans (congrArg Value.int ey3)
  have iy3 : 0 ≤ y3.toInt ∧ y3.toInt ≤ 8 := by rw [← ey3]; exact hI.iv 0 (Nat.le_of_ble_eq_true rfl) rfl (Nat.le_of_ble_eq_true rfl) rfl
  rw [ey3] at hh5
  have hk0 : ¬ k = 0 := fun q9 => by rw [q9] at hh1; exact absurd (show (shM 0).1 = 1 from congrArg Prod.fst hh1) (by decide)
  refine lv_aload_n hx hb dX13_atom_0 rfl (lv_at hl 0 rfl) ?_
  refine th_i (va_runV (As := []) (rest := []) ⟨hx, hb, hml, hown, hts⟩ (q_lookX l dC dI cT ad E s.heap.size k nl hI (by exact hh0) (by exact hh1) (by exact hh2) (by exact hh3) (by exact hh4)) (cwV 0 hts (gi_V (in_26 _ (zs1 (zs1 (zs0)))) (in_26 _ (zs1 (zs1 (zs1 (zs0))))) (in_26 _ (zs4 (zs0))) (in_24 _ (zs4 (zs4 (zs4 (zs1 (zs1 (zs1 (zs0)))))))) (in_26 _ (zs4 (zs1 (zs0))))) rfl rfl rfl ⟨rfl, hz_yX13_look_0⟩ ⟨(show 0 + 1 ≤ 7 * n + 5 from nl_1 (Nat.le_of_ble_eq_true rfl)), (show 8 + (1 + 11) + 40 * (0) ≤ 40 * (7 * n + 5) from nl_2 (Nat.le_of_ble_eq_true rfl))⟩) ⟨HW_bl, va_recv hK hP (ci := 14) (q0 := 0) rfl (hI.ob 0 (Nat.le_of_ble_eq_true rfl) rfl), (HW_wi hP hK (WX_D hD) hS hA hEV)⟩ rfl rfl hl.1 rfl (lv_room (Nat.le_of_ble_eq_true rfl)) dX13_atom_1 ⟨Nat.le_of_ble_eq_true rfl, Nat.le_of_ble_eq_true rfl⟩) (WX_D hD) hS hA (fun r4 E5 H locs hw hP hS => ?_)
  obtain ⟨hI, kq6, hw⟩ := hw
  have hKb := hKp
  have hKp := hKp.tr kq6 (wl_sub rfl rfl)
  obtain ⟨y7, ey7⟩ : ∃ y, xi (E5 0) 21 = y := ⟨_, rfl⟩
  have fy7 : xv (E5 0) 21 = .int y7 := (hI.fi 0 (Nat.le_of_ble_eq_true rfl) rfl (Nat.le_of_ble_eq_true rfl) rfl).trans (congrArg Value.int ey7)
  have iy7 : 0 ≤ y7.toInt ∧ y7.toInt ≤ 201 := by rw [← ey7]; exact hI.iv 0 (Nat.le_of_ble_eq_true rfl) rfl (Nat.le_of_ble_eq_true rfl) rfl
  obtain ⟨f8, f9, f10, f11, f12⟩ := hw
  have i13 : 0 ≤ (xi (E 0) 19).toInt ∧ (xi (E 0) 19).toInt ≤ 3000 := (show 0 ≤ (xi (E 0) 19).toInt ∧ (xi (E 0) 19).toInt ≤ 3000 from hI0.iv 0 (Nat.le_of_ble_eq_true rfl) rfl (Nat.le_of_ble_eq_true rfl) rfl)
  have i14 : 0 ≤ (xi (E 0) 20).toInt ∧ (xi (E 0) 20).toInt ≤ 200 := (show 0 ≤ (xi (E 0) 20).toInt ∧ (xi (E 0) 20).toInt ≤ 200 from hI0.iv 0 (Nat.le_of_ble_eq_true rfl) rfl (Nat.le_of_ble_eq_true rfl) rfl)
  try rw [(show xi (E 0) 21 = y1 from vi_e fy1)] at f9
  try rw [(show xi (E5 0) 21 = y7 from vi_e fy7)] at f9
  try rw [(show xi (E 0) 21 = y1 from vi_e fy1)] at f10
  try rw [(show xi (E5 0) 21 = y7 from vi_e fy7)] at f10
  try rw [(show xi (E 0) 21 = y1 from vi_e fy1)] at f11
  try rw [(show xi (E5 0) 21 = y7 from vi_e fy7)] at f11
  refine lv_istore_n (lv' := [(1, .int r4), (0, .ref (ad 0))]) hx hb dX13_atom_4 rfl hl (by decide) rfl (fun ls hl => ?_)
  refine lv_iload_n hx hb dX13_atom_5 rfl (lv_at hl 0 rfl) ?_
  refine lv_iconst (v := -1) hx hb dX13_atom_6 (by decide) ?_
  refine lv_icmp_eq (tgt := 37) hx hb dX13_atom_7 (by decide) (fun c15 => ?_) (fun c15 => ?_)
  · --7 taken
    have t16 : r4.toInt = -1 := ti_eq c15
    have i17 : -1 ≤ r4.toInt ∧ r4.toInt ≤ -1 := iv_eqi t16 f8 (il_ (-1)) (by decide)
    refine lv_iload_n hx hb dX13_atom_37 rfl (lv_at hl 0 rfl) ?_
    refine lv_bipush (v := 91) hx hb dX13_atom_38 (by decide) ?_
    refine lv_icmp_ne (tgt := 80) hx hb dX13_atom_40 (by decide) (fun c18 => ?_) (fun c18 => ?_)
    · --40 taken
      have t19 : ¬ r4.toInt = 91 := ti_ne c18
      refine lv_aload_n hx hb dX13_atom_80 rfl (lv_at hl 1 rfl) ?_
      refine th_ri (va_runV (As := []) (rest := []) ⟨hx, hb, hml, hown, hts⟩ (q_isDigitX l dC dI cT ad E5 H.size k nl hI (by exact hh0) (by exact hh1) (by exact hh2) (by exact (hKp 0 18 rfl).trans hh3) (by (try rw [hKp.ei 0 19 rfl]); exact hh4)) (cwV 0 hts (gi_V (in_26 _ (zs16 (zs4 (zs1 (zs1 (zs1 (zs0))))))) (in_26 _ (zs16 (zs4 (zs4 (zs0))))) (in_26 _ (zs16 (zs4 (zs4 (zs1 (zs0)))))) (in_24 _ (zs4 (zs4 (zs4 (zs1 (zs1 (zs1 (zs0)))))))) (in_26 _ (zs16 (zs4 (zs4 (zs1 (zs1 (zs0)))))))) rfl rfl rfl ⟨rfl, hz_yX13_isDigit_0⟩ ⟨(show 0 + 1 ≤ 7 * n + 5 from nl_1 (Nat.le_of_ble_eq_true rfl)), (show 8 + (1 + 11) + 40 * (0) ≤ 40 * (7 * n + 5) from nl_2 (Nat.le_of_ble_eq_true rfl))⟩) ⟨HW_bl, va_recv hK hP (ci := 14) (q0 := 0) rfl (hI.ob 0 (Nat.le_of_ble_eq_true rfl) rfl), (HW_wi hP hK (WX_D hD) hS hA hEV)⟩ rfl rfl hl.1 rfl (lv_room (Nat.le_of_ble_eq_true rfl)) dX13_atom_81 ⟨Nat.le_of_ble_eq_true rfl, Nat.le_of_ble_eq_true rfl⟩) hS hP (fun r20 H locs hw hP hS => ?_)
      rcases hw with hw | hw
      · -- isDigitX, case 0
        obtain ⟨rfl, f21, f22⟩ := hw
        try rw [(show xi (E5 0) 21 = y7 from vi_e fy7)] at f21
        try rw [hKp.ei 0 20 rfl] at f21
        refine lv_if_ne (tgt := 92) hx hb dX13_atom_84 (by decide) (fun c23 => ?_) (fun c23 => ?_)
        · --84 taken
          refine lv_iconst (v := 0) hx hb dX13_atom_92 (by decide) ?_
          refine lv_istore_n (lv' := [(2, .int 0), (1, .int r4), (0, .ref (ad 0))]) hx hb dX13_atom_93 rfl hl (by decide) rfl (fun ls hl => ?_)
          refine lv_iconst (v := 0) hx hb dX13_atom_94 (by decide) ?_
          refine lv_istore_n (lv' := [(3, .int 0), (2, .int 0), (1, .int r4), (0, .ref (ad 0))]) hx hb dX13_atom_95 rfl hl (by decide) rfl (fun ls hl => ?_)
          have hL96 : ∀ d : Nat, ∀ (w96_0_21 : Int32) (w96_0_22 : Int32) (w96_0_23 : Int32) (v96_3 : Int32) (v96_2 : Int32) (E96_ : Nat → va_E) (H : Heap) (locs : List Loc) (ls : Array Slot), 0 ≤ w96_0_21.toInt ∧ w96_0_21.toInt ≤ 201 → -1 ≤ w96_0_22.toInt ∧ w96_0_22.toInt ≤ 201 → 0 ≤ w96_0_23.toInt ∧ w96_0_23.toInt ≤ 8 → y1.toInt ≤ w96_0_21.toInt → y3.toInt ≤ w96_0_23.toInt → (w96_0_22.toInt = -1 → w96_0_23.toInt = y3.toInt) → (w96_0_22.toInt = -1 → y2.toInt = -1) → NumM k v96_3 E5 E96_ → (0 ≤ v96_3.toInt ∧ v96_3.toInt ≤ 5) → 201 - w96_0_21.toInt < (d : Int) → IX cT shM spM 72 ad E96_ → Kp w_atomX E E96_ → xv (E96_ 0) 21 = .int w96_0_21 → xv (E96_ 0) 22 = .int w96_0_22 → xv (E96_ 0) 23 = .int w96_0_23 → va_P (dC, dI) vwCl (WX 72 ad E96_) H → va_S A s.heap H locs → lv_has ls 4 [(3, .int v96_3), (2, .int v96_2), (1, .int r4), (0, .ref (ad 0))] → W p l e (headSpec v_atomX (rm_atomX n)).room s m args below meth c H locs 0 0 Q (F0 m 96 ls []) := by
            intro d
            induction d with
            | zero =>
              intro w96_0_21 w96_0_22 w96_0_23 v96_3 v96_2 E96_ H locs ls hw96_0_21 hw96_0_22 hw96_0_23 hx96_0 hx96_1 hx96_2 hx96_3 hx96_4 hx96_5 hx96_6 hI hKp hs96_0_21 hs96_0_22 hs96_0_23 hP hS hl
              exact absurd hx96_6 (by first | exact ms_zu hw96_0_21.2 | omega)
            | succ d ih96 =>
              intro w96_0_21 w96_0_22 w96_0_23 v96_3 v96_2 E96_ H locs ls hw96_0_21 hw96_0_22 hw96_0_23 hx96_0 hx96_1 hx96_2 hx96_3 hx96_4 hx96_5 hx96_6 hI hKp hs96_0_21 hs96_0_22 hs96_0_23 hP hS hl
              refine lv_aload_n hx hb dX13_atom_96 rfl (lv_at hl 3 rfl) ?_
              refine th_ri (va_runV (As := []) (rest := []) ⟨hx, hb, hml, hown, hts⟩ (q_isDigitX l dC dI cT ad E96_ H.size k nl hI (by exact hh0) (by exact hh1) (by exact hh2) (by exact (hKp 0 18 rfl).trans hh3) (by (try rw [hKp.ei 0 19 rfl]); exact hh4)) (cwV 0 hts (gi_V (in_26 _ (zs16 (zs4 (zs1 (zs1 (zs1 (zs0))))))) (in_26 _ (zs16 (zs4 (zs4 (zs0))))) (in_26 _ (zs16 (zs4 (zs4 (zs1 (zs0)))))) (in_24 _ (zs4 (zs4 (zs4 (zs1 (zs1 (zs1 (zs0)))))))) (in_26 _ (zs16 (zs4 (zs4 (zs1 (zs1 (zs0)))))))) rfl rfl rfl ⟨rfl, hz_yX13_isDigit_0⟩ ⟨(show 0 + 1 ≤ 7 * n + 5 from nl_1 (Nat.le_of_ble_eq_true rfl)), (show 8 + (1 + 11) + 40 * (0) ≤ 40 * (7 * n + 5) from nl_2 (Nat.le_of_ble_eq_true rfl))⟩) ⟨HW_bl, va_recv hK hP (ci := 14) (q0 := 0) rfl (hI.ob 0 (Nat.le_of_ble_eq_true rfl) rfl), (HW_wi hP hK (WX_D hD) hS hA hEV)⟩ rfl rfl hl.1 rfl (lv_room (Nat.le_of_ble_eq_true rfl)) dX13_atom_97 ⟨Nat.le_of_ble_eq_true rfl, Nat.le_of_ble_eq_true rfl⟩) hS hP (fun r24 H locs hw hP hS => ?_)
              rcases hw with hw | hw
              · -- isDigitX, case 0
                obtain ⟨rfl, f25, f26⟩ := hw
                try rw [(show xi (E96_ 0) 21 = w96_0_21 from vi_e hs96_0_21)] at f25
                try rw [hKp.ei 0 20 rfl] at f25
                refine lv_if_eq (tgt := 162) hx hb dX13_atom_100 (by decide) (fun c27 => ?_) (fun c27 => ?_)
                · --100 taken
                  exact absurd c27 (by decide)
                · --100 not
                  refine lv_aload_n hx hb dX13_atom_103 rfl (lv_at hl 3 rfl) ?_
                  refine th_get (ci := 14) (C := RX13) (T := TX13) (N := 97) (v := .int w96_0_22) hx hb hts hinX13 hown hK hP hI 0 (Nat.le_of_ble_eq_true rfl) rfl rfl 22 (Nat.le_of_ble_eq_true rfl) (hts _ (vA_in _ _ (in_25 _ (zs16 (zs16 (zs4 (zs1 (zs1 (zs1 (zs0)))))))))) (fun _ h9 => h9) hs96_0_22 dX13_atom_104 ?_
                  refine lv_iconst (v := -1) hx hb dX13_atom_107 (by decide) ?_
                  refine lv_icmp_ne (tgt := 162) hx hb dX13_atom_108 (by decide) (fun c28 => ?_) (fun c28 => ?_)
                  · --108 taken
                    have t29 : ¬ w96_0_22.toInt = -1 := ti_ne c28
                    have i30 : 0 ≤ w96_0_22.toInt ∧ w96_0_22.toInt ≤ 201 := iv_ne_l t29 hw96_0_22 (il_ (-1))
                    refine lv_iload_n hx hb dX13_atom_162 rfl (lv_at hl 1 rfl) ?_
                    rw [hQ]
                    exact W.iret (v := v96_2) hx hb hr (fun t ht hW => ⟨⟨v96_2, E96_, rfl, ⟨hI, hKp, ⟨by (try rw [(show xi (E96_ 0) 21 = w96_0_21 from vi_e hs96_0_21)]); (try rw [ey1]); first | done | exact hx96_0 | all_goals omega, by (try rw [(show xi (E96_ 0) 23 = w96_0_23 from vi_e hs96_0_23)]); (try rw [ey3]); first | done | exact hx96_1 | all_goals omega, by (try rw [(show xi (E96_ 0) 22 = w96_0_22 from vi_e hs96_0_22)]); (try rw [(show xi (E96_ 0) 23 = w96_0_23 from vi_e hs96_0_23)]); (try rw [ey2]); (try rw [ey3]); first | done | exact fun q9 => absurd (q9) t29 | all_goals omega, by (try rw [(show xi (E96_ 0) 22 = w96_0_22 from vi_e hs96_0_22)]); (try rw [ey2]); first | done | exact fun q9 => absurd (q9) t29 | all_goals omega, absurd (hx96_4.2.1.trans (by show (xi (E5 0) 22).toInt = -1; rw [show xi (E5 0) 22 = y2 from vi_e ((kq6 0 22 rfl).trans fy2)]; omega)) (by show ¬ (xi (E96_ 0) 22).toInt = -1; rw [show xi (E96_ 0) 22 = w96_0_22 from vi_e hs96_0_22]; omega)⟩⟩, by show va_P (dC, dI) vwCl (WX 72 ad E96_) t.heap; rw [ht]; exact hP⟩, hS.F ht⟩) hS.2.2 dX13_atom_163
                  · --108 not
                    have t31 : w96_0_22.toInt = -1 := ti_eq c28
                    have i32 : -1 ≤ w96_0_22.toInt ∧ w96_0_22.toInt ≤ -1 := iv_eqi t31 hw96_0_22 (il_ (-1)) (by decide)
                    refine lv_iload_n hx hb dX13_atom_111 rfl (lv_at hl 0 rfl) ?_
                    refine lv_iconst (v := 5) hx hb dX13_atom_112 (by decide) ?_
                    refine lv_icmp_ne (tgt := 123) hx hb dX13_atom_113 (by decide) (fun c33 => ?_) (fun c33 => ?_)
                    · --113 taken
                      have t34 : ¬ v96_3.toInt = 5 := ti_ne c33
                      refine lv_bipush (v := 10) hx hb dX13_atom_123 (by decide) ?_
                      refine lv_iload_n hx hb dX13_atom_125 rfl (lv_at hl 1 rfl) ?_
                      refine lv_imul hx hb dX13_atom_126 ?_
                      refine lv_topi (fun y35 ey35 => ?_)
                      refine lv_aload_n hx hb dX13_atom_127 rfl (lv_at hl 3 rfl) ?_
                      refine th_get (ci := 14) (C := RX13) (T := TX13) (N := 97) (v := .ref (ad k)) hx hb hts hinX13 hown hK hP hI 0 (Nat.le_of_ble_eq_true rfl) rfl rfl 18 (Nat.le_of_ble_eq_true rfl) (hts _ (vA_in _ _ (in_26 _ zs0))) (fun _ h9 => h9) ((hKp 0 18 rfl).trans hh3) dX13_atom_128 ?_
                      refine lv_aload_n hx hb dX13_atom_131 rfl (lv_at hl 3 rfl) ?_
                      refine th_get (ci := 14) (C := RX13) (T := TX13) (N := 97) (v := .int (xi (E 0) 19)) hx hb hts hinX13 hown hK hP hI 0 (Nat.le_of_ble_eq_true rfl) rfl rfl 19 (Nat.le_of_ble_eq_true rfl) (hts _ (vA_in _ _ (in_26 _ (zs1 (zs0))))) (fun _ h9 => h9) (th_v0 hKp hI0 0 (Nat.le_of_ble_eq_true rfl) rfl (Nat.le_of_ble_eq_true rfl) rfl rfl) dX13_atom_132 ?_
                      refine lv_aload_n hx hb dX13_atom_135 rfl (lv_at hl 3 rfl) ?_
                      refine th_get (ci := 14) (C := RX13) (T := TX13) (N := 97) (v := .int w96_0_21) hx hb hts hinX13 hown hK hP hI 0 (Nat.le_of_ble_eq_true rfl) rfl rfl 21 (Nat.le_of_ble_eq_true rfl) (hts _ (vA_in _ _ (in_25 _ (zs16 (zs16 (zs4 (zs0))))))) (fun _ h9 => h9) hs96_0_21 dX13_atom_136 ?_
                      refine lv_iadd hx hb dX13_atom_139 ?_
                      refine lv_topi (fun y36 ey36 => ?_)
                      obtain ⟨ty36, iy36⟩ := ti_add (e := 0) (f := 3201) i13 hw96_0_21 ey36 (by decide)
                      have ty36 : y36.toInt = (xi (E 0) 19).toInt + w96_0_21.toInt := ty36
                      have iy36 : 0 ≤ y36.toInt ∧ y36.toInt ≤ 3201 := iy36
                      have n38 : vp_in y36 nl := (vp_in_iff.mpr ⟨by omega, by omega⟩)
                      refine th_bald hx hb hK hP hI k hh0 hh1 rfl n38 dX13_atom_140 (fun y37 ey37 => ?_)
                      have iy37 : -128 ≤ y37.toInt ∧ y37.toInt ≤ 127 := hI.el k hh0 hh1 n38 hh2 ey37
                      refine lv_iadd hx hb dX13_atom_141 ?_
                      refine lv_topi (fun y39 ey39 => ?_)
                      refine lv_bipush (v := 48) hx hb dX13_atom_142 (by decide) ?_
                      refine lv_isub hx hb dX13_atom_144 ?_
                      refine lv_topi (fun y40 ey40 => ?_)
                      refine lv_istore_n (lv' := [(2, .int y40), (3, .int v96_3), (1, .int r4), (0, .ref (ad 0))]) hx hb dX13_atom_145 rfl hl (by decide) rfl (fun ls hl => ?_)
                      refine lv_aload_n hx hb dX13_atom_146 rfl (lv_at hl 3 rfl) ?_
                      refine lv_dup hx hb dX13_atom_147 rfl ?_
                      refine th_get (ci := 14) (C := RX13) (T := TX13) (N := 97) (v := .int w96_0_21) hx hb hts hinX13 hown hK hP hI 0 (Nat.le_of_ble_eq_true rfl) rfl rfl 21 (Nat.le_of_ble_eq_true rfl) (hts _ (vA_in _ _ (in_25 _ (zs16 (zs16 (zs4 (zs0))))))) (fun _ h9 => h9) hs96_0_21 dX13_atom_148 ?_
                      refine lv_iconst (v := 1) hx hb dX13_atom_151 (by decide) ?_
                      refine lv_iadd hx hb dX13_atom_152 ?_
                      refine lv_topi (fun y41 ey41 => ?_)
                      obtain ⟨ty41, iy41⟩ := ti_add (e := 1) (f := 202) hw96_0_21 ln_1 ey41 (by decide)
                      have ty41 : y41.toInt = w96_0_21.toInt + 1 := ty41
                      have iy41 : 1 ≤ y41.toInt ∧ y41.toInt ≤ 202 := iy41
                      have i42 : 1 ≤ y41.toInt ∧ y41.toInt ≤ 201 := by omega
                      refine th_put (ci := 14) (C := RX13) (T := TX13) (N := 97) (v := .int y41) (ty := .int) hx hb hts hinX13 tyX13 tyX13_ok nmX13 hown hK hP (WX_D hD) hS hI 0 (Nat.le_of_ble_eq_true rfl) rfl rfl 21 (Nat.le_of_ble_eq_true rfl) (hts _ (vA_in _ _ (in_25 _ (zs16 (zs16 (zs4 (zs0))))))) (fun _ h9 => h9) rfl (by decide +kernel) rfl rfl (okI rfl (iv_w i42 (by decide))) dX13_atom_153 (fun H locs E43 pw44 hI hP hS => ?_)
                      have hKp := hKp.pw pw44 rfl
                      have k45 : AtM k E96_ E43 := AtM.pw pw44.2 hk0 (vi_e hs96_0_21) (vi_e pw44.1) ty41 (by omega)
                      obtain ⟨y46, ey46⟩ : ∃ y : Int32, y = v96_3 + (1 : Int32) := ⟨_, rfl⟩
                      refine lv_iinc (v := y46) (lv' := [(3, .int y46), (2, .int y40), (1, .int r4), (0, .ref (ad 0))]) hx hb dX13_atom_156 hl (k := 1) rfl (by rw [ey46]; rfl) (by decide) rfl (fun ls hl => ?_)
                      refine lv_goto (tgt := 96) hx hb dX13_atom_159 (by decide) ?_
                      exact ih96 y41 w96_0_22 w96_0_23 y46 y40 E43 _ _ _ (iv_w i42 (by decide)) (iv_w i32 (by decide)) hw96_0_23 (by  first | exact (Int.le_trans hx96_0 (Int.le_trans (Int.le_add_of_nonneg_right (by decide)) (Int.le_of_eq ty41.symm))) | omega) (by  first | exact hx96_1 | omega) (by  first | exact fun q9 => (hx96_2 (q9)) | omega) (by  first | exact fun q9 => hx96_3 (q9) | omega) (hx96_4.step k45 f26 (by omega) (show y46.toInt = v96_3.toInt + 1 from (ti_add (a := 0) (b := 4) (c := 1) (d := 1) (e := 1) (f := 5) ⟨by omega, by omega⟩ (by decide) ey46 (by decide)).1)) (by have t9 := (show y46.toInt = v96_3.toInt + 1 from (ti_add (a := 0) (b := 4) (c := 1) (d := 1) (e := 1) (f := 5) ⟨by omega, by omega⟩ (by decide) ey46 (by decide)).1); omega) (by omega) hI hKp pw44.1 ((pw44.2 0 22 (fun q9 => absurd q9.2 (Nat.ne_of_beq_eq_false rfl))).trans hs96_0_22) ((pw44.2 0 23 (fun q9 => absurd q9.2 (Nat.ne_of_beq_eq_false rfl))).trans hs96_0_23) hP hS (lv_sub hl [0, 1, 2, 3] rfl)
                    · --113 not
                      have t47 : v96_3.toInt = 5 := ti_eq c33
                      have i48 : 5 ≤ v96_3.toInt ∧ v96_3.toInt ≤ 5 := iv_eqi t47 (iv_all _) (il_ 5) (by decide)
                      refine lv_aload_n hx hb dX13_atom_116 rfl (lv_at hl 3 rfl) ?_
                      refine th_i (va_runV (As := []) (rest := []) ⟨hx, hb, hml, hown, hts⟩ (q_stopX l dC dI cT ad E96_ H.size k nl hI (by exact hh0) (by exact hh1) (by exact hh2) (by exact (hKp 0 18 rfl).trans hh3) (by (try rw [hKp.ei 0 19 rfl]); exact hh4)) (cwV 0 hts (gi_V (in_26 _ (zs4 (zs4 (zs4 (zs0))))) (in_26 _ (zs4 (zs4 (zs4 (zs1 (zs0)))))) (in_26 _ (zs4 (zs4 (zs4 (zs1 (zs1 (zs0))))))) (in_24 _ (zs4 (zs4 (zs4 (zs1 (zs1 (zs1 (zs0)))))))) (in_26 _ (zs4 (zs4 (zs4 (zs1 (zs1 (zs1 (zs0))))))))) rfl rfl rfl ⟨rfl, hz_yX13_stop_0⟩ ⟨(show 0 + 1 ≤ 7 * n + 5 from nl_1 (Nat.le_of_ble_eq_true rfl)), (show 8 + (1 + 11) + 40 * (0) ≤ 40 * (7 * n + 5) from nl_2 (Nat.le_of_ble_eq_true rfl))⟩) ⟨HW_bl, va_recv hK hP (ci := 14) (q0 := 0) rfl (hI.ob 0 (Nat.le_of_ble_eq_true rfl) rfl), (HW_wi hP hK (WX_D hD) hS hA hEV)⟩ rfl rfl hl.1 rfl (lv_room (Nat.le_of_ble_eq_true rfl)) dX13_atom_117 ⟨Nat.le_of_ble_eq_true rfl, Nat.le_of_ble_eq_true rfl⟩) (WX_D hD) hS hA (fun r49 E50 H locs hw hP hS => ?_)
                      obtain ⟨hI, kq51, hw⟩ := hw
                      have hKb := hKp
                      have hKp := hKp.tr kq51 (wl_sub rfl rfl)
                      obtain ⟨y52, ey52⟩ : ∃ y, xi (E50 0) 22 = y := ⟨_, rfl⟩
                      have fy52 : xv (E50 0) 22 = .int y52 := (hI.fi 0 (Nat.le_of_ble_eq_true rfl) rfl (Nat.le_of_ble_eq_true rfl) rfl).trans (congrArg Value.int ey52)
                      have iy52 : -1 ≤ y52.toInt ∧ y52.toInt ≤ 201 := by rw [← ey52]; exact hI.iv 0 (Nat.le_of_ble_eq_true rfl) rfl (Nat.le_of_ble_eq_true rfl) rfl
                      obtain ⟨rfl, f53, f54⟩ := hw
                      try rw [(show xi (E96_ 0) 22 = w96_0_22 from vi_e hs96_0_22)] at f53
                      try rw [(show xi (E50 0) 22 = y52 from vi_e fy52)] at f53
                      refine lv_pop hx hb dX13_atom_120 rfl ?_
                      refine lv_iconst (v := 0) hx hb dX13_atom_121 (by decide) ?_
                      rw [hQ]
                      exact W.iret (v := 0) hx hb hr (fun t ht hW => ⟨⟨0, E50, rfl, ⟨hI, hKp, ⟨by (try rw [(show xi (E50 0) 21 = w96_0_21 from vi_e ((kq51 0 21 rfl).trans hs96_0_21))]); (try rw [ey1]); first | done | exact hx96_0 | have h8 := ln_0; all_goals omega, by (try rw [(show xi (E50 0) 23 = w96_0_23 from vi_e ((kq51 0 23 rfl).trans hs96_0_23))]); (try rw [ey3]); first | done | exact hx96_1 | have h8 := ln_0; all_goals omega, by (try rw [(show xi (E50 0) 22 = y52 from vi_e fy52)]); (try rw [(show xi (E50 0) 23 = w96_0_23 from vi_e ((kq51 0 23 rfl).trans hs96_0_23))]); (try rw [ey2]); (try rw [ey3]); first | done | exact fun q9 => absurd (q9) f53 | have h8 := ln_0; all_goals omega, by (try rw [(show xi (E50 0) 22 = y52 from vi_e fy52)]); (try rw [ey2]); first | done | exact fun q9 => absurd (q9) f53 | have h8 := ln_0; all_goals omega, atM_num f12 (pkM_d f12 (by show (xi (E 0) 22).toInt = -1; rw [ey2]; omega) f22) (hx96_4.six f54 (by omega) f26)⟩⟩, by show va_P (dC, dI) vwCl (WX 72 ad E50) t.heap; rw [ht]; exact hP⟩, hS.F ht⟩) hS.2.2 dX13_atom_122
              · -- isDigitX, case 1
                obtain ⟨rfl, f55⟩ := hw
                refine lv_if_eq (tgt := 162) hx hb dX13_atom_100 (by decide) (fun c56 => ?_) (fun c56 => ?_)
                · --100 taken
                  refine lv_iload_n hx hb dX13_atom_162 rfl (lv_at hl 1 rfl) ?_
                  rw [hQ]
                  exact W.iret (v := v96_2) hx hb hr (fun t ht hW => ⟨⟨v96_2, E96_, rfl, ⟨hI, hKp, ⟨by (try rw [(show xi (E96_ 0) 21 = w96_0_21 from vi_e hs96_0_21)]); (try rw [ey1]); first | done | exact hx96_0 | all_goals omega, by (try rw [(show xi (E96_ 0) 23 = w96_0_23 from vi_e hs96_0_23)]); (try rw [ey3]); first | done | exact hx96_1 | all_goals omega, by (try rw [(show xi (E96_ 0) 22 = w96_0_22 from vi_e hs96_0_22)]); (try rw [(show xi (E96_ 0) 23 = w96_0_23 from vi_e hs96_0_23)]); (try rw [ey2]); (try rw [ey3]); first | done | exact fun q9 => (hx96_2 (q9)) | all_goals omega, by (try rw [(show xi (E96_ 0) 22 = w96_0_22 from vi_e hs96_0_22)]); (try rw [ey2]); first | done | exact fun q9 => hx96_3 (q9) | all_goals omega, atM_num f12 (pkM_d f12 (by show (xi (E 0) 22).toInt = -1; rw [ey2]; omega) f22) (hx96_4.out f55)⟩⟩, by show va_P (dC, dI) vwCl (WX 72 ad E96_) t.heap; rw [ht]; exact hP⟩, hS.F ht⟩) hS.2.2 dX13_atom_163
                · --100 not
                  exact absurd c56 (by decide)
          exact hL96 (202) y7 y2 y3 (0 : Int32) (0 : Int32) E5 _ _ _ iy7 iy2 iy3 (by  first | exact f9 | omega) (by  first | exact Int.le_refl _ | omega) (by  first | exact fun q9 => rfl | omega) (by  first | exact fun q9 => q9 | omega) NumM.rf (by decide) (by have h9 := iy7; first | exact ms_bu h9.1 (by decide) | omega) hI hKp fy7 ((kq6 0 22 rfl).trans fy2) ((kq6 0 23 rfl).trans fy3) hP hS (lv_sub hl [0, 1, 2, 3] rfl)
        · --84 not
          exact absurd c23 (by decide)
      · -- isDigitX, case 1
        obtain ⟨rfl, f57⟩ := hw
        refine lv_if_ne (tgt := 92) hx hb dX13_atom_84 (by decide) (fun c58 => ?_) (fun c58 => ?_)
        · --84 taken
          exact absurd c58 (by decide)
        · --84 not
          refine lv_aload_n hx hb dX13_atom_87 rfl (lv_at hl 1 rfl) ?_
          refine th_i (va_runV (As := []) (rest := []) ⟨hx, hb, hml, hown, hts⟩ (q_stopX l dC dI cT ad E5 H.size k nl hI (by exact hh0) (by exact hh1) (by exact hh2) (by exact (hKp 0 18 rfl).trans hh3) (by (try rw [hKp.ei 0 19 rfl]); exact hh4)) (cwV 0 hts (gi_V (in_26 _ (zs4 (zs4 (zs4 (zs0))))) (in_26 _ (zs4 (zs4 (zs4 (zs1 (zs0)))))) (in_26 _ (zs4 (zs4 (zs4 (zs1 (zs1 (zs0))))))) (in_24 _ (zs4 (zs4 (zs4 (zs1 (zs1 (zs1 (zs0)))))))) (in_26 _ (zs4 (zs4 (zs4 (zs1 (zs1 (zs1 (zs0))))))))) rfl rfl rfl ⟨rfl, hz_yX13_stop_0⟩ ⟨(show 0 + 1 ≤ 7 * n + 5 from nl_1 (Nat.le_of_ble_eq_true rfl)), (show 8 + (1 + 11) + 40 * (0) ≤ 40 * (7 * n + 5) from nl_2 (Nat.le_of_ble_eq_true rfl))⟩) ⟨HW_bl, va_recv hK hP (ci := 14) (q0 := 0) rfl (hI.ob 0 (Nat.le_of_ble_eq_true rfl) rfl), (HW_wi hP hK (WX_D hD) hS hA hEV)⟩ rfl rfl hl.1 rfl (lv_room (Nat.le_of_ble_eq_true rfl)) dX13_atom_88 ⟨Nat.le_of_ble_eq_true rfl, Nat.le_of_ble_eq_true rfl⟩) (WX_D hD) hS hA (fun r59 E60 H locs hw hP hS => ?_)
          obtain ⟨hI, kq61, hw⟩ := hw
          have hKb := hKp
          have hKp := hKp.tr kq61 (wl_sub rfl rfl)
          obtain ⟨y62, ey62⟩ : ∃ y, xi (E60 0) 22 = y := ⟨_, rfl⟩
          have fy62 : xv (E60 0) 22 = .int y62 := (hI.fi 0 (Nat.le_of_ble_eq_true rfl) rfl (Nat.le_of_ble_eq_true rfl) rfl).trans (congrArg Value.int ey62)
          have iy62 : -1 ≤ y62.toInt ∧ y62.toInt ≤ 201 := by rw [← ey62]; exact hI.iv 0 (Nat.le_of_ble_eq_true rfl) rfl (Nat.le_of_ble_eq_true rfl) rfl
          obtain ⟨rfl, f63, f64⟩ := hw
          try rw [(show xi (E5 0) 22 = y2 from vi_e ((kq6 0 22 rfl).trans fy2))] at f63
          try rw [(show xi (E60 0) 22 = y62 from vi_e fy62)] at f63
          refine lv_pop hx hb dX13_atom_91 rfl ?_
          refine lv_iconst (v := 0) hx hb dX13_atom_92 (by decide) ?_
          refine lv_istore_n (lv' := [(2, .int 0), (1, .int r4), (0, .ref (ad 0))]) hx hb dX13_atom_93 rfl hl (by decide) rfl (fun ls hl => ?_)
          refine lv_iconst (v := 0) hx hb dX13_atom_94 (by decide) ?_
          refine lv_istore_n (lv' := [(3, .int 0), (2, .int 0), (1, .int r4), (0, .ref (ad 0))]) hx hb dX13_atom_95 rfl hl (by decide) rfl (fun ls hl => ?_)
          have hL96 : ∀ d : Nat, ∀ (w96_0_21 : Int32) (w96_0_22 : Int32) (w96_0_23 : Int32) (v96_3 : Int32) (v96_2 : Int32) (E96_ : Nat → va_E) (H : Heap) (locs : List Loc) (ls : Array Slot), 0 ≤ w96_0_21.toInt ∧ w96_0_21.toInt ≤ 201 → -1 ≤ w96_0_22.toInt ∧ w96_0_22.toInt ≤ 201 → 0 ≤ w96_0_23.toInt ∧ w96_0_23.toInt ≤ 8 → y1.toInt ≤ w96_0_21.toInt → y3.toInt ≤ w96_0_23.toInt → (w96_0_22.toInt = -1 → w96_0_23.toInt = y3.toInt) → (w96_0_22.toInt = -1 → y2.toInt = -1) → NumM k v96_3 E60 E96_ → (0 ≤ v96_3.toInt ∧ v96_3.toInt ≤ 5) → 201 - w96_0_21.toInt < (d : Int) → IX cT shM spM 72 ad E96_ → Kp w_atomX E E96_ → xv (E96_ 0) 21 = .int w96_0_21 → xv (E96_ 0) 22 = .int w96_0_22 → xv (E96_ 0) 23 = .int w96_0_23 → va_P (dC, dI) vwCl (WX 72 ad E96_) H → va_S A s.heap H locs → lv_has ls 4 [(3, .int v96_3), (2, .int v96_2), (1, .int r4), (0, .ref (ad 0))] → W p l e (headSpec v_atomX (rm_atomX n)).room s m args below meth c H locs 0 0 Q (F0 m 96 ls []) := by
            intro d
            induction d with
            | zero =>
              intro w96_0_21 w96_0_22 w96_0_23 v96_3 v96_2 E96_ H locs ls hw96_0_21 hw96_0_22 hw96_0_23 hx96_0 hx96_1 hx96_2 hx96_3 hx96_4 hx96_5 hx96_6 hI hKp hs96_0_21 hs96_0_22 hs96_0_23 hP hS hl
              exact absurd hx96_6 (by first | exact ms_zu hw96_0_21.2 | omega)
            | succ d ih96 =>
              intro w96_0_21 w96_0_22 w96_0_23 v96_3 v96_2 E96_ H locs ls hw96_0_21 hw96_0_22 hw96_0_23 hx96_0 hx96_1 hx96_2 hx96_3 hx96_4 hx96_5 hx96_6 hI hKp hs96_0_21 hs96_0_22 hs96_0_23 hP hS hl
              refine lv_aload_n hx hb dX13_atom_96 rfl (lv_at hl 3 rfl) ?_
              refine th_ri (va_runV (As := []) (rest := []) ⟨hx, hb, hml, hown, hts⟩ (q_isDigitX l dC dI cT ad E96_ H.size k nl hI (by exact hh0) (by exact hh1) (by exact hh2) (by exact (hKp 0 18 rfl).trans hh3) (by (try rw [hKp.ei 0 19 rfl]); exact hh4)) (cwV 0 hts (gi_V (in_26 _ (zs16 (zs4 (zs1 (zs1 (zs1 (zs0))))))) (in_26 _ (zs16 (zs4 (zs4 (zs0))))) (in_26 _ (zs16 (zs4 (zs4 (zs1 (zs0)))))) (in_24 _ (zs4 (zs4 (zs4 (zs1 (zs1 (zs1 (zs0)))))))) (in_26 _ (zs16 (zs4 (zs4 (zs1 (zs1 (zs0)))))))) rfl rfl rfl ⟨rfl, hz_yX13_isDigit_0⟩ ⟨(show 0 + 1 ≤ 7 * n + 5 from nl_1 (Nat.le_of_ble_eq_true rfl)), (show 8 + (1 + 11) + 40 * (0) ≤ 40 * (7 * n + 5) from nl_2 (Nat.le_of_ble_eq_true rfl))⟩) ⟨HW_bl, va_recv hK hP (ci := 14) (q0 := 0) rfl (hI.ob 0 (Nat.le_of_ble_eq_true rfl) rfl), (HW_wi hP hK (WX_D hD) hS hA hEV)⟩ rfl rfl hl.1 rfl (lv_room (Nat.le_of_ble_eq_true rfl)) dX13_atom_97 ⟨Nat.le_of_ble_eq_true rfl, Nat.le_of_ble_eq_true rfl⟩) hS hP (fun r65 H locs hw hP hS => ?_)
              rcases hw with hw | hw
              · -- isDigitX, case 0
                obtain ⟨rfl, f66, f67⟩ := hw
                try rw [(show xi (E96_ 0) 21 = w96_0_21 from vi_e hs96_0_21)] at f66
                try rw [hKp.ei 0 20 rfl] at f66
                refine lv_if_eq (tgt := 162) hx hb dX13_atom_100 (by decide) (fun c68 => ?_) (fun c68 => ?_)
                · --100 taken
                  exact absurd c68 (by decide)
                · --100 not
                  refine lv_aload_n hx hb dX13_atom_103 rfl (lv_at hl 3 rfl) ?_
                  refine th_get (ci := 14) (C := RX13) (T := TX13) (N := 97) (v := .int w96_0_22) hx hb hts hinX13 hown hK hP hI 0 (Nat.le_of_ble_eq_true rfl) rfl rfl 22 (Nat.le_of_ble_eq_true rfl) (hts _ (vA_in _ _ (in_25 _ (zs16 (zs16 (zs4 (zs1 (zs1 (zs1 (zs0)))))))))) (fun _ h9 => h9) hs96_0_22 dX13_atom_104 ?_
                  refine lv_iconst (v := -1) hx hb dX13_atom_107 (by decide) ?_
                  refine lv_icmp_ne (tgt := 162) hx hb dX13_atom_108 (by decide) (fun c69 => ?_) (fun c69 => ?_)
                  · --108 taken
                    have t70 : ¬ w96_0_22.toInt = -1 := ti_ne c69
                    have i71 : 0 ≤ w96_0_22.toInt ∧ w96_0_22.toInt ≤ 201 := iv_ne_l t70 hw96_0_22 (il_ (-1))
                    refine lv_iload_n hx hb dX13_atom_162 rfl (lv_at hl 1 rfl) ?_
                    rw [hQ]
                    exact W.iret (v := v96_2) hx hb hr (fun t ht hW => ⟨⟨v96_2, E96_, rfl, ⟨hI, hKp, ⟨by (try rw [(show xi (E96_ 0) 21 = w96_0_21 from vi_e hs96_0_21)]); (try rw [ey1]); first | done | exact hx96_0 | all_goals omega, by (try rw [(show xi (E96_ 0) 23 = w96_0_23 from vi_e hs96_0_23)]); (try rw [ey3]); first | done | exact hx96_1 | all_goals omega, by (try rw [(show xi (E96_ 0) 22 = w96_0_22 from vi_e hs96_0_22)]); (try rw [(show xi (E96_ 0) 23 = w96_0_23 from vi_e hs96_0_23)]); (try rw [ey2]); (try rw [ey3]); first | done | exact fun q9 => absurd (q9) t70 | all_goals omega, by (try rw [(show xi (E96_ 0) 22 = w96_0_22 from vi_e hs96_0_22)]); (try rw [ey2]); first | done | exact fun q9 => absurd (q9) t70 | all_goals omega, (atM_no f12 (pkM_n f12 (by show (xi (E 0) 22).toInt = -1; rw [ey2]; omega) f57) (by rw [show r4.toInt = -1 by omega]; decide) (by omega) f64).fk (by show ¬ (xi (E60 0) 22).toInt = -1; rw [show xi (E60 0) 22 = y62 from vi_e fy62]; omega) hx96_4⟩⟩, by show va_P (dC, dI) vwCl (WX 72 ad E96_) t.heap; rw [ht]; exact hP⟩, hS.F ht⟩) hS.2.2 dX13_atom_163
                  · --108 not
                    have t72 : w96_0_22.toInt = -1 := ti_eq c69
                    have i73 : -1 ≤ w96_0_22.toInt ∧ w96_0_22.toInt ≤ -1 := iv_eqi t72 hw96_0_22 (il_ (-1)) (by decide)
                    refine lv_iload_n hx hb dX13_atom_111 rfl (lv_at hl 0 rfl) ?_
                    refine lv_iconst (v := 5) hx hb dX13_atom_112 (by decide) ?_
                    refine lv_icmp_ne (tgt := 123) hx hb dX13_atom_113 (by decide) (fun c74 => ?_) (fun c74 => ?_)
                    · --113 taken
                      have t75 : ¬ v96_3.toInt = 5 := ti_ne c74
                      refine lv_bipush (v := 10) hx hb dX13_atom_123 (by decide) ?_
                      refine lv_iload_n hx hb dX13_atom_125 rfl (lv_at hl 1 rfl) ?_
                      refine lv_imul hx hb dX13_atom_126 ?_
                      refine lv_topi (fun y76 ey76 => ?_)
                      refine lv_aload_n hx hb dX13_atom_127 rfl (lv_at hl 3 rfl) ?_
                      refine th_get (ci := 14) (C := RX13) (T := TX13) (N := 97) (v := .ref (ad k)) hx hb hts hinX13 hown hK hP hI 0 (Nat.le_of_ble_eq_true rfl) rfl rfl 18 (Nat.le_of_ble_eq_true rfl) (hts _ (vA_in _ _ (in_26 _ zs0))) (fun _ h9 => h9) ((hKp 0 18 rfl).trans hh3) dX13_atom_128 ?_
                      refine lv_aload_n hx hb dX13_atom_131 rfl (lv_at hl 3 rfl) ?_
                      refine th_get (ci := 14) (C := RX13) (T := TX13) (N := 97) (v := .int (xi (E 0) 19)) hx hb hts hinX13 hown hK hP hI 0 (Nat.le_of_ble_eq_true rfl) rfl rfl 19 (Nat.le_of_ble_eq_true rfl) (hts _ (vA_in _ _ (in_26 _ (zs1 (zs0))))) (fun _ h9 => h9) (th_v0 hKp hI0 0 (Nat.le_of_ble_eq_true rfl) rfl (Nat.le_of_ble_eq_true rfl) rfl rfl) dX13_atom_132 ?_
                      refine lv_aload_n hx hb dX13_atom_135 rfl (lv_at hl 3 rfl) ?_
                      refine th_get (ci := 14) (C := RX13) (T := TX13) (N := 97) (v := .int w96_0_21) hx hb hts hinX13 hown hK hP hI 0 (Nat.le_of_ble_eq_true rfl) rfl rfl 21 (Nat.le_of_ble_eq_true rfl) (hts _ (vA_in _ _ (in_25 _ (zs16 (zs16 (zs4 (zs0))))))) (fun _ h9 => h9) hs96_0_21 dX13_atom_136 ?_
                      refine lv_iadd hx hb dX13_atom_139 ?_
                      refine lv_topi (fun y77 ey77 => ?_)
                      obtain ⟨ty77, iy77⟩ := ti_add (e := 0) (f := 3201) i13 hw96_0_21 ey77 (by decide)
                      have ty77 : y77.toInt = (xi (E 0) 19).toInt + w96_0_21.toInt := ty77
                      have iy77 : 0 ≤ y77.toInt ∧ y77.toInt ≤ 3201 := iy77
                      have n79 : vp_in y77 nl := (vp_in_iff.mpr ⟨by omega, by omega⟩)
                      refine th_bald hx hb hK hP hI k hh0 hh1 rfl n79 dX13_atom_140 (fun y78 ey78 => ?_)
                      have iy78 : -128 ≤ y78.toInt ∧ y78.toInt ≤ 127 := hI.el k hh0 hh1 n79 hh2 ey78
                      refine lv_iadd hx hb dX13_atom_141 ?_
                      refine lv_topi (fun y80 ey80 => ?_)
                      refine lv_bipush (v := 48) hx hb dX13_atom_142 (by decide) ?_
                      refine lv_isub hx hb dX13_atom_144 ?_
                      refine lv_topi (fun y81 ey81 => ?_)
                      refine lv_istore_n (lv' := [(2, .int y81), (3, .int v96_3), (1, .int r4), (0, .ref (ad 0))]) hx hb dX13_atom_145 rfl hl (by decide) rfl (fun ls hl => ?_)
                      refine lv_aload_n hx hb dX13_atom_146 rfl (lv_at hl 3 rfl) ?_
                      refine lv_dup hx hb dX13_atom_147 rfl ?_
                      refine th_get (ci := 14) (C := RX13) (T := TX13) (N := 97) (v := .int w96_0_21) hx hb hts hinX13 hown hK hP hI 0 (Nat.le_of_ble_eq_true rfl) rfl rfl 21 (Nat.le_of_ble_eq_true rfl) (hts _ (vA_in _ _ (in_25 _ (zs16 (zs16 (zs4 (zs0))))))) (fun _ h9 => h9) hs96_0_21 dX13_atom_148 ?_
                      refine lv_iconst (v := 1) hx hb dX13_atom_151 (by decide) ?_
                      refine lv_iadd hx hb dX13_atom_152 ?_
                      refine lv_topi (fun y82 ey82 => ?_)
                      obtain ⟨ty82, iy82⟩ := ti_add (e := 1) (f := 202) hw96_0_21 ln_1 ey82 (by decide)
                      have ty82 : y82.toInt = w96_0_21.toInt + 1 := ty82
                      have iy82 : 1 ≤ y82.toInt ∧ y82.toInt ≤ 202 := iy82
                      have i83 : 1 ≤ y82.toInt ∧ y82.toInt ≤ 201 := by omega
                      refine th_put (ci := 14) (C := RX13) (T := TX13) (N := 97) (v := .int y82) (ty := .int) hx hb hts hinX13 tyX13 tyX13_ok nmX13 hown hK hP (WX_D hD) hS hI 0 (Nat.le_of_ble_eq_true rfl) rfl rfl 21 (Nat.le_of_ble_eq_true rfl) (hts _ (vA_in _ _ (in_25 _ (zs16 (zs16 (zs4 (zs0))))))) (fun _ h9 => h9) rfl (by decide +kernel) rfl rfl (okI rfl (iv_w i83 (by decide))) dX13_atom_153 (fun H locs E84 pw85 hI hP hS => ?_)
                      have hKp := hKp.pw pw85 rfl
                      have k86 : AtM k E96_ E84 := AtM.pw pw85.2 hk0 (vi_e hs96_0_21) (vi_e pw85.1) ty82 (by omega)
                      obtain ⟨y87, ey87⟩ : ∃ y : Int32, y = v96_3 + (1 : Int32) := ⟨_, rfl⟩
                      refine lv_iinc (v := y87) (lv' := [(3, .int y87), (2, .int y81), (1, .int r4), (0, .ref (ad 0))]) hx hb dX13_atom_156 hl (k := 1) rfl (by rw [ey87]; rfl) (by decide) rfl (fun ls hl => ?_)
                      refine lv_goto (tgt := 96) hx hb dX13_atom_159 (by decide) ?_
                      exact ih96 y82 w96_0_22 w96_0_23 y87 y81 E84 _ _ _ (iv_w i83 (by decide)) (iv_w i73 (by decide)) hw96_0_23 (by  first | exact (Int.le_trans hx96_0 (Int.le_trans (Int.le_add_of_nonneg_right (by decide)) (Int.le_of_eq ty82.symm))) | omega) (by  first | exact hx96_1 | omega) (by  first | exact fun q9 => (hx96_2 (q9)) | omega) (by  first | exact fun q9 => hx96_3 (q9) | omega) (hx96_4.step k86 f67 (by omega) (show y87.toInt = v96_3.toInt + 1 from (ti_add (a := 0) (b := 4) (c := 1) (d := 1) (e := 1) (f := 5) ⟨by omega, by omega⟩ (by decide) ey87 (by decide)).1)) (by have t9 := (show y87.toInt = v96_3.toInt + 1 from (ti_add (a := 0) (b := 4) (c := 1) (d := 1) (e := 1) (f := 5) ⟨by omega, by omega⟩ (by decide) ey87 (by decide)).1); omega) (by omega) hI hKp pw85.1 ((pw85.2 0 22 (fun q9 => absurd q9.2 (Nat.ne_of_beq_eq_false rfl))).trans hs96_0_22) ((pw85.2 0 23 (fun q9 => absurd q9.2 (Nat.ne_of_beq_eq_false rfl))).trans hs96_0_23) hP hS (lv_sub hl [0, 1, 2, 3] rfl)
                    · --113 not
                      have t88 : v96_3.toInt = 5 := ti_eq c74
                      have i89 : 5 ≤ v96_3.toInt ∧ v96_3.toInt ≤ 5 := iv_eqi t88 (iv_all _) (il_ 5) (by decide)
                      refine lv_aload_n hx hb dX13_atom_116 rfl (lv_at hl 3 rfl) ?_
                      refine th_i (va_runV (As := []) (rest := []) ⟨hx, hb, hml, hown, hts⟩ (q_stopX l dC dI cT ad E96_ H.size k nl hI (by exact hh0) (by exact hh1) (by exact hh2) (by exact (hKp 0 18 rfl).trans hh3) (by (try rw [hKp.ei 0 19 rfl]); exact hh4)) (cwV 0 hts (gi_V (in_26 _ (zs4 (zs4 (zs4 (zs0))))) (in_26 _ (zs4 (zs4 (zs4 (zs1 (zs0)))))) (in_26 _ (zs4 (zs4 (zs4 (zs1 (zs1 (zs0))))))) (in_24 _ (zs4 (zs4 (zs4 (zs1 (zs1 (zs1 (zs0)))))))) (in_26 _ (zs4 (zs4 (zs4 (zs1 (zs1 (zs1 (zs0))))))))) rfl rfl rfl ⟨rfl, hz_yX13_stop_0⟩ ⟨(show 0 + 1 ≤ 7 * n + 5 from nl_1 (Nat.le_of_ble_eq_true rfl)), (show 8 + (1 + 11) + 40 * (0) ≤ 40 * (7 * n + 5) from nl_2 (Nat.le_of_ble_eq_true rfl))⟩) ⟨HW_bl, va_recv hK hP (ci := 14) (q0 := 0) rfl (hI.ob 0 (Nat.le_of_ble_eq_true rfl) rfl), (HW_wi hP hK (WX_D hD) hS hA hEV)⟩ rfl rfl hl.1 rfl (lv_room (Nat.le_of_ble_eq_true rfl)) dX13_atom_117 ⟨Nat.le_of_ble_eq_true rfl, Nat.le_of_ble_eq_true rfl⟩) (WX_D hD) hS hA (fun r90 E91 H locs hw hP hS => ?_)
                      obtain ⟨hI, kq92, hw⟩ := hw
                      have hKb := hKp
                      have hKp := hKp.tr kq92 (wl_sub rfl rfl)
                      obtain ⟨y93, ey93⟩ : ∃ y, xi (E91 0) 22 = y := ⟨_, rfl⟩
                      have fy93 : xv (E91 0) 22 = .int y93 := (hI.fi 0 (Nat.le_of_ble_eq_true rfl) rfl (Nat.le_of_ble_eq_true rfl) rfl).trans (congrArg Value.int ey93)
                      have iy93 : -1 ≤ y93.toInt ∧ y93.toInt ≤ 201 := by rw [← ey93]; exact hI.iv 0 (Nat.le_of_ble_eq_true rfl) rfl (Nat.le_of_ble_eq_true rfl) rfl
                      obtain ⟨rfl, f94, f95⟩ := hw
                      try rw [(show xi (E96_ 0) 22 = w96_0_22 from vi_e hs96_0_22)] at f94
                      try rw [(show xi (E91 0) 22 = y93 from vi_e fy93)] at f94
                      refine lv_pop hx hb dX13_atom_120 rfl ?_
                      refine lv_iconst (v := 0) hx hb dX13_atom_121 (by decide) ?_
                      rw [hQ]
                      exact W.iret (v := 0) hx hb hr (fun t ht hW => ⟨⟨0, E91, rfl, ⟨hI, hKp, ⟨by (try rw [(show xi (E91 0) 21 = w96_0_21 from vi_e ((kq92 0 21 rfl).trans hs96_0_21))]); (try rw [ey1]); first | done | exact hx96_0 | have h8 := ln_0; all_goals omega, by (try rw [(show xi (E91 0) 23 = w96_0_23 from vi_e ((kq92 0 23 rfl).trans hs96_0_23))]); (try rw [ey3]); first | done | exact hx96_1 | have h8 := ln_0; all_goals omega, by (try rw [(show xi (E91 0) 22 = y93 from vi_e fy93)]); (try rw [(show xi (E91 0) 23 = w96_0_23 from vi_e ((kq92 0 23 rfl).trans hs96_0_23))]); (try rw [ey2]); (try rw [ey3]); first | done | exact fun q9 => absurd (q9) f94 | have h8 := ln_0; all_goals omega, by (try rw [(show xi (E91 0) 22 = y93 from vi_e fy93)]); (try rw [ey2]); first | done | exact fun q9 => absurd (q9) f94 | have h8 := ln_0; all_goals omega, absurd (hx96_4.2.1.symm.trans (by show (xi (E96_ 0) 22).toInt = -1; rw [show xi (E96_ 0) 22 = w96_0_22 from vi_e hs96_0_22]; first | exact t72 | omega)) (by show ¬ (xi (E60 0) 22).toInt = -1; rw [show xi (E60 0) 22 = y62 from vi_e fy62]; omega)⟩⟩, by show va_P (dC, dI) vwCl (WX 72 ad E91) t.heap; rw [ht]; exact hP⟩, hS.F ht⟩) hS.2.2 dX13_atom_122
              · -- isDigitX, case 1
                obtain ⟨rfl, f96⟩ := hw
                refine lv_if_eq (tgt := 162) hx hb dX13_atom_100 (by decide) (fun c97 => ?_) (fun c97 => ?_)
                · --100 taken
                  refine lv_iload_n hx hb dX13_atom_162 rfl (lv_at hl 1 rfl) ?_
                  rw [hQ]
                  exact W.iret (v := v96_2) hx hb hr (fun t ht hW => ⟨⟨v96_2, E96_, rfl, ⟨hI, hKp, ⟨by (try rw [(show xi (E96_ 0) 21 = w96_0_21 from vi_e hs96_0_21)]); (try rw [ey1]); first | done | exact hx96_0 | all_goals omega, by (try rw [(show xi (E96_ 0) 23 = w96_0_23 from vi_e hs96_0_23)]); (try rw [ey3]); first | done | exact hx96_1 | all_goals omega, by (try rw [(show xi (E96_ 0) 22 = w96_0_22 from vi_e hs96_0_22)]); (try rw [(show xi (E96_ 0) 23 = w96_0_23 from vi_e hs96_0_23)]); (try rw [ey2]); (try rw [ey3]); first | done | exact fun q9 => (hx96_2 (q9)) | all_goals omega, by (try rw [(show xi (E96_ 0) 22 = w96_0_22 from vi_e hs96_0_22)]); (try rw [ey2]); first | done | exact fun q9 => hx96_3 (q9) | all_goals omega, (atM_no f12 (pkM_n f12 (by show (xi (E 0) 22).toInt = -1; rw [ey2]; omega) f57) (by rw [show r4.toInt = -1 by omega]; decide) (by omega) f64).fk (by show ¬ (xi (E60 0) 22).toInt = -1; rw [show xi (E60 0) 22 = y62 from vi_e fy62]; omega) hx96_4⟩⟩, by show va_P (dC, dI) vwCl (WX 72 ad E96_) t.heap; rw [ht]; exact hP⟩, hS.F ht⟩) hS.2.2 dX13_atom_163
                · --100 not
                  exact absurd c97 (by decide)
          exact hL96 (202) y7 y62 y3 (0 : Int32) (0 : Int32) E60 _ _ _ iy7 iy62 iy3 (by  first | exact f9 | omega) (by  first | exact Int.le_refl _ | omega) (by  first | exact fun q9 => absurd (q9) f63 | omega) (by  first | exact fun q9 => absurd (q9) f63 | omega) NumM.rf (by decide) (by have h9 := iy7; first | exact ms_bu h9.1 (by decide) | omega) hI hKp ((kq61 0 21 rfl).trans fy7) fy62 ((kq61 0 23 rfl).trans ((kq6 0 23 rfl).trans fy3)) hP hS (lv_sub hl [0, 1, 2, 3] rfl)
    · --40 not
      have t98 : r4.toInt = 91 := ti_eq c18
      have i99 : 91 ≤ r4.toInt ∧ r4.toInt ≤ -1 := iv_eqi t98 i17 (il_ 91) (by decide)
      exact iv_no i99 (by decide)
  · --7 not
    have t100 : ¬ r4.toInt = -1 := ti_ne c15
    have i101 : 0 ≤ r4.toInt ∧ r4.toInt ≤ 255 := iv_ne_l t100 f8 (il_ (-1))
    obtain ⟨qs, vs, hqR, hSS⟩ := hEV.2.1
    refine th_ldcwS hx hb hown hqR dX13_atom_10 ?_
    refine lv_iload_n hx hb dX13_atom_13 rfl (lv_at hl 0 rfl) ?_
    refine th_pi (va_runV (As := [.int r4]) (rest := []) ⟨hx, hb, hml, hown, hts⟩ (q_indexOf l qs vs tLET r4 (by decide) (by decide)) (cwV 1 hts (gi_V (in_26 _ (zs4 (zs1 (zs1 (zs1 (zs0)))))) (in_8 _ (zs16 (zs16 (zs1 (zs0))))) (in_8 _ (zs16 (zs16 (zs1 (zs1 (zs0)))))) (in_0 _ (zs4 (zs4 (zs4 (zs1 (zs0)))))) (in_0 _ (zs4 (zs4 (zs1 (zs0)))))) rfl rfl rfl ⟨rfl, hz_yJ0_indexOf_0f7a4_1⟩ ⟨(show 3 + 1 ≤ 7 * n + 5 from nl_1 (Nat.le_of_ble_eq_true rfl)), (show 8 + (2 + 11) + 40 * (3) ≤ 40 * (7 * n + 5) from nl_2 (Nat.le_of_ble_eq_true rfl))⟩) ⟨fun a U g mk q => ⟨q.1, SS_c q.2⟩, va_Orecv hSS.1 hS, fun U hU hW => ⟨rfl, SS_w hU hW hS (fun _ h => h.elim) hSS⟩⟩ rfl rfl hl.1 rfl (lv_room (Nat.le_of_ble_eq_true rfl)) dX13_atom_14 ⟨Nat.le_of_ble_eq_true rfl, Nat.le_of_ble_eq_true rfl⟩) hS (fun r102 H1 locs1 hw hk1 hS => ?_)
    have hP := ub_keep hP hk1
    generalize H1 = H at hP hS ⊢
    generalize locs1 = locs at hS ⊢
    obtain ⟨f103, f104⟩ := hw
    refine lv_if_lt (tgt := 37) hx hb dX13_atom_17 (by decide) (fun c105 => ?_) (fun c105 => ?_)
    · --17 taken
      have t106 : r102.toInt < 0 := ti_lt c105
      have i107 : -1 ≤ r102.toInt ∧ r102.toInt ≤ -1 := iv_lt_l t106 f103 (il_ 0) (by decide)
      refine lv_iload_n hx hb dX13_atom_37 rfl (lv_at hl 0 rfl) ?_
      refine lv_bipush (v := 91) hx hb dX13_atom_38 (by decide) ?_
      refine lv_icmp_ne (tgt := 80) hx hb dX13_atom_40 (by decide) (fun c108 => ?_) (fun c108 => ?_)
      · --40 taken
        have t109 : ¬ r4.toInt = 91 := ti_ne c108
        refine lv_aload_n hx hb dX13_atom_80 rfl (lv_at hl 1 rfl) ?_
        refine th_ri (va_runV (As := []) (rest := []) ⟨hx, hb, hml, hown, hts⟩ (q_isDigitX l dC dI cT ad E5 H.size k nl hI (by exact hh0) (by exact hh1) (by exact hh2) (by exact (hKp 0 18 rfl).trans hh3) (by (try rw [hKp.ei 0 19 rfl]); exact hh4)) (cwV 0 hts (gi_V (in_26 _ (zs16 (zs4 (zs1 (zs1 (zs1 (zs0))))))) (in_26 _ (zs16 (zs4 (zs4 (zs0))))) (in_26 _ (zs16 (zs4 (zs4 (zs1 (zs0)))))) (in_24 _ (zs4 (zs4 (zs4 (zs1 (zs1 (zs1 (zs0)))))))) (in_26 _ (zs16 (zs4 (zs4 (zs1 (zs1 (zs0)))))))) rfl rfl rfl ⟨rfl, hz_yX13_isDigit_0⟩ ⟨(show 0 + 1 ≤ 7 * n + 5 from nl_1 (Nat.le_of_ble_eq_true rfl)), (show 8 + (1 + 11) + 40 * (0) ≤ 40 * (7 * n + 5) from nl_2 (Nat.le_of_ble_eq_true rfl))⟩) ⟨HW_bl, va_recv hK hP (ci := 14) (q0 := 0) rfl (hI.ob 0 (Nat.le_of_ble_eq_true rfl) rfl), (HW_wi hP hK (WX_D hD) hS hA hEV)⟩ rfl rfl hl.1 rfl (lv_room (Nat.le_of_ble_eq_true rfl)) dX13_atom_81 ⟨Nat.le_of_ble_eq_true rfl, Nat.le_of_ble_eq_true rfl⟩) hS hP (fun r110 H locs hw hP hS => ?_)
        rcases hw with hw | hw
        · -- isDigitX, case 0
          obtain ⟨rfl, f111, f112⟩ := hw
          try rw [(show xi (E5 0) 21 = y7 from vi_e fy7)] at f111
          try rw [hKp.ei 0 20 rfl] at f111
          refine lv_if_ne (tgt := 92) hx hb dX13_atom_84 (by decide) (fun c113 => ?_) (fun c113 => ?_)
          · --84 taken
            refine lv_iconst (v := 0) hx hb dX13_atom_92 (by decide) ?_
            refine lv_istore_n (lv' := [(2, .int 0), (1, .int r4), (0, .ref (ad 0))]) hx hb dX13_atom_93 rfl hl (by decide) rfl (fun ls hl => ?_)
            refine lv_iconst (v := 0) hx hb dX13_atom_94 (by decide) ?_
            refine lv_istore_n (lv' := [(3, .int 0), (2, .int 0), (1, .int r4), (0, .ref (ad 0))]) hx hb dX13_atom_95 rfl hl (by decide) rfl (fun ls hl => ?_)
            have hL96 : ∀ d : Nat, ∀ (w96_0_21 : Int32) (w96_0_22 : Int32) (w96_0_23 : Int32) (v96_3 : Int32) (v96_2 : Int32) (E96_ : Nat → va_E) (H : Heap) (locs : List Loc) (ls : Array Slot), 0 ≤ w96_0_21.toInt ∧ w96_0_21.toInt ≤ 201 → -1 ≤ w96_0_22.toInt ∧ w96_0_22.toInt ≤ 201 → 0 ≤ w96_0_23.toInt ∧ w96_0_23.toInt ≤ 8 → y1.toInt ≤ w96_0_21.toInt → y3.toInt ≤ w96_0_23.toInt → (w96_0_22.toInt = -1 → w96_0_23.toInt = y3.toInt) → (w96_0_22.toInt = -1 → y2.toInt = -1) → NumM k v96_3 E5 E96_ → (0 ≤ v96_3.toInt ∧ v96_3.toInt ≤ 5) → 201 - w96_0_21.toInt < (d : Int) → IX cT shM spM 72 ad E96_ → Kp w_atomX E E96_ → xv (E96_ 0) 21 = .int w96_0_21 → xv (E96_ 0) 22 = .int w96_0_22 → xv (E96_ 0) 23 = .int w96_0_23 → va_P (dC, dI) vwCl (WX 72 ad E96_) H → va_S A s.heap H locs → lv_has ls 4 [(3, .int v96_3), (2, .int v96_2), (1, .int r4), (0, .ref (ad 0))] → W p l e (headSpec v_atomX (rm_atomX n)).room s m args below meth c H locs 0 0 Q (F0 m 96 ls []) := by
              intro d
              induction d with
              | zero =>
                intro w96_0_21 w96_0_22 w96_0_23 v96_3 v96_2 E96_ H locs ls hw96_0_21 hw96_0_22 hw96_0_23 hx96_0 hx96_1 hx96_2 hx96_3 hx96_4 hx96_5 hx96_6 hI hKp hs96_0_21 hs96_0_22 hs96_0_23 hP hS hl
                exact absurd hx96_6 (by first | exact ms_zu hw96_0_21.2 | omega)
              | succ d ih96 =>
                intro w96_0_21 w96_0_22 w96_0_23 v96_3 v96_2 E96_ H locs ls hw96_0_21 hw96_0_22 hw96_0_23 hx96_0 hx96_1 hx96_2 hx96_3 hx96_4 hx96_5 hx96_6 hI hKp hs96_0_21 hs96_0_22 hs96_0_23 hP hS hl
                refine lv_aload_n hx hb dX13_atom_96 rfl (lv_at hl 3 rfl) ?_
                refine th_ri (va_runV (As := []) (rest := []) ⟨hx, hb, hml, hown, hts⟩ (q_isDigitX l dC dI cT ad E96_ H.size k nl hI (by exact hh0) (by exact hh1) (by exact hh2) (by exact (hKp 0 18 rfl).trans hh3) (by (try rw [hKp.ei 0 19 rfl]); exact hh4)) (cwV 0 hts (gi_V (in_26 _ (zs16 (zs4 (zs1 (zs1 (zs1 (zs0))))))) (in_26 _ (zs16 (zs4 (zs4 (zs0))))) (in_26 _ (zs16 (zs4 (zs4 (zs1 (zs0)))))) (in_24 _ (zs4 (zs4 (zs4 (zs1 (zs1 (zs1 (zs0)))))))) (in_26 _ (zs16 (zs4 (zs4 (zs1 (zs1 (zs0)))))))) rfl rfl rfl ⟨rfl, hz_yX13_isDigit_0⟩ ⟨(show 0 + 1 ≤ 7 * n + 5 from nl_1 (Nat.le_of_ble_eq_true rfl)), (show 8 + (1 + 11) + 40 * (0) ≤ 40 * (7 * n + 5) from nl_2 (Nat.le_of_ble_eq_true rfl))⟩) ⟨HW_bl, va_recv hK hP (ci := 14) (q0 := 0) rfl (hI.ob 0 (Nat.le_of_ble_eq_true rfl) rfl), (HW_wi hP hK (WX_D hD) hS hA hEV)⟩ rfl rfl hl.1 rfl (lv_room (Nat.le_of_ble_eq_true rfl)) dX13_atom_97 ⟨Nat.le_of_ble_eq_true rfl, Nat.le_of_ble_eq_true rfl⟩) hS hP (fun r114 H locs hw hP hS => ?_)
                rcases hw with hw | hw
                · -- isDigitX, case 0
                  obtain ⟨rfl, f115, f116⟩ := hw
                  try rw [(show xi (E96_ 0) 21 = w96_0_21 from vi_e hs96_0_21)] at f115
                  try rw [hKp.ei 0 20 rfl] at f115
                  refine lv_if_eq (tgt := 162) hx hb dX13_atom_100 (by decide) (fun c117 => ?_) (fun c117 => ?_)
                  · --100 taken
                    exact absurd c117 (by decide)
                  · --100 not
                    refine lv_aload_n hx hb dX13_atom_103 rfl (lv_at hl 3 rfl) ?_
                    refine th_get (ci := 14) (C := RX13) (T := TX13) (N := 97) (v := .int w96_0_22) hx hb hts hinX13 hown hK hP hI 0 (Nat.le_of_ble_eq_true rfl) rfl rfl 22 (Nat.le_of_ble_eq_true rfl) (hts _ (vA_in _ _ (in_25 _ (zs16 (zs16 (zs4 (zs1 (zs1 (zs1 (zs0)))))))))) (fun _ h9 => h9) hs96_0_22 dX13_atom_104 ?_
                    refine lv_iconst (v := -1) hx hb dX13_atom_107 (by decide) ?_
                    refine lv_icmp_ne (tgt := 162) hx hb dX13_atom_108 (by decide) (fun c118 => ?_) (fun c118 => ?_)
                    · --108 taken
                      have t119 : ¬ w96_0_22.toInt = -1 := ti_ne c118
                      have i120 : 0 ≤ w96_0_22.toInt ∧ w96_0_22.toInt ≤ 201 := iv_ne_l t119 hw96_0_22 (il_ (-1))
                      refine lv_iload_n hx hb dX13_atom_162 rfl (lv_at hl 1 rfl) ?_
                      rw [hQ]
                      exact W.iret (v := v96_2) hx hb hr (fun t ht hW => ⟨⟨v96_2, E96_, rfl, ⟨hI, hKp, ⟨by (try rw [(show xi (E96_ 0) 21 = w96_0_21 from vi_e hs96_0_21)]); (try rw [ey1]); first | done | exact hx96_0 | all_goals omega, by (try rw [(show xi (E96_ 0) 23 = w96_0_23 from vi_e hs96_0_23)]); (try rw [ey3]); first | done | exact hx96_1 | all_goals omega, by (try rw [(show xi (E96_ 0) 22 = w96_0_22 from vi_e hs96_0_22)]); (try rw [(show xi (E96_ 0) 23 = w96_0_23 from vi_e hs96_0_23)]); (try rw [ey2]); (try rw [ey3]); first | done | exact fun q9 => absurd (q9) t119 | all_goals omega, by (try rw [(show xi (E96_ 0) 22 = w96_0_22 from vi_e hs96_0_22)]); (try rw [ey2]); first | done | exact fun q9 => absurd (q9) t119 | all_goals omega, absurd (hx96_4.2.1.trans (by show (xi (E5 0) 22).toInt = -1; rw [show xi (E5 0) 22 = y2 from vi_e ((kq6 0 22 rfl).trans fy2)]; omega)) (by show ¬ (xi (E96_ 0) 22).toInt = -1; rw [show xi (E96_ 0) 22 = w96_0_22 from vi_e hs96_0_22]; omega)⟩⟩, by show va_P (dC, dI) vwCl (WX 72 ad E96_) t.heap; rw [ht]; exact hP⟩, hS.F ht⟩) hS.2.2 dX13_atom_163
                    · --108 not
                      have t121 : w96_0_22.toInt = -1 := ti_eq c118
                      have i122 : -1 ≤ w96_0_22.toInt ∧ w96_0_22.toInt ≤ -1 := iv_eqi t121 hw96_0_22 (il_ (-1)) (by decide)
                      refine lv_iload_n hx hb dX13_atom_111 rfl (lv_at hl 0 rfl) ?_
                      refine lv_iconst (v := 5) hx hb dX13_atom_112 (by decide) ?_
                      refine lv_icmp_ne (tgt := 123) hx hb dX13_atom_113 (by decide) (fun c123 => ?_) (fun c123 => ?_)
                      · --113 taken
                        have t124 : ¬ v96_3.toInt = 5 := ti_ne c123
                        refine lv_bipush (v := 10) hx hb dX13_atom_123 (by decide) ?_
                        refine lv_iload_n hx hb dX13_atom_125 rfl (lv_at hl 1 rfl) ?_
                        refine lv_imul hx hb dX13_atom_126 ?_
                        refine lv_topi (fun y125 ey125 => ?_)
                        refine lv_aload_n hx hb dX13_atom_127 rfl (lv_at hl 3 rfl) ?_
                        refine th_get (ci := 14) (C := RX13) (T := TX13) (N := 97) (v := .ref (ad k)) hx hb hts hinX13 hown hK hP hI 0 (Nat.le_of_ble_eq_true rfl) rfl rfl 18 (Nat.le_of_ble_eq_true rfl) (hts _ (vA_in _ _ (in_26 _ zs0))) (fun _ h9 => h9) ((hKp 0 18 rfl).trans hh3) dX13_atom_128 ?_
                        refine lv_aload_n hx hb dX13_atom_131 rfl (lv_at hl 3 rfl) ?_
                        refine th_get (ci := 14) (C := RX13) (T := TX13) (N := 97) (v := .int (xi (E 0) 19)) hx hb hts hinX13 hown hK hP hI 0 (Nat.le_of_ble_eq_true rfl) rfl rfl 19 (Nat.le_of_ble_eq_true rfl) (hts _ (vA_in _ _ (in_26 _ (zs1 (zs0))))) (fun _ h9 => h9) (th_v0 hKp hI0 0 (Nat.le_of_ble_eq_true rfl) rfl (Nat.le_of_ble_eq_true rfl) rfl rfl) dX13_atom_132 ?_
                        refine lv_aload_n hx hb dX13_atom_135 rfl (lv_at hl 3 rfl) ?_
                        refine th_get (ci := 14) (C := RX13) (T := TX13) (N := 97) (v := .int w96_0_21) hx hb hts hinX13 hown hK hP hI 0 (Nat.le_of_ble_eq_true rfl) rfl rfl 21 (Nat.le_of_ble_eq_true rfl) (hts _ (vA_in _ _ (in_25 _ (zs16 (zs16 (zs4 (zs0))))))) (fun _ h9 => h9) hs96_0_21 dX13_atom_136 ?_
                        refine lv_iadd hx hb dX13_atom_139 ?_
                        refine lv_topi (fun y126 ey126 => ?_)
                        obtain ⟨ty126, iy126⟩ := ti_add (e := 0) (f := 3201) i13 hw96_0_21 ey126 (by decide)
                        have ty126 : y126.toInt = (xi (E 0) 19).toInt + w96_0_21.toInt := ty126
                        have iy126 : 0 ≤ y126.toInt ∧ y126.toInt ≤ 3201 := iy126
                        have n128 : vp_in y126 nl := (vp_in_iff.mpr ⟨by omega, by omega⟩)
                        refine th_bald hx hb hK hP hI k hh0 hh1 rfl n128 dX13_atom_140 (fun y127 ey127 => ?_)
                        have iy127 : -128 ≤ y127.toInt ∧ y127.toInt ≤ 127 := hI.el k hh0 hh1 n128 hh2 ey127
                        refine lv_iadd hx hb dX13_atom_141 ?_
                        refine lv_topi (fun y129 ey129 => ?_)
                        refine lv_bipush (v := 48) hx hb dX13_atom_142 (by decide) ?_
                        refine lv_isub hx hb dX13_atom_144 ?_
                        refine lv_topi (fun y130 ey130 => ?_)
                        refine lv_istore_n (lv' := [(2, .int y130), (3, .int v96_3), (1, .int r4), (0, .ref (ad 0))]) hx hb dX13_atom_145 rfl hl (by decide) rfl (fun ls hl => ?_)
                        refine lv_aload_n hx hb dX13_atom_146 rfl (lv_at hl 3 rfl) ?_
                        refine lv_dup hx hb dX13_atom_147 rfl ?_
                        refine th_get (ci := 14) (C := RX13) (T := TX13) (N := 97) (v := .int w96_0_21) hx hb hts hinX13 hown hK hP hI 0 (Nat.le_of_ble_eq_true rfl) rfl rfl 21 (Nat.le_of_ble_eq_true rfl) (hts _ (vA_in _ _ (in_25 _ (zs16 (zs16 (zs4 (zs0))))))) (fun _ h9 => h9) hs96_0_21 dX13_atom_148 ?_
                        refine lv_iconst (v := 1) hx hb dX13_atom_151 (by decide) ?_
                        refine lv_iadd hx hb dX13_atom_152 ?_
                        refine lv_topi (fun y131 ey131 => ?_)
                        obtain ⟨ty131, iy131⟩ := ti_add (e := 1) (f := 202) hw96_0_21 ln_1 ey131 (by decide)
                        have ty131 : y131.toInt = w96_0_21.toInt + 1 := ty131
                        have iy131 : 1 ≤ y131.toInt ∧ y131.toInt ≤ 202 := iy131
                        have i132 : 1 ≤ y131.toInt ∧ y131.toInt ≤ 201 := by omega
                        refine th_put (ci := 14) (C := RX13) (T := TX13) (N := 97) (v := .int y131) (ty := .int) hx hb hts hinX13 tyX13 tyX13_ok nmX13 hown hK hP (WX_D hD) hS hI 0 (Nat.le_of_ble_eq_true rfl) rfl rfl 21 (Nat.le_of_ble_eq_true rfl) (hts _ (vA_in _ _ (in_25 _ (zs16 (zs16 (zs4 (zs0))))))) (fun _ h9 => h9) rfl (by decide +kernel) rfl rfl (okI rfl (iv_w i132 (by decide))) dX13_atom_153 (fun H locs E133 pw134 hI hP hS => ?_)
                        have hKp := hKp.pw pw134 rfl
                        have k135 : AtM k E96_ E133 := AtM.pw pw134.2 hk0 (vi_e hs96_0_21) (vi_e pw134.1) ty131 (by omega)
                        obtain ⟨y136, ey136⟩ : ∃ y : Int32, y = v96_3 + (1 : Int32) := ⟨_, rfl⟩
                        refine lv_iinc (v := y136) (lv' := [(3, .int y136), (2, .int y130), (1, .int r4), (0, .ref (ad 0))]) hx hb dX13_atom_156 hl (k := 1) rfl (by rw [ey136]; rfl) (by decide) rfl (fun ls hl => ?_)
                        refine lv_goto (tgt := 96) hx hb dX13_atom_159 (by decide) ?_
                        exact ih96 y131 w96_0_22 w96_0_23 y136 y130 E133 _ _ _ (iv_w i132 (by decide)) (iv_w i122 (by decide)) hw96_0_23 (by  first | exact (Int.le_trans hx96_0 (Int.le_trans (Int.le_add_of_nonneg_right (by decide)) (Int.le_of_eq ty131.symm))) | omega) (by  first | exact hx96_1 | omega) (by  first | exact fun q9 => (hx96_2 (q9)) | omega) (by  first | exact fun q9 => hx96_3 (q9) | omega) (hx96_4.step k135 f116 (by omega) (show y136.toInt = v96_3.toInt + 1 from (ti_add (a := 0) (b := 4) (c := 1) (d := 1) (e := 1) (f := 5) ⟨by omega, by omega⟩ (by decide) ey136 (by decide)).1)) (by have t9 := (show y136.toInt = v96_3.toInt + 1 from (ti_add (a := 0) (b := 4) (c := 1) (d := 1) (e := 1) (f := 5) ⟨by omega, by omega⟩ (by decide) ey136 (by decide)).1); omega) (by omega) hI hKp pw134.1 ((pw134.2 0 22 (fun q9 => absurd q9.2 (Nat.ne_of_beq_eq_false rfl))).trans hs96_0_22) ((pw134.2 0 23 (fun q9 => absurd q9.2 (Nat.ne_of_beq_eq_false rfl))).trans hs96_0_23) hP hS (lv_sub hl [0, 1, 2, 3] rfl)
                      · --113 not
                        have t137 : v96_3.toInt = 5 := ti_eq c123
                        have i138 : 5 ≤ v96_3.toInt ∧ v96_3.toInt ≤ 5 := iv_eqi t137 (iv_all _) (il_ 5) (by decide)
                        refine lv_aload_n hx hb dX13_atom_116 rfl (lv_at hl 3 rfl) ?_
                        refine th_i (va_runV (As := []) (rest := []) ⟨hx, hb, hml, hown, hts⟩ (q_stopX l dC dI cT ad E96_ H.size k nl hI (by exact hh0) (by exact hh1) (by exact hh2) (by exact (hKp 0 18 rfl).trans hh3) (by (try rw [hKp.ei 0 19 rfl]); exact hh4)) (cwV 0 hts (gi_V (in_26 _ (zs4 (zs4 (zs4 (zs0))))) (in_26 _ (zs4 (zs4 (zs4 (zs1 (zs0)))))) (in_26 _ (zs4 (zs4 (zs4 (zs1 (zs1 (zs0))))))) (in_24 _ (zs4 (zs4 (zs4 (zs1 (zs1 (zs1 (zs0)))))))) (in_26 _ (zs4 (zs4 (zs4 (zs1 (zs1 (zs1 (zs0))))))))) rfl rfl rfl ⟨rfl, hz_yX13_stop_0⟩ ⟨(show 0 + 1 ≤ 7 * n + 5 from nl_1 (Nat.le_of_ble_eq_true rfl)), (show 8 + (1 + 11) + 40 * (0) ≤ 40 * (7 * n + 5) from nl_2 (Nat.le_of_ble_eq_true rfl))⟩) ⟨HW_bl, va_recv hK hP (ci := 14) (q0 := 0) rfl (hI.ob 0 (Nat.le_of_ble_eq_true rfl) rfl), (HW_wi hP hK (WX_D hD) hS hA hEV)⟩ rfl rfl hl.1 rfl (lv_room (Nat.le_of_ble_eq_true rfl)) dX13_atom_117 ⟨Nat.le_of_ble_eq_true rfl, Nat.le_of_ble_eq_true rfl⟩) (WX_D hD) hS hA (fun r139 E140 H locs hw hP hS => ?_)
                        obtain ⟨hI, kq141, hw⟩ := hw
                        have hKb := hKp
                        have hKp := hKp.tr kq141 (wl_sub rfl rfl)
                        obtain ⟨y142, ey142⟩ : ∃ y, xi (E140 0) 22 = y := ⟨_, rfl⟩
                        have fy142 : xv (E140 0) 22 = .int y142 := (hI.fi 0 (Nat.le_of_ble_eq_true rfl) rfl (Nat.le_of_ble_eq_true rfl) rfl).trans (congrArg Value.int ey142)
                        have iy142 : -1 ≤ y142.toInt ∧ y142.toInt ≤ 201 := by rw [← ey142]; exact hI.iv 0 (Nat.le_of_ble_eq_true rfl) rfl (Nat.le_of_ble_eq_true rfl) rfl
                        obtain ⟨rfl, f143, f144⟩ := hw
                        try rw [(show xi (E96_ 0) 22 = w96_0_22 from vi_e hs96_0_22)] at f143
                        try rw [(show xi (E140 0) 22 = y142 from vi_e fy142)] at f143
                        refine lv_pop hx hb dX13_atom_120 rfl ?_
                        refine lv_iconst (v := 0) hx hb dX13_atom_121 (by decide) ?_
                        rw [hQ]
                        exact W.iret (v := 0) hx hb hr (fun t ht hW => ⟨⟨0, E140, rfl, ⟨hI, hKp, ⟨by (try rw [(show xi (E140 0) 21 = w96_0_21 from vi_e ((kq141 0 21 rfl).trans hs96_0_21))]); (try rw [ey1]); first | done | exact hx96_0 | have h8 := ln_0; all_goals omega, by (try rw [(show xi (E140 0) 23 = w96_0_23 from vi_e ((kq141 0 23 rfl).trans hs96_0_23))]); (try rw [ey3]); first | done | exact hx96_1 | have h8 := ln_0; all_goals omega, by (try rw [(show xi (E140 0) 22 = y142 from vi_e fy142)]); (try rw [(show xi (E140 0) 23 = w96_0_23 from vi_e ((kq141 0 23 rfl).trans hs96_0_23))]); (try rw [ey2]); (try rw [ey3]); first | done | exact fun q9 => absurd (q9) f143 | have h8 := ln_0; all_goals omega, by (try rw [(show xi (E140 0) 22 = y142 from vi_e fy142)]); (try rw [ey2]); first | done | exact fun q9 => absurd (q9) f143 | have h8 := ln_0; all_goals omega, atM_num f12 (pkM_d f12 (by show (xi (E 0) 22).toInt = -1; rw [ey2]; omega) f112) (hx96_4.six f144 (by omega) f116)⟩⟩, by show va_P (dC, dI) vwCl (WX 72 ad E140) t.heap; rw [ht]; exact hP⟩, hS.F ht⟩) hS.2.2 dX13_atom_122
                · -- isDigitX, case 1
                  obtain ⟨rfl, f145⟩ := hw
                  refine lv_if_eq (tgt := 162) hx hb dX13_atom_100 (by decide) (fun c146 => ?_) (fun c146 => ?_)
                  · --100 taken
                    refine lv_iload_n hx hb dX13_atom_162 rfl (lv_at hl 1 rfl) ?_
                    rw [hQ]
                    exact W.iret (v := v96_2) hx hb hr (fun t ht hW => ⟨⟨v96_2, E96_, rfl, ⟨hI, hKp, ⟨by (try rw [(show xi (E96_ 0) 21 = w96_0_21 from vi_e hs96_0_21)]); (try rw [ey1]); first | done | exact hx96_0 | all_goals omega, by (try rw [(show xi (E96_ 0) 23 = w96_0_23 from vi_e hs96_0_23)]); (try rw [ey3]); first | done | exact hx96_1 | all_goals omega, by (try rw [(show xi (E96_ 0) 22 = w96_0_22 from vi_e hs96_0_22)]); (try rw [(show xi (E96_ 0) 23 = w96_0_23 from vi_e hs96_0_23)]); (try rw [ey2]); (try rw [ey3]); first | done | exact fun q9 => (hx96_2 (q9)) | all_goals omega, by (try rw [(show xi (E96_ 0) 22 = w96_0_22 from vi_e hs96_0_22)]); (try rw [ey2]); first | done | exact fun q9 => hx96_3 (q9) | all_goals omega, atM_num f12 (pkM_d f12 (by show (xi (E 0) 22).toInt = -1; rw [ey2]; omega) f112) (hx96_4.out f145)⟩⟩, by show va_P (dC, dI) vwCl (WX 72 ad E96_) t.heap; rw [ht]; exact hP⟩, hS.F ht⟩) hS.2.2 dX13_atom_163
                  · --100 not
                    exact absurd c146 (by decide)
            exact hL96 (202) y7 y2 y3 (0 : Int32) (0 : Int32) E5 _ _ _ iy7 iy2 iy3 (by  first | exact f9 | omega) (by  first | exact Int.le_refl _ | omega) (by  first | exact fun q9 => rfl | omega) (by  first | exact fun q9 => q9 | omega) NumM.rf (by decide) (by have h9 := iy7; first | exact ms_bu h9.1 (by decide) | omega) hI hKp fy7 ((kq6 0 22 rfl).trans fy2) ((kq6 0 23 rfl).trans fy3) hP hS (lv_sub hl [0, 1, 2, 3] rfl)
          · --84 not
            exact absurd c113 (by decide)
        · -- isDigitX, case 1
          obtain ⟨rfl, f147⟩ := hw
          refine lv_if_ne (tgt := 92) hx hb dX13_atom_84 (by decide) (fun c148 => ?_) (fun c148 => ?_)
          · --84 taken
            exact absurd c148 (by decide)
          · --84 not
            refine lv_aload_n hx hb dX13_atom_87 rfl (lv_at hl 1 rfl) ?_
            refine th_i (va_runV (As := []) (rest := []) ⟨hx, hb, hml, hown, hts⟩ (q_stopX l dC dI cT ad E5 H.size k nl hI (by exact hh0) (by exact hh1) (by exact hh2) (by exact (hKp 0 18 rfl).trans hh3) (by (try rw [hKp.ei 0 19 rfl]); exact hh4)) (cwV 0 hts (gi_V (in_26 _ (zs4 (zs4 (zs4 (zs0))))) (in_26 _ (zs4 (zs4 (zs4 (zs1 (zs0)))))) (in_26 _ (zs4 (zs4 (zs4 (zs1 (zs1 (zs0))))))) (in_24 _ (zs4 (zs4 (zs4 (zs1 (zs1 (zs1 (zs0)))))))) (in_26 _ (zs4 (zs4 (zs4 (zs1 (zs1 (zs1 (zs0))))))))) rfl rfl rfl ⟨rfl, hz_yX13_stop_0⟩ ⟨(show 0 + 1 ≤ 7 * n + 5 from nl_1 (Nat.le_of_ble_eq_true rfl)), (show 8 + (1 + 11) + 40 * (0) ≤ 40 * (7 * n + 5) from nl_2 (Nat.le_of_ble_eq_true rfl))⟩) ⟨HW_bl, va_recv hK hP (ci := 14) (q0 := 0) rfl (hI.ob 0 (Nat.le_of_ble_eq_true rfl) rfl), (HW_wi hP hK (WX_D hD) hS hA hEV)⟩ rfl rfl hl.1 rfl (lv_room (Nat.le_of_ble_eq_true rfl)) dX13_atom_88 ⟨Nat.le_of_ble_eq_true rfl, Nat.le_of_ble_eq_true rfl⟩) (WX_D hD) hS hA (fun r149 E150 H locs hw hP hS => ?_)
            obtain ⟨hI, kq151, hw⟩ := hw
            have hKb := hKp
            have hKp := hKp.tr kq151 (wl_sub rfl rfl)
            obtain ⟨y152, ey152⟩ : ∃ y, xi (E150 0) 22 = y := ⟨_, rfl⟩
            have fy152 : xv (E150 0) 22 = .int y152 := (hI.fi 0 (Nat.le_of_ble_eq_true rfl) rfl (Nat.le_of_ble_eq_true rfl) rfl).trans (congrArg Value.int ey152)
            have iy152 : -1 ≤ y152.toInt ∧ y152.toInt ≤ 201 := by rw [← ey152]; exact hI.iv 0 (Nat.le_of_ble_eq_true rfl) rfl (Nat.le_of_ble_eq_true rfl) rfl
            obtain ⟨rfl, f153, f154⟩ := hw
            try rw [(show xi (E5 0) 22 = y2 from vi_e ((kq6 0 22 rfl).trans fy2))] at f153
            try rw [(show xi (E150 0) 22 = y152 from vi_e fy152)] at f153
            refine lv_pop hx hb dX13_atom_91 rfl ?_
            refine lv_iconst (v := 0) hx hb dX13_atom_92 (by decide) ?_
            refine lv_istore_n (lv' := [(2, .int 0), (1, .int r4), (0, .ref (ad 0))]) hx hb dX13_atom_93 rfl hl (by decide) rfl (fun ls hl => ?_)
            refine lv_iconst (v := 0) hx hb dX13_atom_94 (by decide) ?_
            refine lv_istore_n (lv' := [(3, .int 0), (2, .int 0), (1, .int r4), (0, .ref (ad 0))]) hx hb dX13_atom_95 rfl hl (by decide) rfl (fun ls hl => ?_)
            have hL96 : ∀ d : Nat, ∀ (w96_0_21 : Int32) (w96_0_22 : Int32) (w96_0_23 : Int32) (v96_3 : Int32) (v96_2 : Int32) (E96_ : Nat → va_E) (H : Heap) (locs : List Loc) (ls : Array Slot), 0 ≤ w96_0_21.toInt ∧ w96_0_21.toInt ≤ 201 → -1 ≤ w96_0_22.toInt ∧ w96_0_22.toInt ≤ 201 → 0 ≤ w96_0_23.toInt ∧ w96_0_23.toInt ≤ 8 → y1.toInt ≤ w96_0_21.toInt → y3.toInt ≤ w96_0_23.toInt → (w96_0_22.toInt = -1 → w96_0_23.toInt = y3.toInt) → (w96_0_22.toInt = -1 → y2.toInt = -1) → NumM k v96_3 E150 E96_ → (0 ≤ v96_3.toInt ∧ v96_3.toInt ≤ 5) → 201 - w96_0_21.toInt < (d : Int) → IX cT shM spM 72 ad E96_ → Kp w_atomX E E96_ → xv (E96_ 0) 21 = .int w96_0_21 → xv (E96_ 0) 22 = .int w96_0_22 → xv (E96_ 0) 23 = .int w96_0_23 → va_P (dC, dI) vwCl (WX 72 ad E96_) H → va_S A s.heap H locs → lv_has ls 4 [(3, .int v96_3), (2, .int v96_2), (1, .int r4), (0, .ref (ad 0))] → W p l e (headSpec v_atomX (rm_atomX n)).room s m args below meth c H locs 0 0 Q (F0 m 96 ls []) := by
              intro d
              induction d with
              | zero =>
                intro w96_0_21 w96_0_22 w96_0_23 v96_3 v96_2 E96_ H locs ls hw96_0_21 hw96_0_22 hw96_0_23 hx96_0 hx96_1 hx96_2 hx96_3 hx96_4 hx96_5 hx96_6 hI hKp hs96_0_21 hs96_0_22 hs96_0_23 hP hS hl
                exact absurd hx96_6 (by first | exact ms_zu hw96_0_21.2 | omega)
              | succ d ih96 =>
                intro w96_0_21 w96_0_22 w96_0_23 v96_3 v96_2 E96_ H locs ls hw96_0_21 hw96_0_22 hw96_0_23 hx96_0 hx96_1 hx96_2 hx96_3 hx96_4 hx96_5 hx96_6 hI hKp hs96_0_21 hs96_0_22 hs96_0_23 hP hS hl
                refine lv_aload_n hx hb dX13_atom_96 rfl (lv_at hl 3 rfl) ?_
                refine th_ri (va_runV (As := []) (rest := []) ⟨hx, hb, hml, hown, hts⟩ (q_isDigitX l dC dI cT ad E96_ H.size k nl hI (by exact hh0) (by exact hh1) (by exact hh2) (by exact (hKp 0 18 rfl).trans hh3) (by (try rw [hKp.ei 0 19 rfl]); exact hh4)) (cwV 0 hts (gi_V (in_26 _ (zs16 (zs4 (zs1 (zs1 (zs1 (zs0))))))) (in_26 _ (zs16 (zs4 (zs4 (zs0))))) (in_26 _ (zs16 (zs4 (zs4 (zs1 (zs0)))))) (in_24 _ (zs4 (zs4 (zs4 (zs1 (zs1 (zs1 (zs0)))))))) (in_26 _ (zs16 (zs4 (zs4 (zs1 (zs1 (zs0)))))))) rfl rfl rfl ⟨rfl, hz_yX13_isDigit_0⟩ ⟨(show 0 + 1 ≤ 7 * n + 5 from nl_1 (Nat.le_of_ble_eq_true rfl)), (show 8 + (1 + 11) + 40 * (0) ≤ 40 * (7 * n + 5) from nl_2 (Nat.le_of_ble_eq_true rfl))⟩) ⟨HW_bl, va_recv hK hP (ci := 14) (q0 := 0) rfl (hI.ob 0 (Nat.le_of_ble_eq_true rfl) rfl), (HW_wi hP hK (WX_D hD) hS hA hEV)⟩ rfl rfl hl.1 rfl (lv_room (Nat.le_of_ble_eq_true rfl)) dX13_atom_97 ⟨Nat.le_of_ble_eq_true rfl, Nat.le_of_ble_eq_true rfl⟩) hS hP (fun r155 H locs hw hP hS => ?_)
                rcases hw with hw | hw
                · -- isDigitX, case 0
                  obtain ⟨rfl, f156, f157⟩ := hw
                  try rw [(show xi (E96_ 0) 21 = w96_0_21 from vi_e hs96_0_21)] at f156
                  try rw [hKp.ei 0 20 rfl] at f156
                  refine lv_if_eq (tgt := 162) hx hb dX13_atom_100 (by decide) (fun c158 => ?_) (fun c158 => ?_)
                  · --100 taken
                    exact absurd c158 (by decide)
                  · --100 not
                    refine lv_aload_n hx hb dX13_atom_103 rfl (lv_at hl 3 rfl) ?_
                    refine th_get (ci := 14) (C := RX13) (T := TX13) (N := 97) (v := .int w96_0_22) hx hb hts hinX13 hown hK hP hI 0 (Nat.le_of_ble_eq_true rfl) rfl rfl 22 (Nat.le_of_ble_eq_true rfl) (hts _ (vA_in _ _ (in_25 _ (zs16 (zs16 (zs4 (zs1 (zs1 (zs1 (zs0)))))))))) (fun _ h9 => h9) hs96_0_22 dX13_atom_104 ?_
                    refine lv_iconst (v := -1) hx hb dX13_atom_107 (by decide) ?_
                    refine lv_icmp_ne (tgt := 162) hx hb dX13_atom_108 (by decide) (fun c159 => ?_) (fun c159 => ?_)
                    · --108 taken
                      have t160 : ¬ w96_0_22.toInt = -1 := ti_ne c159
                      have i161 : 0 ≤ w96_0_22.toInt ∧ w96_0_22.toInt ≤ 201 := iv_ne_l t160 hw96_0_22 (il_ (-1))
                      refine lv_iload_n hx hb dX13_atom_162 rfl (lv_at hl 1 rfl) ?_
                      rw [hQ]
                      exact W.iret (v := v96_2) hx hb hr (fun t ht hW => ⟨⟨v96_2, E96_, rfl, ⟨hI, hKp, ⟨by (try rw [(show xi (E96_ 0) 21 = w96_0_21 from vi_e hs96_0_21)]); (try rw [ey1]); first | done | exact hx96_0 | all_goals omega, by (try rw [(show xi (E96_ 0) 23 = w96_0_23 from vi_e hs96_0_23)]); (try rw [ey3]); first | done | exact hx96_1 | all_goals omega, by (try rw [(show xi (E96_ 0) 22 = w96_0_22 from vi_e hs96_0_22)]); (try rw [(show xi (E96_ 0) 23 = w96_0_23 from vi_e hs96_0_23)]); (try rw [ey2]); (try rw [ey3]); first | done | exact fun q9 => absurd (q9) t160 | all_goals omega, by (try rw [(show xi (E96_ 0) 22 = w96_0_22 from vi_e hs96_0_22)]); (try rw [ey2]); first | done | exact fun q9 => absurd (q9) t160 | all_goals omega, (atM_no f12 (pkM_n f12 (by show (xi (E 0) 22).toInt = -1; rw [ey2]; omega) f147) (fun q9 => by have q8 := ix_let.mpr q9; rw [← f104] at q8; omega) (by omega) f154).fk (by show ¬ (xi (E150 0) 22).toInt = -1; rw [show xi (E150 0) 22 = y152 from vi_e fy152]; omega) hx96_4⟩⟩, by show va_P (dC, dI) vwCl (WX 72 ad E96_) t.heap; rw [ht]; exact hP⟩, hS.F ht⟩) hS.2.2 dX13_atom_163
                    · --108 not
                      have t162 : w96_0_22.toInt = -1 := ti_eq c159
                      have i163 : -1 ≤ w96_0_22.toInt ∧ w96_0_22.toInt ≤ -1 := iv_eqi t162 hw96_0_22 (il_ (-1)) (by decide)
                      refine lv_iload_n hx hb dX13_atom_111 rfl (lv_at hl 0 rfl) ?_
                      refine lv_iconst (v := 5) hx hb dX13_atom_112 (by decide) ?_
                      refine lv_icmp_ne (tgt := 123) hx hb dX13_atom_113 (by decide) (fun c164 => ?_) (fun c164 => ?_)
                      · --113 taken
                        have t165 : ¬ v96_3.toInt = 5 := ti_ne c164
                        refine lv_bipush (v := 10) hx hb dX13_atom_123 (by decide) ?_
                        refine lv_iload_n hx hb dX13_atom_125 rfl (lv_at hl 1 rfl) ?_
                        refine lv_imul hx hb dX13_atom_126 ?_
                        refine lv_topi (fun y166 ey166 => ?_)
                        refine lv_aload_n hx hb dX13_atom_127 rfl (lv_at hl 3 rfl) ?_
                        refine th_get (ci := 14) (C := RX13) (T := TX13) (N := 97) (v := .ref (ad k)) hx hb hts hinX13 hown hK hP hI 0 (Nat.le_of_ble_eq_true rfl) rfl rfl 18 (Nat.le_of_ble_eq_true rfl) (hts _ (vA_in _ _ (in_26 _ zs0))) (fun _ h9 => h9) ((hKp 0 18 rfl).trans hh3) dX13_atom_128 ?_
                        refine lv_aload_n hx hb dX13_atom_131 rfl (lv_at hl 3 rfl) ?_
                        refine th_get (ci := 14) (C := RX13) (T := TX13) (N := 97) (v := .int (xi (E 0) 19)) hx hb hts hinX13 hown hK hP hI 0 (Nat.le_of_ble_eq_true rfl) rfl rfl 19 (Nat.le_of_ble_eq_true rfl) (hts _ (vA_in _ _ (in_26 _ (zs1 (zs0))))) (fun _ h9 => h9) (th_v0 hKp hI0 0 (Nat.le_of_ble_eq_true rfl) rfl (Nat.le_of_ble_eq_true rfl) rfl rfl) dX13_atom_132 ?_
                        refine lv_aload_n hx hb dX13_atom_135 rfl (lv_at hl 3 rfl) ?_
                        refine th_get (ci := 14) (C := RX13) (T := TX13) (N := 97) (v := .int w96_0_21) hx hb hts hinX13 hown hK hP hI 0 (Nat.le_of_ble_eq_true rfl) rfl rfl 21 (Nat.le_of_ble_eq_true rfl) (hts _ (vA_in _ _ (in_25 _ (zs16 (zs16 (zs4 (zs0))))))) (fun _ h9 => h9) hs96_0_21 dX13_atom_136 ?_
                        refine lv_iadd hx hb dX13_atom_139 ?_
                        refine lv_topi (fun y167 ey167 => ?_)
                        obtain ⟨ty167, iy167⟩ := ti_add (e := 0) (f := 3201) i13 hw96_0_21 ey167 (by decide)
                        have ty167 : y167.toInt = (xi (E 0) 19).toInt + w96_0_21.toInt := ty167
                        have iy167 : 0 ≤ y167.toInt ∧ y167.toInt ≤ 3201 := iy167
                        have n169 : vp_in y167 nl := (vp_in_iff.mpr ⟨by omega, by omega⟩)
                        refine th_bald hx hb hK hP hI k hh0 hh1 rfl n169 dX13_atom_140 (fun y168 ey168 => ?_)
                        have iy168 : -128 ≤ y168.toInt ∧ y168.toInt ≤ 127 := hI.el k hh0 hh1 n169 hh2 ey168
                        refine lv_iadd hx hb dX13_atom_141 ?_
                        refine lv_topi (fun y170 ey170 => ?_)
                        refine lv_bipush (v := 48) hx hb dX13_atom_142 (by decide) ?_
                        refine lv_isub hx hb dX13_atom_144 ?_
                        refine lv_topi (fun y171 ey171 => ?_)
                        refine lv_istore_n (lv' := [(2, .int y171), (3, .int v96_3), (1, .int r4), (0, .ref (ad 0))]) hx hb dX13_atom_145 rfl hl (by decide) rfl (fun ls hl => ?_)
                        refine lv_aload_n hx hb dX13_atom_146 rfl (lv_at hl 3 rfl) ?_
                        refine lv_dup hx hb dX13_atom_147 rfl ?_
                        refine th_get (ci := 14) (C := RX13) (T := TX13) (N := 97) (v := .int w96_0_21) hx hb hts hinX13 hown hK hP hI 0 (Nat.le_of_ble_eq_true rfl) rfl rfl 21 (Nat.le_of_ble_eq_true rfl) (hts _ (vA_in _ _ (in_25 _ (zs16 (zs16 (zs4 (zs0))))))) (fun _ h9 => h9) hs96_0_21 dX13_atom_148 ?_
                        refine lv_iconst (v := 1) hx hb dX13_atom_151 (by decide) ?_
                        refine lv_iadd hx hb dX13_atom_152 ?_
                        refine lv_topi (fun y172 ey172 => ?_)
                        obtain ⟨ty172, iy172⟩ := ti_add (e := 1) (f := 202) hw96_0_21 ln_1 ey172 (by decide)
                        have ty172 : y172.toInt = w96_0_21.toInt + 1 := ty172
                        have iy172 : 1 ≤ y172.toInt ∧ y172.toInt ≤ 202 := iy172
                        have i173 : 1 ≤ y172.toInt ∧ y172.toInt ≤ 201 := by omega
                        refine th_put (ci := 14) (C := RX13) (T := TX13) (N := 97) (v := .int y172) (ty := .int) hx hb hts hinX13 tyX13 tyX13_ok nmX13 hown hK hP (WX_D hD) hS hI 0 (Nat.le_of_ble_eq_true rfl) rfl rfl 21 (Nat.le_of_ble_eq_true rfl) (hts _ (vA_in _ _ (in_25 _ (zs16 (zs16 (zs4 (zs0))))))) (fun _ h9 => h9) rfl (by decide +kernel) rfl rfl (okI rfl (iv_w i173 (by decide))) dX13_atom_153 (fun H locs E174 pw175 hI hP hS => ?_)
                        have hKp := hKp.pw pw175 rfl
                        have k176 : AtM k E96_ E174 := AtM.pw pw175.2 hk0 (vi_e hs96_0_21) (vi_e pw175.1) ty172 (by omega)
                        obtain ⟨y177, ey177⟩ : ∃ y : Int32, y = v96_3 + (1 : Int32) := ⟨_, rfl⟩
                        refine lv_iinc (v := y177) (lv' := [(3, .int y177), (2, .int y171), (1, .int r4), (0, .ref (ad 0))]) hx hb dX13_atom_156 hl (k := 1) rfl (by rw [ey177]; rfl) (by decide) rfl (fun ls hl => ?_)
                        refine lv_goto (tgt := 96) hx hb dX13_atom_159 (by decide) ?_
                        exact ih96 y172 w96_0_22 w96_0_23 y177 y171 E174 _ _ _ (iv_w i173 (by decide)) (iv_w i163 (by decide)) hw96_0_23 (by  first | exact (Int.le_trans hx96_0 (Int.le_trans (Int.le_add_of_nonneg_right (by decide)) (Int.le_of_eq ty172.symm))) | omega) (by  first | exact hx96_1 | omega) (by  first | exact fun q9 => (hx96_2 (q9)) | omega) (by  first | exact fun q9 => hx96_3 (q9) | omega) (hx96_4.step k176 f157 (by omega) (show y177.toInt = v96_3.toInt + 1 from (ti_add (a := 0) (b := 4) (c := 1) (d := 1) (e := 1) (f := 5) ⟨by omega, by omega⟩ (by decide) ey177 (by decide)).1)) (by have t9 := (show y177.toInt = v96_3.toInt + 1 from (ti_add (a := 0) (b := 4) (c := 1) (d := 1) (e := 1) (f := 5) ⟨by omega, by omega⟩ (by decide) ey177 (by decide)).1); omega) (by omega) hI hKp pw175.1 ((pw175.2 0 22 (fun q9 => absurd q9.2 (Nat.ne_of_beq_eq_false rfl))).trans hs96_0_22) ((pw175.2 0 23 (fun q9 => absurd q9.2 (Nat.ne_of_beq_eq_false rfl))).trans hs96_0_23) hP hS (lv_sub hl [0, 1, 2, 3] rfl)
                      · --113 not
                        have t178 : v96_3.toInt = 5 := ti_eq c164
                        have i179 : 5 ≤ v96_3.toInt ∧ v96_3.toInt ≤ 5 := iv_eqi t178 (iv_all _) (il_ 5) (by decide)
                        refine lv_aload_n hx hb dX13_atom_116 rfl (lv_at hl 3 rfl) ?_
                        refine th_i (va_runV (As := []) (rest := []) ⟨hx, hb, hml, hown, hts⟩ (q_stopX l dC dI cT ad E96_ H.size k nl hI (by exact hh0) (by exact hh1) (by exact hh2) (by exact (hKp 0 18 rfl).trans hh3) (by (try rw [hKp.ei 0 19 rfl]); exact hh4)) (cwV 0 hts (gi_V (in_26 _ (zs4 (zs4 (zs4 (zs0))))) (in_26 _ (zs4 (zs4 (zs4 (zs1 (zs0)))))) (in_26 _ (zs4 (zs4 (zs4 (zs1 (zs1 (zs0))))))) (in_24 _ (zs4 (zs4 (zs4 (zs1 (zs1 (zs1 (zs0)))))))) (in_26 _ (zs4 (zs4 (zs4 (zs1 (zs1 (zs1 (zs0))))))))) rfl rfl rfl ⟨rfl, hz_yX13_stop_0⟩ ⟨(show 0 + 1 ≤ 7 * n + 5 from nl_1 (Nat.le_of_ble_eq_true rfl)), (show 8 + (1 + 11) + 40 * (0) ≤ 40 * (7 * n + 5) from nl_2 (Nat.le_of_ble_eq_true rfl))⟩) ⟨HW_bl, va_recv hK hP (ci := 14) (q0 := 0) rfl (hI.ob 0 (Nat.le_of_ble_eq_true rfl) rfl), (HW_wi hP hK (WX_D hD) hS hA hEV)⟩ rfl rfl hl.1 rfl (lv_room (Nat.le_of_ble_eq_true rfl)) dX13_atom_117 ⟨Nat.le_of_ble_eq_true rfl, Nat.le_of_ble_eq_true rfl⟩) (WX_D hD) hS hA (fun r180 E181 H locs hw hP hS => ?_)
                        obtain ⟨hI, kq182, hw⟩ := hw
                        have hKb := hKp
                        have hKp := hKp.tr kq182 (wl_sub rfl rfl)
                        obtain ⟨y183, ey183⟩ : ∃ y, xi (E181 0) 22 = y := ⟨_, rfl⟩
                        have fy183 : xv (E181 0) 22 = .int y183 := (hI.fi 0 (Nat.le_of_ble_eq_true rfl) rfl (Nat.le_of_ble_eq_true rfl) rfl).trans (congrArg Value.int ey183)
                        have iy183 : -1 ≤ y183.toInt ∧ y183.toInt ≤ 201 := by rw [← ey183]; exact hI.iv 0 (Nat.le_of_ble_eq_true rfl) rfl (Nat.le_of_ble_eq_true rfl) rfl
                        obtain ⟨rfl, f184, f185⟩ := hw
                        try rw [(show xi (E96_ 0) 22 = w96_0_22 from vi_e hs96_0_22)] at f184
                        try rw [(show xi (E181 0) 22 = y183 from vi_e fy183)] at f184
                        refine lv_pop hx hb dX13_atom_120 rfl ?_
                        refine lv_iconst (v := 0) hx hb dX13_atom_121 (by decide) ?_
                        rw [hQ]
                        exact W.iret (v := 0) hx hb hr (fun t ht hW => ⟨⟨0, E181, rfl, ⟨hI, hKp, ⟨by (try rw [(show xi (E181 0) 21 = w96_0_21 from vi_e ((kq182 0 21 rfl).trans hs96_0_21))]); (try rw [ey1]); first | done | exact hx96_0 | have h8 := ln_0; all_goals omega, by (try rw [(show xi (E181 0) 23 = w96_0_23 from vi_e ((kq182 0 23 rfl).trans hs96_0_23))]); (try rw [ey3]); first | done | exact hx96_1 | have h8 := ln_0; all_goals omega, by (try rw [(show xi (E181 0) 22 = y183 from vi_e fy183)]); (try rw [(show xi (E181 0) 23 = w96_0_23 from vi_e ((kq182 0 23 rfl).trans hs96_0_23))]); (try rw [ey2]); (try rw [ey3]); first | done | exact fun q9 => absurd (q9) f184 | have h8 := ln_0; all_goals omega, by (try rw [(show xi (E181 0) 22 = y183 from vi_e fy183)]); (try rw [ey2]); first | done | exact fun q9 => absurd (q9) f184 | have h8 := ln_0; all_goals omega, absurd (hx96_4.2.1.symm.trans (by show (xi (E96_ 0) 22).toInt = -1; rw [show xi (E96_ 0) 22 = w96_0_22 from vi_e hs96_0_22]; first | exact t162 | omega)) (by show ¬ (xi (E150 0) 22).toInt = -1; rw [show xi (E150 0) 22 = y152 from vi_e fy152]; omega)⟩⟩, by show va_P (dC, dI) vwCl (WX 72 ad E181) t.heap; rw [ht]; exact hP⟩, hS.F ht⟩) hS.2.2 dX13_atom_122
                · -- isDigitX, case 1
                  obtain ⟨rfl, f186⟩ := hw
                  refine lv_if_eq (tgt := 162) hx hb dX13_atom_100 (by decide) (fun c187 => ?_) (fun c187 => ?_)
                  · --100 taken
                    refine lv_iload_n hx hb dX13_atom_162 rfl (lv_at hl 1 rfl) ?_
                    rw [hQ]
                    exact W.iret (v := v96_2) hx hb hr (fun t ht hW => ⟨⟨v96_2, E96_, rfl, ⟨hI, hKp, ⟨by (try rw [(show xi (E96_ 0) 21 = w96_0_21 from vi_e hs96_0_21)]); (try rw [ey1]); first | done | exact hx96_0 | all_goals omega, by (try rw [(show xi (E96_ 0) 23 = w96_0_23 from vi_e hs96_0_23)]); (try rw [ey3]); first | done | exact hx96_1 | all_goals omega, by (try rw [(show xi (E96_ 0) 22 = w96_0_22 from vi_e hs96_0_22)]); (try rw [(show xi (E96_ 0) 23 = w96_0_23 from vi_e hs96_0_23)]); (try rw [ey2]); (try rw [ey3]); first | done | exact fun q9 => (hx96_2 (q9)) | all_goals omega, by (try rw [(show xi (E96_ 0) 22 = w96_0_22 from vi_e hs96_0_22)]); (try rw [ey2]); first | done | exact fun q9 => hx96_3 (q9) | all_goals omega, (atM_no f12 (pkM_n f12 (by show (xi (E 0) 22).toInt = -1; rw [ey2]; omega) f147) (fun q9 => by have q8 := ix_let.mpr q9; rw [← f104] at q8; omega) (by omega) f154).fk (by show ¬ (xi (E150 0) 22).toInt = -1; rw [show xi (E150 0) 22 = y152 from vi_e fy152]; omega) hx96_4⟩⟩, by show va_P (dC, dI) vwCl (WX 72 ad E96_) t.heap; rw [ht]; exact hP⟩, hS.F ht⟩) hS.2.2 dX13_atom_163
                  · --100 not
                    exact absurd c187 (by decide)
            exact hL96 (202) y7 y152 y3 (0 : Int32) (0 : Int32) E150 _ _ _ iy7 iy152 iy3 (by  first | exact f9 | omega) (by  first | exact Int.le_refl _ | omega) (by  first | exact fun q9 => absurd (q9) f153 | omega) (by  first | exact fun q9 => absurd (q9) f153 | omega) NumM.rf (by decide) (by have h9 := iy7; first | exact ms_bu h9.1 (by decide) | omega) hI hKp ((kq151 0 21 rfl).trans fy7) fy152 ((kq151 0 23 rfl).trans ((kq6 0 23 rfl).trans fy3)) hP hS (lv_sub hl [0, 1, 2, 3] rfl)
      · --40 not
        have t188 : r4.toInt = 91 := ti_eq c108
        have i189 : 91 ≤ r4.toInt ∧ r4.toInt ≤ 91 := iv_eqi t188 i101 (il_ 91) (by decide)
        refine lv_aload_n hx hb dX13_atom_43 rfl (lv_at hl 1 rfl) ?_
        refine th_i (va_runV (As := []) (rest := []) ⟨hx, hb, hml, hown, hts⟩ (q_goesInX l dC dI cT ad E5 H.size k nl hI (by exact hh0) (by exact hh1) (by exact hh2) (by exact (hKp 0 18 rfl).trans hh3) (by (try rw [hKp.ei 0 19 rfl]); exact hh4) (by (try rw [(show xi (E5 0) 21 = y7 from vi_e fy7)]); omega)) (cwV 0 hts (gi_V (in_26 _ (zs4 (zs4 (zs0)))) (in_26 _ (zs4 (zs4 (zs1 (zs0))))) (in_26 _ (zs4 (zs4 (zs1 (zs1 (zs0)))))) (in_24 _ (zs4 (zs4 (zs4 (zs1 (zs1 (zs1 (zs0)))))))) (in_26 _ (zs4 (zs4 (zs1 (zs1 (zs1 (zs0)))))))) rfl rfl rfl ⟨rfl, hz_yX13_goesIn_0⟩ ⟨(show 1 + 1 ≤ 7 * n + 5 from nl_1 (Nat.le_of_ble_eq_true rfl)), (show 8 + (1 + 11) + 40 * (1) ≤ 40 * (7 * n + 5) from nl_2 (Nat.le_of_ble_eq_true rfl))⟩) ⟨HW_bl, va_recv hK hP (ci := 14) (q0 := 0) rfl (hI.ob 0 (Nat.le_of_ble_eq_true rfl) rfl), (HW_wi hP hK (WX_D hD) hS hA hEV)⟩ rfl rfl hl.1 rfl (lv_room (Nat.le_of_ble_eq_true rfl)) dX13_atom_44 ⟨Nat.le_of_ble_eq_true rfl, Nat.le_of_ble_eq_true rfl⟩) (WX_D hD) hS hA (fun r190 E191 H locs hw hP hS => ?_)
        obtain ⟨hI, kq192, hw⟩ := hw
        have hKb := hKp
        have hKp := hKp.tr kq192 (wl_sub rfl rfl)
        obtain ⟨y193, ey193⟩ : ∃ y, xi (E191 0) 21 = y := ⟨_, rfl⟩
        have fy193 : xv (E191 0) 21 = .int y193 := (hI.fi 0 (Nat.le_of_ble_eq_true rfl) rfl (Nat.le_of_ble_eq_true rfl) rfl).trans (congrArg Value.int ey193)
        have iy193 : 0 ≤ y193.toInt ∧ y193.toInt ≤ 201 := by rw [← ey193]; exact hI.iv 0 (Nat.le_of_ble_eq_true rfl) rfl (Nat.le_of_ble_eq_true rfl) rfl
        obtain ⟨y194, ey194⟩ : ∃ y, xi (E191 0) 22 = y := ⟨_, rfl⟩
        have fy194 : xv (E191 0) 22 = .int y194 := (hI.fi 0 (Nat.le_of_ble_eq_true rfl) rfl (Nat.le_of_ble_eq_true rfl) rfl).trans (congrArg Value.int ey194)
        have iy194 : -1 ≤ y194.toInt ∧ y194.toInt ≤ 201 := by rw [← ey194]; exact hI.iv 0 (Nat.le_of_ble_eq_true rfl) rfl (Nat.le_of_ble_eq_true rfl) rfl
        obtain ⟨y195, ey195⟩ : ∃ y, xi (E191 0) 23 = y := ⟨_, rfl⟩
        have fy195 : xv (E191 0) 23 = .int y195 := (hI.fi 0 (Nat.le_of_ble_eq_true rfl) rfl (Nat.le_of_ble_eq_true rfl) rfl).trans (congrArg Value.int ey195)
        have iy195 : 0 ≤ y195.toInt ∧ y195.toInt ≤ 8 := by rw [← ey195]; exact hI.iv 0 (Nat.le_of_ble_eq_true rfl) rfl (Nat.le_of_ble_eq_true rfl) rfl
        rcases hw with hw | hw
        · -- goesInX, case 0
          obtain ⟨rfl, f196, f197, f198, f199, f200⟩ := hw
          try rw [(show xi (E5 0) 23 = y3 from vi_e ((kq6 0 23 rfl).trans fy3))] at f196
          try rw [(show xi (E191 0) 23 = y195 from vi_e fy195)] at f196
          try rw [(show xi (E5 0) 22 = y2 from vi_e ((kq6 0 22 rfl).trans fy2))] at f197
          try rw [(show xi (E191 0) 22 = y194 from vi_e fy194)] at f197
          try rw [(show xi (E5 0) 23 = y3 from vi_e ((kq6 0 23 rfl).trans fy3))] at f198
          try rw [(show xi (E191 0) 23 = y195 from vi_e fy195)] at f198
          try rw [(show xi (E5 0) 21 = y7 from vi_e fy7)] at f199
          try rw [(show xi (E191 0) 21 = y193 from vi_e fy193)] at f199
          obtain ⟨k9, hk9⟩ : ∃ k9, n = k9 + 1 := ⟨n - 1, by omega⟩
          refine lv_if_ne (tgt := 52) hx hb dX13_atom_47 (by decide) (fun c201 => ?_) (fun c201 => ?_)
          · --47 taken
            refine lv_aload_n hx hb dX13_atom_52 rfl (lv_at hl 1 rfl) ?_
            refine th_i (va_runV (As := []) (rest := []) ⟨hx, hb, hml, hown, hts⟩ ((gSum k9 (by omega)) dC dI cT ad E191 H.size k nl hI (by exact hh0) (by exact hh1) (by exact hh2) (by exact (hKp 0 18 rfl).trans hh3) (by (try rw [hKp.ei 0 19 rfl]); exact hh4) (by (try rw [(show xi (E191 0) 23 = y195 from vi_e fy195)]); omega) (by (try rw [(show xi (E191 0) 22 = y194 from vi_e fy194)]); omega)) (cwV 0 hts (gi_V (in_26 _ (zs16 (zs0))) (in_26 _ (zs16 (zs1 (zs0)))) (in_26 _ (zs16 (zs1 (zs1 (zs0))))) (in_24 _ (zs4 (zs4 (zs4 (zs1 (zs1 (zs1 (zs0)))))))) (in_26 _ (zs16 (zs4 (zs4 (zs1 (zs1 (zs1 (zs0))))))))) rfl rfl rfl (by decide +kernel) ⟨(show 7 * k9 + 7 + 1 ≤ 7 * n + 5 by omega), (show 8 + (5 + 11) + 40 * (7 * k9 + 7) ≤ 40 * (7 * n + 5) by omega)⟩) ⟨HW_bl, va_recv hK hP (ci := 14) (q0 := 0) rfl (hI.ob 0 (Nat.le_of_ble_eq_true rfl) rfl), (HW_wi hP hK (WX_D hD) hS hA hEV)⟩ rfl rfl hl.1 rfl (lv_room (Nat.le_of_ble_eq_true rfl)) dX13_atom_53 ⟨Nat.le_of_ble_eq_true rfl, Nat.le_of_ble_eq_true rfl⟩) (WX_D hD) hS hA (fun r202 E203 H locs hw hP hS => ?_)
            obtain ⟨hI, kq204, hw⟩ := hw
            have hKb := hKp
            have hKp := hKp.tr kq204 (wl_sub rfl rfl)
            obtain ⟨y205, ey205⟩ : ∃ y, xi (E203 0) 21 = y := ⟨_, rfl⟩
            have fy205 : xv (E203 0) 21 = .int y205 := (hI.fi 0 (Nat.le_of_ble_eq_true rfl) rfl (Nat.le_of_ble_eq_true rfl) rfl).trans (congrArg Value.int ey205)
            have iy205 : 0 ≤ y205.toInt ∧ y205.toInt ≤ 201 := by rw [← ey205]; exact hI.iv 0 (Nat.le_of_ble_eq_true rfl) rfl (Nat.le_of_ble_eq_true rfl) rfl
            obtain ⟨y206, ey206⟩ : ∃ y, xi (E203 0) 22 = y := ⟨_, rfl⟩
            have fy206 : xv (E203 0) 22 = .int y206 := (hI.fi 0 (Nat.le_of_ble_eq_true rfl) rfl (Nat.le_of_ble_eq_true rfl) rfl).trans (congrArg Value.int ey206)
            have iy206 : -1 ≤ y206.toInt ∧ y206.toInt ≤ 201 := by rw [← ey206]; exact hI.iv 0 (Nat.le_of_ble_eq_true rfl) rfl (Nat.le_of_ble_eq_true rfl) rfl
            obtain ⟨y207, ey207⟩ : ∃ y, xi (E203 0) 23 = y := ⟨_, rfl⟩
            have fy207 : xv (E203 0) 23 = .int y207 := (hI.fi 0 (Nat.le_of_ble_eq_true rfl) rfl (Nat.le_of_ble_eq_true rfl) rfl).trans (congrArg Value.int ey207)
            have iy207 : 0 ≤ y207.toInt ∧ y207.toInt ≤ 8 := by rw [← ey207]; exact hI.iv 0 (Nat.le_of_ble_eq_true rfl) rfl (Nat.le_of_ble_eq_true rfl) rfl
            obtain ⟨f208, f209, f210, f211, f212⟩ := hw
            try rw [(show xi (E191 0) 21 = y193 from vi_e fy193)] at f208
            try rw [(show xi (E203 0) 21 = y205 from vi_e fy205)] at f208
            try rw [(show xi (E191 0) 23 = y195 from vi_e fy195)] at f209
            try rw [(show xi (E203 0) 23 = y207 from vi_e fy207)] at f209
            try rw [(show xi (E191 0) 22 = y194 from vi_e fy194)] at f210
            try rw [(show xi (E191 0) 23 = y195 from vi_e fy195)] at f210
            try rw [(show xi (E203 0) 22 = y206 from vi_e fy206)] at f210
            try rw [(show xi (E203 0) 23 = y207 from vi_e fy207)] at f210
            try rw [(show xi (E191 0) 22 = y194 from vi_e fy194)] at f211
            try rw [(show xi (E203 0) 22 = y206 from vi_e fy206)] at f211
            refine lv_istore_n (lv' := [(2, .int r202), (1, .int r4), (0, .ref (ad 0))]) hx hb dX13_atom_56 rfl hl (by decide) rfl (fun ls hl => ?_)
            refine lv_aload_n hx hb dX13_atom_57 rfl (lv_at hl 2 rfl) ?_
            refine lv_bipush (v := 93) hx hb dX13_atom_58 (by decide) ?_
            have z93 := ln_93
            refine th_i (va_runV (As := [.int 93]) (rest := []) ⟨hx, hb, hml, hown, hts⟩ (q_takesX l dC dI cT ad E203 H.size (93 : Int32) k nl hI (by exact hh0) (by exact hh1) (by exact hh2) (by exact (hKp 0 18 rfl).trans hh3) (by (try rw [hKp.ei 0 19 rfl]); exact hh4) (iv_w ln_93 (by decide))) (cwV 1 hts (gi_V (in_26 _ (zs16 (zs1 (zs1 (zs1 (zs0)))))) (in_26 _ (zs16 (zs4 (zs0)))) (in_26 _ (zs16 (zs4 (zs1 (zs0))))) (in_24 _ (zs4 (zs4 (zs4 (zs1 (zs1 (zs1 (zs0)))))))) (in_26 _ (zs16 (zs4 (zs1 (zs1 (zs0))))))) rfl rfl rfl ⟨rfl, hz_yX13_takes_1⟩ ⟨(show 1 + 1 ≤ 7 * n + 5 from nl_1 (Nat.le_of_ble_eq_true rfl)), (show 8 + (2 + 11) + 40 * (1) ≤ 40 * (7 * n + 5) from nl_2 (Nat.le_of_ble_eq_true rfl))⟩) ⟨HW_bl, va_recv hK hP (ci := 14) (q0 := 0) rfl (hI.ob 0 (Nat.le_of_ble_eq_true rfl) rfl), (HW_wi hP hK (WX_D hD) hS hA hEV)⟩ rfl rfl hl.1 rfl (lv_room (Nat.le_of_ble_eq_true rfl)) dX13_atom_60 ⟨Nat.le_of_ble_eq_true rfl, Nat.le_of_ble_eq_true rfl⟩) (WX_D hD) hS hA (fun r213 E214 H locs hw hP hS => ?_)
            obtain ⟨hI, kq215, hw⟩ := hw
            have hKb := hKp
            have hKp := hKp.tr kq215 (wl_sub rfl rfl)
            obtain ⟨y216, ey216⟩ : ∃ y, xi (E214 0) 21 = y := ⟨_, rfl⟩
            have fy216 : xv (E214 0) 21 = .int y216 := (hI.fi 0 (Nat.le_of_ble_eq_true rfl) rfl (Nat.le_of_ble_eq_true rfl) rfl).trans (congrArg Value.int ey216)
            have iy216 : 0 ≤ y216.toInt ∧ y216.toInt ≤ 201 := by rw [← ey216]; exact hI.iv 0 (Nat.le_of_ble_eq_true rfl) rfl (Nat.le_of_ble_eq_true rfl) rfl
            obtain ⟨y217, ey217⟩ : ∃ y, xi (E214 0) 22 = y := ⟨_, rfl⟩
            have fy217 : xv (E214 0) 22 = .int y217 := (hI.fi 0 (Nat.le_of_ble_eq_true rfl) rfl (Nat.le_of_ble_eq_true rfl) rfl).trans (congrArg Value.int ey217)
            have iy217 : -1 ≤ y217.toInt ∧ y217.toInt ≤ 201 := by rw [← ey217]; exact hI.iv 0 (Nat.le_of_ble_eq_true rfl) rfl (Nat.le_of_ble_eq_true rfl) rfl
            rcases hw with hw | hw
            · -- takesX, case 0
              obtain ⟨rfl, f218, f219, f220, f221, f222⟩ := hw
              try rw [(show xi (E203 0) 22 = y206 from vi_e fy206)] at f218
              try rw [(show xi (E214 0) 22 = y217 from vi_e fy217)] at f218
              try rw [(show xi (E203 0) 22 = y206 from vi_e fy206)] at f219
              try rw [(show xi (E214 0) 22 = y217 from vi_e fy217)] at f219
              try rw [(show xi (E203 0) 21 = y205 from vi_e fy205)] at f220
              try rw [(show xi (E214 0) 21 = y216 from vi_e fy216)] at f220
              try rw [(show xi (E203 0) 21 = y205 from vi_e fy205)] at f221
              try rw [(show xi (E214 0) 21 = y216 from vi_e fy216)] at f221
              refine lv_if_ne (tgt := 68) hx hb dX13_atom_63 (by decide) (fun c223 => ?_) (fun c223 => ?_)
              · --63 taken
                refine lv_aload_n hx hb dX13_atom_68 rfl (lv_at hl 2 rfl) ?_
                refine lv_dup hx hb dX13_atom_69 rfl ?_
                refine th_get (ci := 14) (C := RX13) (T := TX13) (N := 97) (v := .int y207) hx hb hts hinX13 hown hK hP hI 0 (Nat.le_of_ble_eq_true rfl) rfl rfl 23 (Nat.le_of_ble_eq_true rfl) (hts _ (vA_in _ _ (in_25 _ (zs16 (zs16 (zs4 (zs1 (zs1 (zs0))))))))) (fun _ h9 => h9) ((kq215 0 23 rfl).trans fy207) dX13_atom_70 ?_
                refine lv_iconst (v := 1) hx hb dX13_atom_73 (by decide) ?_
                refine lv_isub hx hb dX13_atom_74 ?_
                refine lv_topi (fun y224 ey224 => ?_)
                obtain ⟨ty224, iy224⟩ := ti_sub (e := (-1)) (f := 7) iy207 ln_1 ey224 (by decide)
                have ty224 : y224.toInt = y207.toInt - 1 := ty224
                have iy224 : -1 ≤ y224.toInt ∧ y224.toInt ≤ 7 := iy224
                have i225 : 0 ≤ y224.toInt ∧ y224.toInt ≤ 7 := by omega
                refine th_put (ci := 14) (C := RX13) (T := TX13) (N := 97) (v := .int y224) (ty := .int) hx hb hts hinX13 tyX13 tyX13_ok nmX13 hown hK hP (WX_D hD) hS hI 0 (Nat.le_of_ble_eq_true rfl) rfl rfl 23 (Nat.le_of_ble_eq_true rfl) (hts _ (vA_in _ _ (in_25 _ (zs16 (zs16 (zs4 (zs1 (zs1 (zs0))))))))) (fun _ h9 => h9) rfl (by decide +kernel) rfl rfl (okI rfl (iv_w i225 (by decide))) dX13_atom_75 (fun H locs E226 pw227 hI hP hS => ?_)
                have hKp := hKp.pw pw227 rfl
                have k228 : KM k E214 E226 := KM.pw pw227.2 hk0 (by decide)
                refine lv_iload_n hx hb dX13_atom_78 rfl (lv_at hl 0 rfl) ?_
                rw [hQ]
                exact W.iret (v := r202) hx hb hr (fun t ht hW => ⟨⟨r202, E226, rfl, ⟨hI, hKp, ⟨by (try rw [(show xi (E226 0) 21 = y216 from vi_e ((pw227.2 0 21 (fun q9 => absurd q9.2 (Nat.ne_of_beq_eq_false rfl))).trans fy216))]); (try rw [ey1]); first | done | exact (Int.le_trans (Int.le_trans (Int.le_trans f9 (Int.le_trans (Int.le_add_of_nonneg_right (by decide)) (Int.le_of_eq f199.symm))) f208) f221) | all_goals omega, by (try rw [(show xi (E226 0) 23 = y224 from vi_e pw227.1)]); (try rw [ey1]); (try rw [ey2]); (try rw [ey3]); all_goals omega, by (try rw [(show xi (E226 0) 22 = y217 from vi_e ((pw227.2 0 22 (fun q9 => absurd q9.2 (Nat.ne_of_beq_eq_false rfl))).trans fy217))]); (try rw [(show xi (E226 0) 23 = y224 from vi_e pw227.1)]); (try rw [ey1]); (try rw [ey2]); (try rw [ey3]); all_goals omega, by (try rw [(show xi (E226 0) 22 = y217 from vi_e ((pw227.2 0 22 (fun q9 => absurd q9.2 (Nat.ne_of_beq_eq_false rfl))).trans fy217))]); (try rw [ey1]); (try rw [ey2]); (try rw [ey3]); all_goals omega, (atM_in f12 (by omega) f200 f212 f222 hk9).ks k228⟩⟩, by show va_P (dC, dI) vwCl (WX 72 ad E226) t.heap; rw [ht]; exact hP⟩, hS.F ht⟩) hS.2.2 dX13_atom_79
              · --63 not
                exact absurd c223 (by decide)
            · -- takesX, case 1
              obtain ⟨rfl, f229, f230, f231⟩ := hw
              try rw [(show xi (E203 0) 22 = y206 from vi_e fy206)] at f229
              try rw [(show xi (E214 0) 22 = y217 from vi_e fy217)] at f229
              try rw [(show xi (E203 0) 21 = y205 from vi_e fy205)] at f230
              try rw [(show xi (E214 0) 21 = y216 from vi_e fy216)] at f230
              refine lv_if_ne (tgt := 68) hx hb dX13_atom_63 (by decide) (fun c232 => ?_) (fun c232 => ?_)
              · --63 taken
                exact absurd c232 (by decide)
              · --63 not
                refine lv_iconst (v := 0) hx hb dX13_atom_66 (by decide) ?_
                rw [hQ]
                exact W.iret (v := 0) hx hb hr (fun t ht hW => ⟨⟨0, E214, rfl, ⟨hI, hKp, ⟨by (try rw [(show xi (E214 0) 21 = y216 from vi_e fy216)]); (try rw [ey1]); first | done | exact (Int.le_trans (Int.le_trans (Int.le_trans f9 (Int.le_trans (Int.le_add_of_nonneg_right (by decide)) (Int.le_of_eq f199.symm))) f208) f230) | have h8 := ln_0; all_goals omega, by (try rw [(show xi (E214 0) 23 = y207 from vi_e ((kq215 0 23 rfl).trans fy207))]); (try rw [ey3]); first | done | exact (Int.le_trans (Int.le_trans (Int.le_add_of_nonneg_right (by decide)) (Int.le_of_eq f196.symm)) f209) | have h8 := ln_0; all_goals omega, by (try rw [(show xi (E214 0) 22 = y217 from vi_e fy217)]); (try rw [(show xi (E214 0) 23 = y207 from vi_e ((kq215 0 23 rfl).trans fy207))]); (try rw [ey2]); (try rw [ey3]); first | done | exact fun q9 => absurd (q9) f229 | have h8 := ln_0; all_goals omega, by (try rw [(show xi (E214 0) 22 = y217 from vi_e fy217)]); (try rw [ey2]); first | done | exact fun q9 => absurd (q9) f229 | have h8 := ln_0; all_goals omega, atM_in f12 (by omega) f200 f212 f231 hk9⟩⟩, by show va_P (dC, dI) vwCl (WX 72 ad E214) t.heap; rw [ht]; exact hP⟩, hS.F ht⟩) hS.2.2 dX13_atom_67
          · --47 not
            exact absurd c201 (by decide)
        · -- goesInX, case 1
          obtain ⟨rfl, f233, f234, f235, f236, f237⟩ := hw
          try rw [(show xi (E5 0) 23 = y3 from vi_e ((kq6 0 23 rfl).trans fy3))] at f233
          try rw [(show xi (E191 0) 23 = y195 from vi_e fy195)] at f233
          try rw [(show xi (E5 0) 22 = y2 from vi_e ((kq6 0 22 rfl).trans fy2))] at f234
          try rw [(show xi (E191 0) 22 = y194 from vi_e fy194)] at f234
          try rw [(show xi (E5 0) 21 = y7 from vi_e fy7)] at f235
          try rw [(show xi (E191 0) 21 = y193 from vi_e fy193)] at f235
          try rw [(show xi (E5 0) 23 = y3 from vi_e ((kq6 0 23 rfl).trans fy3))] at f236
          try rw [(show xi (E191 0) 23 = y195 from vi_e fy195)] at f236
          refine lv_if_ne (tgt := 52) hx hb dX13_atom_47 (by decide) (fun c238 => ?_) (fun c238 => ?_)
          · --47 taken
            exact absurd c238 (by decide)
          · --47 not
            refine lv_iconst (v := 0) hx hb dX13_atom_50 (by decide) ?_
            rw [hQ]
            exact W.iret (v := 0) hx hb hr (fun t ht hW => ⟨⟨0, E191, rfl, ⟨hI, hKp, ⟨by (try rw [(show xi (E191 0) 21 = y193 from vi_e fy193)]); (try rw [ey1]); first | done | exact (Int.le_trans f9 (Int.le_of_eq f235.symm)) | have h8 := ln_0; all_goals omega, by (try rw [(show xi (E191 0) 23 = y195 from vi_e fy195)]); (try rw [ey3]); first | done | exact (Int.le_of_eq f236.symm) | have h8 := ln_0; all_goals omega, by (try rw [(show xi (E191 0) 22 = y194 from vi_e fy194)]); (try rw [(show xi (E191 0) 23 = y195 from vi_e fy195)]); (try rw [ey2]); (try rw [ey3]); first | done | exact fun q9 => absurd (q9) f234 | have h8 := ln_0; all_goals omega, by (try rw [(show xi (E191 0) 22 = y194 from vi_e fy194)]); (try rw [ey2]); first | done | exact fun q9 => absurd (q9) f234 | have h8 := ln_0; all_goals omega, atM_in0 f12 (by omega) f237 (by omega)⟩⟩, by show va_P (dC, dI) vwCl (WX 72 ad E191) t.heap; rw [ht]; exact hP⟩, hS.F ht⟩) hS.2.2 dX13_atom_51
    · --17 not
      have t239 : (0 : Int) ≤ r102.toInt := ti_nlt c105
      have i240 : 0 ≤ r102.toInt ∧ r102.toInt ≤ 1000 := iv_le_r t239 (il_ 0) f103 (by decide)
      refine lv_aload_n hx hb dX13_atom_20 rfl (lv_at hl 1 rfl) ?_
      refine lv_dup hx hb dX13_atom_21 rfl ?_
      refine th_get (ci := 14) (C := RX13) (T := TX13) (N := 97) (v := .int y7) hx hb hts hinX13 hown hK hP hI 0 (Nat.le_of_ble_eq_true rfl) rfl rfl 21 (Nat.le_of_ble_eq_true rfl) (hts _ (vA_in _ _ (in_25 _ (zs16 (zs16 (zs4 (zs0))))))) (fun _ h9 => h9) fy7 dX13_atom_22 ?_
      refine lv_iconst (v := 1) hx hb dX13_atom_25 (by decide) ?_
      refine lv_iadd hx hb dX13_atom_26 ?_
      refine lv_topi (fun y241 ey241 => ?_)
      obtain ⟨ty241, iy241⟩ := ti_add (e := 1) (f := 202) iy7 ln_1 ey241 (by decide)
      have ty241 : y241.toInt = y7.toInt + 1 := ty241
      have iy241 : 1 ≤ y241.toInt ∧ y241.toInt ≤ 202 := iy241
      have i242 : 1 ≤ y241.toInt ∧ y241.toInt ≤ 201 := by omega
      refine th_put (ci := 14) (C := RX13) (T := TX13) (N := 97) (v := .int y241) (ty := .int) hx hb hts hinX13 tyX13 tyX13_ok nmX13 hown hK hP (WX_D hD) hS hI 0 (Nat.le_of_ble_eq_true rfl) rfl rfl 21 (Nat.le_of_ble_eq_true rfl) (hts _ (vA_in _ _ (in_25 _ (zs16 (zs16 (zs4 (zs0))))))) (fun _ h9 => h9) rfl (by decide +kernel) rfl rfl (okI rfl (iv_w i242 (by decide))) dX13_atom_27 (fun H locs E243 pw244 hI hP hS => ?_)
      have hKp := hKp.pw pw244 rfl
      have k245 : AtM k E5 E243 := AtM.pw pw244.2 hk0 (vi_e fy7) (vi_e pw244.1) ty241 (by omega)
      refine lv_aload_n hx hb dX13_atom_30 rfl (lv_at hl 1 rfl) ?_
      refine th_get (ci := 14) (C := RX13) (T := TX13) (N := 97) (v := .ref (ad 12)) hx hb hts hinX13 hown hK hP hI 0 (Nat.le_of_ble_eq_true rfl) rfl rfl 15 (Nat.le_of_ble_eq_true rfl) (hts _ (vA_in _ _ (in_25 _ (zs16 (zs16 (zs4 (zs1 (zs0)))))))) (fun _ h9 => h9) (hI.fr 0 (Nat.le_of_ble_eq_true rfl) rfl (Nat.le_of_ble_eq_true rfl) 12 rfl) dX13_atom_31 ?_
      refine lv_iload_n hx hb dX13_atom_34 rfl (lv_at hl 0 rfl) ?_
      have i248 : 97 ≤ r4.toInt ∧ r4.toInt ≤ 122 := tLET_in _ (ixF_mem tLET 0 (by decide) (by rw [← f104]; omega))
      have n247 : vp_in r4 128 := (iv_in (n := 128) i248 (by decide))
      refine th_iald hx hb hK hP hI 12 (Nat.le_of_ble_eq_true rfl) rfl rfl n247 dX13_atom_35 (fun y246 ey246 => ?_)
      have ey246 := ey246.trans (hKp.ei 12 _ rfl)
      rw [hQ]
      exact W.iret (v := y246) hx hb hr (fun t ht hW => ⟨⟨y246, E243, rfl, ⟨hI, hKp, ⟨by (try rw [(show xi (E243 0) 21 = y241 from vi_e pw244.1)]); (try rw [ey1]); first | done | exact (Int.le_trans f9 (Int.le_trans (Int.le_add_of_nonneg_right (by decide)) (Int.le_of_eq ty241.symm))) | all_goals omega, by (try rw [(show xi (E243 0) 23 = y3 from vi_e ((pw244.2 0 23 (fun q9 => absurd q9.2 (Nat.ne_of_beq_eq_false rfl))).trans ((kq6 0 23 rfl).trans fy3)))]); (try rw [ey3]); first | done | exact Int.le_refl _ | all_goals omega, by (try rw [(show xi (E243 0) 22 = y2 from vi_e ((pw244.2 0 22 (fun q9 => absurd q9.2 (Nat.ne_of_beq_eq_false rfl))).trans ((kq6 0 22 rfl).trans fy2)))]); (try rw [(show xi (E243 0) 23 = y3 from vi_e ((pw244.2 0 23 (fun q9 => absurd q9.2 (Nat.ne_of_beq_eq_false rfl))).trans ((kq6 0 23 rfl).trans fy3)))]); (try rw [ey2]); (try rw [ey3]); first | done | exact fun q9 => rfl | all_goals omega, by (try rw [(show xi (E243 0) 22 = y2 from vi_e ((pw244.2 0 22 (fun q9 => absurd q9.2 (Nat.ne_of_beq_eq_false rfl))).trans ((kq6 0 22 rfl).trans fy2)))]); (try rw [ey2]); first | done | exact fun q9 => q9 | all_goals omega, atM_let f12 (let_nd (ix_let.mp (by rw [← f104]; omega))) (ix_let.mp (by rw [← f104]; omega)) k245 KM.rf⟩⟩, by show va_P (dC, dI) vwCl (WX 72 ad E243) t.heap; rw [ht]; exact hP⟩, hS.F ht⟩) hS.2.2 dX13_atom_36
set_option maxHeartbeats 4000000 in
set_option maxRecDepth 100000 in
theorem q_termX (l : Launch) (n : Nat) (gA : C_atomX l n) : C_termX l n := by
  intro dC dI cT ad E sz k nl hI0 hh0 hh1 hh2 hh3 hh4 hh5 hh6
  refine Met.ofW (cc := cX13_term) (maxL := 5) (ret := (some .int)) (by decide) rfl ?_
  intro p e s m args below meth c s₁ B hml hv
  obtain ⟨hargs, hsz, hP, hK, hD0, hEV⟩ := hv
  subst hsz
  have hx := B.exec
  have hb := B.bytes
  have hr := B.returns
  have hts := atoms_spec (ws := v_termX) B.pre
  have hown : s.vm.findClass RX13 = some m.cls := findClass_of_methodNamed B.named
  have hlocks := B.notSynchronized
  have hinX13 : ∀ w ∈ u_ws RX13 TX13 97, w ∈ v_termX := fun w h => vA_in _ w (in_X13 w h)
  generalize hAe : va_A (WX 72 ad E) s.heap.size = A at hEV ⊢
  have hA : ∀ q : Nat, s.heap.size ≤ q → A q := fun q h => by rw [← hAe]; exact Or.inr h
  have hD : va_D A (WX 72 ad E) := by rw [← hAe]; exact hD0.self
  have hS : va_S A s.heap s.heap [] := va_S.rf
  have hI := hI0
  have hKp : Kp w_termX E E := Kp.rf
  have hl := lv_entry ([.ref (ad 0)]) (n := 5) (Nat.le_of_ble_eq_true rfl)
  obtain ⟨Q, hQ⟩ : ∃ Q, Q = MQ below (va_Qi (S := Nat → va_E) (fun r u => IX cT shM spM 72 ad u ∧ Kp w_termX E u ∧ (((xi (E 0) 21).toInt ≤ (xi (u 0) 21).toInt) ∧ ((xi (E 0) 23).toInt ≤ (xi (u 0) 23).toInt) ∧ ((xi (u 0) 22).toInt = -1 → (xi (u 0) 23).toInt = (xi (E 0) 23).toInt) ∧ ((xi (u 0) 22).toInt = -1 → (xi (E 0) 22).toInt = -1) ∧ (RdM k (fun t m a => termS true t m n a) E u))) (HB dC dI 72 ad) (A)) args s 0 0 (A) := ⟨_, rfl⟩
  rw [← hQ, show entryFrame m args 5 = _ from (congrArg (fun z => entryFrame m z 5) hargs).trans (lg_entry_eq _ _ _)]
  generalize (lg_sl ([.ref (ad 0)]) ++ List.replicate (5 - (lg_sl ([.ref (ad 0)])).length) Slot.unset).toArray = ls at hl ⊢
  have hl : lv_has ls 5 [(0, .ref (ad 0))] := hl
  obtain ⟨y1, ey1⟩ : ∃ y, xi (E 0) 21 = y := ⟨_, rfl⟩
  have fy1 : xv (E 0) 21 = .int y1 := (hI.fi 0 (Nat.le_of_ble_eq_true rfl) rfl (Nat.le_of_ble_eq_true rfl) rfl).trans (congrArg Value.int ey1)
  have iy1 : 0 ≤ y1.toInt ∧ y1.toInt ≤ 201 := by rw [← ey1]; exact hI.iv 0 (Nat.le_of_ble_eq_true rfl) rfl (Nat.le_of_ble_eq_true rfl) rfl
  obtain ⟨y2, ey2⟩ : ∃ y, xi (E 0) 22 = y := ⟨_, rfl⟩
  have fy2 : xv (E 0) 22 = .int y2 := (hI.fi 0 (Nat.le_of_ble_eq_true rfl) rfl (Nat.le_of_ble_eq_true rfl) rfl).trans (congrArg Value.int ey2)
  have iy2 : -1 ≤ y2.toInt ∧ y2.toInt ≤ 201 := by rw [← ey2]; exact hI.iv 0 (Nat.le_of_ble_eq_true rfl) rfl (Nat.le_of_ble_eq_true rfl) rfl
  rw [ey2] at hh6
  obtain ⟨y3, ey3⟩ : ∃ y, xi (E 0) 23 = y := ⟨_, rfl⟩
  have fy3 : xv (E 0) 23 = .int y3 := (hI.fi 0 (Nat.le_of_ble_eq_true rfl) rfl (Nat.le_of_ble_eq_true rfl) rfl).trans (congrArg Value.int ey3)
  have iy3 : 0 ≤ y3.toInt ∧ y3.toInt ≤ 8 := by rw [← ey3]; exact hI.iv 0 (Nat.le_of_ble_eq_true rfl) rfl (Nat.le_of_ble_eq_true rfl) rfl
  rw [ey3] at hh5
  have hk0 : ¬ k = 0 := fun q9 => by rw [q9] at hh1; exact absurd (show (shM 0).1 = 1 from congrArg Prod.fst hh1) (by decide)
  refine lv_aload_n hx hb dX13_term_0 rfl (lv_at hl 0 rfl) ?_
  refine th_i (va_runV (As := []) (rest := []) ⟨hx, hb, hml, hown, hts⟩ (gA dC dI cT ad E s.heap.size k nl hI (by exact hh0) (by exact hh1) (by exact hh2) (by exact hh3) (by exact hh4) (by (try rw [(show xi (E 0) 23 = y3 from vi_e fy3)]); omega) (by (try rw [(show xi (E 0) 22 = y2 from vi_e fy2)]); omega)) (cwV 0 hts (gi_V (in_27 _ (zs1 (zs1 (zs1 (zs0))))) (in_27 _ (zs4 (zs0))) (in_27 _ (zs4 (zs1 (zs0)))) (in_24 _ (zs4 (zs4 (zs4 (zs1 (zs1 (zs1 (zs0)))))))) (in_25 _ (zs16 (zs16 (zs1 (zs1 (zs1 (zs0)))))))) rfl rfl rfl (by decide +kernel) ⟨(show 7 * n + 5 + 1 ≤ 7 * n + 6 from nl_4 (Nat.le_of_ble_eq_true rfl) (Nat.le_of_ble_eq_true rfl)), (show 8 + (4 + 11) + 40 * (7 * n + 5) ≤ 40 * (7 * n + 6) from nl_3 (Nat.le_of_ble_eq_true rfl) (Nat.le_of_ble_eq_true rfl))⟩) ⟨HW_bl, va_recv hK hP (ci := 14) (q0 := 0) rfl (hI.ob 0 (Nat.le_of_ble_eq_true rfl) rfl), (HW_wi hP hK (WX_D hD) hS hA hEV)⟩ rfl rfl hl.1 rfl (lv_room (Nat.le_of_ble_eq_true rfl)) dX13_term_1 ⟨Nat.le_of_ble_eq_true rfl, Nat.le_of_ble_eq_true rfl⟩) (WX_D hD) hS hA (fun r4 E5 H locs hw hP hS => ?_)
  obtain ⟨hI, kq6, hw⟩ := hw
  have hKb := hKp
  have hKp := hKp.tr kq6 (wl_sub rfl rfl)
  obtain ⟨y7, ey7⟩ : ∃ y, xi (E5 0) 21 = y := ⟨_, rfl⟩
  have fy7 : xv (E5 0) 21 = .int y7 := (hI.fi 0 (Nat.le_of_ble_eq_true rfl) rfl (Nat.le_of_ble_eq_true rfl) rfl).trans (congrArg Value.int ey7)
  have iy7 : 0 ≤ y7.toInt ∧ y7.toInt ≤ 201 := by rw [← ey7]; exact hI.iv 0 (Nat.le_of_ble_eq_true rfl) rfl (Nat.le_of_ble_eq_true rfl) rfl
  obtain ⟨y8, ey8⟩ : ∃ y, xi (E5 0) 22 = y := ⟨_, rfl⟩
  have fy8 : xv (E5 0) 22 = .int y8 := (hI.fi 0 (Nat.le_of_ble_eq_true rfl) rfl (Nat.le_of_ble_eq_true rfl) rfl).trans (congrArg Value.int ey8)
  have iy8 : -1 ≤ y8.toInt ∧ y8.toInt ≤ 201 := by rw [← ey8]; exact hI.iv 0 (Nat.le_of_ble_eq_true rfl) rfl (Nat.le_of_ble_eq_true rfl) rfl
  obtain ⟨y9, ey9⟩ : ∃ y, xi (E5 0) 23 = y := ⟨_, rfl⟩
  have fy9 : xv (E5 0) 23 = .int y9 := (hI.fi 0 (Nat.le_of_ble_eq_true rfl) rfl (Nat.le_of_ble_eq_true rfl) rfl).trans (congrArg Value.int ey9)
  have iy9 : 0 ≤ y9.toInt ∧ y9.toInt ≤ 8 := by rw [← ey9]; exact hI.iv 0 (Nat.le_of_ble_eq_true rfl) rfl (Nat.le_of_ble_eq_true rfl) rfl
  obtain ⟨f10, f11, f12, f13, f14⟩ := hw
  have i15 : 0 ≤ (xi (E 0) 19).toInt ∧ (xi (E 0) 19).toInt ≤ 3000 := (show 0 ≤ (xi (E 0) 19).toInt ∧ (xi (E 0) 19).toInt ≤ 3000 from hI0.iv 0 (Nat.le_of_ble_eq_true rfl) rfl (Nat.le_of_ble_eq_true rfl) rfl)
  have i16 : 0 ≤ (xi (E 0) 20).toInt ∧ (xi (E 0) 20).toInt ≤ 200 := (show 0 ≤ (xi (E 0) 20).toInt ∧ (xi (E 0) 20).toInt ≤ 200 from hI0.iv 0 (Nat.le_of_ble_eq_true rfl) rfl (Nat.le_of_ble_eq_true rfl) rfl)
  try rw [(show xi (E 0) 21 = y1 from vi_e fy1)] at f10
  try rw [(show xi (E5 0) 21 = y7 from vi_e fy7)] at f10
  try rw [(show xi (E 0) 23 = y3 from vi_e fy3)] at f11
  try rw [(show xi (E5 0) 23 = y9 from vi_e fy9)] at f11
  try rw [(show xi (E 0) 22 = y2 from vi_e fy2)] at f12
  try rw [(show xi (E 0) 23 = y3 from vi_e fy3)] at f12
  try rw [(show xi (E5 0) 22 = y8 from vi_e fy8)] at f12
  try rw [(show xi (E5 0) 23 = y9 from vi_e fy9)] at f12
  try rw [(show xi (E 0) 22 = y2 from vi_e fy2)] at f13
  try rw [(show xi (E5 0) 22 = y8 from vi_e fy8)] at f13
  refine lv_istore_n (lv' := [(1, .int r4), (0, .ref (ad 0))]) hx hb dX13_term_4 rfl hl (by decide) rfl (fun ls hl => ?_)
  have hL5 : ∀ d : Nat, ∀ (w5_0_21 : Int32) (w5_0_22 : Int32) (w5_0_23 : Int32) (v5_1 : Int32) (E5_ : Nat → va_E) (H : Heap) (locs : List Loc) (ls : Array Slot), 0 ≤ w5_0_21.toInt ∧ w5_0_21.toInt ≤ 201 → -1 ≤ w5_0_22.toInt ∧ w5_0_22.toInt ≤ 201 → 0 ≤ w5_0_23.toInt ∧ w5_0_23.toInt ≤ 8 → y1.toInt ≤ w5_0_21.toInt → y3.toInt ≤ w5_0_23.toInt → (w5_0_22.toInt = -1 → w5_0_23.toInt = y3.toInt) → (w5_0_22.toInt = -1 → y2.toInt = -1) → LpM k (fun t m a => termS true t m n a) (fun t m => opL t m isMul jb (atomS true t m n)) 0 E E5_ → 201 - w5_0_21.toInt < (d : Int) → IX cT shM spM 72 ad E5_ → Kp w_termX E E5_ → xv (E5_ 0) 21 = .int w5_0_21 → xv (E5_ 0) 22 = .int w5_0_22 → xv (E5_ 0) 23 = .int w5_0_23 → va_P (dC, dI) vwCl (WX 72 ad E5_) H → va_S A s.heap H locs → lv_has ls 5 [(1, .int v5_1), (0, .ref (ad 0))] → W p l e (headSpec v_termX (rm_termX n)).room s m args below meth c H locs 0 0 Q (F0 m 5 ls []) := by
    intro d
    induction d with
    | zero =>
      intro w5_0_21 w5_0_22 w5_0_23 v5_1 E5_ H locs ls hw5_0_21 hw5_0_22 hw5_0_23 hx5_0 hx5_1 hx5_2 hx5_3 hx5_4 hx5_5 hI hKp hs5_0_21 hs5_0_22 hs5_0_23 hP hS hl
      exact absurd hx5_5 (by omega)
    | succ d ih5 =>
      intro w5_0_21 w5_0_22 w5_0_23 v5_1 E5_ H locs ls hw5_0_21 hw5_0_22 hw5_0_23 hx5_0 hx5_1 hx5_2 hx5_3 hx5_4 hx5_5 hI hKp hs5_0_21 hs5_0_22 hs5_0_23 hP hS hl
      refine lv_aload_n hx hb dX13_term_5 rfl (lv_at hl 1 rfl) ?_
      refine th_get (ci := 14) (C := RX13) (T := TX13) (N := 97) (v := .int w5_0_22) hx hb hts hinX13 hown hK hP hI 0 (Nat.le_of_ble_eq_true rfl) rfl rfl 22 (Nat.le_of_ble_eq_true rfl) (hts _ (vA_in _ _ (in_25 _ (zs16 (zs16 (zs4 (zs1 (zs1 (zs1 (zs0)))))))))) (fun _ h9 => h9) hs5_0_22 dX13_term_6 ?_
      refine lv_iconst (v := -1) hx hb dX13_term_9 (by decide) ?_
      refine lv_icmp_ne (tgt := 94) hx hb dX13_term_10 (by decide) (fun c17 => ?_) (fun c17 => ?_)
      · --10 taken
        have t18 : ¬ w5_0_22.toInt = -1 := ti_ne c17
        have i19 : 0 ≤ w5_0_22.toInt ∧ w5_0_22.toInt ≤ 201 := iv_ne_l t18 hw5_0_22 (il_ (-1))
        refine lv_iload_n hx hb dX13_term_94 rfl (lv_at hl 0 rfl) ?_
        rw [hQ]
        exact W.iret (v := v5_1) hx hb hr (fun t ht hW => ⟨⟨v5_1, E5_, rfl, ⟨hI, hKp, ⟨by (try rw [(show xi (E5_ 0) 21 = w5_0_21 from vi_e hs5_0_21)]); (try rw [ey1]); first | done | exact hx5_0 | all_goals omega, by (try rw [(show xi (E5_ 0) 23 = w5_0_23 from vi_e hs5_0_23)]); (try rw [ey3]); first | done | exact hx5_1 | all_goals omega, by (try rw [(show xi (E5_ 0) 22 = w5_0_22 from vi_e hs5_0_22)]); (try rw [(show xi (E5_ 0) 23 = w5_0_23 from vi_e hs5_0_23)]); (try rw [ey2]); (try rw [ey3]); first | done | exact fun q9 => absurd (q9) t18 | all_goals omega, by (try rw [(show xi (E5_ 0) 22 = w5_0_22 from vi_e hs5_0_22)]); (try rw [ey2]); first | done | exact fun q9 => absurd (q9) t18 | all_goals omega, LpM.exF hx5_4 (by show ¬ (xi (E5_ 0) 22).toInt = -1; rw [show xi (E5_ 0) 22 = w5_0_22 from vi_e hs5_0_22]; omega)⟩⟩, by show va_P (dC, dI) vwCl (WX 72 ad E5_) t.heap; rw [ht]; exact hP⟩, hS.F ht⟩) hS.2.2 dX13_term_95
      · --10 not
        have t20 : w5_0_22.toInt = -1 := ti_eq c17
        have i21 : -1 ≤ w5_0_22.toInt ∧ w5_0_22.toInt ≤ -1 := iv_eqi t20 hw5_0_22 (il_ (-1)) (by decide)
        refine lv_aload_n hx hb dX13_term_13 rfl (lv_at hl 1 rfl) ?_
        refine th_i (va_runV (As := []) (rest := []) ⟨hx, hb, hml, hown, hts⟩ (q_lookX l dC dI cT ad E5_ H.size k nl hI (by exact hh0) (by exact hh1) (by exact hh2) (by exact (hKp 0 18 rfl).trans hh3) (by (try rw [hKp.ei 0 19 rfl]); exact hh4)) (cwV 0 hts (gi_V (in_26 _ (zs1 (zs1 (zs0)))) (in_26 _ (zs1 (zs1 (zs1 (zs0))))) (in_26 _ (zs4 (zs0))) (in_24 _ (zs4 (zs4 (zs4 (zs1 (zs1 (zs1 (zs0)))))))) (in_26 _ (zs4 (zs1 (zs0))))) rfl rfl rfl ⟨rfl, hz_yX13_look_0⟩ ⟨(show 0 + 1 ≤ 7 * n + 6 from nl_1 (Nat.le_of_ble_eq_true rfl)), (show 8 + (1 + 11) + 40 * (0) ≤ 40 * (7 * n + 6) from nl_2 (Nat.le_of_ble_eq_true rfl))⟩) ⟨HW_bl, va_recv hK hP (ci := 14) (q0 := 0) rfl (hI.ob 0 (Nat.le_of_ble_eq_true rfl) rfl), (HW_wi hP hK (WX_D hD) hS hA hEV)⟩ rfl rfl hl.1 rfl (lv_room (Nat.le_of_ble_eq_true rfl)) dX13_term_14 ⟨Nat.le_of_ble_eq_true rfl, Nat.le_of_ble_eq_true rfl⟩) (WX_D hD) hS hA (fun r22 E23 H locs hw hP hS => ?_)
        obtain ⟨hI, kq24, hw⟩ := hw
        have hKb := hKp
        have hKp := hKp.tr kq24 (wl_sub rfl rfl)
        obtain ⟨y25, ey25⟩ : ∃ y, xi (E23 0) 21 = y := ⟨_, rfl⟩
        have fy25 : xv (E23 0) 21 = .int y25 := (hI.fi 0 (Nat.le_of_ble_eq_true rfl) rfl (Nat.le_of_ble_eq_true rfl) rfl).trans (congrArg Value.int ey25)
        have iy25 : 0 ≤ y25.toInt ∧ y25.toInt ≤ 201 := by rw [← ey25]; exact hI.iv 0 (Nat.le_of_ble_eq_true rfl) rfl (Nat.le_of_ble_eq_true rfl) rfl
        obtain ⟨f26, f27, f28, f29, f30⟩ := hw
        try rw [(show xi (E5_ 0) 21 = w5_0_21 from vi_e hs5_0_21)] at f27
        try rw [(show xi (E23 0) 21 = y25 from vi_e fy25)] at f27
        try rw [(show xi (E5_ 0) 21 = w5_0_21 from vi_e hs5_0_21)] at f28
        try rw [hKb.ei 0 20 rfl] at f28
        try rw [(show xi (E23 0) 21 = y25 from vi_e fy25)] at f28
        try rw [(show xi (E5_ 0) 21 = w5_0_21 from vi_e hs5_0_21)] at f29
        try rw [hKb.ei 0 20 rfl] at f29
        try rw [(show xi (E23 0) 21 = y25 from vi_e fy25)] at f29
        refine lv_bipush (v := 42) hx hb dX13_term_17 (by decide) ?_
        refine lv_icmp_eq (tgt := 31) hx hb dX13_term_19 (by decide) (fun c31 => ?_) (fun c31 => ?_)
        · --19 taken
          have t32 : r22.toInt = 42 := ti_eq c31
          have i33 : 42 ≤ r22.toInt ∧ r22.toInt ≤ 42 := iv_eqi t32 f26 (il_ 42) (by decide)
          refine lv_aload_n hx hb dX13_term_31 rfl (lv_at hl 1 rfl) ?_
          refine th_i (va_runV (As := []) (rest := []) ⟨hx, hb, hml, hown, hts⟩ (q_lookX l dC dI cT ad E23 H.size k nl hI (by exact hh0) (by exact hh1) (by exact hh2) (by exact (hKp 0 18 rfl).trans hh3) (by (try rw [hKp.ei 0 19 rfl]); exact hh4)) (cwV 0 hts (gi_V (in_26 _ (zs1 (zs1 (zs0)))) (in_26 _ (zs1 (zs1 (zs1 (zs0))))) (in_26 _ (zs4 (zs0))) (in_24 _ (zs4 (zs4 (zs4 (zs1 (zs1 (zs1 (zs0)))))))) (in_26 _ (zs4 (zs1 (zs0))))) rfl rfl rfl ⟨rfl, hz_yX13_look_0⟩ ⟨(show 0 + 1 ≤ 7 * n + 6 from nl_1 (Nat.le_of_ble_eq_true rfl)), (show 8 + (1 + 11) + 40 * (0) ≤ 40 * (7 * n + 6) from nl_2 (Nat.le_of_ble_eq_true rfl))⟩) ⟨HW_bl, va_recv hK hP (ci := 14) (q0 := 0) rfl (hI.ob 0 (Nat.le_of_ble_eq_true rfl) rfl), (HW_wi hP hK (WX_D hD) hS hA hEV)⟩ rfl rfl hl.1 rfl (lv_room (Nat.le_of_ble_eq_true rfl)) dX13_term_32 ⟨Nat.le_of_ble_eq_true rfl, Nat.le_of_ble_eq_true rfl⟩) (WX_D hD) hS hA (fun r34 E35 H locs hw hP hS => ?_)
          obtain ⟨hI, kq36, hw⟩ := hw
          have hKb := hKp
          have hKp := hKp.tr kq36 (wl_sub rfl rfl)
          obtain ⟨y37, ey37⟩ : ∃ y, xi (E35 0) 21 = y := ⟨_, rfl⟩
          have fy37 : xv (E35 0) 21 = .int y37 := (hI.fi 0 (Nat.le_of_ble_eq_true rfl) rfl (Nat.le_of_ble_eq_true rfl) rfl).trans (congrArg Value.int ey37)
          have iy37 : 0 ≤ y37.toInt ∧ y37.toInt ≤ 201 := by rw [← ey37]; exact hI.iv 0 (Nat.le_of_ble_eq_true rfl) rfl (Nat.le_of_ble_eq_true rfl) rfl
          obtain ⟨f38, f39, f40, f41, f42⟩ := hw
          try rw [(show xi (E23 0) 21 = y25 from vi_e fy25)] at f39
          try rw [(show xi (E35 0) 21 = y37 from vi_e fy37)] at f39
          try rw [(show xi (E23 0) 21 = y25 from vi_e fy25)] at f40
          try rw [hKb.ei 0 20 rfl] at f40
          try rw [(show xi (E35 0) 21 = y37 from vi_e fy37)] at f40
          try rw [(show xi (E23 0) 21 = y25 from vi_e fy25)] at f41
          try rw [hKb.ei 0 20 rfl] at f41
          try rw [(show xi (E35 0) 21 = y37 from vi_e fy37)] at f41
          refine lv_bipush (v := 42) hx hb dX13_term_35 (by decide) ?_
          refine lv_icmp_ne (tgt := 44) hx hb dX13_term_37 (by decide) (fun c43 => ?_) (fun c43 => ?_)
          · --37 taken
            have t44 : ¬ r34.toInt = 42 := ti_ne c43
            refine lv_iconst (v := 0) hx hb dX13_term_44 (by decide) ?_
            refine lv_istore_n (lv' := [(2, .int 0), (1, .int v5_1), (0, .ref (ad 0))]) hx hb dX13_term_45 rfl hl (by decide) rfl (fun ls hl => ?_)
            refine lv_aload_n hx hb dX13_term_46 rfl (lv_at hl 2 rfl) ?_
            refine lv_dup hx hb dX13_term_47 rfl ?_
            refine th_get (ci := 14) (C := RX13) (T := TX13) (N := 97) (v := .int y37) hx hb hts hinX13 hown hK hP hI 0 (Nat.le_of_ble_eq_true rfl) rfl rfl 21 (Nat.le_of_ble_eq_true rfl) (hts _ (vA_in _ _ (in_25 _ (zs16 (zs16 (zs4 (zs0))))))) (fun _ h9 => h9) fy37 dX13_term_48 ?_
            refine lv_iconst (v := 1) hx hb dX13_term_51 (by decide) ?_
            refine lv_iadd hx hb dX13_term_52 ?_
            refine lv_topi (fun y45 ey45 => ?_)
            obtain ⟨ty45, iy45⟩ := ti_add (e := 1) (f := 202) iy37 ln_1 ey45 (by decide)
            have ty45 : y45.toInt = y37.toInt + 1 := ty45
            have iy45 : 1 ≤ y45.toInt ∧ y45.toInt ≤ 202 := iy45
            have i46 : 1 ≤ y45.toInt ∧ y45.toInt ≤ 201 := by omega
            refine th_put (ci := 14) (C := RX13) (T := TX13) (N := 97) (v := .int y45) (ty := .int) hx hb hts hinX13 tyX13 tyX13_ok nmX13 hown hK hP (WX_D hD) hS hI 0 (Nat.le_of_ble_eq_true rfl) rfl rfl 21 (Nat.le_of_ble_eq_true rfl) (hts _ (vA_in _ _ (in_25 _ (zs16 (zs16 (zs4 (zs0))))))) (fun _ h9 => h9) rfl (by decide +kernel) rfl rfl (okI rfl (iv_w i46 (by decide))) dX13_term_53 (fun H locs E47 pw48 hI hP hS => ?_)
            have hKp := hKp.pw pw48 rfl
            have k49 : AtM k E35 E47 := AtM.pw pw48.2 hk0 (vi_e fy37) (vi_e pw48.1) ty45 (by omega)
            refine lv_aload_n hx hb dX13_term_56 rfl (lv_at hl 2 rfl) ?_
            refine th_i (va_runV (As := []) (rest := []) ⟨hx, hb, hml, hown, hts⟩ (gA dC dI cT ad E47 H.size k nl hI (by exact hh0) (by exact hh1) (by exact hh2) (by exact (hKp 0 18 rfl).trans hh3) (by (try rw [hKp.ei 0 19 rfl]); exact hh4) (by (try rw [(show xi (E47 0) 23 = w5_0_23 from vi_e ((pw48.2 0 23 (fun q9 => absurd q9.2 (Nat.ne_of_beq_eq_false rfl))).trans ((kq36 0 23 rfl).trans ((kq24 0 23 rfl).trans hs5_0_23))))]); omega) (by (try rw [(show xi (E47 0) 22 = w5_0_22 from vi_e ((pw48.2 0 22 (fun q9 => absurd q9.2 (Nat.ne_of_beq_eq_false rfl))).trans ((kq36 0 22 rfl).trans ((kq24 0 22 rfl).trans hs5_0_22))))]); omega)) (cwV 0 hts (gi_V (in_27 _ (zs1 (zs1 (zs1 (zs0))))) (in_27 _ (zs4 (zs0))) (in_27 _ (zs4 (zs1 (zs0)))) (in_24 _ (zs4 (zs4 (zs4 (zs1 (zs1 (zs1 (zs0)))))))) (in_25 _ (zs16 (zs16 (zs1 (zs1 (zs1 (zs0)))))))) rfl rfl rfl (by decide +kernel) ⟨(show 7 * n + 5 + 1 ≤ 7 * n + 6 from nl_4 (Nat.le_of_ble_eq_true rfl) (Nat.le_of_ble_eq_true rfl)), (show 8 + (4 + 11) + 40 * (7 * n + 5) ≤ 40 * (7 * n + 6) from nl_3 (Nat.le_of_ble_eq_true rfl) (Nat.le_of_ble_eq_true rfl))⟩) ⟨HW_bl, va_recv hK hP (ci := 14) (q0 := 0) rfl (hI.ob 0 (Nat.le_of_ble_eq_true rfl) rfl), (HW_wi hP hK (WX_D hD) hS hA hEV)⟩ rfl rfl hl.1 rfl (lv_room (Nat.le_of_ble_eq_true rfl)) dX13_term_57 ⟨Nat.le_of_ble_eq_true rfl, Nat.le_of_ble_eq_true rfl⟩) (WX_D hD) hS hA (fun r50 E51 H locs hw hP hS => ?_)
            obtain ⟨hI, kq52, hw⟩ := hw
            have hKb := hKp
            have hKp := hKp.tr kq52 (wl_sub rfl rfl)
            obtain ⟨y53, ey53⟩ : ∃ y, xi (E51 0) 21 = y := ⟨_, rfl⟩
            have fy53 : xv (E51 0) 21 = .int y53 := (hI.fi 0 (Nat.le_of_ble_eq_true rfl) rfl (Nat.le_of_ble_eq_true rfl) rfl).trans (congrArg Value.int ey53)
            have iy53 : 0 ≤ y53.toInt ∧ y53.toInt ≤ 201 := by rw [← ey53]; exact hI.iv 0 (Nat.le_of_ble_eq_true rfl) rfl (Nat.le_of_ble_eq_true rfl) rfl
            obtain ⟨y54, ey54⟩ : ∃ y, xi (E51 0) 22 = y := ⟨_, rfl⟩
            have fy54 : xv (E51 0) 22 = .int y54 := (hI.fi 0 (Nat.le_of_ble_eq_true rfl) rfl (Nat.le_of_ble_eq_true rfl) rfl).trans (congrArg Value.int ey54)
            have iy54 : -1 ≤ y54.toInt ∧ y54.toInt ≤ 201 := by rw [← ey54]; exact hI.iv 0 (Nat.le_of_ble_eq_true rfl) rfl (Nat.le_of_ble_eq_true rfl) rfl
            obtain ⟨y55, ey55⟩ : ∃ y, xi (E51 0) 23 = y := ⟨_, rfl⟩
            have fy55 : xv (E51 0) 23 = .int y55 := (hI.fi 0 (Nat.le_of_ble_eq_true rfl) rfl (Nat.le_of_ble_eq_true rfl) rfl).trans (congrArg Value.int ey55)
            have iy55 : 0 ≤ y55.toInt ∧ y55.toInt ≤ 8 := by rw [← ey55]; exact hI.iv 0 (Nat.le_of_ble_eq_true rfl) rfl (Nat.le_of_ble_eq_true rfl) rfl
            obtain ⟨f56, f57, f58, f59, f60⟩ := hw
            try rw [(show xi (E47 0) 21 = y45 from vi_e pw48.1)] at f56
            try rw [(show xi (E51 0) 21 = y53 from vi_e fy53)] at f56
            try rw [(show xi (E47 0) 23 = w5_0_23 from vi_e ((pw48.2 0 23 (fun q9 => absurd q9.2 (Nat.ne_of_beq_eq_false rfl))).trans ((kq36 0 23 rfl).trans ((kq24 0 23 rfl).trans hs5_0_23))))] at f57
            try rw [(show xi (E51 0) 23 = y55 from vi_e fy55)] at f57
            try rw [(show xi (E47 0) 22 = w5_0_22 from vi_e ((pw48.2 0 22 (fun q9 => absurd q9.2 (Nat.ne_of_beq_eq_false rfl))).trans ((kq36 0 22 rfl).trans ((kq24 0 22 rfl).trans hs5_0_22))))] at f58
            try rw [(show xi (E47 0) 23 = w5_0_23 from vi_e ((pw48.2 0 23 (fun q9 => absurd q9.2 (Nat.ne_of_beq_eq_false rfl))).trans ((kq36 0 23 rfl).trans ((kq24 0 23 rfl).trans hs5_0_23))))] at f58
            try rw [(show xi (E51 0) 22 = y54 from vi_e fy54)] at f58
            try rw [(show xi (E51 0) 23 = y55 from vi_e fy55)] at f58
            try rw [(show xi (E47 0) 22 = w5_0_22 from vi_e ((pw48.2 0 22 (fun q9 => absurd q9.2 (Nat.ne_of_beq_eq_false rfl))).trans ((kq36 0 22 rfl).trans ((kq24 0 22 rfl).trans hs5_0_22))))] at f59
            try rw [(show xi (E51 0) 22 = y54 from vi_e fy54)] at f59
            refine lv_i2l hx hb dX13_term_60 rfl ?_
            refine lv_topl (fun y61 ey61 => ?_)
            refine lv_lstore_n (lv' := [(3, .long y61), (2, .int 0), (1, .int v5_1), (0, .ref (ad 0))]) hx hb dX13_term_61 rfl hl (by decide) rfl (fun ls hl => ?_)
            refine lv_iload_n hx hb dX13_term_62 rfl (lv_at hl 1 rfl) ?_
            refine lv_if_eq (tgt := 73) hx hb dX13_term_63 (by decide) (fun c62 => ?_) (fun c62 => ?_)
            · --63 taken
              refine lv_lload_n hx hb dX13_term_73 rfl (lv_at hl 0 rfl) ?_
              refine lv_lconst hx hb dX13_term_74 rfl ?_
              refine lv_topl (fun y63 ey63 => ?_)
              refine W.lcmp hx hb dX13_term_75 ?_
              refine lv_topi (fun y64 ey64 => ?_)
              refine lv_if_ne (tgt := 83) hx hb dX13_term_76 (by decide) (fun c65 => ?_) (fun c65 => ?_)
              · --76 taken
                have t66 : ¬ y64.toInt = 0 := ti_ne c65
                refine lv_iload_n hx hb dX13_term_83 rfl (lv_at hl 2 rfl) ?_
                refine lv_i2l hx hb dX13_term_84 rfl ?_
                refine lv_topl (fun y67 ey67 => ?_)
                refine lv_lload_n hx hb dX13_term_85 rfl (lv_at hl 0 rfl) ?_
                refine lv_ldiv hx hb dX13_term_86 (lcmp_n0 ey64 ey63 c65) ?_
                refine lv_topl (fun y68 ey68 => ?_)
                refine th_pi (va_runS (As := [.long y68]) (rest := []) ⟨hx, hb, hml, hown, hts⟩ (q_bound l y68) (va_cwS 1 hts (gi_S (in_26 _ (zs16 (zs4 (zs4 (zs4 (zs1 (zs1 (zs1 (zs0))))))))) (in_26 _ (zs16 (zs16 (zs0)))) (in_24 _ (zs4 (zs4 (zs4 (zs1 (zs1 (zs1 (zs0)))))))) (in_26 _ (zs16 (zs16 (zs1 (zs0)))))) rfl rfl rfl hz_yX13_bound_1 ⟨(show 1 + 1 ≤ 7 * n + 6 from nl_1 (Nat.le_of_ble_eq_true rfl)), (show 8 + (2 + 11) + 40 * (1) ≤ 40 * (7 * n + 6) from nl_2 (Nat.le_of_ble_eq_true rfl))⟩) ⟨fun _ _ _ _ q => q, fun _ _ _ => ⟨rfl, trivial⟩⟩ rfl rfl hl.1 rfl (lv_room (Nat.le_of_ble_eq_true rfl)) dX13_term_87 ⟨Nat.le_of_ble_eq_true rfl, Nat.le_of_ble_eq_true rfl⟩) hS (fun r69 H1 locs1 hw hk1 hS => ?_)
                have hP := ub_keep hP hk1
                generalize H1 = H at hP hS ⊢
                generalize locs1 = locs at hS ⊢
                refine lv_istore_n (lv' := [(1, .int r69), (3, .long y61), (2, .int 0), (0, .ref (ad 0))]) hx hb dX13_term_90 rfl hl (by decide) rfl (fun ls hl => ?_)
                refine lv_goto (tgt := 5) hx hb dX13_term_91 (by decide) ?_
                exact ih5 y53 y54 y55 r69 E51 _ _ _ iy53 iy54 iy55 (by  first | exact (Int.le_trans (Int.le_trans (Int.le_trans (Int.le_trans hx5_0 f27) f39) (Int.le_trans (Int.le_add_of_nonneg_right (by decide)) (Int.le_of_eq ty45.symm))) f56) | omega) (by  first | exact (Int.le_trans hx5_1 f57) | omega) (by  first | exact fun q9 => ((f58 (q9)).trans (hx5_2 (f59 (q9)))) | omega) (by  first | exact fun q9 => hx5_3 (f59 (q9)) | omega) (LpM.step (op := isMul) (cb := jb) hx5_4 (f30.two f42) (is_mul.mpr (by have q20 := f30.eq f42 (by show (xi (E5_ 0) 22).toInt = -1; rw [show xi (E5_ 0) 22 = w5_0_22 from vi_e hs5_0_22]; first | exact t20 | omega); omega)) (by show (xi (E5_ 0) 22).toInt = -1; rw [show xi (E5_ 0) 22 = w5_0_22 from vi_e hs5_0_22]; first | exact t20 | omega) k49 f60 KM.rf (by decide) (fun t m => atomS_mono true t m n) (fun t m a c h => opL_1 (atomS_mono true t m n) rfl h)) (by omega) hI hKp fy53 fy54 fy55 hP hS (lv_sub hl [0, 3] rfl)
              · --76 not
                have t70 : y64.toInt = 0 := ti_eq c65
                have i71 : 0 ≤ y64.toInt ∧ y64.toInt ≤ 0 := iv_eqi t70 (iv_all _) (il_ 0) (by decide)
                refine lv_lconst hx hb dX13_term_79 rfl ?_
                refine lv_topl (fun y72 ey72 => ?_)
                refine lv_goto (tgt := 87) hx hb dX13_term_80 (by decide) ?_
                refine th_pi (va_runS (As := [.long y72]) (rest := []) ⟨hx, hb, hml, hown, hts⟩ (q_bound l y72) (va_cwS 1 hts (gi_S (in_26 _ (zs16 (zs4 (zs4 (zs4 (zs1 (zs1 (zs1 (zs0))))))))) (in_26 _ (zs16 (zs16 (zs0)))) (in_24 _ (zs4 (zs4 (zs4 (zs1 (zs1 (zs1 (zs0)))))))) (in_26 _ (zs16 (zs16 (zs1 (zs0)))))) rfl rfl rfl hz_yX13_bound_1 ⟨(show 1 + 1 ≤ 7 * n + 6 from nl_1 (Nat.le_of_ble_eq_true rfl)), (show 8 + (2 + 11) + 40 * (1) ≤ 40 * (7 * n + 6) from nl_2 (Nat.le_of_ble_eq_true rfl))⟩) ⟨fun _ _ _ _ q => q, fun _ _ _ => ⟨rfl, trivial⟩⟩ rfl rfl hl.1 rfl (lv_room (Nat.le_of_ble_eq_true rfl)) dX13_term_87 ⟨Nat.le_of_ble_eq_true rfl, Nat.le_of_ble_eq_true rfl⟩) hS (fun r73 H1 locs1 hw hk1 hS => ?_)
                have hP := ub_keep hP hk1
                generalize H1 = H at hP hS ⊢
                generalize locs1 = locs at hS ⊢
                refine lv_istore_n (lv' := [(1, .int r73), (3, .long y61), (2, .int 0), (0, .ref (ad 0))]) hx hb dX13_term_90 rfl hl (by decide) rfl (fun ls hl => ?_)
                refine lv_goto (tgt := 5) hx hb dX13_term_91 (by decide) ?_
                exact ih5 y53 y54 y55 r73 E51 _ _ _ iy53 iy54 iy55 (by  first | exact (Int.le_trans (Int.le_trans (Int.le_trans (Int.le_trans hx5_0 f27) f39) (Int.le_trans (Int.le_add_of_nonneg_right (by decide)) (Int.le_of_eq ty45.symm))) f56) | omega) (by  first | exact (Int.le_trans hx5_1 f57) | omega) (by  first | exact fun q9 => ((f58 (q9)).trans (hx5_2 (f59 (q9)))) | omega) (by  first | exact fun q9 => hx5_3 (f59 (q9)) | omega) (LpM.step (op := isMul) (cb := jb) hx5_4 (f30.two f42) (is_mul.mpr (by have q20 := f30.eq f42 (by show (xi (E5_ 0) 22).toInt = -1; rw [show xi (E5_ 0) 22 = w5_0_22 from vi_e hs5_0_22]; first | exact t20 | omega); omega)) (by show (xi (E5_ 0) 22).toInt = -1; rw [show xi (E5_ 0) 22 = w5_0_22 from vi_e hs5_0_22]; first | exact t20 | omega) k49 f60 KM.rf (by decide) (fun t m => atomS_mono true t m n) (fun t m a c h => opL_1 (atomS_mono true t m n) rfl h)) (by omega) hI hKp fy53 fy54 fy55 hP hS (lv_sub hl [0, 3] rfl)
            · --63 not
              exact absurd c62 (by decide)
          · --37 not
            have t74 : r34.toInt = 42 := ti_eq c43
            have i75 : 42 ≤ r34.toInt ∧ r34.toInt ≤ 42 := iv_eqi t74 f38 (il_ 42) (by decide)
            refine lv_iconst (v := 1) hx hb dX13_term_40 (by decide) ?_
            refine lv_goto (tgt := 45) hx hb dX13_term_41 (by decide) ?_
            refine lv_istore_n (lv' := [(2, .int 1), (1, .int v5_1), (0, .ref (ad 0))]) hx hb dX13_term_45 rfl hl (by decide) rfl (fun ls hl => ?_)
            refine lv_aload_n hx hb dX13_term_46 rfl (lv_at hl 2 rfl) ?_
            refine lv_dup hx hb dX13_term_47 rfl ?_
            refine th_get (ci := 14) (C := RX13) (T := TX13) (N := 97) (v := .int y37) hx hb hts hinX13 hown hK hP hI 0 (Nat.le_of_ble_eq_true rfl) rfl rfl 21 (Nat.le_of_ble_eq_true rfl) (hts _ (vA_in _ _ (in_25 _ (zs16 (zs16 (zs4 (zs0))))))) (fun _ h9 => h9) fy37 dX13_term_48 ?_
            refine lv_iconst (v := 1) hx hb dX13_term_51 (by decide) ?_
            refine lv_iadd hx hb dX13_term_52 ?_
            refine lv_topi (fun y76 ey76 => ?_)
            obtain ⟨ty76, iy76⟩ := ti_add (e := 1) (f := 202) iy37 ln_1 ey76 (by decide)
            have ty76 : y76.toInt = y37.toInt + 1 := ty76
            have iy76 : 1 ≤ y76.toInt ∧ y76.toInt ≤ 202 := iy76
            have i77 : 1 ≤ y76.toInt ∧ y76.toInt ≤ 201 := by omega
            refine th_put (ci := 14) (C := RX13) (T := TX13) (N := 97) (v := .int y76) (ty := .int) hx hb hts hinX13 tyX13 tyX13_ok nmX13 hown hK hP (WX_D hD) hS hI 0 (Nat.le_of_ble_eq_true rfl) rfl rfl 21 (Nat.le_of_ble_eq_true rfl) (hts _ (vA_in _ _ (in_25 _ (zs16 (zs16 (zs4 (zs0))))))) (fun _ h9 => h9) rfl (by decide +kernel) rfl rfl (okI rfl (iv_w i77 (by decide))) dX13_term_53 (fun H locs E78 pw79 hI hP hS => ?_)
            have hKp := hKp.pw pw79 rfl
            have k80 : AtM k E35 E78 := AtM.pw pw79.2 hk0 (vi_e fy37) (vi_e pw79.1) ty76 (by omega)
            refine lv_aload_n hx hb dX13_term_56 rfl (lv_at hl 2 rfl) ?_
            refine th_i (va_runV (As := []) (rest := []) ⟨hx, hb, hml, hown, hts⟩ (gA dC dI cT ad E78 H.size k nl hI (by exact hh0) (by exact hh1) (by exact hh2) (by exact (hKp 0 18 rfl).trans hh3) (by (try rw [hKp.ei 0 19 rfl]); exact hh4) (by (try rw [(show xi (E78 0) 23 = w5_0_23 from vi_e ((pw79.2 0 23 (fun q9 => absurd q9.2 (Nat.ne_of_beq_eq_false rfl))).trans ((kq36 0 23 rfl).trans ((kq24 0 23 rfl).trans hs5_0_23))))]); omega) (by (try rw [(show xi (E78 0) 22 = w5_0_22 from vi_e ((pw79.2 0 22 (fun q9 => absurd q9.2 (Nat.ne_of_beq_eq_false rfl))).trans ((kq36 0 22 rfl).trans ((kq24 0 22 rfl).trans hs5_0_22))))]); omega)) (cwV 0 hts (gi_V (in_27 _ (zs1 (zs1 (zs1 (zs0))))) (in_27 _ (zs4 (zs0))) (in_27 _ (zs4 (zs1 (zs0)))) (in_24 _ (zs4 (zs4 (zs4 (zs1 (zs1 (zs1 (zs0)))))))) (in_25 _ (zs16 (zs16 (zs1 (zs1 (zs1 (zs0)))))))) rfl rfl rfl (by decide +kernel) ⟨(show 7 * n + 5 + 1 ≤ 7 * n + 6 from nl_4 (Nat.le_of_ble_eq_true rfl) (Nat.le_of_ble_eq_true rfl)), (show 8 + (4 + 11) + 40 * (7 * n + 5) ≤ 40 * (7 * n + 6) from nl_3 (Nat.le_of_ble_eq_true rfl) (Nat.le_of_ble_eq_true rfl))⟩) ⟨HW_bl, va_recv hK hP (ci := 14) (q0 := 0) rfl (hI.ob 0 (Nat.le_of_ble_eq_true rfl) rfl), (HW_wi hP hK (WX_D hD) hS hA hEV)⟩ rfl rfl hl.1 rfl (lv_room (Nat.le_of_ble_eq_true rfl)) dX13_term_57 ⟨Nat.le_of_ble_eq_true rfl, Nat.le_of_ble_eq_true rfl⟩) (WX_D hD) hS hA (fun r81 E82 H locs hw hP hS => ?_)
            obtain ⟨hI, kq83, hw⟩ := hw
            have hKb := hKp
            have hKp := hKp.tr kq83 (wl_sub rfl rfl)
            obtain ⟨y84, ey84⟩ : ∃ y, xi (E82 0) 21 = y := ⟨_, rfl⟩
            have fy84 : xv (E82 0) 21 = .int y84 := (hI.fi 0 (Nat.le_of_ble_eq_true rfl) rfl (Nat.le_of_ble_eq_true rfl) rfl).trans (congrArg Value.int ey84)
            have iy84 : 0 ≤ y84.toInt ∧ y84.toInt ≤ 201 := by rw [← ey84]; exact hI.iv 0 (Nat.le_of_ble_eq_true rfl) rfl (Nat.le_of_ble_eq_true rfl) rfl
            obtain ⟨y85, ey85⟩ : ∃ y, xi (E82 0) 22 = y := ⟨_, rfl⟩
            have fy85 : xv (E82 0) 22 = .int y85 := (hI.fi 0 (Nat.le_of_ble_eq_true rfl) rfl (Nat.le_of_ble_eq_true rfl) rfl).trans (congrArg Value.int ey85)
            have iy85 : -1 ≤ y85.toInt ∧ y85.toInt ≤ 201 := by rw [← ey85]; exact hI.iv 0 (Nat.le_of_ble_eq_true rfl) rfl (Nat.le_of_ble_eq_true rfl) rfl
            obtain ⟨y86, ey86⟩ : ∃ y, xi (E82 0) 23 = y := ⟨_, rfl⟩
            have fy86 : xv (E82 0) 23 = .int y86 := (hI.fi 0 (Nat.le_of_ble_eq_true rfl) rfl (Nat.le_of_ble_eq_true rfl) rfl).trans (congrArg Value.int ey86)
            have iy86 : 0 ≤ y86.toInt ∧ y86.toInt ≤ 8 := by rw [← ey86]; exact hI.iv 0 (Nat.le_of_ble_eq_true rfl) rfl (Nat.le_of_ble_eq_true rfl) rfl
            obtain ⟨f87, f88, f89, f90, f91⟩ := hw
            try rw [(show xi (E78 0) 21 = y76 from vi_e pw79.1)] at f87
            try rw [(show xi (E82 0) 21 = y84 from vi_e fy84)] at f87
            try rw [(show xi (E78 0) 23 = w5_0_23 from vi_e ((pw79.2 0 23 (fun q9 => absurd q9.2 (Nat.ne_of_beq_eq_false rfl))).trans ((kq36 0 23 rfl).trans ((kq24 0 23 rfl).trans hs5_0_23))))] at f88
            try rw [(show xi (E82 0) 23 = y86 from vi_e fy86)] at f88
            try rw [(show xi (E78 0) 22 = w5_0_22 from vi_e ((pw79.2 0 22 (fun q9 => absurd q9.2 (Nat.ne_of_beq_eq_false rfl))).trans ((kq36 0 22 rfl).trans ((kq24 0 22 rfl).trans hs5_0_22))))] at f89
            try rw [(show xi (E78 0) 23 = w5_0_23 from vi_e ((pw79.2 0 23 (fun q9 => absurd q9.2 (Nat.ne_of_beq_eq_false rfl))).trans ((kq36 0 23 rfl).trans ((kq24 0 23 rfl).trans hs5_0_23))))] at f89
            try rw [(show xi (E82 0) 22 = y85 from vi_e fy85)] at f89
            try rw [(show xi (E82 0) 23 = y86 from vi_e fy86)] at f89
            try rw [(show xi (E78 0) 22 = w5_0_22 from vi_e ((pw79.2 0 22 (fun q9 => absurd q9.2 (Nat.ne_of_beq_eq_false rfl))).trans ((kq36 0 22 rfl).trans ((kq24 0 22 rfl).trans hs5_0_22))))] at f90
            try rw [(show xi (E82 0) 22 = y85 from vi_e fy85)] at f90
            refine lv_i2l hx hb dX13_term_60 rfl ?_
            refine lv_topl (fun y92 ey92 => ?_)
            refine lv_lstore_n (lv' := [(3, .long y92), (2, .int 1), (1, .int v5_1), (0, .ref (ad 0))]) hx hb dX13_term_61 rfl hl (by decide) rfl (fun ls hl => ?_)
            refine lv_iload_n hx hb dX13_term_62 rfl (lv_at hl 1 rfl) ?_
            refine lv_if_eq (tgt := 73) hx hb dX13_term_63 (by decide) (fun c93 => ?_) (fun c93 => ?_)
            · --63 taken
              exact absurd c93 (by decide)
            · --63 not
              refine lv_iload_n hx hb dX13_term_66 rfl (lv_at hl 2 rfl) ?_
              refine lv_i2l hx hb dX13_term_67 rfl ?_
              refine lv_topl (fun y94 ey94 => ?_)
              refine lv_lload_n hx hb dX13_term_68 rfl (lv_at hl 0 rfl) ?_
              refine lv_lmul hx hb dX13_term_69 ?_
              refine lv_topl (fun y95 ey95 => ?_)
              refine lv_goto (tgt := 87) hx hb dX13_term_70 (by decide) ?_
              refine th_pi (va_runS (As := [.long y95]) (rest := []) ⟨hx, hb, hml, hown, hts⟩ (q_bound l y95) (va_cwS 1 hts (gi_S (in_26 _ (zs16 (zs4 (zs4 (zs4 (zs1 (zs1 (zs1 (zs0))))))))) (in_26 _ (zs16 (zs16 (zs0)))) (in_24 _ (zs4 (zs4 (zs4 (zs1 (zs1 (zs1 (zs0)))))))) (in_26 _ (zs16 (zs16 (zs1 (zs0)))))) rfl rfl rfl hz_yX13_bound_1 ⟨(show 1 + 1 ≤ 7 * n + 6 from nl_1 (Nat.le_of_ble_eq_true rfl)), (show 8 + (2 + 11) + 40 * (1) ≤ 40 * (7 * n + 6) from nl_2 (Nat.le_of_ble_eq_true rfl))⟩) ⟨fun _ _ _ _ q => q, fun _ _ _ => ⟨rfl, trivial⟩⟩ rfl rfl hl.1 rfl (lv_room (Nat.le_of_ble_eq_true rfl)) dX13_term_87 ⟨Nat.le_of_ble_eq_true rfl, Nat.le_of_ble_eq_true rfl⟩) hS (fun r96 H1 locs1 hw hk1 hS => ?_)
              have hP := ub_keep hP hk1
              generalize H1 = H at hP hS ⊢
              generalize locs1 = locs at hS ⊢
              refine lv_istore_n (lv' := [(1, .int r96), (3, .long y92), (2, .int 1), (0, .ref (ad 0))]) hx hb dX13_term_90 rfl hl (by decide) rfl (fun ls hl => ?_)
              refine lv_goto (tgt := 5) hx hb dX13_term_91 (by decide) ?_
              exact ih5 y84 y85 y86 r96 E82 _ _ _ iy84 iy85 iy86 (by  first | exact (Int.le_trans (Int.le_trans (Int.le_trans (Int.le_trans hx5_0 f27) f39) (Int.le_trans (Int.le_add_of_nonneg_right (by decide)) (Int.le_of_eq ty76.symm))) f87) | omega) (by  first | exact (Int.le_trans hx5_1 f88) | omega) (by  first | exact fun q9 => ((f89 (q9)).trans (hx5_2 (f90 (q9)))) | omega) (by  first | exact fun q9 => hx5_3 (f90 (q9)) | omega) (LpM.step (op := isMul) (cb := jb) hx5_4 (f30.two f42) (is_mul.mpr (by have q20 := f30.eq f42 (by show (xi (E5_ 0) 22).toInt = -1; rw [show xi (E5_ 0) 22 = w5_0_22 from vi_e hs5_0_22]; first | exact t20 | omega); omega)) (by show (xi (E5_ 0) 22).toInt = -1; rw [show xi (E5_ 0) 22 = w5_0_22 from vi_e hs5_0_22]; first | exact t20 | omega) k80 f91 KM.rf (by decide) (fun t m => atomS_mono true t m n) (fun t m a c h => opL_1 (atomS_mono true t m n) rfl h)) (by omega) hI hKp fy84 fy85 fy86 hP hS (lv_sub hl [0, 3] rfl)
        · --19 not
          have t97 : ¬ r22.toInt = 42 := ti_ne c31
          refine lv_aload_n hx hb dX13_term_22 rfl (lv_at hl 1 rfl) ?_
          refine th_i (va_runV (As := []) (rest := []) ⟨hx, hb, hml, hown, hts⟩ (q_lookX l dC dI cT ad E23 H.size k nl hI (by exact hh0) (by exact hh1) (by exact hh2) (by exact (hKp 0 18 rfl).trans hh3) (by (try rw [hKp.ei 0 19 rfl]); exact hh4)) (cwV 0 hts (gi_V (in_26 _ (zs1 (zs1 (zs0)))) (in_26 _ (zs1 (zs1 (zs1 (zs0))))) (in_26 _ (zs4 (zs0))) (in_24 _ (zs4 (zs4 (zs4 (zs1 (zs1 (zs1 (zs0)))))))) (in_26 _ (zs4 (zs1 (zs0))))) rfl rfl rfl ⟨rfl, hz_yX13_look_0⟩ ⟨(show 0 + 1 ≤ 7 * n + 6 from nl_1 (Nat.le_of_ble_eq_true rfl)), (show 8 + (1 + 11) + 40 * (0) ≤ 40 * (7 * n + 6) from nl_2 (Nat.le_of_ble_eq_true rfl))⟩) ⟨HW_bl, va_recv hK hP (ci := 14) (q0 := 0) rfl (hI.ob 0 (Nat.le_of_ble_eq_true rfl) rfl), (HW_wi hP hK (WX_D hD) hS hA hEV)⟩ rfl rfl hl.1 rfl (lv_room (Nat.le_of_ble_eq_true rfl)) dX13_term_23 ⟨Nat.le_of_ble_eq_true rfl, Nat.le_of_ble_eq_true rfl⟩) (WX_D hD) hS hA (fun r98 E99 H locs hw hP hS => ?_)
          obtain ⟨hI, kq100, hw⟩ := hw
          have hKb := hKp
          have hKp := hKp.tr kq100 (wl_sub rfl rfl)
          obtain ⟨y101, ey101⟩ : ∃ y, xi (E99 0) 21 = y := ⟨_, rfl⟩
          have fy101 : xv (E99 0) 21 = .int y101 := (hI.fi 0 (Nat.le_of_ble_eq_true rfl) rfl (Nat.le_of_ble_eq_true rfl) rfl).trans (congrArg Value.int ey101)
          have iy101 : 0 ≤ y101.toInt ∧ y101.toInt ≤ 201 := by rw [← ey101]; exact hI.iv 0 (Nat.le_of_ble_eq_true rfl) rfl (Nat.le_of_ble_eq_true rfl) rfl
          obtain ⟨f102, f103, f104, f105, f106⟩ := hw
          try rw [(show xi (E23 0) 21 = y25 from vi_e fy25)] at f103
          try rw [(show xi (E99 0) 21 = y101 from vi_e fy101)] at f103
          try rw [(show xi (E23 0) 21 = y25 from vi_e fy25)] at f104
          try rw [hKb.ei 0 20 rfl] at f104
          try rw [(show xi (E99 0) 21 = y101 from vi_e fy101)] at f104
          try rw [(show xi (E23 0) 21 = y25 from vi_e fy25)] at f105
          try rw [hKb.ei 0 20 rfl] at f105
          try rw [(show xi (E99 0) 21 = y101 from vi_e fy101)] at f105
          refine lv_bipush (v := 47) hx hb dX13_term_26 (by decide) ?_
          refine lv_icmp_ne (tgt := 94) hx hb dX13_term_28 (by decide) (fun c107 => ?_) (fun c107 => ?_)
          · --28 taken
            have t108 : ¬ r98.toInt = 47 := ti_ne c107
            refine lv_iload_n hx hb dX13_term_94 rfl (lv_at hl 0 rfl) ?_
            rw [hQ]
            exact W.iret (v := v5_1) hx hb hr (fun t ht hW => ⟨⟨v5_1, E99, rfl, ⟨hI, hKp, ⟨by (try rw [(show xi (E99 0) 21 = y101 from vi_e fy101)]); (try rw [ey1]); first | done | exact (Int.le_trans (Int.le_trans hx5_0 f27) f103) | all_goals omega, by (try rw [(show xi (E99 0) 23 = w5_0_23 from vi_e ((kq100 0 23 rfl).trans ((kq24 0 23 rfl).trans hs5_0_23)))]); (try rw [ey3]); first | done | exact hx5_1 | all_goals omega, by (try rw [(show xi (E99 0) 22 = w5_0_22 from vi_e ((kq100 0 22 rfl).trans ((kq24 0 22 rfl).trans hs5_0_22)))]); (try rw [(show xi (E99 0) 23 = w5_0_23 from vi_e ((kq100 0 23 rfl).trans ((kq24 0 23 rfl).trans hs5_0_23)))]); (try rw [ey2]); (try rw [ey3]); first | done | exact fun q9 => (hx5_2 (q9)) | all_goals omega, by (try rw [(show xi (E99 0) 22 = w5_0_22 from vi_e ((kq100 0 22 rfl).trans ((kq24 0 22 rfl).trans hs5_0_22)))]); (try rw [ey2]); first | done | exact fun q9 => hx5_3 (q9) | all_goals omega, LpM.exit (op := isMul) hx5_4 (f30.two f106) (fun q9 => by have q8 := is_mul.mp q9; have q20 := f30.eq f106 (by show (xi (E5_ 0) 22).toInt = -1; rw [show xi (E5_ 0) 22 = w5_0_22 from vi_e hs5_0_22]; first | exact t20 | omega); omega) (fun t m a c h => opL_0 h)⟩⟩, by show va_P (dC, dI) vwCl (WX 72 ad E99) t.heap; rw [ht]; exact hP⟩, hS.F ht⟩) hS.2.2 dX13_term_95
          · --28 not
            have t109 : r98.toInt = 47 := ti_eq c107
            have i110 : 47 ≤ r98.toInt ∧ r98.toInt ≤ 47 := iv_eqi t109 f102 (il_ 47) (by decide)
            refine lv_aload_n hx hb dX13_term_31 rfl (lv_at hl 1 rfl) ?_
            refine th_i (va_runV (As := []) (rest := []) ⟨hx, hb, hml, hown, hts⟩ (q_lookX l dC dI cT ad E99 H.size k nl hI (by exact hh0) (by exact hh1) (by exact hh2) (by exact (hKp 0 18 rfl).trans hh3) (by (try rw [hKp.ei 0 19 rfl]); exact hh4)) (cwV 0 hts (gi_V (in_26 _ (zs1 (zs1 (zs0)))) (in_26 _ (zs1 (zs1 (zs1 (zs0))))) (in_26 _ (zs4 (zs0))) (in_24 _ (zs4 (zs4 (zs4 (zs1 (zs1 (zs1 (zs0)))))))) (in_26 _ (zs4 (zs1 (zs0))))) rfl rfl rfl ⟨rfl, hz_yX13_look_0⟩ ⟨(show 0 + 1 ≤ 7 * n + 6 from nl_1 (Nat.le_of_ble_eq_true rfl)), (show 8 + (1 + 11) + 40 * (0) ≤ 40 * (7 * n + 6) from nl_2 (Nat.le_of_ble_eq_true rfl))⟩) ⟨HW_bl, va_recv hK hP (ci := 14) (q0 := 0) rfl (hI.ob 0 (Nat.le_of_ble_eq_true rfl) rfl), (HW_wi hP hK (WX_D hD) hS hA hEV)⟩ rfl rfl hl.1 rfl (lv_room (Nat.le_of_ble_eq_true rfl)) dX13_term_32 ⟨Nat.le_of_ble_eq_true rfl, Nat.le_of_ble_eq_true rfl⟩) (WX_D hD) hS hA (fun r111 E112 H locs hw hP hS => ?_)
            obtain ⟨hI, kq113, hw⟩ := hw
            have hKb := hKp
            have hKp := hKp.tr kq113 (wl_sub rfl rfl)
            obtain ⟨y114, ey114⟩ : ∃ y, xi (E112 0) 21 = y := ⟨_, rfl⟩
            have fy114 : xv (E112 0) 21 = .int y114 := (hI.fi 0 (Nat.le_of_ble_eq_true rfl) rfl (Nat.le_of_ble_eq_true rfl) rfl).trans (congrArg Value.int ey114)
            have iy114 : 0 ≤ y114.toInt ∧ y114.toInt ≤ 201 := by rw [← ey114]; exact hI.iv 0 (Nat.le_of_ble_eq_true rfl) rfl (Nat.le_of_ble_eq_true rfl) rfl
            obtain ⟨f115, f116, f117, f118, f119⟩ := hw
            try rw [(show xi (E99 0) 21 = y101 from vi_e fy101)] at f116
            try rw [(show xi (E112 0) 21 = y114 from vi_e fy114)] at f116
            try rw [(show xi (E99 0) 21 = y101 from vi_e fy101)] at f117
            try rw [hKb.ei 0 20 rfl] at f117
            try rw [(show xi (E112 0) 21 = y114 from vi_e fy114)] at f117
            try rw [(show xi (E99 0) 21 = y101 from vi_e fy101)] at f118
            try rw [hKb.ei 0 20 rfl] at f118
            try rw [(show xi (E112 0) 21 = y114 from vi_e fy114)] at f118
            refine lv_bipush (v := 42) hx hb dX13_term_35 (by decide) ?_
            refine lv_icmp_ne (tgt := 44) hx hb dX13_term_37 (by decide) (fun c120 => ?_) (fun c120 => ?_)
            · --37 taken
              have t121 : ¬ r111.toInt = 42 := ti_ne c120
              refine lv_iconst (v := 0) hx hb dX13_term_44 (by decide) ?_
              refine lv_istore_n (lv' := [(2, .int 0), (1, .int v5_1), (0, .ref (ad 0))]) hx hb dX13_term_45 rfl hl (by decide) rfl (fun ls hl => ?_)
              refine lv_aload_n hx hb dX13_term_46 rfl (lv_at hl 2 rfl) ?_
              refine lv_dup hx hb dX13_term_47 rfl ?_
              refine th_get (ci := 14) (C := RX13) (T := TX13) (N := 97) (v := .int y114) hx hb hts hinX13 hown hK hP hI 0 (Nat.le_of_ble_eq_true rfl) rfl rfl 21 (Nat.le_of_ble_eq_true rfl) (hts _ (vA_in _ _ (in_25 _ (zs16 (zs16 (zs4 (zs0))))))) (fun _ h9 => h9) fy114 dX13_term_48 ?_
              refine lv_iconst (v := 1) hx hb dX13_term_51 (by decide) ?_
              refine lv_iadd hx hb dX13_term_52 ?_
              refine lv_topi (fun y122 ey122 => ?_)
              obtain ⟨ty122, iy122⟩ := ti_add (e := 1) (f := 202) iy114 ln_1 ey122 (by decide)
              have ty122 : y122.toInt = y114.toInt + 1 := ty122
              have iy122 : 1 ≤ y122.toInt ∧ y122.toInt ≤ 202 := iy122
              have i123 : 1 ≤ y122.toInt ∧ y122.toInt ≤ 201 := by omega
              refine th_put (ci := 14) (C := RX13) (T := TX13) (N := 97) (v := .int y122) (ty := .int) hx hb hts hinX13 tyX13 tyX13_ok nmX13 hown hK hP (WX_D hD) hS hI 0 (Nat.le_of_ble_eq_true rfl) rfl rfl 21 (Nat.le_of_ble_eq_true rfl) (hts _ (vA_in _ _ (in_25 _ (zs16 (zs16 (zs4 (zs0))))))) (fun _ h9 => h9) rfl (by decide +kernel) rfl rfl (okI rfl (iv_w i123 (by decide))) dX13_term_53 (fun H locs E124 pw125 hI hP hS => ?_)
              have hKp := hKp.pw pw125 rfl
              have k126 : AtM k E112 E124 := AtM.pw pw125.2 hk0 (vi_e fy114) (vi_e pw125.1) ty122 (by omega)
              refine lv_aload_n hx hb dX13_term_56 rfl (lv_at hl 2 rfl) ?_
              refine th_i (va_runV (As := []) (rest := []) ⟨hx, hb, hml, hown, hts⟩ (gA dC dI cT ad E124 H.size k nl hI (by exact hh0) (by exact hh1) (by exact hh2) (by exact (hKp 0 18 rfl).trans hh3) (by (try rw [hKp.ei 0 19 rfl]); exact hh4) (by (try rw [(show xi (E124 0) 23 = w5_0_23 from vi_e ((pw125.2 0 23 (fun q9 => absurd q9.2 (Nat.ne_of_beq_eq_false rfl))).trans ((kq113 0 23 rfl).trans ((kq100 0 23 rfl).trans ((kq24 0 23 rfl).trans hs5_0_23)))))]); omega) (by (try rw [(show xi (E124 0) 22 = w5_0_22 from vi_e ((pw125.2 0 22 (fun q9 => absurd q9.2 (Nat.ne_of_beq_eq_false rfl))).trans ((kq113 0 22 rfl).trans ((kq100 0 22 rfl).trans ((kq24 0 22 rfl).trans hs5_0_22)))))]); omega)) (cwV 0 hts (gi_V (in_27 _ (zs1 (zs1 (zs1 (zs0))))) (in_27 _ (zs4 (zs0))) (in_27 _ (zs4 (zs1 (zs0)))) (in_24 _ (zs4 (zs4 (zs4 (zs1 (zs1 (zs1 (zs0)))))))) (in_25 _ (zs16 (zs16 (zs1 (zs1 (zs1 (zs0)))))))) rfl rfl rfl (by decide +kernel) ⟨(show 7 * n + 5 + 1 ≤ 7 * n + 6 from nl_4 (Nat.le_of_ble_eq_true rfl) (Nat.le_of_ble_eq_true rfl)), (show 8 + (4 + 11) + 40 * (7 * n + 5) ≤ 40 * (7 * n + 6) from nl_3 (Nat.le_of_ble_eq_true rfl) (Nat.le_of_ble_eq_true rfl))⟩) ⟨HW_bl, va_recv hK hP (ci := 14) (q0 := 0) rfl (hI.ob 0 (Nat.le_of_ble_eq_true rfl) rfl), (HW_wi hP hK (WX_D hD) hS hA hEV)⟩ rfl rfl hl.1 rfl (lv_room (Nat.le_of_ble_eq_true rfl)) dX13_term_57 ⟨Nat.le_of_ble_eq_true rfl, Nat.le_of_ble_eq_true rfl⟩) (WX_D hD) hS hA (fun r127 E128 H locs hw hP hS => ?_)
              obtain ⟨hI, kq129, hw⟩ := hw
              have hKb := hKp
              have hKp := hKp.tr kq129 (wl_sub rfl rfl)
              obtain ⟨y130, ey130⟩ : ∃ y, xi (E128 0) 21 = y := ⟨_, rfl⟩
              have fy130 : xv (E128 0) 21 = .int y130 := (hI.fi 0 (Nat.le_of_ble_eq_true rfl) rfl (Nat.le_of_ble_eq_true rfl) rfl).trans (congrArg Value.int ey130)
              have iy130 : 0 ≤ y130.toInt ∧ y130.toInt ≤ 201 := by rw [← ey130]; exact hI.iv 0 (Nat.le_of_ble_eq_true rfl) rfl (Nat.le_of_ble_eq_true rfl) rfl
              obtain ⟨y131, ey131⟩ : ∃ y, xi (E128 0) 22 = y := ⟨_, rfl⟩
              have fy131 : xv (E128 0) 22 = .int y131 := (hI.fi 0 (Nat.le_of_ble_eq_true rfl) rfl (Nat.le_of_ble_eq_true rfl) rfl).trans (congrArg Value.int ey131)
              have iy131 : -1 ≤ y131.toInt ∧ y131.toInt ≤ 201 := by rw [← ey131]; exact hI.iv 0 (Nat.le_of_ble_eq_true rfl) rfl (Nat.le_of_ble_eq_true rfl) rfl
              obtain ⟨y132, ey132⟩ : ∃ y, xi (E128 0) 23 = y := ⟨_, rfl⟩
              have fy132 : xv (E128 0) 23 = .int y132 := (hI.fi 0 (Nat.le_of_ble_eq_true rfl) rfl (Nat.le_of_ble_eq_true rfl) rfl).trans (congrArg Value.int ey132)
              have iy132 : 0 ≤ y132.toInt ∧ y132.toInt ≤ 8 := by rw [← ey132]; exact hI.iv 0 (Nat.le_of_ble_eq_true rfl) rfl (Nat.le_of_ble_eq_true rfl) rfl
              obtain ⟨f133, f134, f135, f136, f137⟩ := hw
              try rw [(show xi (E124 0) 21 = y122 from vi_e pw125.1)] at f133
              try rw [(show xi (E128 0) 21 = y130 from vi_e fy130)] at f133
              try rw [(show xi (E124 0) 23 = w5_0_23 from vi_e ((pw125.2 0 23 (fun q9 => absurd q9.2 (Nat.ne_of_beq_eq_false rfl))).trans ((kq113 0 23 rfl).trans ((kq100 0 23 rfl).trans ((kq24 0 23 rfl).trans hs5_0_23)))))] at f134
              try rw [(show xi (E128 0) 23 = y132 from vi_e fy132)] at f134
              try rw [(show xi (E124 0) 22 = w5_0_22 from vi_e ((pw125.2 0 22 (fun q9 => absurd q9.2 (Nat.ne_of_beq_eq_false rfl))).trans ((kq113 0 22 rfl).trans ((kq100 0 22 rfl).trans ((kq24 0 22 rfl).trans hs5_0_22)))))] at f135
              try rw [(show xi (E124 0) 23 = w5_0_23 from vi_e ((pw125.2 0 23 (fun q9 => absurd q9.2 (Nat.ne_of_beq_eq_false rfl))).trans ((kq113 0 23 rfl).trans ((kq100 0 23 rfl).trans ((kq24 0 23 rfl).trans hs5_0_23)))))] at f135
              try rw [(show xi (E128 0) 22 = y131 from vi_e fy131)] at f135
              try rw [(show xi (E128 0) 23 = y132 from vi_e fy132)] at f135
              try rw [(show xi (E124 0) 22 = w5_0_22 from vi_e ((pw125.2 0 22 (fun q9 => absurd q9.2 (Nat.ne_of_beq_eq_false rfl))).trans ((kq113 0 22 rfl).trans ((kq100 0 22 rfl).trans ((kq24 0 22 rfl).trans hs5_0_22)))))] at f136
              try rw [(show xi (E128 0) 22 = y131 from vi_e fy131)] at f136
              refine lv_i2l hx hb dX13_term_60 rfl ?_
              refine lv_topl (fun y138 ey138 => ?_)
              refine lv_lstore_n (lv' := [(3, .long y138), (2, .int 0), (1, .int v5_1), (0, .ref (ad 0))]) hx hb dX13_term_61 rfl hl (by decide) rfl (fun ls hl => ?_)
              refine lv_iload_n hx hb dX13_term_62 rfl (lv_at hl 1 rfl) ?_
              refine lv_if_eq (tgt := 73) hx hb dX13_term_63 (by decide) (fun c139 => ?_) (fun c139 => ?_)
              · --63 taken
                refine lv_lload_n hx hb dX13_term_73 rfl (lv_at hl 0 rfl) ?_
                refine lv_lconst hx hb dX13_term_74 rfl ?_
                refine lv_topl (fun y140 ey140 => ?_)
                refine W.lcmp hx hb dX13_term_75 ?_
                refine lv_topi (fun y141 ey141 => ?_)
                refine lv_if_ne (tgt := 83) hx hb dX13_term_76 (by decide) (fun c142 => ?_) (fun c142 => ?_)
                · --76 taken
                  have t143 : ¬ y141.toInt = 0 := ti_ne c142
                  refine lv_iload_n hx hb dX13_term_83 rfl (lv_at hl 2 rfl) ?_
                  refine lv_i2l hx hb dX13_term_84 rfl ?_
                  refine lv_topl (fun y144 ey144 => ?_)
                  refine lv_lload_n hx hb dX13_term_85 rfl (lv_at hl 0 rfl) ?_
                  refine lv_ldiv hx hb dX13_term_86 (lcmp_n0 ey141 ey140 c142) ?_
                  refine lv_topl (fun y145 ey145 => ?_)
                  refine th_pi (va_runS (As := [.long y145]) (rest := []) ⟨hx, hb, hml, hown, hts⟩ (q_bound l y145) (va_cwS 1 hts (gi_S (in_26 _ (zs16 (zs4 (zs4 (zs4 (zs1 (zs1 (zs1 (zs0))))))))) (in_26 _ (zs16 (zs16 (zs0)))) (in_24 _ (zs4 (zs4 (zs4 (zs1 (zs1 (zs1 (zs0)))))))) (in_26 _ (zs16 (zs16 (zs1 (zs0)))))) rfl rfl rfl hz_yX13_bound_1 ⟨(show 1 + 1 ≤ 7 * n + 6 from nl_1 (Nat.le_of_ble_eq_true rfl)), (show 8 + (2 + 11) + 40 * (1) ≤ 40 * (7 * n + 6) from nl_2 (Nat.le_of_ble_eq_true rfl))⟩) ⟨fun _ _ _ _ q => q, fun _ _ _ => ⟨rfl, trivial⟩⟩ rfl rfl hl.1 rfl (lv_room (Nat.le_of_ble_eq_true rfl)) dX13_term_87 ⟨Nat.le_of_ble_eq_true rfl, Nat.le_of_ble_eq_true rfl⟩) hS (fun r146 H1 locs1 hw hk1 hS => ?_)
                  have hP := ub_keep hP hk1
                  generalize H1 = H at hP hS ⊢
                  generalize locs1 = locs at hS ⊢
                  refine lv_istore_n (lv' := [(1, .int r146), (3, .long y138), (2, .int 0), (0, .ref (ad 0))]) hx hb dX13_term_90 rfl hl (by decide) rfl (fun ls hl => ?_)
                  refine lv_goto (tgt := 5) hx hb dX13_term_91 (by decide) ?_
                  exact ih5 y130 y131 y132 r146 E128 _ _ _ iy130 iy131 iy132 (by  first | exact (Int.le_trans (Int.le_trans (Int.le_trans (Int.le_trans (Int.le_trans hx5_0 f27) f103) f116) (Int.le_trans (Int.le_add_of_nonneg_right (by decide)) (Int.le_of_eq ty122.symm))) f133) | omega) (by  first | exact (Int.le_trans hx5_1 f134) | omega) (by  first | exact fun q9 => ((f135 (q9)).trans (hx5_2 (f136 (q9)))) | omega) (by  first | exact fun q9 => hx5_3 (f136 (q9)) | omega) (LpM.step (op := isMul) (cb := jb) hx5_4 ((f30.two f106).two f119) (is_mul.mpr (by have q20 := f30.eq f106 (by show (xi (E5_ 0) 22).toInt = -1; rw [show xi (E5_ 0) 22 = w5_0_22 from vi_e hs5_0_22]; first | exact t20 | omega); have q21 := (f30.two f106).eq f119 (by show (xi (E5_ 0) 22).toInt = -1; rw [show xi (E5_ 0) 22 = w5_0_22 from vi_e hs5_0_22]; first | exact t20 | omega); omega)) (by show (xi (E5_ 0) 22).toInt = -1; rw [show xi (E5_ 0) 22 = w5_0_22 from vi_e hs5_0_22]; first | exact t20 | omega) k126 f137 KM.rf (by decide) (fun t m => atomS_mono true t m n) (fun t m a c h => opL_1 (atomS_mono true t m n) rfl h)) (by omega) hI hKp fy130 fy131 fy132 hP hS (lv_sub hl [0, 3] rfl)
                · --76 not
                  have t147 : y141.toInt = 0 := ti_eq c142
                  have i148 : 0 ≤ y141.toInt ∧ y141.toInt ≤ 0 := iv_eqi t147 (iv_all _) (il_ 0) (by decide)
                  refine lv_lconst hx hb dX13_term_79 rfl ?_
                  refine lv_topl (fun y149 ey149 => ?_)
                  refine lv_goto (tgt := 87) hx hb dX13_term_80 (by decide) ?_
                  refine th_pi (va_runS (As := [.long y149]) (rest := []) ⟨hx, hb, hml, hown, hts⟩ (q_bound l y149) (va_cwS 1 hts (gi_S (in_26 _ (zs16 (zs4 (zs4 (zs4 (zs1 (zs1 (zs1 (zs0))))))))) (in_26 _ (zs16 (zs16 (zs0)))) (in_24 _ (zs4 (zs4 (zs4 (zs1 (zs1 (zs1 (zs0)))))))) (in_26 _ (zs16 (zs16 (zs1 (zs0)))))) rfl rfl rfl hz_yX13_bound_1 ⟨(show 1 + 1 ≤ 7 * n + 6 from nl_1 (Nat.le_of_ble_eq_true rfl)), (show 8 + (2 + 11) + 40 * (1) ≤ 40 * (7 * n + 6) from nl_2 (Nat.le_of_ble_eq_true rfl))⟩) ⟨fun _ _ _ _ q => q, fun _ _ _ => ⟨rfl, trivial⟩⟩ rfl rfl hl.1 rfl (lv_room (Nat.le_of_ble_eq_true rfl)) dX13_term_87 ⟨Nat.le_of_ble_eq_true rfl, Nat.le_of_ble_eq_true rfl⟩) hS (fun r150 H1 locs1 hw hk1 hS => ?_)
                  have hP := ub_keep hP hk1
                  generalize H1 = H at hP hS ⊢
                  generalize locs1 = locs at hS ⊢
                  refine lv_istore_n (lv' := [(1, .int r150), (3, .long y138), (2, .int 0), (0, .ref (ad 0))]) hx hb dX13_term_90 rfl hl (by decide) rfl (fun ls hl => ?_)
                  refine lv_goto (tgt := 5) hx hb dX13_term_91 (by decide) ?_
                  exact ih5 y130 y131 y132 r150 E128 _ _ _ iy130 iy131 iy132 (by  first | exact (Int.le_trans (Int.le_trans (Int.le_trans (Int.le_trans (Int.le_trans hx5_0 f27) f103) f116) (Int.le_trans (Int.le_add_of_nonneg_right (by decide)) (Int.le_of_eq ty122.symm))) f133) | omega) (by  first | exact (Int.le_trans hx5_1 f134) | omega) (by  first | exact fun q9 => ((f135 (q9)).trans (hx5_2 (f136 (q9)))) | omega) (by  first | exact fun q9 => hx5_3 (f136 (q9)) | omega) (LpM.step (op := isMul) (cb := jb) hx5_4 ((f30.two f106).two f119) (is_mul.mpr (by have q20 := f30.eq f106 (by show (xi (E5_ 0) 22).toInt = -1; rw [show xi (E5_ 0) 22 = w5_0_22 from vi_e hs5_0_22]; first | exact t20 | omega); have q21 := (f30.two f106).eq f119 (by show (xi (E5_ 0) 22).toInt = -1; rw [show xi (E5_ 0) 22 = w5_0_22 from vi_e hs5_0_22]; first | exact t20 | omega); omega)) (by show (xi (E5_ 0) 22).toInt = -1; rw [show xi (E5_ 0) 22 = w5_0_22 from vi_e hs5_0_22]; first | exact t20 | omega) k126 f137 KM.rf (by decide) (fun t m => atomS_mono true t m n) (fun t m a c h => opL_1 (atomS_mono true t m n) rfl h)) (by omega) hI hKp fy130 fy131 fy132 hP hS (lv_sub hl [0, 3] rfl)
              · --63 not
                exact absurd c139 (by decide)
            · --37 not
              have t151 : r111.toInt = 42 := ti_eq c120
              have i152 : 42 ≤ r111.toInt ∧ r111.toInt ≤ 42 := iv_eqi t151 f115 (il_ 42) (by decide)
              refine lv_iconst (v := 1) hx hb dX13_term_40 (by decide) ?_
              refine lv_goto (tgt := 45) hx hb dX13_term_41 (by decide) ?_
              refine lv_istore_n (lv' := [(2, .int 1), (1, .int v5_1), (0, .ref (ad 0))]) hx hb dX13_term_45 rfl hl (by decide) rfl (fun ls hl => ?_)
              refine lv_aload_n hx hb dX13_term_46 rfl (lv_at hl 2 rfl) ?_
              refine lv_dup hx hb dX13_term_47 rfl ?_
              refine th_get (ci := 14) (C := RX13) (T := TX13) (N := 97) (v := .int y114) hx hb hts hinX13 hown hK hP hI 0 (Nat.le_of_ble_eq_true rfl) rfl rfl 21 (Nat.le_of_ble_eq_true rfl) (hts _ (vA_in _ _ (in_25 _ (zs16 (zs16 (zs4 (zs0))))))) (fun _ h9 => h9) fy114 dX13_term_48 ?_
              refine lv_iconst (v := 1) hx hb dX13_term_51 (by decide) ?_
              refine lv_iadd hx hb dX13_term_52 ?_
              refine lv_topi (fun y153 ey153 => ?_)
              obtain ⟨ty153, iy153⟩ := ti_add (e := 1) (f := 202) iy114 ln_1 ey153 (by decide)
              have ty153 : y153.toInt = y114.toInt + 1 := ty153
              have iy153 : 1 ≤ y153.toInt ∧ y153.toInt ≤ 202 := iy153
              have i154 : 1 ≤ y153.toInt ∧ y153.toInt ≤ 201 := by omega
              refine th_put (ci := 14) (C := RX13) (T := TX13) (N := 97) (v := .int y153) (ty := .int) hx hb hts hinX13 tyX13 tyX13_ok nmX13 hown hK hP (WX_D hD) hS hI 0 (Nat.le_of_ble_eq_true rfl) rfl rfl 21 (Nat.le_of_ble_eq_true rfl) (hts _ (vA_in _ _ (in_25 _ (zs16 (zs16 (zs4 (zs0))))))) (fun _ h9 => h9) rfl (by decide +kernel) rfl rfl (okI rfl (iv_w i154 (by decide))) dX13_term_53 (fun H locs E155 pw156 hI hP hS => ?_)
              have hKp := hKp.pw pw156 rfl
              have k157 : AtM k E112 E155 := AtM.pw pw156.2 hk0 (vi_e fy114) (vi_e pw156.1) ty153 (by omega)
              refine lv_aload_n hx hb dX13_term_56 rfl (lv_at hl 2 rfl) ?_
              refine th_i (va_runV (As := []) (rest := []) ⟨hx, hb, hml, hown, hts⟩ (gA dC dI cT ad E155 H.size k nl hI (by exact hh0) (by exact hh1) (by exact hh2) (by exact (hKp 0 18 rfl).trans hh3) (by (try rw [hKp.ei 0 19 rfl]); exact hh4) (by (try rw [(show xi (E155 0) 23 = w5_0_23 from vi_e ((pw156.2 0 23 (fun q9 => absurd q9.2 (Nat.ne_of_beq_eq_false rfl))).trans ((kq113 0 23 rfl).trans ((kq100 0 23 rfl).trans ((kq24 0 23 rfl).trans hs5_0_23)))))]); omega) (by (try rw [(show xi (E155 0) 22 = w5_0_22 from vi_e ((pw156.2 0 22 (fun q9 => absurd q9.2 (Nat.ne_of_beq_eq_false rfl))).trans ((kq113 0 22 rfl).trans ((kq100 0 22 rfl).trans ((kq24 0 22 rfl).trans hs5_0_22)))))]); omega)) (cwV 0 hts (gi_V (in_27 _ (zs1 (zs1 (zs1 (zs0))))) (in_27 _ (zs4 (zs0))) (in_27 _ (zs4 (zs1 (zs0)))) (in_24 _ (zs4 (zs4 (zs4 (zs1 (zs1 (zs1 (zs0)))))))) (in_25 _ (zs16 (zs16 (zs1 (zs1 (zs1 (zs0)))))))) rfl rfl rfl (by decide +kernel) ⟨(show 7 * n + 5 + 1 ≤ 7 * n + 6 from nl_4 (Nat.le_of_ble_eq_true rfl) (Nat.le_of_ble_eq_true rfl)), (show 8 + (4 + 11) + 40 * (7 * n + 5) ≤ 40 * (7 * n + 6) from nl_3 (Nat.le_of_ble_eq_true rfl) (Nat.le_of_ble_eq_true rfl))⟩) ⟨HW_bl, va_recv hK hP (ci := 14) (q0 := 0) rfl (hI.ob 0 (Nat.le_of_ble_eq_true rfl) rfl), (HW_wi hP hK (WX_D hD) hS hA hEV)⟩ rfl rfl hl.1 rfl (lv_room (Nat.le_of_ble_eq_true rfl)) dX13_term_57 ⟨Nat.le_of_ble_eq_true rfl, Nat.le_of_ble_eq_true rfl⟩) (WX_D hD) hS hA (fun r158 E159 H locs hw hP hS => ?_)
              obtain ⟨hI, kq160, hw⟩ := hw
              have hKb := hKp
              have hKp := hKp.tr kq160 (wl_sub rfl rfl)
              obtain ⟨y161, ey161⟩ : ∃ y, xi (E159 0) 21 = y := ⟨_, rfl⟩
              have fy161 : xv (E159 0) 21 = .int y161 := (hI.fi 0 (Nat.le_of_ble_eq_true rfl) rfl (Nat.le_of_ble_eq_true rfl) rfl).trans (congrArg Value.int ey161)
              have iy161 : 0 ≤ y161.toInt ∧ y161.toInt ≤ 201 := by rw [← ey161]; exact hI.iv 0 (Nat.le_of_ble_eq_true rfl) rfl (Nat.le_of_ble_eq_true rfl) rfl
              obtain ⟨y162, ey162⟩ : ∃ y, xi (E159 0) 22 = y := ⟨_, rfl⟩
              have fy162 : xv (E159 0) 22 = .int y162 := (hI.fi 0 (Nat.le_of_ble_eq_true rfl) rfl (Nat.le_of_ble_eq_true rfl) rfl).trans (congrArg Value.int ey162)
              have iy162 : -1 ≤ y162.toInt ∧ y162.toInt ≤ 201 := by rw [← ey162]; exact hI.iv 0 (Nat.le_of_ble_eq_true rfl) rfl (Nat.le_of_ble_eq_true rfl) rfl
              obtain ⟨y163, ey163⟩ : ∃ y, xi (E159 0) 23 = y := ⟨_, rfl⟩
              have fy163 : xv (E159 0) 23 = .int y163 := (hI.fi 0 (Nat.le_of_ble_eq_true rfl) rfl (Nat.le_of_ble_eq_true rfl) rfl).trans (congrArg Value.int ey163)
              have iy163 : 0 ≤ y163.toInt ∧ y163.toInt ≤ 8 := by rw [← ey163]; exact hI.iv 0 (Nat.le_of_ble_eq_true rfl) rfl (Nat.le_of_ble_eq_true rfl) rfl
              obtain ⟨f164, f165, f166, f167, f168⟩ := hw
              try rw [(show xi (E155 0) 21 = y153 from vi_e pw156.1)] at f164
              try rw [(show xi (E159 0) 21 = y161 from vi_e fy161)] at f164
              try rw [(show xi (E155 0) 23 = w5_0_23 from vi_e ((pw156.2 0 23 (fun q9 => absurd q9.2 (Nat.ne_of_beq_eq_false rfl))).trans ((kq113 0 23 rfl).trans ((kq100 0 23 rfl).trans ((kq24 0 23 rfl).trans hs5_0_23)))))] at f165
              try rw [(show xi (E159 0) 23 = y163 from vi_e fy163)] at f165
              try rw [(show xi (E155 0) 22 = w5_0_22 from vi_e ((pw156.2 0 22 (fun q9 => absurd q9.2 (Nat.ne_of_beq_eq_false rfl))).trans ((kq113 0 22 rfl).trans ((kq100 0 22 rfl).trans ((kq24 0 22 rfl).trans hs5_0_22)))))] at f166
              try rw [(show xi (E155 0) 23 = w5_0_23 from vi_e ((pw156.2 0 23 (fun q9 => absurd q9.2 (Nat.ne_of_beq_eq_false rfl))).trans ((kq113 0 23 rfl).trans ((kq100 0 23 rfl).trans ((kq24 0 23 rfl).trans hs5_0_23)))))] at f166
              try rw [(show xi (E159 0) 22 = y162 from vi_e fy162)] at f166
              try rw [(show xi (E159 0) 23 = y163 from vi_e fy163)] at f166
              try rw [(show xi (E155 0) 22 = w5_0_22 from vi_e ((pw156.2 0 22 (fun q9 => absurd q9.2 (Nat.ne_of_beq_eq_false rfl))).trans ((kq113 0 22 rfl).trans ((kq100 0 22 rfl).trans ((kq24 0 22 rfl).trans hs5_0_22)))))] at f167
              try rw [(show xi (E159 0) 22 = y162 from vi_e fy162)] at f167
              refine lv_i2l hx hb dX13_term_60 rfl ?_
              refine lv_topl (fun y169 ey169 => ?_)
              refine lv_lstore_n (lv' := [(3, .long y169), (2, .int 1), (1, .int v5_1), (0, .ref (ad 0))]) hx hb dX13_term_61 rfl hl (by decide) rfl (fun ls hl => ?_)
              refine lv_iload_n hx hb dX13_term_62 rfl (lv_at hl 1 rfl) ?_
              refine lv_if_eq (tgt := 73) hx hb dX13_term_63 (by decide) (fun c170 => ?_) (fun c170 => ?_)
              · --63 taken
                exact absurd c170 (by decide)
              · --63 not
                refine lv_iload_n hx hb dX13_term_66 rfl (lv_at hl 2 rfl) ?_
                refine lv_i2l hx hb dX13_term_67 rfl ?_
                refine lv_topl (fun y171 ey171 => ?_)
                refine lv_lload_n hx hb dX13_term_68 rfl (lv_at hl 0 rfl) ?_
                refine lv_lmul hx hb dX13_term_69 ?_
                refine lv_topl (fun y172 ey172 => ?_)
                refine lv_goto (tgt := 87) hx hb dX13_term_70 (by decide) ?_
                refine th_pi (va_runS (As := [.long y172]) (rest := []) ⟨hx, hb, hml, hown, hts⟩ (q_bound l y172) (va_cwS 1 hts (gi_S (in_26 _ (zs16 (zs4 (zs4 (zs4 (zs1 (zs1 (zs1 (zs0))))))))) (in_26 _ (zs16 (zs16 (zs0)))) (in_24 _ (zs4 (zs4 (zs4 (zs1 (zs1 (zs1 (zs0)))))))) (in_26 _ (zs16 (zs16 (zs1 (zs0)))))) rfl rfl rfl hz_yX13_bound_1 ⟨(show 1 + 1 ≤ 7 * n + 6 from nl_1 (Nat.le_of_ble_eq_true rfl)), (show 8 + (2 + 11) + 40 * (1) ≤ 40 * (7 * n + 6) from nl_2 (Nat.le_of_ble_eq_true rfl))⟩) ⟨fun _ _ _ _ q => q, fun _ _ _ => ⟨rfl, trivial⟩⟩ rfl rfl hl.1 rfl (lv_room (Nat.le_of_ble_eq_true rfl)) dX13_term_87 ⟨Nat.le_of_ble_eq_true rfl, Nat.le_of_ble_eq_true rfl⟩) hS (fun r173 H1 locs1 hw hk1 hS => ?_)
                have hP := ub_keep hP hk1
                generalize H1 = H at hP hS ⊢
                generalize locs1 = locs at hS ⊢
                refine lv_istore_n (lv' := [(1, .int r173), (3, .long y169), (2, .int 1), (0, .ref (ad 0))]) hx hb dX13_term_90 rfl hl (by decide) rfl (fun ls hl => ?_)
                refine lv_goto (tgt := 5) hx hb dX13_term_91 (by decide) ?_
                exact ih5 y161 y162 y163 r173 E159 _ _ _ iy161 iy162 iy163 (by  first | exact (Int.le_trans (Int.le_trans (Int.le_trans (Int.le_trans (Int.le_trans hx5_0 f27) f103) f116) (Int.le_trans (Int.le_add_of_nonneg_right (by decide)) (Int.le_of_eq ty153.symm))) f164) | omega) (by  first | exact (Int.le_trans hx5_1 f165) | omega) (by  first | exact fun q9 => ((f166 (q9)).trans (hx5_2 (f167 (q9)))) | omega) (by  first | exact fun q9 => hx5_3 (f167 (q9)) | omega) (LpM.step (op := isMul) (cb := jb) hx5_4 ((f30.two f106).two f119) (is_mul.mpr (by have q20 := f30.eq f106 (by show (xi (E5_ 0) 22).toInt = -1; rw [show xi (E5_ 0) 22 = w5_0_22 from vi_e hs5_0_22]; first | exact t20 | omega); have q21 := (f30.two f106).eq f119 (by show (xi (E5_ 0) 22).toInt = -1; rw [show xi (E5_ 0) 22 = w5_0_22 from vi_e hs5_0_22]; first | exact t20 | omega); omega)) (by show (xi (E5_ 0) 22).toInt = -1; rw [show xi (E5_ 0) 22 = w5_0_22 from vi_e hs5_0_22]; first | exact t20 | omega) k157 f168 KM.rf (by decide) (fun t m => atomS_mono true t m n) (fun t m a c h => opL_1 (atomS_mono true t m n) rfl h)) (by omega) hI hKp fy161 fy162 fy163 hP hS (lv_sub hl [0, 3] rfl)
  exact hL5 (202) y7 y8 y9 r4 E5 _ _ _ iy7 iy8 iy9 (by  first | exact f10 | omega) (by  first | exact f11 | omega) (by  first | exact fun q9 => (f12 (q9)) | omega) (by  first | exact fun q9 => f13 (q9) | omega) (LpM.start f14 lmT (Int.le_refl _)) (by have h9 := iy7; omega) hI hKp fy7 fy8 fy9 hP hS (lv_sub hl [0, 1] rfl)
set_option maxHeartbeats 4000000 in
set_option maxRecDepth 100000 in
theorem q_sumX (l : Launch) (n : Nat) (gT : C_termX l n) : C_sumX l n := by
  intro dC dI cT ad E sz k nl hI0 hh0 hh1 hh2 hh3 hh4 hh5 hh6
  refine Met.ofW (cc := cX13_sum) (maxL := 5) (ret := (some .int)) (by decide) rfl ?_
  intro p e s m args below meth c s₁ B hml hv
  obtain ⟨hargs, hsz, hP, hK, hD0, hEV⟩ := hv
  subst hsz
  have hx := B.exec
  have hb := B.bytes
  have hr := B.returns
  have hts := atoms_spec (ws := v_sumX) B.pre
  have hown : s.vm.findClass RX13 = some m.cls := findClass_of_methodNamed B.named
  have hlocks := B.notSynchronized
  have hinX13 : ∀ w ∈ u_ws RX13 TX13 97, w ∈ v_sumX := fun w h => vA_in _ w (in_X13 w h)
  generalize hAe : va_A (WX 72 ad E) s.heap.size = A at hEV ⊢
  have hA : ∀ q : Nat, s.heap.size ≤ q → A q := fun q h => by rw [← hAe]; exact Or.inr h
  have hD : va_D A (WX 72 ad E) := by rw [← hAe]; exact hD0.self
  have hS : va_S A s.heap s.heap [] := va_S.rf
  have hI := hI0
  have hKp : Kp w_sumX E E := Kp.rf
  have hl := lv_entry ([.ref (ad 0)]) (n := 5) (Nat.le_of_ble_eq_true rfl)
  obtain ⟨Q, hQ⟩ : ∃ Q, Q = MQ below (va_Qi (S := Nat → va_E) (fun r u => IX cT shM spM 72 ad u ∧ Kp w_sumX E u ∧ (((xi (E 0) 21).toInt ≤ (xi (u 0) 21).toInt) ∧ ((xi (E 0) 23).toInt ≤ (xi (u 0) 23).toInt) ∧ ((xi (u 0) 22).toInt = -1 → (xi (u 0) 23).toInt = (xi (E 0) 23).toInt) ∧ ((xi (u 0) 22).toInt = -1 → (xi (E 0) 22).toInt = -1) ∧ (RdM k (fun t m a => sumS true t m n a) E u))) (HB dC dI 72 ad) (A)) args s 0 0 (A) := ⟨_, rfl⟩
  rw [← hQ, show entryFrame m args 5 = _ from (congrArg (fun z => entryFrame m z 5) hargs).trans (lg_entry_eq _ _ _)]
  generalize (lg_sl ([.ref (ad 0)]) ++ List.replicate (5 - (lg_sl ([.ref (ad 0)])).length) Slot.unset).toArray = ls at hl ⊢
  have hl : lv_has ls 5 [(0, .ref (ad 0))] := hl
  obtain ⟨y1, ey1⟩ : ∃ y, xi (E 0) 21 = y := ⟨_, rfl⟩
  have fy1 : xv (E 0) 21 = .int y1 := (hI.fi 0 (Nat.le_of_ble_eq_true rfl) rfl (Nat.le_of_ble_eq_true rfl) rfl).trans (congrArg Value.int ey1)
  have iy1 : 0 ≤ y1.toInt ∧ y1.toInt ≤ 201 := by rw [← ey1]; exact hI.iv 0 (Nat.le_of_ble_eq_true rfl) rfl (Nat.le_of_ble_eq_true rfl) rfl
  obtain ⟨y2, ey2⟩ : ∃ y, xi (E 0) 22 = y := ⟨_, rfl⟩
  have fy2 : xv (E 0) 22 = .int y2 := (hI.fi 0 (Nat.le_of_ble_eq_true rfl) rfl (Nat.le_of_ble_eq_true rfl) rfl).trans (congrArg Value.int ey2)
  have iy2 : -1 ≤ y2.toInt ∧ y2.toInt ≤ 201 := by rw [← ey2]; exact hI.iv 0 (Nat.le_of_ble_eq_true rfl) rfl (Nat.le_of_ble_eq_true rfl) rfl
  rw [ey2] at hh6
  obtain ⟨y3, ey3⟩ : ∃ y, xi (E 0) 23 = y := ⟨_, rfl⟩
  have fy3 : xv (E 0) 23 = .int y3 := (hI.fi 0 (Nat.le_of_ble_eq_true rfl) rfl (Nat.le_of_ble_eq_true rfl) rfl).trans (congrArg Value.int ey3)
  have iy3 : 0 ≤ y3.toInt ∧ y3.toInt ≤ 8 := by rw [← ey3]; exact hI.iv 0 (Nat.le_of_ble_eq_true rfl) rfl (Nat.le_of_ble_eq_true rfl) rfl
  rw [ey3] at hh5
  have hk0 : ¬ k = 0 := fun q9 => by rw [q9] at hh1; exact absurd (show (shM 0).1 = 1 from congrArg Prod.fst hh1) (by decide)
  refine lv_aload_n hx hb dX13_sum_0 rfl (lv_at hl 0 rfl) ?_
  refine th_i (va_runV (As := []) (rest := []) ⟨hx, hb, hml, hown, hts⟩ (gT dC dI cT ad E s.heap.size k nl hI (by exact hh0) (by exact hh1) (by exact hh2) (by exact hh3) (by exact hh4) (by (try rw [(show xi (E 0) 23 = y3 from vi_e fy3)]); omega) (by (try rw [(show xi (E 0) 22 = y2 from vi_e fy2)]); omega)) (cwV 0 hts (gi_V (in_26 _ (zs16 (zs4 (zs4 (zs4 (zs0)))))) (in_26 _ (zs16 (zs4 (zs4 (zs4 (zs1 (zs0))))))) (in_26 _ (zs16 (zs4 (zs4 (zs4 (zs1 (zs1 (zs0)))))))) (in_24 _ (zs4 (zs4 (zs4 (zs1 (zs1 (zs1 (zs0)))))))) (in_27 _ (zs1 (zs1 (zs0))))) rfl rfl rfl (by decide +kernel) ⟨(show 7 * n + 6 + 1 ≤ 7 * n + 7 from nl_4 (Nat.le_of_ble_eq_true rfl) (Nat.le_of_ble_eq_true rfl)), (show 8 + (5 + 11) + 40 * (7 * n + 6) ≤ 40 * (7 * n + 7) from nl_3 (Nat.le_of_ble_eq_true rfl) (Nat.le_of_ble_eq_true rfl))⟩) ⟨HW_bl, va_recv hK hP (ci := 14) (q0 := 0) rfl (hI.ob 0 (Nat.le_of_ble_eq_true rfl) rfl), (HW_wi hP hK (WX_D hD) hS hA hEV)⟩ rfl rfl hl.1 rfl (lv_room (Nat.le_of_ble_eq_true rfl)) dX13_sum_1 ⟨Nat.le_of_ble_eq_true rfl, Nat.le_of_ble_eq_true rfl⟩) (WX_D hD) hS hA (fun r4 E5 H locs hw hP hS => ?_)
  obtain ⟨hI, kq6, hw⟩ := hw
  have hKb := hKp
  have hKp := hKp.tr kq6 (wl_sub rfl rfl)
  obtain ⟨y7, ey7⟩ : ∃ y, xi (E5 0) 21 = y := ⟨_, rfl⟩
  have fy7 : xv (E5 0) 21 = .int y7 := (hI.fi 0 (Nat.le_of_ble_eq_true rfl) rfl (Nat.le_of_ble_eq_true rfl) rfl).trans (congrArg Value.int ey7)
  have iy7 : 0 ≤ y7.toInt ∧ y7.toInt ≤ 201 := by rw [← ey7]; exact hI.iv 0 (Nat.le_of_ble_eq_true rfl) rfl (Nat.le_of_ble_eq_true rfl) rfl
  obtain ⟨y8, ey8⟩ : ∃ y, xi (E5 0) 22 = y := ⟨_, rfl⟩
  have fy8 : xv (E5 0) 22 = .int y8 := (hI.fi 0 (Nat.le_of_ble_eq_true rfl) rfl (Nat.le_of_ble_eq_true rfl) rfl).trans (congrArg Value.int ey8)
  have iy8 : -1 ≤ y8.toInt ∧ y8.toInt ≤ 201 := by rw [← ey8]; exact hI.iv 0 (Nat.le_of_ble_eq_true rfl) rfl (Nat.le_of_ble_eq_true rfl) rfl
  obtain ⟨y9, ey9⟩ : ∃ y, xi (E5 0) 23 = y := ⟨_, rfl⟩
  have fy9 : xv (E5 0) 23 = .int y9 := (hI.fi 0 (Nat.le_of_ble_eq_true rfl) rfl (Nat.le_of_ble_eq_true rfl) rfl).trans (congrArg Value.int ey9)
  have iy9 : 0 ≤ y9.toInt ∧ y9.toInt ≤ 8 := by rw [← ey9]; exact hI.iv 0 (Nat.le_of_ble_eq_true rfl) rfl (Nat.le_of_ble_eq_true rfl) rfl
  obtain ⟨f10, f11, f12, f13, f14⟩ := hw
  have i15 : 0 ≤ (xi (E 0) 19).toInt ∧ (xi (E 0) 19).toInt ≤ 3000 := (show 0 ≤ (xi (E 0) 19).toInt ∧ (xi (E 0) 19).toInt ≤ 3000 from hI0.iv 0 (Nat.le_of_ble_eq_true rfl) rfl (Nat.le_of_ble_eq_true rfl) rfl)
  have i16 : 0 ≤ (xi (E 0) 20).toInt ∧ (xi (E 0) 20).toInt ≤ 200 := (show 0 ≤ (xi (E 0) 20).toInt ∧ (xi (E 0) 20).toInt ≤ 200 from hI0.iv 0 (Nat.le_of_ble_eq_true rfl) rfl (Nat.le_of_ble_eq_true rfl) rfl)
  try rw [(show xi (E 0) 21 = y1 from vi_e fy1)] at f10
  try rw [(show xi (E5 0) 21 = y7 from vi_e fy7)] at f10
  try rw [(show xi (E 0) 23 = y3 from vi_e fy3)] at f11
  try rw [(show xi (E5 0) 23 = y9 from vi_e fy9)] at f11
  try rw [(show xi (E 0) 22 = y2 from vi_e fy2)] at f12
  try rw [(show xi (E 0) 23 = y3 from vi_e fy3)] at f12
  try rw [(show xi (E5 0) 22 = y8 from vi_e fy8)] at f12
  try rw [(show xi (E5 0) 23 = y9 from vi_e fy9)] at f12
  try rw [(show xi (E 0) 22 = y2 from vi_e fy2)] at f13
  try rw [(show xi (E5 0) 22 = y8 from vi_e fy8)] at f13
  refine lv_istore_n (lv' := [(1, .int r4), (0, .ref (ad 0))]) hx hb dX13_sum_4 rfl hl (by decide) rfl (fun ls hl => ?_)
  have hL5 : ∀ d : Nat, ∀ (w5_0_21 : Int32) (w5_0_22 : Int32) (w5_0_23 : Int32) (v5_1 : Int32) (E5_ : Nat → va_E) (H : Heap) (locs : List Loc) (ls : Array Slot), 0 ≤ w5_0_21.toInt ∧ w5_0_21.toInt ≤ 201 → -1 ≤ w5_0_22.toInt ∧ w5_0_22.toInt ≤ 201 → 0 ≤ w5_0_23.toInt ∧ w5_0_23.toInt ≤ 8 → y1.toInt ≤ w5_0_21.toInt → y3.toInt ≤ w5_0_23.toInt → (w5_0_22.toInt = -1 → w5_0_23.toInt = y3.toInt) → (w5_0_22.toInt = -1 → y2.toInt = -1) → LpM k (fun t m a => sumS true t m n a) (fun t m => opL t m isAdd jb (termS true t m n)) 0 E E5_ → 201 - w5_0_21.toInt < (d : Int) → IX cT shM spM 72 ad E5_ → Kp w_sumX E E5_ → xv (E5_ 0) 21 = .int w5_0_21 → xv (E5_ 0) 22 = .int w5_0_22 → xv (E5_ 0) 23 = .int w5_0_23 → va_P (dC, dI) vwCl (WX 72 ad E5_) H → va_S A s.heap H locs → lv_has ls 5 [(1, .int v5_1), (0, .ref (ad 0))] → W p l e (headSpec v_sumX (rm_sumX n)).room s m args below meth c H locs 0 0 Q (F0 m 5 ls []) := by
    intro d
    induction d with
    | zero =>
      intro w5_0_21 w5_0_22 w5_0_23 v5_1 E5_ H locs ls hw5_0_21 hw5_0_22 hw5_0_23 hx5_0 hx5_1 hx5_2 hx5_3 hx5_4 hx5_5 hI hKp hs5_0_21 hs5_0_22 hs5_0_23 hP hS hl
      exact absurd hx5_5 (by omega)
    | succ d ih5 =>
      intro w5_0_21 w5_0_22 w5_0_23 v5_1 E5_ H locs ls hw5_0_21 hw5_0_22 hw5_0_23 hx5_0 hx5_1 hx5_2 hx5_3 hx5_4 hx5_5 hI hKp hs5_0_21 hs5_0_22 hs5_0_23 hP hS hl
      refine lv_aload_n hx hb dX13_sum_5 rfl (lv_at hl 1 rfl) ?_
      refine th_get (ci := 14) (C := RX13) (T := TX13) (N := 97) (v := .int w5_0_22) hx hb hts hinX13 hown hK hP hI 0 (Nat.le_of_ble_eq_true rfl) rfl rfl 22 (Nat.le_of_ble_eq_true rfl) (hts _ (vA_in _ _ (in_25 _ (zs16 (zs16 (zs4 (zs1 (zs1 (zs1 (zs0)))))))))) (fun _ h9 => h9) hs5_0_22 dX13_sum_6 ?_
      refine lv_iconst (v := -1) hx hb dX13_sum_9 (by decide) ?_
      refine lv_icmp_ne (tgt := 84) hx hb dX13_sum_10 (by decide) (fun c17 => ?_) (fun c17 => ?_)
      · --10 taken
        have t18 : ¬ w5_0_22.toInt = -1 := ti_ne c17
        have i19 : 0 ≤ w5_0_22.toInt ∧ w5_0_22.toInt ≤ 201 := iv_ne_l t18 hw5_0_22 (il_ (-1))
        refine lv_iload_n hx hb dX13_sum_84 rfl (lv_at hl 0 rfl) ?_
        rw [hQ]
        exact W.iret (v := v5_1) hx hb hr (fun t ht hW => ⟨⟨v5_1, E5_, rfl, ⟨hI, hKp, ⟨by (try rw [(show xi (E5_ 0) 21 = w5_0_21 from vi_e hs5_0_21)]); (try rw [ey1]); first | done | exact hx5_0 | all_goals omega, by (try rw [(show xi (E5_ 0) 23 = w5_0_23 from vi_e hs5_0_23)]); (try rw [ey3]); first | done | exact hx5_1 | all_goals omega, by (try rw [(show xi (E5_ 0) 22 = w5_0_22 from vi_e hs5_0_22)]); (try rw [(show xi (E5_ 0) 23 = w5_0_23 from vi_e hs5_0_23)]); (try rw [ey2]); (try rw [ey3]); first | done | exact fun q9 => absurd (q9) t18 | all_goals omega, by (try rw [(show xi (E5_ 0) 22 = w5_0_22 from vi_e hs5_0_22)]); (try rw [ey2]); first | done | exact fun q9 => absurd (q9) t18 | all_goals omega, LpM.exF hx5_4 (by show ¬ (xi (E5_ 0) 22).toInt = -1; rw [show xi (E5_ 0) 22 = w5_0_22 from vi_e hs5_0_22]; omega)⟩⟩, by show va_P (dC, dI) vwCl (WX 72 ad E5_) t.heap; rw [ht]; exact hP⟩, hS.F ht⟩) hS.2.2 dX13_sum_85
      · --10 not
        have t20 : w5_0_22.toInt = -1 := ti_eq c17
        have i21 : -1 ≤ w5_0_22.toInt ∧ w5_0_22.toInt ≤ -1 := iv_eqi t20 hw5_0_22 (il_ (-1)) (by decide)
        refine lv_aload_n hx hb dX13_sum_13 rfl (lv_at hl 1 rfl) ?_
        refine th_i (va_runV (As := []) (rest := []) ⟨hx, hb, hml, hown, hts⟩ (q_lookX l dC dI cT ad E5_ H.size k nl hI (by exact hh0) (by exact hh1) (by exact hh2) (by exact (hKp 0 18 rfl).trans hh3) (by (try rw [hKp.ei 0 19 rfl]); exact hh4)) (cwV 0 hts (gi_V (in_26 _ (zs1 (zs1 (zs0)))) (in_26 _ (zs1 (zs1 (zs1 (zs0))))) (in_26 _ (zs4 (zs0))) (in_24 _ (zs4 (zs4 (zs4 (zs1 (zs1 (zs1 (zs0)))))))) (in_26 _ (zs4 (zs1 (zs0))))) rfl rfl rfl ⟨rfl, hz_yX13_look_0⟩ ⟨(show 0 + 1 ≤ 7 * n + 7 from nl_1 (Nat.le_of_ble_eq_true rfl)), (show 8 + (1 + 11) + 40 * (0) ≤ 40 * (7 * n + 7) from nl_2 (Nat.le_of_ble_eq_true rfl))⟩) ⟨HW_bl, va_recv hK hP (ci := 14) (q0 := 0) rfl (hI.ob 0 (Nat.le_of_ble_eq_true rfl) rfl), (HW_wi hP hK (WX_D hD) hS hA hEV)⟩ rfl rfl hl.1 rfl (lv_room (Nat.le_of_ble_eq_true rfl)) dX13_sum_14 ⟨Nat.le_of_ble_eq_true rfl, Nat.le_of_ble_eq_true rfl⟩) (WX_D hD) hS hA (fun r22 E23 H locs hw hP hS => ?_)
        obtain ⟨hI, kq24, hw⟩ := hw
        have hKb := hKp
        have hKp := hKp.tr kq24 (wl_sub rfl rfl)
        obtain ⟨y25, ey25⟩ : ∃ y, xi (E23 0) 21 = y := ⟨_, rfl⟩
        have fy25 : xv (E23 0) 21 = .int y25 := (hI.fi 0 (Nat.le_of_ble_eq_true rfl) rfl (Nat.le_of_ble_eq_true rfl) rfl).trans (congrArg Value.int ey25)
        have iy25 : 0 ≤ y25.toInt ∧ y25.toInt ≤ 201 := by rw [← ey25]; exact hI.iv 0 (Nat.le_of_ble_eq_true rfl) rfl (Nat.le_of_ble_eq_true rfl) rfl
        obtain ⟨f26, f27, f28, f29, f30⟩ := hw
        try rw [(show xi (E5_ 0) 21 = w5_0_21 from vi_e hs5_0_21)] at f27
        try rw [(show xi (E23 0) 21 = y25 from vi_e fy25)] at f27
        try rw [(show xi (E5_ 0) 21 = w5_0_21 from vi_e hs5_0_21)] at f28
        try rw [hKb.ei 0 20 rfl] at f28
        try rw [(show xi (E23 0) 21 = y25 from vi_e fy25)] at f28
        try rw [(show xi (E5_ 0) 21 = w5_0_21 from vi_e hs5_0_21)] at f29
        try rw [hKb.ei 0 20 rfl] at f29
        try rw [(show xi (E23 0) 21 = y25 from vi_e fy25)] at f29
        refine lv_bipush (v := 43) hx hb dX13_sum_17 (by decide) ?_
        refine lv_icmp_eq (tgt := 31) hx hb dX13_sum_19 (by decide) (fun c31 => ?_) (fun c31 => ?_)
        · --19 taken
          have t32 : r22.toInt = 43 := ti_eq c31
          have i33 : 43 ≤ r22.toInt ∧ r22.toInt ≤ 43 := iv_eqi t32 f26 (il_ 43) (by decide)
          refine lv_aload_n hx hb dX13_sum_31 rfl (lv_at hl 1 rfl) ?_
          refine th_i (va_runV (As := []) (rest := []) ⟨hx, hb, hml, hown, hts⟩ (q_lookX l dC dI cT ad E23 H.size k nl hI (by exact hh0) (by exact hh1) (by exact hh2) (by exact (hKp 0 18 rfl).trans hh3) (by (try rw [hKp.ei 0 19 rfl]); exact hh4)) (cwV 0 hts (gi_V (in_26 _ (zs1 (zs1 (zs0)))) (in_26 _ (zs1 (zs1 (zs1 (zs0))))) (in_26 _ (zs4 (zs0))) (in_24 _ (zs4 (zs4 (zs4 (zs1 (zs1 (zs1 (zs0)))))))) (in_26 _ (zs4 (zs1 (zs0))))) rfl rfl rfl ⟨rfl, hz_yX13_look_0⟩ ⟨(show 0 + 1 ≤ 7 * n + 7 from nl_1 (Nat.le_of_ble_eq_true rfl)), (show 8 + (1 + 11) + 40 * (0) ≤ 40 * (7 * n + 7) from nl_2 (Nat.le_of_ble_eq_true rfl))⟩) ⟨HW_bl, va_recv hK hP (ci := 14) (q0 := 0) rfl (hI.ob 0 (Nat.le_of_ble_eq_true rfl) rfl), (HW_wi hP hK (WX_D hD) hS hA hEV)⟩ rfl rfl hl.1 rfl (lv_room (Nat.le_of_ble_eq_true rfl)) dX13_sum_32 ⟨Nat.le_of_ble_eq_true rfl, Nat.le_of_ble_eq_true rfl⟩) (WX_D hD) hS hA (fun r34 E35 H locs hw hP hS => ?_)
          obtain ⟨hI, kq36, hw⟩ := hw
          have hKb := hKp
          have hKp := hKp.tr kq36 (wl_sub rfl rfl)
          obtain ⟨y37, ey37⟩ : ∃ y, xi (E35 0) 21 = y := ⟨_, rfl⟩
          have fy37 : xv (E35 0) 21 = .int y37 := (hI.fi 0 (Nat.le_of_ble_eq_true rfl) rfl (Nat.le_of_ble_eq_true rfl) rfl).trans (congrArg Value.int ey37)
          have iy37 : 0 ≤ y37.toInt ∧ y37.toInt ≤ 201 := by rw [← ey37]; exact hI.iv 0 (Nat.le_of_ble_eq_true rfl) rfl (Nat.le_of_ble_eq_true rfl) rfl
          obtain ⟨f38, f39, f40, f41, f42⟩ := hw
          try rw [(show xi (E23 0) 21 = y25 from vi_e fy25)] at f39
          try rw [(show xi (E35 0) 21 = y37 from vi_e fy37)] at f39
          try rw [(show xi (E23 0) 21 = y25 from vi_e fy25)] at f40
          try rw [hKb.ei 0 20 rfl] at f40
          try rw [(show xi (E35 0) 21 = y37 from vi_e fy37)] at f40
          try rw [(show xi (E23 0) 21 = y25 from vi_e fy25)] at f41
          try rw [hKb.ei 0 20 rfl] at f41
          try rw [(show xi (E35 0) 21 = y37 from vi_e fy37)] at f41
          refine lv_bipush (v := 43) hx hb dX13_sum_35 (by decide) ?_
          refine lv_icmp_ne (tgt := 44) hx hb dX13_sum_37 (by decide) (fun c43 => ?_) (fun c43 => ?_)
          · --37 taken
            have t44 : ¬ r34.toInt = 43 := ti_ne c43
            refine lv_iconst (v := 0) hx hb dX13_sum_44 (by decide) ?_
            refine lv_istore_n (lv' := [(2, .int 0), (1, .int v5_1), (0, .ref (ad 0))]) hx hb dX13_sum_45 rfl hl (by decide) rfl (fun ls hl => ?_)
            refine lv_aload_n hx hb dX13_sum_46 rfl (lv_at hl 2 rfl) ?_
            refine lv_dup hx hb dX13_sum_47 rfl ?_
            refine th_get (ci := 14) (C := RX13) (T := TX13) (N := 97) (v := .int y37) hx hb hts hinX13 hown hK hP hI 0 (Nat.le_of_ble_eq_true rfl) rfl rfl 21 (Nat.le_of_ble_eq_true rfl) (hts _ (vA_in _ _ (in_25 _ (zs16 (zs16 (zs4 (zs0))))))) (fun _ h9 => h9) fy37 dX13_sum_48 ?_
            refine lv_iconst (v := 1) hx hb dX13_sum_51 (by decide) ?_
            refine lv_iadd hx hb dX13_sum_52 ?_
            refine lv_topi (fun y45 ey45 => ?_)
            obtain ⟨ty45, iy45⟩ := ti_add (e := 1) (f := 202) iy37 ln_1 ey45 (by decide)
            have ty45 : y45.toInt = y37.toInt + 1 := ty45
            have iy45 : 1 ≤ y45.toInt ∧ y45.toInt ≤ 202 := iy45
            have i46 : 1 ≤ y45.toInt ∧ y45.toInt ≤ 201 := by omega
            refine th_put (ci := 14) (C := RX13) (T := TX13) (N := 97) (v := .int y45) (ty := .int) hx hb hts hinX13 tyX13 tyX13_ok nmX13 hown hK hP (WX_D hD) hS hI 0 (Nat.le_of_ble_eq_true rfl) rfl rfl 21 (Nat.le_of_ble_eq_true rfl) (hts _ (vA_in _ _ (in_25 _ (zs16 (zs16 (zs4 (zs0))))))) (fun _ h9 => h9) rfl (by decide +kernel) rfl rfl (okI rfl (iv_w i46 (by decide))) dX13_sum_53 (fun H locs E47 pw48 hI hP hS => ?_)
            have hKp := hKp.pw pw48 rfl
            have k49 : AtM k E35 E47 := AtM.pw pw48.2 hk0 (vi_e fy37) (vi_e pw48.1) ty45 (by omega)
            refine lv_aload_n hx hb dX13_sum_56 rfl (lv_at hl 2 rfl) ?_
            refine th_i (va_runV (As := []) (rest := []) ⟨hx, hb, hml, hown, hts⟩ (gT dC dI cT ad E47 H.size k nl hI (by exact hh0) (by exact hh1) (by exact hh2) (by exact (hKp 0 18 rfl).trans hh3) (by (try rw [hKp.ei 0 19 rfl]); exact hh4) (by (try rw [(show xi (E47 0) 23 = w5_0_23 from vi_e ((pw48.2 0 23 (fun q9 => absurd q9.2 (Nat.ne_of_beq_eq_false rfl))).trans ((kq36 0 23 rfl).trans ((kq24 0 23 rfl).trans hs5_0_23))))]); omega) (by (try rw [(show xi (E47 0) 22 = w5_0_22 from vi_e ((pw48.2 0 22 (fun q9 => absurd q9.2 (Nat.ne_of_beq_eq_false rfl))).trans ((kq36 0 22 rfl).trans ((kq24 0 22 rfl).trans hs5_0_22))))]); omega)) (cwV 0 hts (gi_V (in_26 _ (zs16 (zs4 (zs4 (zs4 (zs0)))))) (in_26 _ (zs16 (zs4 (zs4 (zs4 (zs1 (zs0))))))) (in_26 _ (zs16 (zs4 (zs4 (zs4 (zs1 (zs1 (zs0)))))))) (in_24 _ (zs4 (zs4 (zs4 (zs1 (zs1 (zs1 (zs0)))))))) (in_27 _ (zs1 (zs1 (zs0))))) rfl rfl rfl (by decide +kernel) ⟨(show 7 * n + 6 + 1 ≤ 7 * n + 7 from nl_4 (Nat.le_of_ble_eq_true rfl) (Nat.le_of_ble_eq_true rfl)), (show 8 + (5 + 11) + 40 * (7 * n + 6) ≤ 40 * (7 * n + 7) from nl_3 (Nat.le_of_ble_eq_true rfl) (Nat.le_of_ble_eq_true rfl))⟩) ⟨HW_bl, va_recv hK hP (ci := 14) (q0 := 0) rfl (hI.ob 0 (Nat.le_of_ble_eq_true rfl) rfl), (HW_wi hP hK (WX_D hD) hS hA hEV)⟩ rfl rfl hl.1 rfl (lv_room (Nat.le_of_ble_eq_true rfl)) dX13_sum_57 ⟨Nat.le_of_ble_eq_true rfl, Nat.le_of_ble_eq_true rfl⟩) (WX_D hD) hS hA (fun r50 E51 H locs hw hP hS => ?_)
            obtain ⟨hI, kq52, hw⟩ := hw
            have hKb := hKp
            have hKp := hKp.tr kq52 (wl_sub rfl rfl)
            obtain ⟨y53, ey53⟩ : ∃ y, xi (E51 0) 21 = y := ⟨_, rfl⟩
            have fy53 : xv (E51 0) 21 = .int y53 := (hI.fi 0 (Nat.le_of_ble_eq_true rfl) rfl (Nat.le_of_ble_eq_true rfl) rfl).trans (congrArg Value.int ey53)
            have iy53 : 0 ≤ y53.toInt ∧ y53.toInt ≤ 201 := by rw [← ey53]; exact hI.iv 0 (Nat.le_of_ble_eq_true rfl) rfl (Nat.le_of_ble_eq_true rfl) rfl
            obtain ⟨y54, ey54⟩ : ∃ y, xi (E51 0) 22 = y := ⟨_, rfl⟩
            have fy54 : xv (E51 0) 22 = .int y54 := (hI.fi 0 (Nat.le_of_ble_eq_true rfl) rfl (Nat.le_of_ble_eq_true rfl) rfl).trans (congrArg Value.int ey54)
            have iy54 : -1 ≤ y54.toInt ∧ y54.toInt ≤ 201 := by rw [← ey54]; exact hI.iv 0 (Nat.le_of_ble_eq_true rfl) rfl (Nat.le_of_ble_eq_true rfl) rfl
            obtain ⟨y55, ey55⟩ : ∃ y, xi (E51 0) 23 = y := ⟨_, rfl⟩
            have fy55 : xv (E51 0) 23 = .int y55 := (hI.fi 0 (Nat.le_of_ble_eq_true rfl) rfl (Nat.le_of_ble_eq_true rfl) rfl).trans (congrArg Value.int ey55)
            have iy55 : 0 ≤ y55.toInt ∧ y55.toInt ≤ 8 := by rw [← ey55]; exact hI.iv 0 (Nat.le_of_ble_eq_true rfl) rfl (Nat.le_of_ble_eq_true rfl) rfl
            obtain ⟨f56, f57, f58, f59, f60⟩ := hw
            try rw [(show xi (E47 0) 21 = y45 from vi_e pw48.1)] at f56
            try rw [(show xi (E51 0) 21 = y53 from vi_e fy53)] at f56
            try rw [(show xi (E47 0) 23 = w5_0_23 from vi_e ((pw48.2 0 23 (fun q9 => absurd q9.2 (Nat.ne_of_beq_eq_false rfl))).trans ((kq36 0 23 rfl).trans ((kq24 0 23 rfl).trans hs5_0_23))))] at f57
            try rw [(show xi (E51 0) 23 = y55 from vi_e fy55)] at f57
            try rw [(show xi (E47 0) 22 = w5_0_22 from vi_e ((pw48.2 0 22 (fun q9 => absurd q9.2 (Nat.ne_of_beq_eq_false rfl))).trans ((kq36 0 22 rfl).trans ((kq24 0 22 rfl).trans hs5_0_22))))] at f58
            try rw [(show xi (E47 0) 23 = w5_0_23 from vi_e ((pw48.2 0 23 (fun q9 => absurd q9.2 (Nat.ne_of_beq_eq_false rfl))).trans ((kq36 0 23 rfl).trans ((kq24 0 23 rfl).trans hs5_0_23))))] at f58
            try rw [(show xi (E51 0) 22 = y54 from vi_e fy54)] at f58
            try rw [(show xi (E51 0) 23 = y55 from vi_e fy55)] at f58
            try rw [(show xi (E47 0) 22 = w5_0_22 from vi_e ((pw48.2 0 22 (fun q9 => absurd q9.2 (Nat.ne_of_beq_eq_false rfl))).trans ((kq36 0 22 rfl).trans ((kq24 0 22 rfl).trans hs5_0_22))))] at f59
            try rw [(show xi (E51 0) 22 = y54 from vi_e fy54)] at f59
            refine lv_i2l hx hb dX13_sum_60 rfl ?_
            refine lv_topl (fun y61 ey61 => ?_)
            refine lv_lstore_n (lv' := [(3, .long y61), (2, .int 0), (1, .int v5_1), (0, .ref (ad 0))]) hx hb dX13_sum_61 rfl hl (by decide) rfl (fun ls hl => ?_)
            refine lv_iload_n hx hb dX13_sum_62 rfl (lv_at hl 1 rfl) ?_
            refine lv_if_eq (tgt := 73) hx hb dX13_sum_63 (by decide) (fun c62 => ?_) (fun c62 => ?_)
            · --63 taken
              refine lv_iload_n hx hb dX13_sum_73 rfl (lv_at hl 2 rfl) ?_
              refine lv_i2l hx hb dX13_sum_74 rfl ?_
              refine lv_topl (fun y63 ey63 => ?_)
              refine lv_lload_n hx hb dX13_sum_75 rfl (lv_at hl 0 rfl) ?_
              refine lv_lsub hx hb dX13_sum_76 ?_
              refine lv_topl (fun y64 ey64 => ?_)
              refine th_pi (va_runS (As := [.long y64]) (rest := []) ⟨hx, hb, hml, hown, hts⟩ (q_bound l y64) (va_cwS 1 hts (gi_S (in_26 _ (zs16 (zs4 (zs4 (zs4 (zs1 (zs1 (zs1 (zs0))))))))) (in_26 _ (zs16 (zs16 (zs0)))) (in_24 _ (zs4 (zs4 (zs4 (zs1 (zs1 (zs1 (zs0)))))))) (in_26 _ (zs16 (zs16 (zs1 (zs0)))))) rfl rfl rfl hz_yX13_bound_1 ⟨(show 1 + 1 ≤ 7 * n + 7 from nl_1 (Nat.le_of_ble_eq_true rfl)), (show 8 + (2 + 11) + 40 * (1) ≤ 40 * (7 * n + 7) from nl_2 (Nat.le_of_ble_eq_true rfl))⟩) ⟨fun _ _ _ _ q => q, fun _ _ _ => ⟨rfl, trivial⟩⟩ rfl rfl hl.1 rfl (lv_room (Nat.le_of_ble_eq_true rfl)) dX13_sum_77 ⟨Nat.le_of_ble_eq_true rfl, Nat.le_of_ble_eq_true rfl⟩) hS (fun r65 H1 locs1 hw hk1 hS => ?_)
              have hP := ub_keep hP hk1
              generalize H1 = H at hP hS ⊢
              generalize locs1 = locs at hS ⊢
              refine lv_istore_n (lv' := [(1, .int r65), (3, .long y61), (2, .int 0), (0, .ref (ad 0))]) hx hb dX13_sum_80 rfl hl (by decide) rfl (fun ls hl => ?_)
              refine lv_goto (tgt := 5) hx hb dX13_sum_81 (by decide) ?_
              exact ih5 y53 y54 y55 r65 E51 _ _ _ iy53 iy54 iy55 (by  first | exact (Int.le_trans (Int.le_trans (Int.le_trans (Int.le_trans hx5_0 f27) f39) (Int.le_trans (Int.le_add_of_nonneg_right (by decide)) (Int.le_of_eq ty45.symm))) f56) | omega) (by  first | exact (Int.le_trans hx5_1 f57) | omega) (by  first | exact fun q9 => ((f58 (q9)).trans (hx5_2 (f59 (q9)))) | omega) (by  first | exact fun q9 => hx5_3 (f59 (q9)) | omega) (LpM.step (op := isAdd) (cb := jb) hx5_4 (f30.two f42) (is_add.mpr (by have q20 := f30.eq f42 (by show (xi (E5_ 0) 22).toInt = -1; rw [show xi (E5_ 0) 22 = w5_0_22 from vi_e hs5_0_22]; first | exact t20 | omega); omega)) (by show (xi (E5_ 0) 22).toInt = -1; rw [show xi (E5_ 0) 22 = w5_0_22 from vi_e hs5_0_22]; first | exact t20 | omega) k49 f60 KM.rf (by decide) (fun t m => termS_mono true t m n) (fun t m a c h => opL_1 (termS_mono true t m n) rfl h)) (by omega) hI hKp fy53 fy54 fy55 hP hS (lv_sub hl [0, 3] rfl)
            · --63 not
              exact absurd c62 (by decide)
          · --37 not
            have t66 : r34.toInt = 43 := ti_eq c43
            have i67 : 43 ≤ r34.toInt ∧ r34.toInt ≤ 43 := iv_eqi t66 f38 (il_ 43) (by decide)
            refine lv_iconst (v := 1) hx hb dX13_sum_40 (by decide) ?_
            refine lv_goto (tgt := 45) hx hb dX13_sum_41 (by decide) ?_
            refine lv_istore_n (lv' := [(2, .int 1), (1, .int v5_1), (0, .ref (ad 0))]) hx hb dX13_sum_45 rfl hl (by decide) rfl (fun ls hl => ?_)
            refine lv_aload_n hx hb dX13_sum_46 rfl (lv_at hl 2 rfl) ?_
            refine lv_dup hx hb dX13_sum_47 rfl ?_
            refine th_get (ci := 14) (C := RX13) (T := TX13) (N := 97) (v := .int y37) hx hb hts hinX13 hown hK hP hI 0 (Nat.le_of_ble_eq_true rfl) rfl rfl 21 (Nat.le_of_ble_eq_true rfl) (hts _ (vA_in _ _ (in_25 _ (zs16 (zs16 (zs4 (zs0))))))) (fun _ h9 => h9) fy37 dX13_sum_48 ?_
            refine lv_iconst (v := 1) hx hb dX13_sum_51 (by decide) ?_
            refine lv_iadd hx hb dX13_sum_52 ?_
            refine lv_topi (fun y68 ey68 => ?_)
            obtain ⟨ty68, iy68⟩ := ti_add (e := 1) (f := 202) iy37 ln_1 ey68 (by decide)
            have ty68 : y68.toInt = y37.toInt + 1 := ty68
            have iy68 : 1 ≤ y68.toInt ∧ y68.toInt ≤ 202 := iy68
            have i69 : 1 ≤ y68.toInt ∧ y68.toInt ≤ 201 := by omega
            refine th_put (ci := 14) (C := RX13) (T := TX13) (N := 97) (v := .int y68) (ty := .int) hx hb hts hinX13 tyX13 tyX13_ok nmX13 hown hK hP (WX_D hD) hS hI 0 (Nat.le_of_ble_eq_true rfl) rfl rfl 21 (Nat.le_of_ble_eq_true rfl) (hts _ (vA_in _ _ (in_25 _ (zs16 (zs16 (zs4 (zs0))))))) (fun _ h9 => h9) rfl (by decide +kernel) rfl rfl (okI rfl (iv_w i69 (by decide))) dX13_sum_53 (fun H locs E70 pw71 hI hP hS => ?_)
            have hKp := hKp.pw pw71 rfl
            have k72 : AtM k E35 E70 := AtM.pw pw71.2 hk0 (vi_e fy37) (vi_e pw71.1) ty68 (by omega)
            refine lv_aload_n hx hb dX13_sum_56 rfl (lv_at hl 2 rfl) ?_
            refine th_i (va_runV (As := []) (rest := []) ⟨hx, hb, hml, hown, hts⟩ (gT dC dI cT ad E70 H.size k nl hI (by exact hh0) (by exact hh1) (by exact hh2) (by exact (hKp 0 18 rfl).trans hh3) (by (try rw [hKp.ei 0 19 rfl]); exact hh4) (by (try rw [(show xi (E70 0) 23 = w5_0_23 from vi_e ((pw71.2 0 23 (fun q9 => absurd q9.2 (Nat.ne_of_beq_eq_false rfl))).trans ((kq36 0 23 rfl).trans ((kq24 0 23 rfl).trans hs5_0_23))))]); omega) (by (try rw [(show xi (E70 0) 22 = w5_0_22 from vi_e ((pw71.2 0 22 (fun q9 => absurd q9.2 (Nat.ne_of_beq_eq_false rfl))).trans ((kq36 0 22 rfl).trans ((kq24 0 22 rfl).trans hs5_0_22))))]); omega)) (cwV 0 hts (gi_V (in_26 _ (zs16 (zs4 (zs4 (zs4 (zs0)))))) (in_26 _ (zs16 (zs4 (zs4 (zs4 (zs1 (zs0))))))) (in_26 _ (zs16 (zs4 (zs4 (zs4 (zs1 (zs1 (zs0)))))))) (in_24 _ (zs4 (zs4 (zs4 (zs1 (zs1 (zs1 (zs0)))))))) (in_27 _ (zs1 (zs1 (zs0))))) rfl rfl rfl (by decide +kernel) ⟨(show 7 * n + 6 + 1 ≤ 7 * n + 7 from nl_4 (Nat.le_of_ble_eq_true rfl) (Nat.le_of_ble_eq_true rfl)), (show 8 + (5 + 11) + 40 * (7 * n + 6) ≤ 40 * (7 * n + 7) from nl_3 (Nat.le_of_ble_eq_true rfl) (Nat.le_of_ble_eq_true rfl))⟩) ⟨HW_bl, va_recv hK hP (ci := 14) (q0 := 0) rfl (hI.ob 0 (Nat.le_of_ble_eq_true rfl) rfl), (HW_wi hP hK (WX_D hD) hS hA hEV)⟩ rfl rfl hl.1 rfl (lv_room (Nat.le_of_ble_eq_true rfl)) dX13_sum_57 ⟨Nat.le_of_ble_eq_true rfl, Nat.le_of_ble_eq_true rfl⟩) (WX_D hD) hS hA (fun r73 E74 H locs hw hP hS => ?_)
            obtain ⟨hI, kq75, hw⟩ := hw
            have hKb := hKp
            have hKp := hKp.tr kq75 (wl_sub rfl rfl)
            obtain ⟨y76, ey76⟩ : ∃ y, xi (E74 0) 21 = y := ⟨_, rfl⟩
            have fy76 : xv (E74 0) 21 = .int y76 := (hI.fi 0 (Nat.le_of_ble_eq_true rfl) rfl (Nat.le_of_ble_eq_true rfl) rfl).trans (congrArg Value.int ey76)
            have iy76 : 0 ≤ y76.toInt ∧ y76.toInt ≤ 201 := by rw [← ey76]; exact hI.iv 0 (Nat.le_of_ble_eq_true rfl) rfl (Nat.le_of_ble_eq_true rfl) rfl
            obtain ⟨y77, ey77⟩ : ∃ y, xi (E74 0) 22 = y := ⟨_, rfl⟩
            have fy77 : xv (E74 0) 22 = .int y77 := (hI.fi 0 (Nat.le_of_ble_eq_true rfl) rfl (Nat.le_of_ble_eq_true rfl) rfl).trans (congrArg Value.int ey77)
            have iy77 : -1 ≤ y77.toInt ∧ y77.toInt ≤ 201 := by rw [← ey77]; exact hI.iv 0 (Nat.le_of_ble_eq_true rfl) rfl (Nat.le_of_ble_eq_true rfl) rfl
            obtain ⟨y78, ey78⟩ : ∃ y, xi (E74 0) 23 = y := ⟨_, rfl⟩
            have fy78 : xv (E74 0) 23 = .int y78 := (hI.fi 0 (Nat.le_of_ble_eq_true rfl) rfl (Nat.le_of_ble_eq_true rfl) rfl).trans (congrArg Value.int ey78)
            have iy78 : 0 ≤ y78.toInt ∧ y78.toInt ≤ 8 := by rw [← ey78]; exact hI.iv 0 (Nat.le_of_ble_eq_true rfl) rfl (Nat.le_of_ble_eq_true rfl) rfl
            obtain ⟨f79, f80, f81, f82, f83⟩ := hw
            try rw [(show xi (E70 0) 21 = y68 from vi_e pw71.1)] at f79
            try rw [(show xi (E74 0) 21 = y76 from vi_e fy76)] at f79
            try rw [(show xi (E70 0) 23 = w5_0_23 from vi_e ((pw71.2 0 23 (fun q9 => absurd q9.2 (Nat.ne_of_beq_eq_false rfl))).trans ((kq36 0 23 rfl).trans ((kq24 0 23 rfl).trans hs5_0_23))))] at f80
            try rw [(show xi (E74 0) 23 = y78 from vi_e fy78)] at f80
            try rw [(show xi (E70 0) 22 = w5_0_22 from vi_e ((pw71.2 0 22 (fun q9 => absurd q9.2 (Nat.ne_of_beq_eq_false rfl))).trans ((kq36 0 22 rfl).trans ((kq24 0 22 rfl).trans hs5_0_22))))] at f81
            try rw [(show xi (E70 0) 23 = w5_0_23 from vi_e ((pw71.2 0 23 (fun q9 => absurd q9.2 (Nat.ne_of_beq_eq_false rfl))).trans ((kq36 0 23 rfl).trans ((kq24 0 23 rfl).trans hs5_0_23))))] at f81
            try rw [(show xi (E74 0) 22 = y77 from vi_e fy77)] at f81
            try rw [(show xi (E74 0) 23 = y78 from vi_e fy78)] at f81
            try rw [(show xi (E70 0) 22 = w5_0_22 from vi_e ((pw71.2 0 22 (fun q9 => absurd q9.2 (Nat.ne_of_beq_eq_false rfl))).trans ((kq36 0 22 rfl).trans ((kq24 0 22 rfl).trans hs5_0_22))))] at f82
            try rw [(show xi (E74 0) 22 = y77 from vi_e fy77)] at f82
            refine lv_i2l hx hb dX13_sum_60 rfl ?_
            refine lv_topl (fun y84 ey84 => ?_)
            refine lv_lstore_n (lv' := [(3, .long y84), (2, .int 1), (1, .int v5_1), (0, .ref (ad 0))]) hx hb dX13_sum_61 rfl hl (by decide) rfl (fun ls hl => ?_)
            refine lv_iload_n hx hb dX13_sum_62 rfl (lv_at hl 1 rfl) ?_
            refine lv_if_eq (tgt := 73) hx hb dX13_sum_63 (by decide) (fun c85 => ?_) (fun c85 => ?_)
            · --63 taken
              exact absurd c85 (by decide)
            · --63 not
              refine lv_iload_n hx hb dX13_sum_66 rfl (lv_at hl 2 rfl) ?_
              refine lv_i2l hx hb dX13_sum_67 rfl ?_
              refine lv_topl (fun y86 ey86 => ?_)
              refine lv_lload_n hx hb dX13_sum_68 rfl (lv_at hl 0 rfl) ?_
              refine lv_ladd hx hb dX13_sum_69 ?_
              refine lv_topl (fun y87 ey87 => ?_)
              refine lv_goto (tgt := 77) hx hb dX13_sum_70 (by decide) ?_
              refine th_pi (va_runS (As := [.long y87]) (rest := []) ⟨hx, hb, hml, hown, hts⟩ (q_bound l y87) (va_cwS 1 hts (gi_S (in_26 _ (zs16 (zs4 (zs4 (zs4 (zs1 (zs1 (zs1 (zs0))))))))) (in_26 _ (zs16 (zs16 (zs0)))) (in_24 _ (zs4 (zs4 (zs4 (zs1 (zs1 (zs1 (zs0)))))))) (in_26 _ (zs16 (zs16 (zs1 (zs0)))))) rfl rfl rfl hz_yX13_bound_1 ⟨(show 1 + 1 ≤ 7 * n + 7 from nl_1 (Nat.le_of_ble_eq_true rfl)), (show 8 + (2 + 11) + 40 * (1) ≤ 40 * (7 * n + 7) from nl_2 (Nat.le_of_ble_eq_true rfl))⟩) ⟨fun _ _ _ _ q => q, fun _ _ _ => ⟨rfl, trivial⟩⟩ rfl rfl hl.1 rfl (lv_room (Nat.le_of_ble_eq_true rfl)) dX13_sum_77 ⟨Nat.le_of_ble_eq_true rfl, Nat.le_of_ble_eq_true rfl⟩) hS (fun r88 H1 locs1 hw hk1 hS => ?_)
              have hP := ub_keep hP hk1
              generalize H1 = H at hP hS ⊢
              generalize locs1 = locs at hS ⊢
              refine lv_istore_n (lv' := [(1, .int r88), (3, .long y84), (2, .int 1), (0, .ref (ad 0))]) hx hb dX13_sum_80 rfl hl (by decide) rfl (fun ls hl => ?_)
              refine lv_goto (tgt := 5) hx hb dX13_sum_81 (by decide) ?_
              exact ih5 y76 y77 y78 r88 E74 _ _ _ iy76 iy77 iy78 (by  first | exact (Int.le_trans (Int.le_trans (Int.le_trans (Int.le_trans hx5_0 f27) f39) (Int.le_trans (Int.le_add_of_nonneg_right (by decide)) (Int.le_of_eq ty68.symm))) f79) | omega) (by  first | exact (Int.le_trans hx5_1 f80) | omega) (by  first | exact fun q9 => ((f81 (q9)).trans (hx5_2 (f82 (q9)))) | omega) (by  first | exact fun q9 => hx5_3 (f82 (q9)) | omega) (LpM.step (op := isAdd) (cb := jb) hx5_4 (f30.two f42) (is_add.mpr (by have q20 := f30.eq f42 (by show (xi (E5_ 0) 22).toInt = -1; rw [show xi (E5_ 0) 22 = w5_0_22 from vi_e hs5_0_22]; first | exact t20 | omega); omega)) (by show (xi (E5_ 0) 22).toInt = -1; rw [show xi (E5_ 0) 22 = w5_0_22 from vi_e hs5_0_22]; first | exact t20 | omega) k72 f83 KM.rf (by decide) (fun t m => termS_mono true t m n) (fun t m a c h => opL_1 (termS_mono true t m n) rfl h)) (by omega) hI hKp fy76 fy77 fy78 hP hS (lv_sub hl [0, 3] rfl)
        · --19 not
          have t89 : ¬ r22.toInt = 43 := ti_ne c31
          refine lv_aload_n hx hb dX13_sum_22 rfl (lv_at hl 1 rfl) ?_
          refine th_i (va_runV (As := []) (rest := []) ⟨hx, hb, hml, hown, hts⟩ (q_lookX l dC dI cT ad E23 H.size k nl hI (by exact hh0) (by exact hh1) (by exact hh2) (by exact (hKp 0 18 rfl).trans hh3) (by (try rw [hKp.ei 0 19 rfl]); exact hh4)) (cwV 0 hts (gi_V (in_26 _ (zs1 (zs1 (zs0)))) (in_26 _ (zs1 (zs1 (zs1 (zs0))))) (in_26 _ (zs4 (zs0))) (in_24 _ (zs4 (zs4 (zs4 (zs1 (zs1 (zs1 (zs0)))))))) (in_26 _ (zs4 (zs1 (zs0))))) rfl rfl rfl ⟨rfl, hz_yX13_look_0⟩ ⟨(show 0 + 1 ≤ 7 * n + 7 from nl_1 (Nat.le_of_ble_eq_true rfl)), (show 8 + (1 + 11) + 40 * (0) ≤ 40 * (7 * n + 7) from nl_2 (Nat.le_of_ble_eq_true rfl))⟩) ⟨HW_bl, va_recv hK hP (ci := 14) (q0 := 0) rfl (hI.ob 0 (Nat.le_of_ble_eq_true rfl) rfl), (HW_wi hP hK (WX_D hD) hS hA hEV)⟩ rfl rfl hl.1 rfl (lv_room (Nat.le_of_ble_eq_true rfl)) dX13_sum_23 ⟨Nat.le_of_ble_eq_true rfl, Nat.le_of_ble_eq_true rfl⟩) (WX_D hD) hS hA (fun r90 E91 H locs hw hP hS => ?_)
          obtain ⟨hI, kq92, hw⟩ := hw
          have hKb := hKp
          have hKp := hKp.tr kq92 (wl_sub rfl rfl)
          obtain ⟨y93, ey93⟩ : ∃ y, xi (E91 0) 21 = y := ⟨_, rfl⟩
          have fy93 : xv (E91 0) 21 = .int y93 := (hI.fi 0 (Nat.le_of_ble_eq_true rfl) rfl (Nat.le_of_ble_eq_true rfl) rfl).trans (congrArg Value.int ey93)
          have iy93 : 0 ≤ y93.toInt ∧ y93.toInt ≤ 201 := by rw [← ey93]; exact hI.iv 0 (Nat.le_of_ble_eq_true rfl) rfl (Nat.le_of_ble_eq_true rfl) rfl
          obtain ⟨f94, f95, f96, f97, f98⟩ := hw
          try rw [(show xi (E23 0) 21 = y25 from vi_e fy25)] at f95
          try rw [(show xi (E91 0) 21 = y93 from vi_e fy93)] at f95
          try rw [(show xi (E23 0) 21 = y25 from vi_e fy25)] at f96
          try rw [hKb.ei 0 20 rfl] at f96
          try rw [(show xi (E91 0) 21 = y93 from vi_e fy93)] at f96
          try rw [(show xi (E23 0) 21 = y25 from vi_e fy25)] at f97
          try rw [hKb.ei 0 20 rfl] at f97
          try rw [(show xi (E91 0) 21 = y93 from vi_e fy93)] at f97
          refine lv_bipush (v := 45) hx hb dX13_sum_26 (by decide) ?_
          refine lv_icmp_ne (tgt := 84) hx hb dX13_sum_28 (by decide) (fun c99 => ?_) (fun c99 => ?_)
          · --28 taken
            have t100 : ¬ r90.toInt = 45 := ti_ne c99
            refine lv_iload_n hx hb dX13_sum_84 rfl (lv_at hl 0 rfl) ?_
            rw [hQ]
            exact W.iret (v := v5_1) hx hb hr (fun t ht hW => ⟨⟨v5_1, E91, rfl, ⟨hI, hKp, ⟨by (try rw [(show xi (E91 0) 21 = y93 from vi_e fy93)]); (try rw [ey1]); first | done | exact (Int.le_trans (Int.le_trans hx5_0 f27) f95) | all_goals omega, by (try rw [(show xi (E91 0) 23 = w5_0_23 from vi_e ((kq92 0 23 rfl).trans ((kq24 0 23 rfl).trans hs5_0_23)))]); (try rw [ey3]); first | done | exact hx5_1 | all_goals omega, by (try rw [(show xi (E91 0) 22 = w5_0_22 from vi_e ((kq92 0 22 rfl).trans ((kq24 0 22 rfl).trans hs5_0_22)))]); (try rw [(show xi (E91 0) 23 = w5_0_23 from vi_e ((kq92 0 23 rfl).trans ((kq24 0 23 rfl).trans hs5_0_23)))]); (try rw [ey2]); (try rw [ey3]); first | done | exact fun q9 => (hx5_2 (q9)) | all_goals omega, by (try rw [(show xi (E91 0) 22 = w5_0_22 from vi_e ((kq92 0 22 rfl).trans ((kq24 0 22 rfl).trans hs5_0_22)))]); (try rw [ey2]); first | done | exact fun q9 => hx5_3 (q9) | all_goals omega, LpM.exit (op := isAdd) hx5_4 (f30.two f98) (fun q9 => by have q8 := is_add.mp q9; have q20 := f30.eq f98 (by show (xi (E5_ 0) 22).toInt = -1; rw [show xi (E5_ 0) 22 = w5_0_22 from vi_e hs5_0_22]; first | exact t20 | omega); omega) (fun t m a c h => opL_0 h)⟩⟩, by show va_P (dC, dI) vwCl (WX 72 ad E91) t.heap; rw [ht]; exact hP⟩, hS.F ht⟩) hS.2.2 dX13_sum_85
          · --28 not
            have t101 : r90.toInt = 45 := ti_eq c99
            have i102 : 45 ≤ r90.toInt ∧ r90.toInt ≤ 45 := iv_eqi t101 f94 (il_ 45) (by decide)
            refine lv_aload_n hx hb dX13_sum_31 rfl (lv_at hl 1 rfl) ?_
            refine th_i (va_runV (As := []) (rest := []) ⟨hx, hb, hml, hown, hts⟩ (q_lookX l dC dI cT ad E91 H.size k nl hI (by exact hh0) (by exact hh1) (by exact hh2) (by exact (hKp 0 18 rfl).trans hh3) (by (try rw [hKp.ei 0 19 rfl]); exact hh4)) (cwV 0 hts (gi_V (in_26 _ (zs1 (zs1 (zs0)))) (in_26 _ (zs1 (zs1 (zs1 (zs0))))) (in_26 _ (zs4 (zs0))) (in_24 _ (zs4 (zs4 (zs4 (zs1 (zs1 (zs1 (zs0)))))))) (in_26 _ (zs4 (zs1 (zs0))))) rfl rfl rfl ⟨rfl, hz_yX13_look_0⟩ ⟨(show 0 + 1 ≤ 7 * n + 7 from nl_1 (Nat.le_of_ble_eq_true rfl)), (show 8 + (1 + 11) + 40 * (0) ≤ 40 * (7 * n + 7) from nl_2 (Nat.le_of_ble_eq_true rfl))⟩) ⟨HW_bl, va_recv hK hP (ci := 14) (q0 := 0) rfl (hI.ob 0 (Nat.le_of_ble_eq_true rfl) rfl), (HW_wi hP hK (WX_D hD) hS hA hEV)⟩ rfl rfl hl.1 rfl (lv_room (Nat.le_of_ble_eq_true rfl)) dX13_sum_32 ⟨Nat.le_of_ble_eq_true rfl, Nat.le_of_ble_eq_true rfl⟩) (WX_D hD) hS hA (fun r103 E104 H locs hw hP hS => ?_)
            obtain ⟨hI, kq105, hw⟩ := hw
            have hKb := hKp
            have hKp := hKp.tr kq105 (wl_sub rfl rfl)
            obtain ⟨y106, ey106⟩ : ∃ y, xi (E104 0) 21 = y := ⟨_, rfl⟩
            have fy106 : xv (E104 0) 21 = .int y106 := (hI.fi 0 (Nat.le_of_ble_eq_true rfl) rfl (Nat.le_of_ble_eq_true rfl) rfl).trans (congrArg Value.int ey106)
            have iy106 : 0 ≤ y106.toInt ∧ y106.toInt ≤ 201 := by rw [← ey106]; exact hI.iv 0 (Nat.le_of_ble_eq_true rfl) rfl (Nat.le_of_ble_eq_true rfl) rfl
            obtain ⟨f107, f108, f109, f110, f111⟩ := hw
            try rw [(show xi (E91 0) 21 = y93 from vi_e fy93)] at f108
            try rw [(show xi (E104 0) 21 = y106 from vi_e fy106)] at f108
            try rw [(show xi (E91 0) 21 = y93 from vi_e fy93)] at f109
            try rw [hKb.ei 0 20 rfl] at f109
            try rw [(show xi (E104 0) 21 = y106 from vi_e fy106)] at f109
            try rw [(show xi (E91 0) 21 = y93 from vi_e fy93)] at f110
            try rw [hKb.ei 0 20 rfl] at f110
            try rw [(show xi (E104 0) 21 = y106 from vi_e fy106)] at f110
            refine lv_bipush (v := 43) hx hb dX13_sum_35 (by decide) ?_
            refine lv_icmp_ne (tgt := 44) hx hb dX13_sum_37 (by decide) (fun c112 => ?_) (fun c112 => ?_)
            · --37 taken
              have t113 : ¬ r103.toInt = 43 := ti_ne c112
              refine lv_iconst (v := 0) hx hb dX13_sum_44 (by decide) ?_
              refine lv_istore_n (lv' := [(2, .int 0), (1, .int v5_1), (0, .ref (ad 0))]) hx hb dX13_sum_45 rfl hl (by decide) rfl (fun ls hl => ?_)
              refine lv_aload_n hx hb dX13_sum_46 rfl (lv_at hl 2 rfl) ?_
              refine lv_dup hx hb dX13_sum_47 rfl ?_
              refine th_get (ci := 14) (C := RX13) (T := TX13) (N := 97) (v := .int y106) hx hb hts hinX13 hown hK hP hI 0 (Nat.le_of_ble_eq_true rfl) rfl rfl 21 (Nat.le_of_ble_eq_true rfl) (hts _ (vA_in _ _ (in_25 _ (zs16 (zs16 (zs4 (zs0))))))) (fun _ h9 => h9) fy106 dX13_sum_48 ?_
              refine lv_iconst (v := 1) hx hb dX13_sum_51 (by decide) ?_
              refine lv_iadd hx hb dX13_sum_52 ?_
              refine lv_topi (fun y114 ey114 => ?_)
              obtain ⟨ty114, iy114⟩ := ti_add (e := 1) (f := 202) iy106 ln_1 ey114 (by decide)
              have ty114 : y114.toInt = y106.toInt + 1 := ty114
              have iy114 : 1 ≤ y114.toInt ∧ y114.toInt ≤ 202 := iy114
              have i115 : 1 ≤ y114.toInt ∧ y114.toInt ≤ 201 := by omega
              refine th_put (ci := 14) (C := RX13) (T := TX13) (N := 97) (v := .int y114) (ty := .int) hx hb hts hinX13 tyX13 tyX13_ok nmX13 hown hK hP (WX_D hD) hS hI 0 (Nat.le_of_ble_eq_true rfl) rfl rfl 21 (Nat.le_of_ble_eq_true rfl) (hts _ (vA_in _ _ (in_25 _ (zs16 (zs16 (zs4 (zs0))))))) (fun _ h9 => h9) rfl (by decide +kernel) rfl rfl (okI rfl (iv_w i115 (by decide))) dX13_sum_53 (fun H locs E116 pw117 hI hP hS => ?_)
              have hKp := hKp.pw pw117 rfl
              have k118 : AtM k E104 E116 := AtM.pw pw117.2 hk0 (vi_e fy106) (vi_e pw117.1) ty114 (by omega)
              refine lv_aload_n hx hb dX13_sum_56 rfl (lv_at hl 2 rfl) ?_
              refine th_i (va_runV (As := []) (rest := []) ⟨hx, hb, hml, hown, hts⟩ (gT dC dI cT ad E116 H.size k nl hI (by exact hh0) (by exact hh1) (by exact hh2) (by exact (hKp 0 18 rfl).trans hh3) (by (try rw [hKp.ei 0 19 rfl]); exact hh4) (by (try rw [(show xi (E116 0) 23 = w5_0_23 from vi_e ((pw117.2 0 23 (fun q9 => absurd q9.2 (Nat.ne_of_beq_eq_false rfl))).trans ((kq105 0 23 rfl).trans ((kq92 0 23 rfl).trans ((kq24 0 23 rfl).trans hs5_0_23)))))]); omega) (by (try rw [(show xi (E116 0) 22 = w5_0_22 from vi_e ((pw117.2 0 22 (fun q9 => absurd q9.2 (Nat.ne_of_beq_eq_false rfl))).trans ((kq105 0 22 rfl).trans ((kq92 0 22 rfl).trans ((kq24 0 22 rfl).trans hs5_0_22)))))]); omega)) (cwV 0 hts (gi_V (in_26 _ (zs16 (zs4 (zs4 (zs4 (zs0)))))) (in_26 _ (zs16 (zs4 (zs4 (zs4 (zs1 (zs0))))))) (in_26 _ (zs16 (zs4 (zs4 (zs4 (zs1 (zs1 (zs0)))))))) (in_24 _ (zs4 (zs4 (zs4 (zs1 (zs1 (zs1 (zs0)))))))) (in_27 _ (zs1 (zs1 (zs0))))) rfl rfl rfl (by decide +kernel) ⟨(show 7 * n + 6 + 1 ≤ 7 * n + 7 from nl_4 (Nat.le_of_ble_eq_true rfl) (Nat.le_of_ble_eq_true rfl)), (show 8 + (5 + 11) + 40 * (7 * n + 6) ≤ 40 * (7 * n + 7) from nl_3 (Nat.le_of_ble_eq_true rfl) (Nat.le_of_ble_eq_true rfl))⟩) ⟨HW_bl, va_recv hK hP (ci := 14) (q0 := 0) rfl (hI.ob 0 (Nat.le_of_ble_eq_true rfl) rfl), (HW_wi hP hK (WX_D hD) hS hA hEV)⟩ rfl rfl hl.1 rfl (lv_room (Nat.le_of_ble_eq_true rfl)) dX13_sum_57 ⟨Nat.le_of_ble_eq_true rfl, Nat.le_of_ble_eq_true rfl⟩) (WX_D hD) hS hA (fun r119 E120 H locs hw hP hS => ?_)
              obtain ⟨hI, kq121, hw⟩ := hw
              have hKb := hKp
              have hKp := hKp.tr kq121 (wl_sub rfl rfl)
              obtain ⟨y122, ey122⟩ : ∃ y, xi (E120 0) 21 = y := ⟨_, rfl⟩
              have fy122 : xv (E120 0) 21 = .int y122 := (hI.fi 0 (Nat.le_of_ble_eq_true rfl) rfl (Nat.le_of_ble_eq_true rfl) rfl).trans (congrArg Value.int ey122)
              have iy122 : 0 ≤ y122.toInt ∧ y122.toInt ≤ 201 := by rw [← ey122]; exact hI.iv 0 (Nat.le_of_ble_eq_true rfl) rfl (Nat.le_of_ble_eq_true rfl) rfl
              obtain ⟨y123, ey123⟩ : ∃ y, xi (E120 0) 22 = y := ⟨_, rfl⟩
              have fy123 : xv (E120 0) 22 = .int y123 := (hI.fi 0 (Nat.le_of_ble_eq_true rfl) rfl (Nat.le_of_ble_eq_true rfl) rfl).trans (congrArg Value.int ey123)
              have iy123 : -1 ≤ y123.toInt ∧ y123.toInt ≤ 201 := by rw [← ey123]; exact hI.iv 0 (Nat.le_of_ble_eq_true rfl) rfl (Nat.le_of_ble_eq_true rfl) rfl
              obtain ⟨y124, ey124⟩ : ∃ y, xi (E120 0) 23 = y := ⟨_, rfl⟩
              have fy124 : xv (E120 0) 23 = .int y124 := (hI.fi 0 (Nat.le_of_ble_eq_true rfl) rfl (Nat.le_of_ble_eq_true rfl) rfl).trans (congrArg Value.int ey124)
              have iy124 : 0 ≤ y124.toInt ∧ y124.toInt ≤ 8 := by rw [← ey124]; exact hI.iv 0 (Nat.le_of_ble_eq_true rfl) rfl (Nat.le_of_ble_eq_true rfl) rfl
              obtain ⟨f125, f126, f127, f128, f129⟩ := hw
              try rw [(show xi (E116 0) 21 = y114 from vi_e pw117.1)] at f125
              try rw [(show xi (E120 0) 21 = y122 from vi_e fy122)] at f125
              try rw [(show xi (E116 0) 23 = w5_0_23 from vi_e ((pw117.2 0 23 (fun q9 => absurd q9.2 (Nat.ne_of_beq_eq_false rfl))).trans ((kq105 0 23 rfl).trans ((kq92 0 23 rfl).trans ((kq24 0 23 rfl).trans hs5_0_23)))))] at f126
              try rw [(show xi (E120 0) 23 = y124 from vi_e fy124)] at f126
              try rw [(show xi (E116 0) 22 = w5_0_22 from vi_e ((pw117.2 0 22 (fun q9 => absurd q9.2 (Nat.ne_of_beq_eq_false rfl))).trans ((kq105 0 22 rfl).trans ((kq92 0 22 rfl).trans ((kq24 0 22 rfl).trans hs5_0_22)))))] at f127
              try rw [(show xi (E116 0) 23 = w5_0_23 from vi_e ((pw117.2 0 23 (fun q9 => absurd q9.2 (Nat.ne_of_beq_eq_false rfl))).trans ((kq105 0 23 rfl).trans ((kq92 0 23 rfl).trans ((kq24 0 23 rfl).trans hs5_0_23)))))] at f127
              try rw [(show xi (E120 0) 22 = y123 from vi_e fy123)] at f127
              try rw [(show xi (E120 0) 23 = y124 from vi_e fy124)] at f127
              try rw [(show xi (E116 0) 22 = w5_0_22 from vi_e ((pw117.2 0 22 (fun q9 => absurd q9.2 (Nat.ne_of_beq_eq_false rfl))).trans ((kq105 0 22 rfl).trans ((kq92 0 22 rfl).trans ((kq24 0 22 rfl).trans hs5_0_22)))))] at f128
              try rw [(show xi (E120 0) 22 = y123 from vi_e fy123)] at f128
              refine lv_i2l hx hb dX13_sum_60 rfl ?_
              refine lv_topl (fun y130 ey130 => ?_)
              refine lv_lstore_n (lv' := [(3, .long y130), (2, .int 0), (1, .int v5_1), (0, .ref (ad 0))]) hx hb dX13_sum_61 rfl hl (by decide) rfl (fun ls hl => ?_)
              refine lv_iload_n hx hb dX13_sum_62 rfl (lv_at hl 1 rfl) ?_
              refine lv_if_eq (tgt := 73) hx hb dX13_sum_63 (by decide) (fun c131 => ?_) (fun c131 => ?_)
              · --63 taken
                refine lv_iload_n hx hb dX13_sum_73 rfl (lv_at hl 2 rfl) ?_
                refine lv_i2l hx hb dX13_sum_74 rfl ?_
                refine lv_topl (fun y132 ey132 => ?_)
                refine lv_lload_n hx hb dX13_sum_75 rfl (lv_at hl 0 rfl) ?_
                refine lv_lsub hx hb dX13_sum_76 ?_
                refine lv_topl (fun y133 ey133 => ?_)
                refine th_pi (va_runS (As := [.long y133]) (rest := []) ⟨hx, hb, hml, hown, hts⟩ (q_bound l y133) (va_cwS 1 hts (gi_S (in_26 _ (zs16 (zs4 (zs4 (zs4 (zs1 (zs1 (zs1 (zs0))))))))) (in_26 _ (zs16 (zs16 (zs0)))) (in_24 _ (zs4 (zs4 (zs4 (zs1 (zs1 (zs1 (zs0)))))))) (in_26 _ (zs16 (zs16 (zs1 (zs0)))))) rfl rfl rfl hz_yX13_bound_1 ⟨(show 1 + 1 ≤ 7 * n + 7 from nl_1 (Nat.le_of_ble_eq_true rfl)), (show 8 + (2 + 11) + 40 * (1) ≤ 40 * (7 * n + 7) from nl_2 (Nat.le_of_ble_eq_true rfl))⟩) ⟨fun _ _ _ _ q => q, fun _ _ _ => ⟨rfl, trivial⟩⟩ rfl rfl hl.1 rfl (lv_room (Nat.le_of_ble_eq_true rfl)) dX13_sum_77 ⟨Nat.le_of_ble_eq_true rfl, Nat.le_of_ble_eq_true rfl⟩) hS (fun r134 H1 locs1 hw hk1 hS => ?_)
                have hP := ub_keep hP hk1
                generalize H1 = H at hP hS ⊢
                generalize locs1 = locs at hS ⊢
                refine lv_istore_n (lv' := [(1, .int r134), (3, .long y130), (2, .int 0), (0, .ref (ad 0))]) hx hb dX13_sum_80 rfl hl (by decide) rfl (fun ls hl => ?_)
                refine lv_goto (tgt := 5) hx hb dX13_sum_81 (by decide) ?_
                exact ih5 y122 y123 y124 r134 E120 _ _ _ iy122 iy123 iy124 (by  first | exact (Int.le_trans (Int.le_trans (Int.le_trans (Int.le_trans (Int.le_trans hx5_0 f27) f95) f108) (Int.le_trans (Int.le_add_of_nonneg_right (by decide)) (Int.le_of_eq ty114.symm))) f125) | omega) (by  first | exact (Int.le_trans hx5_1 f126) | omega) (by  first | exact fun q9 => ((f127 (q9)).trans (hx5_2 (f128 (q9)))) | omega) (by  first | exact fun q9 => hx5_3 (f128 (q9)) | omega) (LpM.step (op := isAdd) (cb := jb) hx5_4 ((f30.two f98).two f111) (is_add.mpr (by have q20 := f30.eq f98 (by show (xi (E5_ 0) 22).toInt = -1; rw [show xi (E5_ 0) 22 = w5_0_22 from vi_e hs5_0_22]; first | exact t20 | omega); have q21 := (f30.two f98).eq f111 (by show (xi (E5_ 0) 22).toInt = -1; rw [show xi (E5_ 0) 22 = w5_0_22 from vi_e hs5_0_22]; first | exact t20 | omega); omega)) (by show (xi (E5_ 0) 22).toInt = -1; rw [show xi (E5_ 0) 22 = w5_0_22 from vi_e hs5_0_22]; first | exact t20 | omega) k118 f129 KM.rf (by decide) (fun t m => termS_mono true t m n) (fun t m a c h => opL_1 (termS_mono true t m n) rfl h)) (by omega) hI hKp fy122 fy123 fy124 hP hS (lv_sub hl [0, 3] rfl)
              · --63 not
                exact absurd c131 (by decide)
            · --37 not
              have t135 : r103.toInt = 43 := ti_eq c112
              have i136 : 43 ≤ r103.toInt ∧ r103.toInt ≤ 43 := iv_eqi t135 f107 (il_ 43) (by decide)
              refine lv_iconst (v := 1) hx hb dX13_sum_40 (by decide) ?_
              refine lv_goto (tgt := 45) hx hb dX13_sum_41 (by decide) ?_
              refine lv_istore_n (lv' := [(2, .int 1), (1, .int v5_1), (0, .ref (ad 0))]) hx hb dX13_sum_45 rfl hl (by decide) rfl (fun ls hl => ?_)
              refine lv_aload_n hx hb dX13_sum_46 rfl (lv_at hl 2 rfl) ?_
              refine lv_dup hx hb dX13_sum_47 rfl ?_
              refine th_get (ci := 14) (C := RX13) (T := TX13) (N := 97) (v := .int y106) hx hb hts hinX13 hown hK hP hI 0 (Nat.le_of_ble_eq_true rfl) rfl rfl 21 (Nat.le_of_ble_eq_true rfl) (hts _ (vA_in _ _ (in_25 _ (zs16 (zs16 (zs4 (zs0))))))) (fun _ h9 => h9) fy106 dX13_sum_48 ?_
              refine lv_iconst (v := 1) hx hb dX13_sum_51 (by decide) ?_
              refine lv_iadd hx hb dX13_sum_52 ?_
              refine lv_topi (fun y137 ey137 => ?_)
              obtain ⟨ty137, iy137⟩ := ti_add (e := 1) (f := 202) iy106 ln_1 ey137 (by decide)
              have ty137 : y137.toInt = y106.toInt + 1 := ty137
              have iy137 : 1 ≤ y137.toInt ∧ y137.toInt ≤ 202 := iy137
              have i138 : 1 ≤ y137.toInt ∧ y137.toInt ≤ 201 := by omega
              refine th_put (ci := 14) (C := RX13) (T := TX13) (N := 97) (v := .int y137) (ty := .int) hx hb hts hinX13 tyX13 tyX13_ok nmX13 hown hK hP (WX_D hD) hS hI 0 (Nat.le_of_ble_eq_true rfl) rfl rfl 21 (Nat.le_of_ble_eq_true rfl) (hts _ (vA_in _ _ (in_25 _ (zs16 (zs16 (zs4 (zs0))))))) (fun _ h9 => h9) rfl (by decide +kernel) rfl rfl (okI rfl (iv_w i138 (by decide))) dX13_sum_53 (fun H locs E139 pw140 hI hP hS => ?_)
              have hKp := hKp.pw pw140 rfl
              have k141 : AtM k E104 E139 := AtM.pw pw140.2 hk0 (vi_e fy106) (vi_e pw140.1) ty137 (by omega)
              refine lv_aload_n hx hb dX13_sum_56 rfl (lv_at hl 2 rfl) ?_
              refine th_i (va_runV (As := []) (rest := []) ⟨hx, hb, hml, hown, hts⟩ (gT dC dI cT ad E139 H.size k nl hI (by exact hh0) (by exact hh1) (by exact hh2) (by exact (hKp 0 18 rfl).trans hh3) (by (try rw [hKp.ei 0 19 rfl]); exact hh4) (by (try rw [(show xi (E139 0) 23 = w5_0_23 from vi_e ((pw140.2 0 23 (fun q9 => absurd q9.2 (Nat.ne_of_beq_eq_false rfl))).trans ((kq105 0 23 rfl).trans ((kq92 0 23 rfl).trans ((kq24 0 23 rfl).trans hs5_0_23)))))]); omega) (by (try rw [(show xi (E139 0) 22 = w5_0_22 from vi_e ((pw140.2 0 22 (fun q9 => absurd q9.2 (Nat.ne_of_beq_eq_false rfl))).trans ((kq105 0 22 rfl).trans ((kq92 0 22 rfl).trans ((kq24 0 22 rfl).trans hs5_0_22)))))]); omega)) (cwV 0 hts (gi_V (in_26 _ (zs16 (zs4 (zs4 (zs4 (zs0)))))) (in_26 _ (zs16 (zs4 (zs4 (zs4 (zs1 (zs0))))))) (in_26 _ (zs16 (zs4 (zs4 (zs4 (zs1 (zs1 (zs0)))))))) (in_24 _ (zs4 (zs4 (zs4 (zs1 (zs1 (zs1 (zs0)))))))) (in_27 _ (zs1 (zs1 (zs0))))) rfl rfl rfl (by decide +kernel) ⟨(show 7 * n + 6 + 1 ≤ 7 * n + 7 from nl_4 (Nat.le_of_ble_eq_true rfl) (Nat.le_of_ble_eq_true rfl)), (show 8 + (5 + 11) + 40 * (7 * n + 6) ≤ 40 * (7 * n + 7) from nl_3 (Nat.le_of_ble_eq_true rfl) (Nat.le_of_ble_eq_true rfl))⟩) ⟨HW_bl, va_recv hK hP (ci := 14) (q0 := 0) rfl (hI.ob 0 (Nat.le_of_ble_eq_true rfl) rfl), (HW_wi hP hK (WX_D hD) hS hA hEV)⟩ rfl rfl hl.1 rfl (lv_room (Nat.le_of_ble_eq_true rfl)) dX13_sum_57 ⟨Nat.le_of_ble_eq_true rfl, Nat.le_of_ble_eq_true rfl⟩) (WX_D hD) hS hA (fun r142 E143 H locs hw hP hS => ?_)
              obtain ⟨hI, kq144, hw⟩ := hw
              have hKb := hKp
              have hKp := hKp.tr kq144 (wl_sub rfl rfl)
              obtain ⟨y145, ey145⟩ : ∃ y, xi (E143 0) 21 = y := ⟨_, rfl⟩
              have fy145 : xv (E143 0) 21 = .int y145 := (hI.fi 0 (Nat.le_of_ble_eq_true rfl) rfl (Nat.le_of_ble_eq_true rfl) rfl).trans (congrArg Value.int ey145)
              have iy145 : 0 ≤ y145.toInt ∧ y145.toInt ≤ 201 := by rw [← ey145]; exact hI.iv 0 (Nat.le_of_ble_eq_true rfl) rfl (Nat.le_of_ble_eq_true rfl) rfl
              obtain ⟨y146, ey146⟩ : ∃ y, xi (E143 0) 22 = y := ⟨_, rfl⟩
              have fy146 : xv (E143 0) 22 = .int y146 := (hI.fi 0 (Nat.le_of_ble_eq_true rfl) rfl (Nat.le_of_ble_eq_true rfl) rfl).trans (congrArg Value.int ey146)
              have iy146 : -1 ≤ y146.toInt ∧ y146.toInt ≤ 201 := by rw [← ey146]; exact hI.iv 0 (Nat.le_of_ble_eq_true rfl) rfl (Nat.le_of_ble_eq_true rfl) rfl
              obtain ⟨y147, ey147⟩ : ∃ y, xi (E143 0) 23 = y := ⟨_, rfl⟩
              have fy147 : xv (E143 0) 23 = .int y147 := (hI.fi 0 (Nat.le_of_ble_eq_true rfl) rfl (Nat.le_of_ble_eq_true rfl) rfl).trans (congrArg Value.int ey147)
              have iy147 : 0 ≤ y147.toInt ∧ y147.toInt ≤ 8 := by rw [← ey147]; exact hI.iv 0 (Nat.le_of_ble_eq_true rfl) rfl (Nat.le_of_ble_eq_true rfl) rfl
              obtain ⟨f148, f149, f150, f151, f152⟩ := hw
              try rw [(show xi (E139 0) 21 = y137 from vi_e pw140.1)] at f148
              try rw [(show xi (E143 0) 21 = y145 from vi_e fy145)] at f148
              try rw [(show xi (E139 0) 23 = w5_0_23 from vi_e ((pw140.2 0 23 (fun q9 => absurd q9.2 (Nat.ne_of_beq_eq_false rfl))).trans ((kq105 0 23 rfl).trans ((kq92 0 23 rfl).trans ((kq24 0 23 rfl).trans hs5_0_23)))))] at f149
              try rw [(show xi (E143 0) 23 = y147 from vi_e fy147)] at f149
              try rw [(show xi (E139 0) 22 = w5_0_22 from vi_e ((pw140.2 0 22 (fun q9 => absurd q9.2 (Nat.ne_of_beq_eq_false rfl))).trans ((kq105 0 22 rfl).trans ((kq92 0 22 rfl).trans ((kq24 0 22 rfl).trans hs5_0_22)))))] at f150
              try rw [(show xi (E139 0) 23 = w5_0_23 from vi_e ((pw140.2 0 23 (fun q9 => absurd q9.2 (Nat.ne_of_beq_eq_false rfl))).trans ((kq105 0 23 rfl).trans ((kq92 0 23 rfl).trans ((kq24 0 23 rfl).trans hs5_0_23)))))] at f150
              try rw [(show xi (E143 0) 22 = y146 from vi_e fy146)] at f150
              try rw [(show xi (E143 0) 23 = y147 from vi_e fy147)] at f150
              try rw [(show xi (E139 0) 22 = w5_0_22 from vi_e ((pw140.2 0 22 (fun q9 => absurd q9.2 (Nat.ne_of_beq_eq_false rfl))).trans ((kq105 0 22 rfl).trans ((kq92 0 22 rfl).trans ((kq24 0 22 rfl).trans hs5_0_22)))))] at f151
              try rw [(show xi (E143 0) 22 = y146 from vi_e fy146)] at f151
              refine lv_i2l hx hb dX13_sum_60 rfl ?_
              refine lv_topl (fun y153 ey153 => ?_)
              refine lv_lstore_n (lv' := [(3, .long y153), (2, .int 1), (1, .int v5_1), (0, .ref (ad 0))]) hx hb dX13_sum_61 rfl hl (by decide) rfl (fun ls hl => ?_)
              refine lv_iload_n hx hb dX13_sum_62 rfl (lv_at hl 1 rfl) ?_
              refine lv_if_eq (tgt := 73) hx hb dX13_sum_63 (by decide) (fun c154 => ?_) (fun c154 => ?_)
              · --63 taken
                exact absurd c154 (by decide)
              · --63 not
                refine lv_iload_n hx hb dX13_sum_66 rfl (lv_at hl 2 rfl) ?_
                refine lv_i2l hx hb dX13_sum_67 rfl ?_
                refine lv_topl (fun y155 ey155 => ?_)
                refine lv_lload_n hx hb dX13_sum_68 rfl (lv_at hl 0 rfl) ?_
                refine lv_ladd hx hb dX13_sum_69 ?_
                refine lv_topl (fun y156 ey156 => ?_)
                refine lv_goto (tgt := 77) hx hb dX13_sum_70 (by decide) ?_
                refine th_pi (va_runS (As := [.long y156]) (rest := []) ⟨hx, hb, hml, hown, hts⟩ (q_bound l y156) (va_cwS 1 hts (gi_S (in_26 _ (zs16 (zs4 (zs4 (zs4 (zs1 (zs1 (zs1 (zs0))))))))) (in_26 _ (zs16 (zs16 (zs0)))) (in_24 _ (zs4 (zs4 (zs4 (zs1 (zs1 (zs1 (zs0)))))))) (in_26 _ (zs16 (zs16 (zs1 (zs0)))))) rfl rfl rfl hz_yX13_bound_1 ⟨(show 1 + 1 ≤ 7 * n + 7 from nl_1 (Nat.le_of_ble_eq_true rfl)), (show 8 + (2 + 11) + 40 * (1) ≤ 40 * (7 * n + 7) from nl_2 (Nat.le_of_ble_eq_true rfl))⟩) ⟨fun _ _ _ _ q => q, fun _ _ _ => ⟨rfl, trivial⟩⟩ rfl rfl hl.1 rfl (lv_room (Nat.le_of_ble_eq_true rfl)) dX13_sum_77 ⟨Nat.le_of_ble_eq_true rfl, Nat.le_of_ble_eq_true rfl⟩) hS (fun r157 H1 locs1 hw hk1 hS => ?_)
                have hP := ub_keep hP hk1
                generalize H1 = H at hP hS ⊢
                generalize locs1 = locs at hS ⊢
                refine lv_istore_n (lv' := [(1, .int r157), (3, .long y153), (2, .int 1), (0, .ref (ad 0))]) hx hb dX13_sum_80 rfl hl (by decide) rfl (fun ls hl => ?_)
                refine lv_goto (tgt := 5) hx hb dX13_sum_81 (by decide) ?_
                exact ih5 y145 y146 y147 r157 E143 _ _ _ iy145 iy146 iy147 (by  first | exact (Int.le_trans (Int.le_trans (Int.le_trans (Int.le_trans (Int.le_trans hx5_0 f27) f95) f108) (Int.le_trans (Int.le_add_of_nonneg_right (by decide)) (Int.le_of_eq ty137.symm))) f148) | omega) (by  first | exact (Int.le_trans hx5_1 f149) | omega) (by  first | exact fun q9 => ((f150 (q9)).trans (hx5_2 (f151 (q9)))) | omega) (by  first | exact fun q9 => hx5_3 (f151 (q9)) | omega) (LpM.step (op := isAdd) (cb := jb) hx5_4 ((f30.two f98).two f111) (is_add.mpr (by have q20 := f30.eq f98 (by show (xi (E5_ 0) 22).toInt = -1; rw [show xi (E5_ 0) 22 = w5_0_22 from vi_e hs5_0_22]; first | exact t20 | omega); have q21 := (f30.two f98).eq f111 (by show (xi (E5_ 0) 22).toInt = -1; rw [show xi (E5_ 0) 22 = w5_0_22 from vi_e hs5_0_22]; first | exact t20 | omega); omega)) (by show (xi (E5_ 0) 22).toInt = -1; rw [show xi (E5_ 0) 22 = w5_0_22 from vi_e hs5_0_22]; first | exact t20 | omega) k141 f152 KM.rf (by decide) (fun t m => termS_mono true t m n) (fun t m a c h => opL_1 (termS_mono true t m n) rfl h)) (by omega) hI hKp fy145 fy146 fy147 hP hS (lv_sub hl [0, 3] rfl)
  exact hL5 (202) y7 y8 y9 r4 E5 _ _ _ iy7 iy8 iy9 (by  first | exact f10 | omega) (by  first | exact f11 | omega) (by  first | exact fun q9 => (f12 (q9)) | omega) (by  first | exact fun q9 => f13 (q9) | omega) (LpM.start f14 lmS (Int.le_refl _)) (by have h9 := iy7; omega) hI hKp fy7 fy8 fy9 hP hS (lv_sub hl [0, 1] rfl)
def v_isSignX : List Cond := .code yX13_isSign cX13_isSign 1 (some .boolean) :: vA
abbrev rm_isSignX : Room := { frames := 0, cells := 0, slots := 0, locals := 0 }
set_option maxHeartbeats 4000000 in
set_option maxRecDepth 100000 in
theorem q_isSignX (l : Launch) (a0 : Int32)  : Met l yX13_isSign v_isSignX rm_isSignX (va_Pc [.int a0] (fun _ => True)) (va_Qi (S := Unit) (fun r _ => (r = 1 ∧ (60 ≤ a0.toInt ∧ a0.toInt ≤ 62)) ∨ (r = 0 ∧ (¬ (60 ≤ a0.toInt ∧ a0.toInt ≤ 62)))) (fun _ _ => True) (fun _ => False)) 0 0 (fun _ => False) := by
  refine Met.ofW (cc := cX13_isSign) (maxL := 1) (ret := (some .boolean)) (by decide) rfl ?_
  intro p e s m args below meth c s₁ B hml hv
  obtain ⟨hargs, -⟩ := hv
  have hx := B.exec
  have hb := B.bytes
  have hr := B.returns
  have hts := atoms_spec (ws := v_isSignX) B.pre
  have hown : s.vm.findClass RX13 = some m.cls := findClass_of_methodNamed B.named
  have hlocks := B.notSynchronized
  have hS : va_S (fun _ : Nat => False) s.heap s.heap [] := va_S.rf
  have hl := lv_entry ([.int a0]) (n := 1) (Nat.le_of_ble_eq_true rfl)
  obtain ⟨Q, hQ⟩ : ∃ Q, Q = MQ below (va_Qi (S := Unit) (fun r _ => (r = 1 ∧ (60 ≤ a0.toInt ∧ a0.toInt ≤ 62)) ∨ (r = 0 ∧ (¬ (60 ≤ a0.toInt ∧ a0.toInt ≤ 62)))) (fun _ _ => True) (fun _ => False)) args s 0 0 (fun _ => False) := ⟨_, rfl⟩
  rw [← hQ, show entryFrame m args 1 = _ from (congrArg (fun z => entryFrame m z 1) hargs).trans (lg_entry_eq _ _ _)]
  generalize (lg_sl ([.int a0]) ++ List.replicate (1 - (lg_sl ([.int a0])).length) Slot.unset).toArray = ls at hl ⊢
  have hl : lv_has ls 1 [(0, .int a0)] := hl
  refine lv_iload_n hx hb dX13_isSign_0 rfl (lv_at hl 0 rfl) ?_
  refine lv_bipush (v := 61) hx hb dX13_isSign_1 (by decide) ?_
  refine lv_icmp_eq (tgt := 18) hx hb dX13_isSign_3 (by decide) (fun c1 => ?_) (fun c1 => ?_)
  · --3 taken
    have t2 : a0.toInt = 61 := ti_eq c1
    have i3 : 61 ≤ a0.toInt ∧ a0.toInt ≤ 61 := iv_eqi t2 (iv_all _) (il_ 61) (by decide)
    refine lv_iconst (v := 1) hx hb dX13_isSign_18 (by decide) ?_
    refine lv_goto (tgt := 23) hx hb dX13_isSign_19 (by decide) ?_
    rw [hQ]
    exact W.zret (v := 1) hx hb hr rfl (fun t ht hW => ⟨⟨1, (), rfl, Or.inl ⟨rfl, by omega⟩, trivial⟩, hS.F ht⟩) hS.2.2 dX13_isSign_23
  · --3 not
    have t4 : ¬ a0.toInt = 61 := ti_ne c1
    refine lv_iload_n hx hb dX13_isSign_6 rfl (lv_at hl 0 rfl) ?_
    refine lv_bipush (v := 60) hx hb dX13_isSign_7 (by decide) ?_
    refine lv_icmp_eq (tgt := 18) hx hb dX13_isSign_9 (by decide) (fun c5 => ?_) (fun c5 => ?_)
    · --9 taken
      have t6 : a0.toInt = 60 := ti_eq c5
      have i7 : 60 ≤ a0.toInt ∧ a0.toInt ≤ 60 := iv_eqi t6 (iv_all _) (il_ 60) (by decide)
      refine lv_iconst (v := 1) hx hb dX13_isSign_18 (by decide) ?_
      refine lv_goto (tgt := 23) hx hb dX13_isSign_19 (by decide) ?_
      rw [hQ]
      exact W.zret (v := 1) hx hb hr rfl (fun t ht hW => ⟨⟨1, (), rfl, Or.inl ⟨rfl, by omega⟩, trivial⟩, hS.F ht⟩) hS.2.2 dX13_isSign_23
    · --9 not
      have t8 : ¬ a0.toInt = 60 := ti_ne c5
      refine lv_iload_n hx hb dX13_isSign_12 rfl (lv_at hl 0 rfl) ?_
      refine lv_bipush (v := 62) hx hb dX13_isSign_13 (by decide) ?_
      refine lv_icmp_ne (tgt := 22) hx hb dX13_isSign_15 (by decide) (fun c9 => ?_) (fun c9 => ?_)
      · --15 taken
        have t10 : ¬ a0.toInt = 62 := ti_ne c9
        refine lv_iconst (v := 0) hx hb dX13_isSign_22 (by decide) ?_
        rw [hQ]
        exact W.zret (v := 0) hx hb hr rfl (fun t ht hW => ⟨⟨0, (), rfl, Or.inr (⟨rfl, by omega⟩), trivial⟩, hS.F ht⟩) hS.2.2 dX13_isSign_23
      · --15 not
        have t11 : a0.toInt = 62 := ti_eq c9
        have i12 : 62 ≤ a0.toInt ∧ a0.toInt ≤ 62 := iv_eqi t11 (iv_all _) (il_ 62) (by decide)
        refine lv_iconst (v := 1) hx hb dX13_isSign_18 (by decide) ?_
        refine lv_goto (tgt := 23) hx hb dX13_isSign_19 (by decide) ?_
        rw [hQ]
        exact W.zret (v := 1) hx hb hr rfl (fun t ht hW => ⟨⟨1, (), rfl, Or.inl ⟨rfl, by omega⟩, trivial⟩, hS.F ht⟩) hS.2.2 dX13_isSign_23
set_option maxHeartbeats 4000000 in
set_option maxRecDepth 100000 in
theorem q_comparesX (l : Launch) (n : Nat) (gS : C_sumX l n) : C_comparesX l n := by
  intro dC dI cT ad E sz a0 a1 k nl hI0 hh0 hh1 hh2 hh3 hh4 hh5 hh6 hh7
  refine Met.ofW (cc := cX13_compares) (maxL := 6) (ret := (some .boolean)) (by decide) rfl ?_
  intro p e s m args below meth c s₁ B hml hv
  obtain ⟨hargs, hsz, hP, hK, hD0, hEV⟩ := hv
  subst hsz
  have hx := B.exec
  have hb := B.bytes
  have hr := B.returns
  have hts := atoms_spec (ws := v_comparesX) B.pre
  have hown : s.vm.findClass RX13 = some m.cls := findClass_of_methodNamed B.named
  have hlocks := B.notSynchronized
  have hinX13 : ∀ w ∈ u_ws RX13 TX13 97, w ∈ v_comparesX := fun w h => vA_in _ w (in_X13 w h)
  generalize hAe : va_A (WX 72 ad E) s.heap.size = A at hEV ⊢
  have hA : ∀ q : Nat, s.heap.size ≤ q → A q := fun q h => by rw [← hAe]; exact Or.inr h
  have hD : va_D A (WX 72 ad E) := by rw [← hAe]; exact hD0.self
  have hS : va_S A s.heap s.heap [] := va_S.rf
  have hI := hI0
  have hKp : Kp w_comparesX E E := Kp.rf
  have hl := lv_entry ([.ref (ad 0), .int a0, .int a1]) (n := 6) (Nat.le_of_ble_eq_true rfl)
  obtain ⟨Q, hQ⟩ : ∃ Q, Q = MQ below (va_Qi (S := Nat → va_E) (fun r u => IX cT shM spM 72 ad u ∧ Kp w_comparesX E u ∧ ((0 ≤ r.toInt ∧ r.toInt ≤ 1) ∧ ((xi (E 0) 21).toInt ≤ (xi (u 0) 21).toInt) ∧ ((xi (E 0) 23).toInt ≤ (xi (u 0) 23).toInt) ∧ ((xi (u 0) 22).toInt = -1 → (xi (u 0) 23).toInt = (xi (E 0) 23).toInt) ∧ ((xi (u 0) 22).toInt = -1 → (xi (E 0) 22).toInt = -1) ∧ (RdM k (cpX a0 n) E u))) (HB dC dI 72 ad) (A)) args s 0 0 (A) := ⟨_, rfl⟩
  rw [← hQ, show entryFrame m args 6 = _ from (congrArg (fun z => entryFrame m z 6) hargs).trans (lg_entry_eq _ _ _)]
  generalize (lg_sl ([.ref (ad 0), .int a0, .int a1]) ++ List.replicate (6 - (lg_sl ([.ref (ad 0), .int a0, .int a1])).length) Slot.unset).toArray = ls at hl ⊢
  have hl : lv_has ls 6 [(0, .ref (ad 0)), (1, .int a0), (2, .int a1)] := hl
  obtain ⟨y1, ey1⟩ : ∃ y, xi (E 0) 21 = y := ⟨_, rfl⟩
  have fy1 : xv (E 0) 21 = .int y1 := (hI.fi 0 (Nat.le_of_ble_eq_true rfl) rfl (Nat.le_of_ble_eq_true rfl) rfl).trans (congrArg Value.int ey1)
  have iy1 : 0 ≤ y1.toInt ∧ y1.toInt ≤ 201 := by rw [← ey1]; exact hI.iv 0 (Nat.le_of_ble_eq_true rfl) rfl (Nat.le_of_ble_eq_true rfl) rfl
  obtain ⟨y2, ey2⟩ : ∃ y, xi (E 0) 22 = y := ⟨_, rfl⟩
  have fy2 : xv (E 0) 22 = .int y2 := (hI.fi 0 (Nat.le_of_ble_eq_true rfl) rfl (Nat.le_of_ble_eq_true rfl) rfl).trans (congrArg Value.int ey2)
  have iy2 : -1 ≤ y2.toInt ∧ y2.toInt ≤ 201 := by rw [← ey2]; exact hI.iv 0 (Nat.le_of_ble_eq_true rfl) rfl (Nat.le_of_ble_eq_true rfl) rfl
  rw [ey2] at hh6
  obtain ⟨y3, ey3⟩ : ∃ y, xi (E 0) 23 = y := ⟨_, rfl⟩
  have fy3 : xv (E 0) 23 = .int y3 := (hI.fi 0 (Nat.le_of_ble_eq_true rfl) rfl (Nat.le_of_ble_eq_true rfl) rfl).trans (congrArg Value.int ey3)
  have iy3 : 0 ≤ y3.toInt ∧ y3.toInt ≤ 8 := by rw [← ey3]; exact hI.iv 0 (Nat.le_of_ble_eq_true rfl) rfl (Nat.le_of_ble_eq_true rfl) rfl
  rw [ey3] at hh5
  have hk0 : ¬ k = 0 := fun q9 => by rw [q9] at hh1; exact absurd (show (shM 0).1 = 1 from congrArg Prod.fst hh1) (by decide)
  refine lv_iload_n hx hb dX13_compares_0 rfl (lv_at hl 1 rfl) ?_
  refine lv_if_eq (tgt := 8) hx hb dX13_compares_1 (by decide) (fun c4 => ?_) (fun c4 => ?_)
  · --1 taken
    have t5 : a0.toInt = 0 := ti_eq c4
    have i6 : 0 ≤ a0.toInt ∧ a0.toInt ≤ 0 := iv_eqi t5 hh7 (il_ 0) (by decide)
    refine lv_aload_n hx hb dX13_compares_8 rfl (lv_at hl 0 rfl) ?_
    refine th_i (va_runV (As := []) (rest := []) ⟨hx, hb, hml, hown, hts⟩ (gS dC dI cT ad E s.heap.size k nl hI (by exact hh0) (by exact hh1) (by exact hh2) (by exact hh3) (by exact hh4) (by (try rw [(show xi (E 0) 23 = y3 from vi_e fy3)]); omega) (by (try rw [(show xi (E 0) 22 = y2 from vi_e fy2)]); omega)) (cwV 0 hts (gi_V (in_26 _ (zs16 (zs0))) (in_26 _ (zs16 (zs1 (zs0)))) (in_26 _ (zs16 (zs1 (zs1 (zs0))))) (in_24 _ (zs4 (zs4 (zs4 (zs1 (zs1 (zs1 (zs0)))))))) (in_26 _ (zs16 (zs4 (zs4 (zs1 (zs1 (zs1 (zs0))))))))) rfl rfl rfl (by decide +kernel) ⟨(show 7 * n + 7 + 1 ≤ 7 * n + 8 from nl_4 (Nat.le_of_ble_eq_true rfl) (Nat.le_of_ble_eq_true rfl)), (show 8 + (5 + 11) + 40 * (7 * n + 7) ≤ 40 * (7 * n + 8) from nl_3 (Nat.le_of_ble_eq_true rfl) (Nat.le_of_ble_eq_true rfl))⟩) ⟨HW_bl, va_recv hK hP (ci := 14) (q0 := 0) rfl (hI.ob 0 (Nat.le_of_ble_eq_true rfl) rfl), (HW_wi hP hK (WX_D hD) hS hA hEV)⟩ rfl rfl hl.1 rfl (lv_room (Nat.le_of_ble_eq_true rfl)) dX13_compares_9 ⟨Nat.le_of_ble_eq_true rfl, Nat.le_of_ble_eq_true rfl⟩) (WX_D hD) hS hA (fun r7 E8 H locs hw hP hS => ?_)
    obtain ⟨hI, kq9, hw⟩ := hw
    have hKb := hKp
    have hKp := hKp.tr kq9 (wl_sub rfl rfl)
    obtain ⟨y10, ey10⟩ : ∃ y, xi (E8 0) 21 = y := ⟨_, rfl⟩
    have fy10 : xv (E8 0) 21 = .int y10 := (hI.fi 0 (Nat.le_of_ble_eq_true rfl) rfl (Nat.le_of_ble_eq_true rfl) rfl).trans (congrArg Value.int ey10)
    have iy10 : 0 ≤ y10.toInt ∧ y10.toInt ≤ 201 := by rw [← ey10]; exact hI.iv 0 (Nat.le_of_ble_eq_true rfl) rfl (Nat.le_of_ble_eq_true rfl) rfl
    obtain ⟨y11, ey11⟩ : ∃ y, xi (E8 0) 22 = y := ⟨_, rfl⟩
    have fy11 : xv (E8 0) 22 = .int y11 := (hI.fi 0 (Nat.le_of_ble_eq_true rfl) rfl (Nat.le_of_ble_eq_true rfl) rfl).trans (congrArg Value.int ey11)
    have iy11 : -1 ≤ y11.toInt ∧ y11.toInt ≤ 201 := by rw [← ey11]; exact hI.iv 0 (Nat.le_of_ble_eq_true rfl) rfl (Nat.le_of_ble_eq_true rfl) rfl
    obtain ⟨y12, ey12⟩ : ∃ y, xi (E8 0) 23 = y := ⟨_, rfl⟩
    have fy12 : xv (E8 0) 23 = .int y12 := (hI.fi 0 (Nat.le_of_ble_eq_true rfl) rfl (Nat.le_of_ble_eq_true rfl) rfl).trans (congrArg Value.int ey12)
    have iy12 : 0 ≤ y12.toInt ∧ y12.toInt ≤ 8 := by rw [← ey12]; exact hI.iv 0 (Nat.le_of_ble_eq_true rfl) rfl (Nat.le_of_ble_eq_true rfl) rfl
    obtain ⟨f13, f14, f15, f16, f17⟩ := hw
    have i18 : 0 ≤ (xi (E 0) 19).toInt ∧ (xi (E 0) 19).toInt ≤ 3000 := (show 0 ≤ (xi (E 0) 19).toInt ∧ (xi (E 0) 19).toInt ≤ 3000 from hI0.iv 0 (Nat.le_of_ble_eq_true rfl) rfl (Nat.le_of_ble_eq_true rfl) rfl)
    have i19 : 0 ≤ (xi (E 0) 20).toInt ∧ (xi (E 0) 20).toInt ≤ 200 := (show 0 ≤ (xi (E 0) 20).toInt ∧ (xi (E 0) 20).toInt ≤ 200 from hI0.iv 0 (Nat.le_of_ble_eq_true rfl) rfl (Nat.le_of_ble_eq_true rfl) rfl)
    try rw [(show xi (E 0) 21 = y1 from vi_e fy1)] at f13
    try rw [(show xi (E8 0) 21 = y10 from vi_e fy10)] at f13
    try rw [(show xi (E 0) 23 = y3 from vi_e fy3)] at f14
    try rw [(show xi (E8 0) 23 = y12 from vi_e fy12)] at f14
    try rw [(show xi (E 0) 22 = y2 from vi_e fy2)] at f15
    try rw [(show xi (E 0) 23 = y3 from vi_e fy3)] at f15
    try rw [(show xi (E8 0) 22 = y11 from vi_e fy11)] at f15
    try rw [(show xi (E8 0) 23 = y12 from vi_e fy12)] at f15
    try rw [(show xi (E 0) 22 = y2 from vi_e fy2)] at f16
    try rw [(show xi (E8 0) 22 = y11 from vi_e fy11)] at f16
    refine lv_istore_n (lv' := [(3, .int r7), (0, .ref (ad 0)), (1, .int a0), (2, .int a1)]) hx hb dX13_compares_12 rfl hl (by decide) rfl (fun ls hl => ?_)
    refine lv_aload_n hx hb dX13_compares_13 rfl (lv_at hl 1 rfl) ?_
    refine th_get (ci := 14) (C := RX13) (T := TX13) (N := 97) (v := .int y11) hx hb hts hinX13 hown hK hP hI 0 (Nat.le_of_ble_eq_true rfl) rfl rfl 22 (Nat.le_of_ble_eq_true rfl) (hts _ (vA_in _ _ (in_25 _ (zs16 (zs16 (zs4 (zs1 (zs1 (zs1 (zs0)))))))))) (fun _ h9 => h9) fy11 dX13_compares_14 ?_
    refine lv_iconst (v := -1) hx hb dX13_compares_17 (by decide) ?_
    refine lv_icmp_eq (tgt := 23) hx hb dX13_compares_18 (by decide) (fun c20 => ?_) (fun c20 => ?_)
    · --18 taken
      have t21 : y11.toInt = -1 := ti_eq c20
      have i22 : -1 ≤ y11.toInt ∧ y11.toInt ≤ -1 := iv_eqi t21 iy11 (il_ (-1)) (by decide)
      refine lv_aload_n hx hb dX13_compares_23 rfl (lv_at hl 1 rfl) ?_
      refine th_i (va_runV (As := []) (rest := []) ⟨hx, hb, hml, hown, hts⟩ (q_lookX l dC dI cT ad E8 H.size k nl hI (by exact hh0) (by exact hh1) (by exact hh2) (by exact (hKp 0 18 rfl).trans hh3) (by (try rw [hKp.ei 0 19 rfl]); exact hh4)) (cwV 0 hts (gi_V (in_26 _ (zs1 (zs1 (zs0)))) (in_26 _ (zs1 (zs1 (zs1 (zs0))))) (in_26 _ (zs4 (zs0))) (in_24 _ (zs4 (zs4 (zs4 (zs1 (zs1 (zs1 (zs0)))))))) (in_26 _ (zs4 (zs1 (zs0))))) rfl rfl rfl ⟨rfl, hz_yX13_look_0⟩ ⟨(show 0 + 1 ≤ 7 * n + 8 from nl_1 (Nat.le_of_ble_eq_true rfl)), (show 8 + (1 + 11) + 40 * (0) ≤ 40 * (7 * n + 8) from nl_2 (Nat.le_of_ble_eq_true rfl))⟩) ⟨HW_bl, va_recv hK hP (ci := 14) (q0 := 0) rfl (hI.ob 0 (Nat.le_of_ble_eq_true rfl) rfl), (HW_wi hP hK (WX_D hD) hS hA hEV)⟩ rfl rfl hl.1 rfl (lv_room (Nat.le_of_ble_eq_true rfl)) dX13_compares_24 ⟨Nat.le_of_ble_eq_true rfl, Nat.le_of_ble_eq_true rfl⟩) (WX_D hD) hS hA (fun r23 E24 H locs hw hP hS => ?_)
      obtain ⟨hI, kq25, hw⟩ := hw
      have hKb := hKp
      have hKp := hKp.tr kq25 (wl_sub rfl rfl)
      obtain ⟨y26, ey26⟩ : ∃ y, xi (E24 0) 21 = y := ⟨_, rfl⟩
      have fy26 : xv (E24 0) 21 = .int y26 := (hI.fi 0 (Nat.le_of_ble_eq_true rfl) rfl (Nat.le_of_ble_eq_true rfl) rfl).trans (congrArg Value.int ey26)
      have iy26 : 0 ≤ y26.toInt ∧ y26.toInt ≤ 201 := by rw [← ey26]; exact hI.iv 0 (Nat.le_of_ble_eq_true rfl) rfl (Nat.le_of_ble_eq_true rfl) rfl
      obtain ⟨f27, f28, f29, f30, f31⟩ := hw
      try rw [(show xi (E8 0) 21 = y10 from vi_e fy10)] at f28
      try rw [(show xi (E24 0) 21 = y26 from vi_e fy26)] at f28
      try rw [(show xi (E8 0) 21 = y10 from vi_e fy10)] at f29
      try rw [hKb.ei 0 20 rfl] at f29
      try rw [(show xi (E24 0) 21 = y26 from vi_e fy26)] at f29
      try rw [(show xi (E8 0) 21 = y10 from vi_e fy10)] at f30
      try rw [hKb.ei 0 20 rfl] at f30
      try rw [(show xi (E24 0) 21 = y26 from vi_e fy26)] at f30
      refine lv_istore (lv' := [(4, .int r23), (3, .int r7), (0, .ref (ad 0)), (1, .int a0), (2, .int a1)]) hx hb dX13_compares_27 hl (by decide) rfl (fun ls hl => ?_)
      refine lv_iload hx hb dX13_compares_29 (lv_at hl 0 rfl) ?_
      refine th_pi (va_runS (As := [.int r23]) (rest := []) ⟨hx, hb, hml, hown, hts⟩ (q_isSignX l r23) (va_cwS 1 hts (gi_S (in_29 _ (zs16 (zs4 (zs4 (zs4 (zs1 (zs1 (zs0)))))))) (in_29 _ (zs16 (zs4 (zs4 (zs4 (zs1 (zs1 (zs1 (zs0))))))))) (in_24 _ (zs4 (zs4 (zs4 (zs1 (zs1 (zs1 (zs0)))))))) (in_29 _ (zs16 (zs16 (zs0))))) rfl rfl rfl hz_yX13_isSign_1 ⟨(show 0 + 1 ≤ 7 * n + 8 from nl_1 (Nat.le_of_ble_eq_true rfl)), (show 8 + (1 + 11) + 40 * (0) ≤ 40 * (7 * n + 8) from nl_2 (Nat.le_of_ble_eq_true rfl))⟩) ⟨fun _ _ _ _ q => q, fun _ _ _ => ⟨rfl, trivial⟩⟩ rfl rfl hl.1 rfl (lv_room (Nat.le_of_ble_eq_true rfl)) dX13_compares_31 ⟨Nat.le_of_ble_eq_true rfl, Nat.le_of_ble_eq_true rfl⟩) hS (fun r32 H1 locs1 hw hk1 hS => ?_)
      have hP := ub_keep hP hk1
      generalize H1 = H at hP hS ⊢
      generalize locs1 = locs at hS ⊢
      rcases hw with hw | hw
      · -- isSignX, case 0
        obtain ⟨rfl, f33⟩ := hw
        refine lv_if_ne (tgt := 42) hx hb dX13_compares_34 (by decide) (fun c34 => ?_) (fun c34 => ?_)
        · --34 taken
          refine lv_aload_n hx hb dX13_compares_42 rfl (lv_at hl 2 rfl) ?_
          refine lv_dup hx hb dX13_compares_43 rfl ?_
          refine th_get (ci := 14) (C := RX13) (T := TX13) (N := 97) (v := .int y26) hx hb hts hinX13 hown hK hP hI 0 (Nat.le_of_ble_eq_true rfl) rfl rfl 21 (Nat.le_of_ble_eq_true rfl) (hts _ (vA_in _ _ (in_25 _ (zs16 (zs16 (zs4 (zs0))))))) (fun _ h9 => h9) fy26 dX13_compares_44 ?_
          refine lv_iconst (v := 1) hx hb dX13_compares_47 (by decide) ?_
          refine lv_iadd hx hb dX13_compares_48 ?_
          refine lv_topi (fun y35 ey35 => ?_)
          obtain ⟨ty35, iy35⟩ := ti_add (e := 1) (f := 202) iy26 ln_1 ey35 (by decide)
          have ty35 : y35.toInt = y26.toInt + 1 := ty35
          have iy35 : 1 ≤ y35.toInt ∧ y35.toInt ≤ 202 := iy35
          have i36 : 1 ≤ y35.toInt ∧ y35.toInt ≤ 201 := by omega
          refine th_put (ci := 14) (C := RX13) (T := TX13) (N := 97) (v := .int y35) (ty := .int) hx hb hts hinX13 tyX13 tyX13_ok nmX13 hown hK hP (WX_D hD) hS hI 0 (Nat.le_of_ble_eq_true rfl) rfl rfl 21 (Nat.le_of_ble_eq_true rfl) (hts _ (vA_in _ _ (in_25 _ (zs16 (zs16 (zs4 (zs0))))))) (fun _ h9 => h9) rfl (by decide +kernel) rfl rfl (okI rfl (iv_w i36 (by decide))) dX13_compares_49 (fun H locs E37 pw38 hI hP hS => ?_)
          have hKp := hKp.pw pw38 rfl
          have k39 : AtM k E24 E37 := AtM.pw pw38.2 hk0 (vi_e fy26) (vi_e pw38.1) ty35 (by omega)
          refine lv_aload_n hx hb dX13_compares_52 rfl (lv_at hl 2 rfl) ?_
          refine th_i (va_runV (As := []) (rest := []) ⟨hx, hb, hml, hown, hts⟩ (gS dC dI cT ad E37 H.size k nl hI (by exact hh0) (by exact hh1) (by exact hh2) (by exact (hKp 0 18 rfl).trans hh3) (by (try rw [hKp.ei 0 19 rfl]); exact hh4) (by (try rw [(show xi (E37 0) 23 = y12 from vi_e ((pw38.2 0 23 (fun q9 => absurd q9.2 (Nat.ne_of_beq_eq_false rfl))).trans ((kq25 0 23 rfl).trans fy12)))]); omega) (by (try rw [(show xi (E37 0) 22 = y11 from vi_e ((pw38.2 0 22 (fun q9 => absurd q9.2 (Nat.ne_of_beq_eq_false rfl))).trans ((kq25 0 22 rfl).trans fy11)))]); omega)) (cwV 0 hts (gi_V (in_26 _ (zs16 (zs0))) (in_26 _ (zs16 (zs1 (zs0)))) (in_26 _ (zs16 (zs1 (zs1 (zs0))))) (in_24 _ (zs4 (zs4 (zs4 (zs1 (zs1 (zs1 (zs0)))))))) (in_26 _ (zs16 (zs4 (zs4 (zs1 (zs1 (zs1 (zs0))))))))) rfl rfl rfl (by decide +kernel) ⟨(show 7 * n + 7 + 1 ≤ 7 * n + 8 from nl_4 (Nat.le_of_ble_eq_true rfl) (Nat.le_of_ble_eq_true rfl)), (show 8 + (5 + 11) + 40 * (7 * n + 7) ≤ 40 * (7 * n + 8) from nl_3 (Nat.le_of_ble_eq_true rfl) (Nat.le_of_ble_eq_true rfl))⟩) ⟨HW_bl, va_recv hK hP (ci := 14) (q0 := 0) rfl (hI.ob 0 (Nat.le_of_ble_eq_true rfl) rfl), (HW_wi hP hK (WX_D hD) hS hA hEV)⟩ rfl rfl hl.1 rfl (lv_room (Nat.le_of_ble_eq_true rfl)) dX13_compares_53 ⟨Nat.le_of_ble_eq_true rfl, Nat.le_of_ble_eq_true rfl⟩) (WX_D hD) hS hA (fun r40 E41 H locs hw hP hS => ?_)
          obtain ⟨hI, kq42, hw⟩ := hw
          have hKb := hKp
          have hKp := hKp.tr kq42 (wl_sub rfl rfl)
          obtain ⟨y43, ey43⟩ : ∃ y, xi (E41 0) 21 = y := ⟨_, rfl⟩
          have fy43 : xv (E41 0) 21 = .int y43 := (hI.fi 0 (Nat.le_of_ble_eq_true rfl) rfl (Nat.le_of_ble_eq_true rfl) rfl).trans (congrArg Value.int ey43)
          have iy43 : 0 ≤ y43.toInt ∧ y43.toInt ≤ 201 := by rw [← ey43]; exact hI.iv 0 (Nat.le_of_ble_eq_true rfl) rfl (Nat.le_of_ble_eq_true rfl) rfl
          obtain ⟨y44, ey44⟩ : ∃ y, xi (E41 0) 22 = y := ⟨_, rfl⟩
          have fy44 : xv (E41 0) 22 = .int y44 := (hI.fi 0 (Nat.le_of_ble_eq_true rfl) rfl (Nat.le_of_ble_eq_true rfl) rfl).trans (congrArg Value.int ey44)
          have iy44 : -1 ≤ y44.toInt ∧ y44.toInt ≤ 201 := by rw [← ey44]; exact hI.iv 0 (Nat.le_of_ble_eq_true rfl) rfl (Nat.le_of_ble_eq_true rfl) rfl
          obtain ⟨y45, ey45⟩ : ∃ y, xi (E41 0) 23 = y := ⟨_, rfl⟩
          have fy45 : xv (E41 0) 23 = .int y45 := (hI.fi 0 (Nat.le_of_ble_eq_true rfl) rfl (Nat.le_of_ble_eq_true rfl) rfl).trans (congrArg Value.int ey45)
          have iy45 : 0 ≤ y45.toInt ∧ y45.toInt ≤ 8 := by rw [← ey45]; exact hI.iv 0 (Nat.le_of_ble_eq_true rfl) rfl (Nat.le_of_ble_eq_true rfl) rfl
          obtain ⟨f46, f47, f48, f49, f50⟩ := hw
          try rw [(show xi (E37 0) 21 = y35 from vi_e pw38.1)] at f46
          try rw [(show xi (E41 0) 21 = y43 from vi_e fy43)] at f46
          try rw [(show xi (E37 0) 23 = y12 from vi_e ((pw38.2 0 23 (fun q9 => absurd q9.2 (Nat.ne_of_beq_eq_false rfl))).trans ((kq25 0 23 rfl).trans fy12)))] at f47
          try rw [(show xi (E41 0) 23 = y45 from vi_e fy45)] at f47
          try rw [(show xi (E37 0) 22 = y11 from vi_e ((pw38.2 0 22 (fun q9 => absurd q9.2 (Nat.ne_of_beq_eq_false rfl))).trans ((kq25 0 22 rfl).trans fy11)))] at f48
          try rw [(show xi (E37 0) 23 = y12 from vi_e ((pw38.2 0 23 (fun q9 => absurd q9.2 (Nat.ne_of_beq_eq_false rfl))).trans ((kq25 0 23 rfl).trans fy12)))] at f48
          try rw [(show xi (E41 0) 22 = y44 from vi_e fy44)] at f48
          try rw [(show xi (E41 0) 23 = y45 from vi_e fy45)] at f48
          try rw [(show xi (E37 0) 22 = y11 from vi_e ((pw38.2 0 22 (fun q9 => absurd q9.2 (Nat.ne_of_beq_eq_false rfl))).trans ((kq25 0 22 rfl).trans fy11)))] at f49
          try rw [(show xi (E41 0) 22 = y44 from vi_e fy44)] at f49
          refine lv_istore (lv' := [(5, .int r40), (4, .int r23), (3, .int r7), (0, .ref (ad 0)), (1, .int a0), (2, .int a1)]) hx hb dX13_compares_56 hl (by decide) rfl (fun ls hl => ?_)
          refine lv_iload hx hb dX13_compares_58 (lv_at hl 1 rfl) ?_
          refine lv_bipush (v := 61) hx hb dX13_compares_60 (by decide) ?_
          refine lv_icmp_ne (tgt := 79) hx hb dX13_compares_62 (by decide) (fun c51 => ?_) (fun c51 => ?_)
          · --62 taken
            have t52 : ¬ r23.toInt = 61 := ti_ne c51
            refine lv_iload hx hb dX13_compares_79 (lv_at hl 1 rfl) ?_
            refine lv_bipush (v := 60) hx hb dX13_compares_81 (by decide) ?_
            refine lv_icmp_ne (tgt := 100) hx hb dX13_compares_83 (by decide) (fun c53 => ?_) (fun c53 => ?_)
            · --83 taken
              have t54 : ¬ r23.toInt = 60 := ti_ne c53
              refine lv_iload_n hx hb dX13_compares_100 rfl (lv_at hl 2 rfl) ?_
              refine lv_iload hx hb dX13_compares_101 (lv_at hl 0 rfl) ?_
              refine lv_icmp_le (tgt := 110) hx hb dX13_compares_103 (by decide) (fun c55 => ?_) (fun c55 => ?_)
              · --103 taken
                have t56 : r7.toInt ≤ r40.toInt := ti_le c55
                refine lv_iconst (v := 0) hx hb dX13_compares_110 (by decide) ?_
                rw [hQ]
                exact W.zret (v := 0) hx hb hr rfl (fun t ht hW => ⟨⟨0, E41, rfl, ⟨hI, hKp, ⟨(iv_w ln_0 (by decide)), by (try rw [(show xi (E41 0) 21 = y43 from vi_e fy43)]); (try rw [ey1]); first | done | exact (Int.le_trans (Int.le_trans (Int.le_trans f13 f28) (Int.le_trans (Int.le_add_of_nonneg_right (by decide)) (Int.le_of_eq ty35.symm))) f46) | have h8 := ln_0; all_goals omega, by (try rw [(show xi (E41 0) 23 = y45 from vi_e fy45)]); (try rw [ey3]); first | done | exact (Int.le_trans f14 f47) | have h8 := ln_0; all_goals omega, by (try rw [(show xi (E41 0) 22 = y44 from vi_e fy44)]); (try rw [(show xi (E41 0) 23 = y45 from vi_e fy45)]); (try rw [ey2]); (try rw [ey3]); first | done | exact fun q9 => ((f48 (q9)).trans (f15 (f49 (q9)))) | have h8 := ln_0; all_goals omega, by (try rw [(show xi (E41 0) 22 = y44 from vi_e fy44)]); (try rw [ey2]); first | done | exact fun q9 => f16 (f49 (q9)) | have h8 := ln_0; all_goals omega, cpM_0 (by omega) f17 (cmM f31 (is_cmp.mpr (by omega)) k39 f50 KM.rf)⟩⟩, by show va_P (dC, dI) vwCl (WX 72 ad E41) t.heap; rw [ht]; exact hP⟩, hS.F ht⟩) hS.2.2 dX13_compares_111
              · --103 not
                have t57 : r40.toInt < r7.toInt := ti_nle c55
                have i58 : -2147483648 ≤ r40.toInt ∧ r40.toInt ≤ 2147483646 := iv_lt_l t57 (iv_all _) (iv_all _) (by decide)
                have i59 : -2147483647 ≤ r7.toInt ∧ r7.toInt ≤ 2147483647 := iv_lt_r t57 (iv_all _) (iv_all _) (by decide)
                refine lv_iconst (v := 1) hx hb dX13_compares_106 (by decide) ?_
                refine lv_goto (tgt := 111) hx hb dX13_compares_107 (by decide) ?_
                rw [hQ]
                exact W.zret (v := 1) hx hb hr rfl (fun t ht hW => ⟨⟨1, E41, rfl, ⟨hI, hKp, ⟨(iv_w ln_1 (by decide)), by (try rw [(show xi (E41 0) 21 = y43 from vi_e fy43)]); (try rw [ey1]); first | done | exact (Int.le_trans (Int.le_trans (Int.le_trans f13 f28) (Int.le_trans (Int.le_add_of_nonneg_right (by decide)) (Int.le_of_eq ty35.symm))) f46) | have h8 := ln_1; all_goals omega, by (try rw [(show xi (E41 0) 23 = y45 from vi_e fy45)]); (try rw [ey3]); first | done | exact (Int.le_trans f14 f47) | have h8 := ln_1; all_goals omega, by (try rw [(show xi (E41 0) 22 = y44 from vi_e fy44)]); (try rw [(show xi (E41 0) 23 = y45 from vi_e fy45)]); (try rw [ey2]); (try rw [ey3]); first | done | exact fun q9 => ((f48 (q9)).trans (f15 (f49 (q9)))) | have h8 := ln_1; all_goals omega, by (try rw [(show xi (E41 0) 22 = y44 from vi_e fy44)]); (try rw [ey2]); first | done | exact fun q9 => f16 (f49 (q9)) | have h8 := ln_1; all_goals omega, cpM_0 (by omega) f17 (cmM f31 (is_cmp.mpr (by omega)) k39 f50 KM.rf)⟩⟩, by show va_P (dC, dI) vwCl (WX 72 ad E41) t.heap; rw [ht]; exact hP⟩, hS.F ht⟩) hS.2.2 dX13_compares_111
            · --83 not
              have t60 : r23.toInt = 60 := ti_eq c53
              have i61 : 60 ≤ r23.toInt ∧ r23.toInt ≤ 60 := iv_eqi t60 f27 (il_ 60) (by decide)
              refine lv_iload_n hx hb dX13_compares_86 rfl (lv_at hl 2 rfl) ?_
              refine lv_iload hx hb dX13_compares_87 (lv_at hl 0 rfl) ?_
              refine lv_icmp_ge (tgt := 96) hx hb dX13_compares_89 (by decide) (fun c62 => ?_) (fun c62 => ?_)
              · --89 taken
                have t63 : r40.toInt ≤ r7.toInt := ti_le c62
                refine lv_iconst (v := 0) hx hb dX13_compares_96 (by decide) ?_
                refine lv_goto (tgt := 111) hx hb dX13_compares_97 (by decide) ?_
                rw [hQ]
                exact W.zret (v := 0) hx hb hr rfl (fun t ht hW => ⟨⟨0, E41, rfl, ⟨hI, hKp, ⟨(iv_w ln_0 (by decide)), by (try rw [(show xi (E41 0) 21 = y43 from vi_e fy43)]); (try rw [ey1]); first | done | exact (Int.le_trans (Int.le_trans (Int.le_trans f13 f28) (Int.le_trans (Int.le_add_of_nonneg_right (by decide)) (Int.le_of_eq ty35.symm))) f46) | have h8 := ln_0; all_goals omega, by (try rw [(show xi (E41 0) 23 = y45 from vi_e fy45)]); (try rw [ey3]); first | done | exact (Int.le_trans f14 f47) | have h8 := ln_0; all_goals omega, by (try rw [(show xi (E41 0) 22 = y44 from vi_e fy44)]); (try rw [(show xi (E41 0) 23 = y45 from vi_e fy45)]); (try rw [ey2]); (try rw [ey3]); first | done | exact fun q9 => ((f48 (q9)).trans (f15 (f49 (q9)))) | have h8 := ln_0; all_goals omega, by (try rw [(show xi (E41 0) 22 = y44 from vi_e fy44)]); (try rw [ey2]); first | done | exact fun q9 => f16 (f49 (q9)) | have h8 := ln_0; all_goals omega, cpM_0 (by omega) f17 (cmM f31 (is_cmp.mpr (by omega)) k39 f50 KM.rf)⟩⟩, by show va_P (dC, dI) vwCl (WX 72 ad E41) t.heap; rw [ht]; exact hP⟩, hS.F ht⟩) hS.2.2 dX13_compares_111
              · --89 not
                have t64 : r7.toInt < r40.toInt := ti_nle c62
                have i65 : -2147483648 ≤ r7.toInt ∧ r7.toInt ≤ 2147483646 := iv_lt_l t64 (iv_all _) (iv_all _) (by decide)
                have i66 : -2147483647 ≤ r40.toInt ∧ r40.toInt ≤ 2147483647 := iv_lt_r t64 (iv_all _) (iv_all _) (by decide)
                refine lv_iconst (v := 1) hx hb dX13_compares_92 (by decide) ?_
                refine lv_goto (tgt := 111) hx hb dX13_compares_93 (by decide) ?_
                rw [hQ]
                exact W.zret (v := 1) hx hb hr rfl (fun t ht hW => ⟨⟨1, E41, rfl, ⟨hI, hKp, ⟨(iv_w ln_1 (by decide)), by (try rw [(show xi (E41 0) 21 = y43 from vi_e fy43)]); (try rw [ey1]); first | done | exact (Int.le_trans (Int.le_trans (Int.le_trans f13 f28) (Int.le_trans (Int.le_add_of_nonneg_right (by decide)) (Int.le_of_eq ty35.symm))) f46) | have h8 := ln_1; all_goals omega, by (try rw [(show xi (E41 0) 23 = y45 from vi_e fy45)]); (try rw [ey3]); first | done | exact (Int.le_trans f14 f47) | have h8 := ln_1; all_goals omega, by (try rw [(show xi (E41 0) 22 = y44 from vi_e fy44)]); (try rw [(show xi (E41 0) 23 = y45 from vi_e fy45)]); (try rw [ey2]); (try rw [ey3]); first | done | exact fun q9 => ((f48 (q9)).trans (f15 (f49 (q9)))) | have h8 := ln_1; all_goals omega, by (try rw [(show xi (E41 0) 22 = y44 from vi_e fy44)]); (try rw [ey2]); first | done | exact fun q9 => f16 (f49 (q9)) | have h8 := ln_1; all_goals omega, cpM_0 (by omega) f17 (cmM f31 (is_cmp.mpr (by omega)) k39 f50 KM.rf)⟩⟩, by show va_P (dC, dI) vwCl (WX 72 ad E41) t.heap; rw [ht]; exact hP⟩, hS.F ht⟩) hS.2.2 dX13_compares_111
          · --62 not
            have t67 : r23.toInt = 61 := ti_eq c51
            have i68 : 61 ≤ r23.toInt ∧ r23.toInt ≤ 61 := iv_eqi t67 f27 (il_ 61) (by decide)
            refine lv_iload_n hx hb dX13_compares_65 rfl (lv_at hl 2 rfl) ?_
            refine lv_iload hx hb dX13_compares_66 (lv_at hl 0 rfl) ?_
            refine lv_icmp_ne (tgt := 75) hx hb dX13_compares_68 (by decide) (fun c69 => ?_) (fun c69 => ?_)
            · --68 taken
              have t70 : ¬ r7.toInt = r40.toInt := ti_ne c69
              refine lv_iconst (v := 0) hx hb dX13_compares_75 (by decide) ?_
              refine lv_goto (tgt := 111) hx hb dX13_compares_76 (by decide) ?_
              rw [hQ]
              exact W.zret (v := 0) hx hb hr rfl (fun t ht hW => ⟨⟨0, E41, rfl, ⟨hI, hKp, ⟨(iv_w ln_0 (by decide)), by (try rw [(show xi (E41 0) 21 = y43 from vi_e fy43)]); (try rw [ey1]); first | done | exact (Int.le_trans (Int.le_trans (Int.le_trans f13 f28) (Int.le_trans (Int.le_add_of_nonneg_right (by decide)) (Int.le_of_eq ty35.symm))) f46) | have h8 := ln_0; all_goals omega, by (try rw [(show xi (E41 0) 23 = y45 from vi_e fy45)]); (try rw [ey3]); first | done | exact (Int.le_trans f14 f47) | have h8 := ln_0; all_goals omega, by (try rw [(show xi (E41 0) 22 = y44 from vi_e fy44)]); (try rw [(show xi (E41 0) 23 = y45 from vi_e fy45)]); (try rw [ey2]); (try rw [ey3]); first | done | exact fun q9 => ((f48 (q9)).trans (f15 (f49 (q9)))) | have h8 := ln_0; all_goals omega, by (try rw [(show xi (E41 0) 22 = y44 from vi_e fy44)]); (try rw [ey2]); first | done | exact fun q9 => f16 (f49 (q9)) | have h8 := ln_0; all_goals omega, cpM_0 (by omega) f17 (cmM f31 (is_cmp.mpr (by omega)) k39 f50 KM.rf)⟩⟩, by show va_P (dC, dI) vwCl (WX 72 ad E41) t.heap; rw [ht]; exact hP⟩, hS.F ht⟩) hS.2.2 dX13_compares_111
            · --68 not
              have t71 : r7.toInt = r40.toInt := ti_eq c69
              refine lv_iconst (v := 1) hx hb dX13_compares_71 (by decide) ?_
              refine lv_goto (tgt := 111) hx hb dX13_compares_72 (by decide) ?_
              rw [hQ]
              exact W.zret (v := 1) hx hb hr rfl (fun t ht hW => ⟨⟨1, E41, rfl, ⟨hI, hKp, ⟨(iv_w ln_1 (by decide)), by (try rw [(show xi (E41 0) 21 = y43 from vi_e fy43)]); (try rw [ey1]); first | done | exact (Int.le_trans (Int.le_trans (Int.le_trans f13 f28) (Int.le_trans (Int.le_add_of_nonneg_right (by decide)) (Int.le_of_eq ty35.symm))) f46) | have h8 := ln_1; all_goals omega, by (try rw [(show xi (E41 0) 23 = y45 from vi_e fy45)]); (try rw [ey3]); first | done | exact (Int.le_trans f14 f47) | have h8 := ln_1; all_goals omega, by (try rw [(show xi (E41 0) 22 = y44 from vi_e fy44)]); (try rw [(show xi (E41 0) 23 = y45 from vi_e fy45)]); (try rw [ey2]); (try rw [ey3]); first | done | exact fun q9 => ((f48 (q9)).trans (f15 (f49 (q9)))) | have h8 := ln_1; all_goals omega, by (try rw [(show xi (E41 0) 22 = y44 from vi_e fy44)]); (try rw [ey2]); first | done | exact fun q9 => f16 (f49 (q9)) | have h8 := ln_1; all_goals omega, cpM_0 (by omega) f17 (cmM f31 (is_cmp.mpr (by omega)) k39 f50 KM.rf)⟩⟩, by show va_P (dC, dI) vwCl (WX 72 ad E41) t.heap; rw [ht]; exact hP⟩, hS.F ht⟩) hS.2.2 dX13_compares_111
        · --34 not
          exact absurd c34 (by decide)
      · -- isSignX, case 1
        obtain ⟨rfl, f72⟩ := hw
        refine lv_if_ne (tgt := 42) hx hb dX13_compares_34 (by decide) (fun c73 => ?_) (fun c73 => ?_)
        · --34 taken
          exact absurd c73 (by decide)
        · --34 not
          refine lv_aload_n hx hb dX13_compares_37 rfl (lv_at hl 2 rfl) ?_
          refine th_i (va_runV (As := []) (rest := []) ⟨hx, hb, hml, hown, hts⟩ (q_stopX l dC dI cT ad E24 H.size k nl hI (by exact hh0) (by exact hh1) (by exact hh2) (by exact (hKp 0 18 rfl).trans hh3) (by (try rw [hKp.ei 0 19 rfl]); exact hh4)) (cwV 0 hts (gi_V (in_26 _ (zs4 (zs4 (zs4 (zs0))))) (in_26 _ (zs4 (zs4 (zs4 (zs1 (zs0)))))) (in_26 _ (zs4 (zs4 (zs4 (zs1 (zs1 (zs0))))))) (in_24 _ (zs4 (zs4 (zs4 (zs1 (zs1 (zs1 (zs0)))))))) (in_26 _ (zs4 (zs4 (zs4 (zs1 (zs1 (zs1 (zs0))))))))) rfl rfl rfl ⟨rfl, hz_yX13_stop_0⟩ ⟨(show 0 + 1 ≤ 7 * n + 8 from nl_1 (Nat.le_of_ble_eq_true rfl)), (show 8 + (1 + 11) + 40 * (0) ≤ 40 * (7 * n + 8) from nl_2 (Nat.le_of_ble_eq_true rfl))⟩) ⟨HW_bl, va_recv hK hP (ci := 14) (q0 := 0) rfl (hI.ob 0 (Nat.le_of_ble_eq_true rfl) rfl), (HW_wi hP hK (WX_D hD) hS hA hEV)⟩ rfl rfl hl.1 rfl (lv_room (Nat.le_of_ble_eq_true rfl)) dX13_compares_38 ⟨Nat.le_of_ble_eq_true rfl, Nat.le_of_ble_eq_true rfl⟩) (WX_D hD) hS hA (fun r74 E75 H locs hw hP hS => ?_)
          obtain ⟨hI, kq76, hw⟩ := hw
          have hKb := hKp
          have hKp := hKp.tr kq76 (wl_sub rfl rfl)
          obtain ⟨y77, ey77⟩ : ∃ y, xi (E75 0) 22 = y := ⟨_, rfl⟩
          have fy77 : xv (E75 0) 22 = .int y77 := (hI.fi 0 (Nat.le_of_ble_eq_true rfl) rfl (Nat.le_of_ble_eq_true rfl) rfl).trans (congrArg Value.int ey77)
          have iy77 : -1 ≤ y77.toInt ∧ y77.toInt ≤ 201 := by rw [← ey77]; exact hI.iv 0 (Nat.le_of_ble_eq_true rfl) rfl (Nat.le_of_ble_eq_true rfl) rfl
          obtain ⟨rfl, f78, f79⟩ := hw
          try rw [(show xi (E24 0) 22 = y11 from vi_e ((kq25 0 22 rfl).trans fy11))] at f78
          try rw [(show xi (E75 0) 22 = y77 from vi_e fy77)] at f78
          rw [hQ]
          exact W.zret (v := 0) hx hb hr rfl (fun t ht hW => ⟨⟨0, E75, rfl, ⟨hI, hKp, ⟨(iv_w ln_0 (by decide)), by (try rw [(show xi (E75 0) 21 = y26 from vi_e ((kq76 0 21 rfl).trans fy26))]); (try rw [ey1]); first | done | exact (Int.le_trans f13 f28) | have h8 := ln_0; all_goals omega, by (try rw [(show xi (E75 0) 23 = y12 from vi_e ((kq76 0 23 rfl).trans ((kq25 0 23 rfl).trans fy12)))]); (try rw [ey3]); first | done | exact f14 | have h8 := ln_0; all_goals omega, by (try rw [(show xi (E75 0) 22 = y77 from vi_e fy77)]); (try rw [(show xi (E75 0) 23 = y12 from vi_e ((kq76 0 23 rfl).trans ((kq25 0 23 rfl).trans fy12)))]); (try rw [ey2]); (try rw [ey3]); first | done | exact fun q9 => absurd (q9) f78 | have h8 := ln_0; all_goals omega, by (try rw [(show xi (E75 0) 22 = y77 from vi_e fy77)]); (try rw [ey2]); first | done | exact fun q9 => absurd (q9) f78 | have h8 := ln_0; all_goals omega, cpM_0 (by omega) f17 (cmM_no f31 (fun q9 => by have q8 := is_cmp.mp q9; omega) f79)⟩⟩, by show va_P (dC, dI) vwCl (WX 72 ad E75) t.heap; rw [ht]; exact hP⟩, hS.F ht⟩) hS.2.2 dX13_compares_41
    · --18 not
      have t80 : ¬ y11.toInt = -1 := ti_ne c20
      have i81 : 0 ≤ y11.toInt ∧ y11.toInt ≤ 201 := iv_ne_l t80 iy11 (il_ (-1))
      refine lv_iconst (v := 0) hx hb dX13_compares_21 (by decide) ?_
      rw [hQ]
      exact W.zret (v := 0) hx hb hr rfl (fun t ht hW => ⟨⟨0, E8, rfl, ⟨hI, hKp, ⟨(iv_w ln_0 (by decide)), by (try rw [(show xi (E8 0) 21 = y10 from vi_e fy10)]); (try rw [ey1]); first | done | exact f13 | have h8 := ln_0; all_goals omega, by (try rw [(show xi (E8 0) 23 = y12 from vi_e fy12)]); (try rw [ey3]); first | done | exact f14 | have h8 := ln_0; all_goals omega, by (try rw [(show xi (E8 0) 22 = y11 from vi_e fy11)]); (try rw [(show xi (E8 0) 23 = y12 from vi_e fy12)]); (try rw [ey2]); (try rw [ey3]); first | done | exact fun q9 => absurd (q9) t80 | have h8 := ln_0; all_goals omega, by (try rw [(show xi (E8 0) 22 = y11 from vi_e fy11)]); (try rw [ey2]); first | done | exact fun q9 => absurd (q9) t80 | have h8 := ln_0; all_goals omega, cpM_0 (by omega) f17 (RdM.dead (by show ¬ (xi (E8 0) 22).toInt = -1; rw [show xi (E8 0) 22 = y11 from vi_e fy11]; omega))⟩⟩, by show va_P (dC, dI) vwCl (WX 72 ad E8) t.heap; rw [ht]; exact hP⟩, hS.F ht⟩) hS.2.2 dX13_compares_22
  · --1 not
    have t82 : ¬ a0.toInt = 0 := ti_ne c4
    have i83 : 1 ≤ a0.toInt ∧ a0.toInt ≤ 1 := iv_ne_l t82 hh7 (il_ 0)
    refine lv_iload_n hx hb dX13_compares_4 rfl (lv_at hl 2 rfl) ?_
    refine lv_goto (tgt := 12) hx hb dX13_compares_5 (by decide) ?_
    refine lv_istore_n (lv' := [(3, .int a1), (0, .ref (ad 0)), (1, .int a0), (2, .int a1)]) hx hb dX13_compares_12 rfl hl (by decide) rfl (fun ls hl => ?_)
    refine lv_aload_n hx hb dX13_compares_13 rfl (lv_at hl 1 rfl) ?_
    refine th_get (ci := 14) (C := RX13) (T := TX13) (N := 97) (v := .int y2) hx hb hts hinX13 hown hK hP hI 0 (Nat.le_of_ble_eq_true rfl) rfl rfl 22 (Nat.le_of_ble_eq_true rfl) (hts _ (vA_in _ _ (in_25 _ (zs16 (zs16 (zs4 (zs1 (zs1 (zs1 (zs0)))))))))) (fun _ h9 => h9) fy2 dX13_compares_14 ?_
    refine lv_iconst (v := -1) hx hb dX13_compares_17 (by decide) ?_
    refine lv_icmp_eq (tgt := 23) hx hb dX13_compares_18 (by decide) (fun c84 => ?_) (fun c84 => ?_)
    · --18 taken
      have t85 : y2.toInt = -1 := ti_eq c84
      have i86 : -1 ≤ y2.toInt ∧ y2.toInt ≤ -1 := iv_eqi t85 iy2 (il_ (-1)) (by decide)
      refine lv_aload_n hx hb dX13_compares_23 rfl (lv_at hl 1 rfl) ?_
      refine th_i (va_runV (As := []) (rest := []) ⟨hx, hb, hml, hown, hts⟩ (q_lookX l dC dI cT ad E s.heap.size k nl hI (by exact hh0) (by exact hh1) (by exact hh2) (by exact hh3) (by exact hh4)) (cwV 0 hts (gi_V (in_26 _ (zs1 (zs1 (zs0)))) (in_26 _ (zs1 (zs1 (zs1 (zs0))))) (in_26 _ (zs4 (zs0))) (in_24 _ (zs4 (zs4 (zs4 (zs1 (zs1 (zs1 (zs0)))))))) (in_26 _ (zs4 (zs1 (zs0))))) rfl rfl rfl ⟨rfl, hz_yX13_look_0⟩ ⟨(show 0 + 1 ≤ 7 * n + 8 from nl_1 (Nat.le_of_ble_eq_true rfl)), (show 8 + (1 + 11) + 40 * (0) ≤ 40 * (7 * n + 8) from nl_2 (Nat.le_of_ble_eq_true rfl))⟩) ⟨HW_bl, va_recv hK hP (ci := 14) (q0 := 0) rfl (hI.ob 0 (Nat.le_of_ble_eq_true rfl) rfl), (HW_wi hP hK (WX_D hD) hS hA hEV)⟩ rfl rfl hl.1 rfl (lv_room (Nat.le_of_ble_eq_true rfl)) dX13_compares_24 ⟨Nat.le_of_ble_eq_true rfl, Nat.le_of_ble_eq_true rfl⟩) (WX_D hD) hS hA (fun r87 E88 H locs hw hP hS => ?_)
      obtain ⟨hI, kq89, hw⟩ := hw
      have hKb := hKp
      have hKp := hKp.tr kq89 (wl_sub rfl rfl)
      obtain ⟨y90, ey90⟩ : ∃ y, xi (E88 0) 21 = y := ⟨_, rfl⟩
      have fy90 : xv (E88 0) 21 = .int y90 := (hI.fi 0 (Nat.le_of_ble_eq_true rfl) rfl (Nat.le_of_ble_eq_true rfl) rfl).trans (congrArg Value.int ey90)
      have iy90 : 0 ≤ y90.toInt ∧ y90.toInt ≤ 201 := by rw [← ey90]; exact hI.iv 0 (Nat.le_of_ble_eq_true rfl) rfl (Nat.le_of_ble_eq_true rfl) rfl
      obtain ⟨f91, f92, f93, f94, f95⟩ := hw
      have i96 : 0 ≤ (xi (E 0) 19).toInt ∧ (xi (E 0) 19).toInt ≤ 3000 := (show 0 ≤ (xi (E 0) 19).toInt ∧ (xi (E 0) 19).toInt ≤ 3000 from hI0.iv 0 (Nat.le_of_ble_eq_true rfl) rfl (Nat.le_of_ble_eq_true rfl) rfl)
      have i97 : 0 ≤ (xi (E 0) 20).toInt ∧ (xi (E 0) 20).toInt ≤ 200 := (show 0 ≤ (xi (E 0) 20).toInt ∧ (xi (E 0) 20).toInt ≤ 200 from hI0.iv 0 (Nat.le_of_ble_eq_true rfl) rfl (Nat.le_of_ble_eq_true rfl) rfl)
      try rw [(show xi (E 0) 21 = y1 from vi_e fy1)] at f92
      try rw [(show xi (E88 0) 21 = y90 from vi_e fy90)] at f92
      try rw [(show xi (E 0) 21 = y1 from vi_e fy1)] at f93
      try rw [(show xi (E88 0) 21 = y90 from vi_e fy90)] at f93
      try rw [(show xi (E 0) 21 = y1 from vi_e fy1)] at f94
      try rw [(show xi (E88 0) 21 = y90 from vi_e fy90)] at f94
      refine lv_istore (lv' := [(4, .int r87), (3, .int a1), (0, .ref (ad 0)), (1, .int a0), (2, .int a1)]) hx hb dX13_compares_27 hl (by decide) rfl (fun ls hl => ?_)
      refine lv_iload hx hb dX13_compares_29 (lv_at hl 0 rfl) ?_
      refine th_pi (va_runS (As := [.int r87]) (rest := []) ⟨hx, hb, hml, hown, hts⟩ (q_isSignX l r87) (va_cwS 1 hts (gi_S (in_29 _ (zs16 (zs4 (zs4 (zs4 (zs1 (zs1 (zs0)))))))) (in_29 _ (zs16 (zs4 (zs4 (zs4 (zs1 (zs1 (zs1 (zs0))))))))) (in_24 _ (zs4 (zs4 (zs4 (zs1 (zs1 (zs1 (zs0)))))))) (in_29 _ (zs16 (zs16 (zs0))))) rfl rfl rfl hz_yX13_isSign_1 ⟨(show 0 + 1 ≤ 7 * n + 8 from nl_1 (Nat.le_of_ble_eq_true rfl)), (show 8 + (1 + 11) + 40 * (0) ≤ 40 * (7 * n + 8) from nl_2 (Nat.le_of_ble_eq_true rfl))⟩) ⟨fun _ _ _ _ q => q, fun _ _ _ => ⟨rfl, trivial⟩⟩ rfl rfl hl.1 rfl (lv_room (Nat.le_of_ble_eq_true rfl)) dX13_compares_31 ⟨Nat.le_of_ble_eq_true rfl, Nat.le_of_ble_eq_true rfl⟩) hS (fun r98 H1 locs1 hw hk1 hS => ?_)
      have hP := ub_keep hP hk1
      generalize H1 = H at hP hS ⊢
      generalize locs1 = locs at hS ⊢
      rcases hw with hw | hw
      · -- isSignX, case 0
        obtain ⟨rfl, f99⟩ := hw
        refine lv_if_ne (tgt := 42) hx hb dX13_compares_34 (by decide) (fun c100 => ?_) (fun c100 => ?_)
        · --34 taken
          refine lv_aload_n hx hb dX13_compares_42 rfl (lv_at hl 2 rfl) ?_
          refine lv_dup hx hb dX13_compares_43 rfl ?_
          refine th_get (ci := 14) (C := RX13) (T := TX13) (N := 97) (v := .int y90) hx hb hts hinX13 hown hK hP hI 0 (Nat.le_of_ble_eq_true rfl) rfl rfl 21 (Nat.le_of_ble_eq_true rfl) (hts _ (vA_in _ _ (in_25 _ (zs16 (zs16 (zs4 (zs0))))))) (fun _ h9 => h9) fy90 dX13_compares_44 ?_
          refine lv_iconst (v := 1) hx hb dX13_compares_47 (by decide) ?_
          refine lv_iadd hx hb dX13_compares_48 ?_
          refine lv_topi (fun y101 ey101 => ?_)
          obtain ⟨ty101, iy101⟩ := ti_add (e := 1) (f := 202) iy90 ln_1 ey101 (by decide)
          have ty101 : y101.toInt = y90.toInt + 1 := ty101
          have iy101 : 1 ≤ y101.toInt ∧ y101.toInt ≤ 202 := iy101
          have i102 : 1 ≤ y101.toInt ∧ y101.toInt ≤ 201 := by omega
          refine th_put (ci := 14) (C := RX13) (T := TX13) (N := 97) (v := .int y101) (ty := .int) hx hb hts hinX13 tyX13 tyX13_ok nmX13 hown hK hP (WX_D hD) hS hI 0 (Nat.le_of_ble_eq_true rfl) rfl rfl 21 (Nat.le_of_ble_eq_true rfl) (hts _ (vA_in _ _ (in_25 _ (zs16 (zs16 (zs4 (zs0))))))) (fun _ h9 => h9) rfl (by decide +kernel) rfl rfl (okI rfl (iv_w i102 (by decide))) dX13_compares_49 (fun H locs E103 pw104 hI hP hS => ?_)
          have hKp := hKp.pw pw104 rfl
          have k105 : AtM k E88 E103 := AtM.pw pw104.2 hk0 (vi_e fy90) (vi_e pw104.1) ty101 (by omega)
          refine lv_aload_n hx hb dX13_compares_52 rfl (lv_at hl 2 rfl) ?_
          refine th_i (va_runV (As := []) (rest := []) ⟨hx, hb, hml, hown, hts⟩ (gS dC dI cT ad E103 H.size k nl hI (by exact hh0) (by exact hh1) (by exact hh2) (by exact (hKp 0 18 rfl).trans hh3) (by (try rw [hKp.ei 0 19 rfl]); exact hh4) (by (try rw [(show xi (E103 0) 23 = y3 from vi_e ((pw104.2 0 23 (fun q9 => absurd q9.2 (Nat.ne_of_beq_eq_false rfl))).trans ((kq89 0 23 rfl).trans fy3)))]); omega) (by (try rw [(show xi (E103 0) 22 = y2 from vi_e ((pw104.2 0 22 (fun q9 => absurd q9.2 (Nat.ne_of_beq_eq_false rfl))).trans ((kq89 0 22 rfl).trans fy2)))]); omega)) (cwV 0 hts (gi_V (in_26 _ (zs16 (zs0))) (in_26 _ (zs16 (zs1 (zs0)))) (in_26 _ (zs16 (zs1 (zs1 (zs0))))) (in_24 _ (zs4 (zs4 (zs4 (zs1 (zs1 (zs1 (zs0)))))))) (in_26 _ (zs16 (zs4 (zs4 (zs1 (zs1 (zs1 (zs0))))))))) rfl rfl rfl (by decide +kernel) ⟨(show 7 * n + 7 + 1 ≤ 7 * n + 8 from nl_4 (Nat.le_of_ble_eq_true rfl) (Nat.le_of_ble_eq_true rfl)), (show 8 + (5 + 11) + 40 * (7 * n + 7) ≤ 40 * (7 * n + 8) from nl_3 (Nat.le_of_ble_eq_true rfl) (Nat.le_of_ble_eq_true rfl))⟩) ⟨HW_bl, va_recv hK hP (ci := 14) (q0 := 0) rfl (hI.ob 0 (Nat.le_of_ble_eq_true rfl) rfl), (HW_wi hP hK (WX_D hD) hS hA hEV)⟩ rfl rfl hl.1 rfl (lv_room (Nat.le_of_ble_eq_true rfl)) dX13_compares_53 ⟨Nat.le_of_ble_eq_true rfl, Nat.le_of_ble_eq_true rfl⟩) (WX_D hD) hS hA (fun r106 E107 H locs hw hP hS => ?_)
          obtain ⟨hI, kq108, hw⟩ := hw
          have hKb := hKp
          have hKp := hKp.tr kq108 (wl_sub rfl rfl)
          obtain ⟨y109, ey109⟩ : ∃ y, xi (E107 0) 21 = y := ⟨_, rfl⟩
          have fy109 : xv (E107 0) 21 = .int y109 := (hI.fi 0 (Nat.le_of_ble_eq_true rfl) rfl (Nat.le_of_ble_eq_true rfl) rfl).trans (congrArg Value.int ey109)
          have iy109 : 0 ≤ y109.toInt ∧ y109.toInt ≤ 201 := by rw [← ey109]; exact hI.iv 0 (Nat.le_of_ble_eq_true rfl) rfl (Nat.le_of_ble_eq_true rfl) rfl
          obtain ⟨y110, ey110⟩ : ∃ y, xi (E107 0) 22 = y := ⟨_, rfl⟩
          have fy110 : xv (E107 0) 22 = .int y110 := (hI.fi 0 (Nat.le_of_ble_eq_true rfl) rfl (Nat.le_of_ble_eq_true rfl) rfl).trans (congrArg Value.int ey110)
          have iy110 : -1 ≤ y110.toInt ∧ y110.toInt ≤ 201 := by rw [← ey110]; exact hI.iv 0 (Nat.le_of_ble_eq_true rfl) rfl (Nat.le_of_ble_eq_true rfl) rfl
          obtain ⟨y111, ey111⟩ : ∃ y, xi (E107 0) 23 = y := ⟨_, rfl⟩
          have fy111 : xv (E107 0) 23 = .int y111 := (hI.fi 0 (Nat.le_of_ble_eq_true rfl) rfl (Nat.le_of_ble_eq_true rfl) rfl).trans (congrArg Value.int ey111)
          have iy111 : 0 ≤ y111.toInt ∧ y111.toInt ≤ 8 := by rw [← ey111]; exact hI.iv 0 (Nat.le_of_ble_eq_true rfl) rfl (Nat.le_of_ble_eq_true rfl) rfl
          obtain ⟨f112, f113, f114, f115, f116⟩ := hw
          try rw [(show xi (E103 0) 21 = y101 from vi_e pw104.1)] at f112
          try rw [(show xi (E107 0) 21 = y109 from vi_e fy109)] at f112
          try rw [(show xi (E103 0) 23 = y3 from vi_e ((pw104.2 0 23 (fun q9 => absurd q9.2 (Nat.ne_of_beq_eq_false rfl))).trans ((kq89 0 23 rfl).trans fy3)))] at f113
          try rw [(show xi (E107 0) 23 = y111 from vi_e fy111)] at f113
          try rw [(show xi (E103 0) 22 = y2 from vi_e ((pw104.2 0 22 (fun q9 => absurd q9.2 (Nat.ne_of_beq_eq_false rfl))).trans ((kq89 0 22 rfl).trans fy2)))] at f114
          try rw [(show xi (E103 0) 23 = y3 from vi_e ((pw104.2 0 23 (fun q9 => absurd q9.2 (Nat.ne_of_beq_eq_false rfl))).trans ((kq89 0 23 rfl).trans fy3)))] at f114
          try rw [(show xi (E107 0) 22 = y110 from vi_e fy110)] at f114
          try rw [(show xi (E107 0) 23 = y111 from vi_e fy111)] at f114
          try rw [(show xi (E103 0) 22 = y2 from vi_e ((pw104.2 0 22 (fun q9 => absurd q9.2 (Nat.ne_of_beq_eq_false rfl))).trans ((kq89 0 22 rfl).trans fy2)))] at f115
          try rw [(show xi (E107 0) 22 = y110 from vi_e fy110)] at f115
          refine lv_istore (lv' := [(5, .int r106), (4, .int r87), (3, .int a1), (0, .ref (ad 0)), (1, .int a0), (2, .int a1)]) hx hb dX13_compares_56 hl (by decide) rfl (fun ls hl => ?_)
          refine lv_iload hx hb dX13_compares_58 (lv_at hl 1 rfl) ?_
          refine lv_bipush (v := 61) hx hb dX13_compares_60 (by decide) ?_
          refine lv_icmp_ne (tgt := 79) hx hb dX13_compares_62 (by decide) (fun c117 => ?_) (fun c117 => ?_)
          · --62 taken
            have t118 : ¬ r87.toInt = 61 := ti_ne c117
            refine lv_iload hx hb dX13_compares_79 (lv_at hl 1 rfl) ?_
            refine lv_bipush (v := 60) hx hb dX13_compares_81 (by decide) ?_
            refine lv_icmp_ne (tgt := 100) hx hb dX13_compares_83 (by decide) (fun c119 => ?_) (fun c119 => ?_)
            · --83 taken
              have t120 : ¬ r87.toInt = 60 := ti_ne c119
              refine lv_iload_n hx hb dX13_compares_100 rfl (lv_at hl 2 rfl) ?_
              refine lv_iload hx hb dX13_compares_101 (lv_at hl 0 rfl) ?_
              refine lv_icmp_le (tgt := 110) hx hb dX13_compares_103 (by decide) (fun c121 => ?_) (fun c121 => ?_)
              · --103 taken
                have t122 : a1.toInt ≤ r106.toInt := ti_le c121
                refine lv_iconst (v := 0) hx hb dX13_compares_110 (by decide) ?_
                rw [hQ]
                exact W.zret (v := 0) hx hb hr rfl (fun t ht hW => ⟨⟨0, E107, rfl, ⟨hI, hKp, ⟨(iv_w ln_0 (by decide)), by (try rw [(show xi (E107 0) 21 = y109 from vi_e fy109)]); (try rw [ey1]); first | done | exact (Int.le_trans (Int.le_trans f92 (Int.le_trans (Int.le_add_of_nonneg_right (by decide)) (Int.le_of_eq ty101.symm))) f112) | have h8 := ln_0; all_goals omega, by (try rw [(show xi (E107 0) 23 = y111 from vi_e fy111)]); (try rw [ey3]); first | done | exact f113 | have h8 := ln_0; all_goals omega, by (try rw [(show xi (E107 0) 22 = y110 from vi_e fy110)]); (try rw [(show xi (E107 0) 23 = y111 from vi_e fy111)]); (try rw [ey2]); (try rw [ey3]); first | done | exact fun q9 => (f114 (q9)) | have h8 := ln_0; all_goals omega, by (try rw [(show xi (E107 0) 22 = y110 from vi_e fy110)]); (try rw [ey2]); first | done | exact fun q9 => f115 (q9) | have h8 := ln_0; all_goals omega, cpM_1 (by omega) (cmM f95 (is_cmp.mpr (by omega)) k105 f116 KM.rf)⟩⟩, by show va_P (dC, dI) vwCl (WX 72 ad E107) t.heap; rw [ht]; exact hP⟩, hS.F ht⟩) hS.2.2 dX13_compares_111
              · --103 not
                have t123 : r106.toInt < a1.toInt := ti_nle c121
                have i124 : -2147483648 ≤ r106.toInt ∧ r106.toInt ≤ 2147483646 := iv_lt_l t123 (iv_all _) (iv_all _) (by decide)
                have i125 : -2147483647 ≤ a1.toInt ∧ a1.toInt ≤ 2147483647 := iv_lt_r t123 (iv_all _) (iv_all _) (by decide)
                refine lv_iconst (v := 1) hx hb dX13_compares_106 (by decide) ?_
                refine lv_goto (tgt := 111) hx hb dX13_compares_107 (by decide) ?_
                rw [hQ]
                exact W.zret (v := 1) hx hb hr rfl (fun t ht hW => ⟨⟨1, E107, rfl, ⟨hI, hKp, ⟨(iv_w ln_1 (by decide)), by (try rw [(show xi (E107 0) 21 = y109 from vi_e fy109)]); (try rw [ey1]); first | done | exact (Int.le_trans (Int.le_trans f92 (Int.le_trans (Int.le_add_of_nonneg_right (by decide)) (Int.le_of_eq ty101.symm))) f112) | have h8 := ln_1; all_goals omega, by (try rw [(show xi (E107 0) 23 = y111 from vi_e fy111)]); (try rw [ey3]); first | done | exact f113 | have h8 := ln_1; all_goals omega, by (try rw [(show xi (E107 0) 22 = y110 from vi_e fy110)]); (try rw [(show xi (E107 0) 23 = y111 from vi_e fy111)]); (try rw [ey2]); (try rw [ey3]); first | done | exact fun q9 => (f114 (q9)) | have h8 := ln_1; all_goals omega, by (try rw [(show xi (E107 0) 22 = y110 from vi_e fy110)]); (try rw [ey2]); first | done | exact fun q9 => f115 (q9) | have h8 := ln_1; all_goals omega, cpM_1 (by omega) (cmM f95 (is_cmp.mpr (by omega)) k105 f116 KM.rf)⟩⟩, by show va_P (dC, dI) vwCl (WX 72 ad E107) t.heap; rw [ht]; exact hP⟩, hS.F ht⟩) hS.2.2 dX13_compares_111
            · --83 not
              have t126 : r87.toInt = 60 := ti_eq c119
              have i127 : 60 ≤ r87.toInt ∧ r87.toInt ≤ 60 := iv_eqi t126 f91 (il_ 60) (by decide)
              refine lv_iload_n hx hb dX13_compares_86 rfl (lv_at hl 2 rfl) ?_
              refine lv_iload hx hb dX13_compares_87 (lv_at hl 0 rfl) ?_
              refine lv_icmp_ge (tgt := 96) hx hb dX13_compares_89 (by decide) (fun c128 => ?_) (fun c128 => ?_)
              · --89 taken
                have t129 : r106.toInt ≤ a1.toInt := ti_le c128
                refine lv_iconst (v := 0) hx hb dX13_compares_96 (by decide) ?_
                refine lv_goto (tgt := 111) hx hb dX13_compares_97 (by decide) ?_
                rw [hQ]
                exact W.zret (v := 0) hx hb hr rfl (fun t ht hW => ⟨⟨0, E107, rfl, ⟨hI, hKp, ⟨(iv_w ln_0 (by decide)), by (try rw [(show xi (E107 0) 21 = y109 from vi_e fy109)]); (try rw [ey1]); first | done | exact (Int.le_trans (Int.le_trans f92 (Int.le_trans (Int.le_add_of_nonneg_right (by decide)) (Int.le_of_eq ty101.symm))) f112) | have h8 := ln_0; all_goals omega, by (try rw [(show xi (E107 0) 23 = y111 from vi_e fy111)]); (try rw [ey3]); first | done | exact f113 | have h8 := ln_0; all_goals omega, by (try rw [(show xi (E107 0) 22 = y110 from vi_e fy110)]); (try rw [(show xi (E107 0) 23 = y111 from vi_e fy111)]); (try rw [ey2]); (try rw [ey3]); first | done | exact fun q9 => (f114 (q9)) | have h8 := ln_0; all_goals omega, by (try rw [(show xi (E107 0) 22 = y110 from vi_e fy110)]); (try rw [ey2]); first | done | exact fun q9 => f115 (q9) | have h8 := ln_0; all_goals omega, cpM_1 (by omega) (cmM f95 (is_cmp.mpr (by omega)) k105 f116 KM.rf)⟩⟩, by show va_P (dC, dI) vwCl (WX 72 ad E107) t.heap; rw [ht]; exact hP⟩, hS.F ht⟩) hS.2.2 dX13_compares_111
              · --89 not
                have t130 : a1.toInt < r106.toInt := ti_nle c128
                have i131 : -2147483648 ≤ a1.toInt ∧ a1.toInt ≤ 2147483646 := iv_lt_l t130 (iv_all _) (iv_all _) (by decide)
                have i132 : -2147483647 ≤ r106.toInt ∧ r106.toInt ≤ 2147483647 := iv_lt_r t130 (iv_all _) (iv_all _) (by decide)
                refine lv_iconst (v := 1) hx hb dX13_compares_92 (by decide) ?_
                refine lv_goto (tgt := 111) hx hb dX13_compares_93 (by decide) ?_
                rw [hQ]
                exact W.zret (v := 1) hx hb hr rfl (fun t ht hW => ⟨⟨1, E107, rfl, ⟨hI, hKp, ⟨(iv_w ln_1 (by decide)), by (try rw [(show xi (E107 0) 21 = y109 from vi_e fy109)]); (try rw [ey1]); first | done | exact (Int.le_trans (Int.le_trans f92 (Int.le_trans (Int.le_add_of_nonneg_right (by decide)) (Int.le_of_eq ty101.symm))) f112) | have h8 := ln_1; all_goals omega, by (try rw [(show xi (E107 0) 23 = y111 from vi_e fy111)]); (try rw [ey3]); first | done | exact f113 | have h8 := ln_1; all_goals omega, by (try rw [(show xi (E107 0) 22 = y110 from vi_e fy110)]); (try rw [(show xi (E107 0) 23 = y111 from vi_e fy111)]); (try rw [ey2]); (try rw [ey3]); first | done | exact fun q9 => (f114 (q9)) | have h8 := ln_1; all_goals omega, by (try rw [(show xi (E107 0) 22 = y110 from vi_e fy110)]); (try rw [ey2]); first | done | exact fun q9 => f115 (q9) | have h8 := ln_1; all_goals omega, cpM_1 (by omega) (cmM f95 (is_cmp.mpr (by omega)) k105 f116 KM.rf)⟩⟩, by show va_P (dC, dI) vwCl (WX 72 ad E107) t.heap; rw [ht]; exact hP⟩, hS.F ht⟩) hS.2.2 dX13_compares_111
          · --62 not
            have t133 : r87.toInt = 61 := ti_eq c117
            have i134 : 61 ≤ r87.toInt ∧ r87.toInt ≤ 61 := iv_eqi t133 f91 (il_ 61) (by decide)
            refine lv_iload_n hx hb dX13_compares_65 rfl (lv_at hl 2 rfl) ?_
            refine lv_iload hx hb dX13_compares_66 (lv_at hl 0 rfl) ?_
            refine lv_icmp_ne (tgt := 75) hx hb dX13_compares_68 (by decide) (fun c135 => ?_) (fun c135 => ?_)
            · --68 taken
              have t136 : ¬ a1.toInt = r106.toInt := ti_ne c135
              refine lv_iconst (v := 0) hx hb dX13_compares_75 (by decide) ?_
              refine lv_goto (tgt := 111) hx hb dX13_compares_76 (by decide) ?_
              rw [hQ]
              exact W.zret (v := 0) hx hb hr rfl (fun t ht hW => ⟨⟨0, E107, rfl, ⟨hI, hKp, ⟨(iv_w ln_0 (by decide)), by (try rw [(show xi (E107 0) 21 = y109 from vi_e fy109)]); (try rw [ey1]); first | done | exact (Int.le_trans (Int.le_trans f92 (Int.le_trans (Int.le_add_of_nonneg_right (by decide)) (Int.le_of_eq ty101.symm))) f112) | have h8 := ln_0; all_goals omega, by (try rw [(show xi (E107 0) 23 = y111 from vi_e fy111)]); (try rw [ey3]); first | done | exact f113 | have h8 := ln_0; all_goals omega, by (try rw [(show xi (E107 0) 22 = y110 from vi_e fy110)]); (try rw [(show xi (E107 0) 23 = y111 from vi_e fy111)]); (try rw [ey2]); (try rw [ey3]); first | done | exact fun q9 => (f114 (q9)) | have h8 := ln_0; all_goals omega, by (try rw [(show xi (E107 0) 22 = y110 from vi_e fy110)]); (try rw [ey2]); first | done | exact fun q9 => f115 (q9) | have h8 := ln_0; all_goals omega, cpM_1 (by omega) (cmM f95 (is_cmp.mpr (by omega)) k105 f116 KM.rf)⟩⟩, by show va_P (dC, dI) vwCl (WX 72 ad E107) t.heap; rw [ht]; exact hP⟩, hS.F ht⟩) hS.2.2 dX13_compares_111
            · --68 not
              have t137 : a1.toInt = r106.toInt := ti_eq c135
              refine lv_iconst (v := 1) hx hb dX13_compares_71 (by decide) ?_
              refine lv_goto (tgt := 111) hx hb dX13_compares_72 (by decide) ?_
              rw [hQ]
              exact W.zret (v := 1) hx hb hr rfl (fun t ht hW => ⟨⟨1, E107, rfl, ⟨hI, hKp, ⟨(iv_w ln_1 (by decide)), by (try rw [(show xi (E107 0) 21 = y109 from vi_e fy109)]); (try rw [ey1]); first | done | exact (Int.le_trans (Int.le_trans f92 (Int.le_trans (Int.le_add_of_nonneg_right (by decide)) (Int.le_of_eq ty101.symm))) f112) | have h8 := ln_1; all_goals omega, by (try rw [(show xi (E107 0) 23 = y111 from vi_e fy111)]); (try rw [ey3]); first | done | exact f113 | have h8 := ln_1; all_goals omega, by (try rw [(show xi (E107 0) 22 = y110 from vi_e fy110)]); (try rw [(show xi (E107 0) 23 = y111 from vi_e fy111)]); (try rw [ey2]); (try rw [ey3]); first | done | exact fun q9 => (f114 (q9)) | have h8 := ln_1; all_goals omega, by (try rw [(show xi (E107 0) 22 = y110 from vi_e fy110)]); (try rw [ey2]); first | done | exact fun q9 => f115 (q9) | have h8 := ln_1; all_goals omega, cpM_1 (by omega) (cmM f95 (is_cmp.mpr (by omega)) k105 f116 KM.rf)⟩⟩, by show va_P (dC, dI) vwCl (WX 72 ad E107) t.heap; rw [ht]; exact hP⟩, hS.F ht⟩) hS.2.2 dX13_compares_111
        · --34 not
          exact absurd c100 (by decide)
      · -- isSignX, case 1
        obtain ⟨rfl, f138⟩ := hw
        refine lv_if_ne (tgt := 42) hx hb dX13_compares_34 (by decide) (fun c139 => ?_) (fun c139 => ?_)
        · --34 taken
          exact absurd c139 (by decide)
        · --34 not
          refine lv_aload_n hx hb dX13_compares_37 rfl (lv_at hl 2 rfl) ?_
          refine th_i (va_runV (As := []) (rest := []) ⟨hx, hb, hml, hown, hts⟩ (q_stopX l dC dI cT ad E88 H.size k nl hI (by exact hh0) (by exact hh1) (by exact hh2) (by exact (hKp 0 18 rfl).trans hh3) (by (try rw [hKp.ei 0 19 rfl]); exact hh4)) (cwV 0 hts (gi_V (in_26 _ (zs4 (zs4 (zs4 (zs0))))) (in_26 _ (zs4 (zs4 (zs4 (zs1 (zs0)))))) (in_26 _ (zs4 (zs4 (zs4 (zs1 (zs1 (zs0))))))) (in_24 _ (zs4 (zs4 (zs4 (zs1 (zs1 (zs1 (zs0)))))))) (in_26 _ (zs4 (zs4 (zs4 (zs1 (zs1 (zs1 (zs0))))))))) rfl rfl rfl ⟨rfl, hz_yX13_stop_0⟩ ⟨(show 0 + 1 ≤ 7 * n + 8 from nl_1 (Nat.le_of_ble_eq_true rfl)), (show 8 + (1 + 11) + 40 * (0) ≤ 40 * (7 * n + 8) from nl_2 (Nat.le_of_ble_eq_true rfl))⟩) ⟨HW_bl, va_recv hK hP (ci := 14) (q0 := 0) rfl (hI.ob 0 (Nat.le_of_ble_eq_true rfl) rfl), (HW_wi hP hK (WX_D hD) hS hA hEV)⟩ rfl rfl hl.1 rfl (lv_room (Nat.le_of_ble_eq_true rfl)) dX13_compares_38 ⟨Nat.le_of_ble_eq_true rfl, Nat.le_of_ble_eq_true rfl⟩) (WX_D hD) hS hA (fun r140 E141 H locs hw hP hS => ?_)
          obtain ⟨hI, kq142, hw⟩ := hw
          have hKb := hKp
          have hKp := hKp.tr kq142 (wl_sub rfl rfl)
          obtain ⟨y143, ey143⟩ : ∃ y, xi (E141 0) 22 = y := ⟨_, rfl⟩
          have fy143 : xv (E141 0) 22 = .int y143 := (hI.fi 0 (Nat.le_of_ble_eq_true rfl) rfl (Nat.le_of_ble_eq_true rfl) rfl).trans (congrArg Value.int ey143)
          have iy143 : -1 ≤ y143.toInt ∧ y143.toInt ≤ 201 := by rw [← ey143]; exact hI.iv 0 (Nat.le_of_ble_eq_true rfl) rfl (Nat.le_of_ble_eq_true rfl) rfl
          obtain ⟨rfl, f144, f145⟩ := hw
          try rw [(show xi (E88 0) 22 = y2 from vi_e ((kq89 0 22 rfl).trans fy2))] at f144
          try rw [(show xi (E141 0) 22 = y143 from vi_e fy143)] at f144
          rw [hQ]
          exact W.zret (v := 0) hx hb hr rfl (fun t ht hW => ⟨⟨0, E141, rfl, ⟨hI, hKp, ⟨(iv_w ln_0 (by decide)), by (try rw [(show xi (E141 0) 21 = y90 from vi_e ((kq142 0 21 rfl).trans fy90))]); (try rw [ey1]); first | done | exact f92 | have h8 := ln_0; all_goals omega, by (try rw [(show xi (E141 0) 23 = y3 from vi_e ((kq142 0 23 rfl).trans ((kq89 0 23 rfl).trans fy3)))]); (try rw [ey3]); first | done | exact Int.le_refl _ | have h8 := ln_0; all_goals omega, by (try rw [(show xi (E141 0) 22 = y143 from vi_e fy143)]); (try rw [(show xi (E141 0) 23 = y3 from vi_e ((kq142 0 23 rfl).trans ((kq89 0 23 rfl).trans fy3)))]); (try rw [ey2]); (try rw [ey3]); first | done | exact fun q9 => absurd (q9) f144 | have h8 := ln_0; all_goals omega, by (try rw [(show xi (E141 0) 22 = y143 from vi_e fy143)]); (try rw [ey2]); first | done | exact fun q9 => absurd (q9) f144 | have h8 := ln_0; all_goals omega, cpM_1 (by omega) (cmM_no f95 (fun q9 => by have q8 := is_cmp.mp q9; omega) f145)⟩⟩, by show va_P (dC, dI) vwCl (WX 72 ad E141) t.heap; rw [ht]; exact hP⟩, hS.F ht⟩) hS.2.2 dX13_compares_41
    · --18 not
      have t146 : ¬ y2.toInt = -1 := ti_ne c84
      have i147 : 0 ≤ y2.toInt ∧ y2.toInt ≤ 201 := iv_ne_l t146 iy2 (il_ (-1))
      refine lv_iconst (v := 0) hx hb dX13_compares_21 (by decide) ?_
      rw [hQ]
      exact W.zret (v := 0) hx hb hr rfl (fun t ht hW => ⟨⟨0, E, rfl, ⟨hI, hKp, ⟨(iv_w ln_0 (by decide)), by (try rw [(show xi (E 0) 21 = y1 from vi_e fy1)]); (try rw [ey1]); first | done | exact Int.le_refl _ | have h8 := ln_0; all_goals omega, by (try rw [(show xi (E 0) 23 = y3 from vi_e fy3)]); (try rw [ey3]); first | done | exact Int.le_refl _ | have h8 := ln_0; all_goals omega, by (try rw [(show xi (E 0) 22 = y2 from vi_e fy2)]); (try rw [(show xi (E 0) 23 = y3 from vi_e fy3)]); (try rw [ey2]); (try rw [ey3]); first | done | exact fun q9 => rfl | have h8 := ln_0; all_goals omega, by (try rw [(show xi (E 0) 22 = y2 from vi_e fy2)]); (try rw [ey2]); first | done | exact fun q9 => q9 | have h8 := ln_0; all_goals omega, cpM_1 (by omega) (RdM.dead (by show ¬ (xi (E 0) 22).toInt = -1; rw [show xi (E 0) 22 = y2 from vi_e fy2]; omega))⟩⟩, by show va_P (dC, dI) vwCl (WX 72 ad E) t.heap; rw [ht]; exact hP⟩, hS.F ht⟩) hS.2.2 dX13_compares_22
set_option maxHeartbeats 4000000 in
set_option maxRecDepth 100000 in
theorem q_unitX (l : Launch) (n : Nat) (gC : C_comparesX l n) (gU : ∀ k, k < n → C_unitX l k) (gO : ∀ k, k < n → C_conditionX l k) : C_unitX l n := by
  intro dC dI cT ad E sz k nl hI0 hh0 hh1 hh2 hh3 hh4 hh5 hh6
  refine Met.ofW (cc := cX13_unit) (maxL := 3) (ret := (some .boolean)) (by decide) rfl ?_
  intro p e s m args below meth c s₁ B hml hv
  obtain ⟨hargs, hsz, hP, hK, hD0, hEV⟩ := hv
  subst hsz
  have hx := B.exec
  have hb := B.bytes
  have hr := B.returns
  have hts := atoms_spec (ws := v_unitX) B.pre
  have hown : s.vm.findClass RX13 = some m.cls := findClass_of_methodNamed B.named
  have hlocks := B.notSynchronized
  have hinX13 : ∀ w ∈ u_ws RX13 TX13 97, w ∈ v_unitX := fun w h => vA_in _ w (in_X13 w h)
  generalize hAe : va_A (WX 72 ad E) s.heap.size = A at hEV ⊢
  have hA : ∀ q : Nat, s.heap.size ≤ q → A q := fun q h => by rw [← hAe]; exact Or.inr h
  have hD : va_D A (WX 72 ad E) := by rw [← hAe]; exact hD0.self
  have hS : va_S A s.heap s.heap [] := va_S.rf
  have hI := hI0
  have hKp : Kp w_unitX E E := Kp.rf
  have hl := lv_entry ([.ref (ad 0)]) (n := 3) (Nat.le_of_ble_eq_true rfl)
  obtain ⟨Q, hQ⟩ : ∃ Q, Q = MQ below (va_Qi (S := Nat → va_E) (fun r u => IX cT shM spM 72 ad u ∧ Kp w_unitX E u ∧ ((0 ≤ r.toInt ∧ r.toInt ≤ 1) ∧ ((xi (E 0) 21).toInt ≤ (xi (u 0) 21).toInt) ∧ ((xi (E 0) 23).toInt ≤ (xi (u 0) 23).toInt) ∧ ((xi (u 0) 22).toInt = -1 → (xi (u 0) 23).toInt = (xi (E 0) 23).toInt) ∧ ((xi (u 0) 22).toInt = -1 → (xi (E 0) 22).toInt = -1) ∧ (RdM k (unY 0 n) E u))) (HB dC dI 72 ad) (A)) args s 0 0 (A) := ⟨_, rfl⟩
  rw [← hQ, show entryFrame m args 3 = _ from (congrArg (fun z => entryFrame m z 3) hargs).trans (lg_entry_eq _ _ _)]
  generalize (lg_sl ([.ref (ad 0)]) ++ List.replicate (3 - (lg_sl ([.ref (ad 0)])).length) Slot.unset).toArray = ls at hl ⊢
  have hl : lv_has ls 3 [(0, .ref (ad 0))] := hl
  obtain ⟨y1, ey1⟩ : ∃ y, xi (E 0) 21 = y := ⟨_, rfl⟩
  have fy1 : xv (E 0) 21 = .int y1 := (hI.fi 0 (Nat.le_of_ble_eq_true rfl) rfl (Nat.le_of_ble_eq_true rfl) rfl).trans (congrArg Value.int ey1)
  have iy1 : 0 ≤ y1.toInt ∧ y1.toInt ≤ 201 := by rw [← ey1]; exact hI.iv 0 (Nat.le_of_ble_eq_true rfl) rfl (Nat.le_of_ble_eq_true rfl) rfl
  obtain ⟨y2, ey2⟩ : ∃ y, xi (E 0) 22 = y := ⟨_, rfl⟩
  have fy2 : xv (E 0) 22 = .int y2 := (hI.fi 0 (Nat.le_of_ble_eq_true rfl) rfl (Nat.le_of_ble_eq_true rfl) rfl).trans (congrArg Value.int ey2)
  have iy2 : -1 ≤ y2.toInt ∧ y2.toInt ≤ 201 := by rw [← ey2]; exact hI.iv 0 (Nat.le_of_ble_eq_true rfl) rfl (Nat.le_of_ble_eq_true rfl) rfl
  rw [ey2] at hh6
  obtain ⟨y3, ey3⟩ : ∃ y, xi (E 0) 23 = y := ⟨_, rfl⟩
  have fy3 : xv (E 0) 23 = .int y3 := (hI.fi 0 (Nat.le_of_ble_eq_true rfl) rfl (Nat.le_of_ble_eq_true rfl) rfl).trans (congrArg Value.int ey3)
  have iy3 : 0 ≤ y3.toInt ∧ y3.toInt ≤ 8 := by rw [← ey3]; exact hI.iv 0 (Nat.le_of_ble_eq_true rfl) rfl (Nat.le_of_ble_eq_true rfl) rfl
  rw [ey3] at hh5
  have hk0 : ¬ k = 0 := fun q9 => by rw [q9] at hh1; exact absurd (show (shM 0).1 = 1 from congrArg Prod.fst hh1) (by decide)
  refine lv_aload_n hx hb dX13_unit_0 rfl (lv_at hl 0 rfl) ?_
  refine th_i (va_runV (As := []) (rest := []) ⟨hx, hb, hml, hown, hts⟩ (q_lookX l dC dI cT ad E s.heap.size k nl hI (by exact hh0) (by exact hh1) (by exact hh2) (by exact hh3) (by exact hh4)) (cwV 0 hts (gi_V (in_26 _ (zs1 (zs1 (zs0)))) (in_26 _ (zs1 (zs1 (zs1 (zs0))))) (in_26 _ (zs4 (zs0))) (in_24 _ (zs4 (zs4 (zs4 (zs1 (zs1 (zs1 (zs0)))))))) (in_26 _ (zs4 (zs1 (zs0))))) rfl rfl rfl ⟨rfl, hz_yX13_look_0⟩ ⟨(show 0 + 1 ≤ 7 * n + 9 from nl_1 (Nat.le_of_ble_eq_true rfl)), (show 8 + (1 + 11) + 40 * (0) ≤ 40 * (7 * n + 9) from nl_2 (Nat.le_of_ble_eq_true rfl))⟩) ⟨HW_bl, va_recv hK hP (ci := 14) (q0 := 0) rfl (hI.ob 0 (Nat.le_of_ble_eq_true rfl) rfl), (HW_wi hP hK (WX_D hD) hS hA hEV)⟩ rfl rfl hl.1 rfl (lv_room (Nat.le_of_ble_eq_true rfl)) dX13_unit_1 ⟨Nat.le_of_ble_eq_true rfl, Nat.le_of_ble_eq_true rfl⟩) (WX_D hD) hS hA (fun r4 E5 H locs hw hP hS => ?_)
  obtain ⟨hI, kq6, hw⟩ := hw
  have hKb := hKp
  have hKp := hKp.tr kq6 (wl_sub rfl rfl)
  obtain ⟨y7, ey7⟩ : ∃ y, xi (E5 0) 21 = y := ⟨_, rfl⟩
  have fy7 : xv (E5 0) 21 = .int y7 := (hI.fi 0 (Nat.le_of_ble_eq_true rfl) rfl (Nat.le_of_ble_eq_true rfl) rfl).trans (congrArg Value.int ey7)
  have iy7 : 0 ≤ y7.toInt ∧ y7.toInt ≤ 201 := by rw [← ey7]; exact hI.iv 0 (Nat.le_of_ble_eq_true rfl) rfl (Nat.le_of_ble_eq_true rfl) rfl
  obtain ⟨f8, f9, f10, f11, f12⟩ := hw
  have i13 : 0 ≤ (xi (E 0) 19).toInt ∧ (xi (E 0) 19).toInt ≤ 3000 := (show 0 ≤ (xi (E 0) 19).toInt ∧ (xi (E 0) 19).toInt ≤ 3000 from hI0.iv 0 (Nat.le_of_ble_eq_true rfl) rfl (Nat.le_of_ble_eq_true rfl) rfl)
  have i14 : 0 ≤ (xi (E 0) 20).toInt ∧ (xi (E 0) 20).toInt ≤ 200 := (show 0 ≤ (xi (E 0) 20).toInt ∧ (xi (E 0) 20).toInt ≤ 200 from hI0.iv 0 (Nat.le_of_ble_eq_true rfl) rfl (Nat.le_of_ble_eq_true rfl) rfl)
  try rw [(show xi (E 0) 21 = y1 from vi_e fy1)] at f9
  try rw [(show xi (E5 0) 21 = y7 from vi_e fy7)] at f9
  try rw [(show xi (E 0) 21 = y1 from vi_e fy1)] at f10
  try rw [(show xi (E5 0) 21 = y7 from vi_e fy7)] at f10
  try rw [(show xi (E 0) 21 = y1 from vi_e fy1)] at f11
  try rw [(show xi (E5 0) 21 = y7 from vi_e fy7)] at f11
  refine lv_istore_n (lv' := [(1, .int r4), (0, .ref (ad 0))]) hx hb dX13_unit_4 rfl hl (by decide) rfl (fun ls hl => ?_)
  refine lv_iload_n hx hb dX13_unit_5 rfl (lv_at hl 0 rfl) ?_
  refine lv_bipush (v := 33) hx hb dX13_unit_6 (by decide) ?_
  refine lv_icmp_ne (tgt := 45) hx hb dX13_unit_8 (by decide) (fun c15 => ?_) (fun c15 => ?_)
  · --8 taken
    have t16 : ¬ r4.toInt = 33 := ti_ne c15
    refine lv_iload_n hx hb dX13_unit_45 rfl (lv_at hl 0 rfl) ?_
    refine lv_bipush (v := 40) hx hb dX13_unit_46 (by decide) ?_
    refine lv_icmp_ne (tgt := 90) hx hb dX13_unit_48 (by decide) (fun c17 => ?_) (fun c17 => ?_)
    · --48 taken
      have t18 : ¬ r4.toInt = 40 := ti_ne c17
      refine lv_aload_n hx hb dX13_unit_90 rfl (lv_at hl 1 rfl) ?_
      refine lv_iconst (v := 0) hx hb dX13_unit_91 (by decide) ?_
      refine lv_iconst (v := 0) hx hb dX13_unit_92 (by decide) ?_
      have z0 := ln_0
      refine th_i (va_runV (As := [.int 0, .int 0]) (rest := []) ⟨hx, hb, hml, hown, hts⟩ (gC dC dI cT ad E5 H.size (0 : Int32) (0 : Int32) k nl hI (by exact hh0) (by exact hh1) (by exact hh2) (by exact (hKp 0 18 rfl).trans hh3) (by (try rw [hKp.ei 0 19 rfl]); exact hh4) (by (try rw [(show xi (E5 0) 23 = y3 from vi_e ((kq6 0 23 rfl).trans fy3))]); omega) (by (try rw [(show xi (E5 0) 22 = y2 from vi_e ((kq6 0 22 rfl).trans fy2))]); omega) (iv_w ln_0 (by decide))) (cwV 2 hts (gi_V (in_29 _ (zs16 (zs4 (zs4 (zs1 (zs1 (zs0))))))) (in_29 _ (zs16 (zs4 (zs4 (zs1 (zs1 (zs1 (zs0)))))))) (in_29 _ (zs16 (zs4 (zs4 (zs4 (zs0)))))) (in_24 _ (zs4 (zs4 (zs4 (zs1 (zs1 (zs1 (zs0)))))))) (in_29 _ (zs16 (zs4 (zs4 (zs4 (zs1 (zs0)))))))) rfl rfl rfl (by decide +kernel) ⟨(show 7 * n + 8 + 1 ≤ 7 * n + 9 from nl_4 (Nat.le_of_ble_eq_true rfl) (Nat.le_of_ble_eq_true rfl)), (show 8 + (6 + 11) + 40 * (7 * n + 8) ≤ 40 * (7 * n + 9) from nl_3 (Nat.le_of_ble_eq_true rfl) (Nat.le_of_ble_eq_true rfl))⟩) ⟨HW_bl, va_recv hK hP (ci := 14) (q0 := 0) rfl (hI.ob 0 (Nat.le_of_ble_eq_true rfl) rfl), (HW_wi hP hK (WX_D hD) hS hA hEV)⟩ rfl rfl hl.1 rfl (lv_room (Nat.le_of_ble_eq_true rfl)) dX13_unit_93 ⟨Nat.le_of_ble_eq_true rfl, Nat.le_of_ble_eq_true rfl⟩) (WX_D hD) hS hA (fun r19 E20 H locs hw hP hS => ?_)
      obtain ⟨hI, kq21, hw⟩ := hw
      have hKb := hKp
      have hKp := hKp.tr kq21 (wl_sub rfl rfl)
      obtain ⟨y22, ey22⟩ : ∃ y, xi (E20 0) 21 = y := ⟨_, rfl⟩
      have fy22 : xv (E20 0) 21 = .int y22 := (hI.fi 0 (Nat.le_of_ble_eq_true rfl) rfl (Nat.le_of_ble_eq_true rfl) rfl).trans (congrArg Value.int ey22)
      have iy22 : 0 ≤ y22.toInt ∧ y22.toInt ≤ 201 := by rw [← ey22]; exact hI.iv 0 (Nat.le_of_ble_eq_true rfl) rfl (Nat.le_of_ble_eq_true rfl) rfl
      obtain ⟨y23, ey23⟩ : ∃ y, xi (E20 0) 22 = y := ⟨_, rfl⟩
      have fy23 : xv (E20 0) 22 = .int y23 := (hI.fi 0 (Nat.le_of_ble_eq_true rfl) rfl (Nat.le_of_ble_eq_true rfl) rfl).trans (congrArg Value.int ey23)
      have iy23 : -1 ≤ y23.toInt ∧ y23.toInt ≤ 201 := by rw [← ey23]; exact hI.iv 0 (Nat.le_of_ble_eq_true rfl) rfl (Nat.le_of_ble_eq_true rfl) rfl
      obtain ⟨y24, ey24⟩ : ∃ y, xi (E20 0) 23 = y := ⟨_, rfl⟩
      have fy24 : xv (E20 0) 23 = .int y24 := (hI.fi 0 (Nat.le_of_ble_eq_true rfl) rfl (Nat.le_of_ble_eq_true rfl) rfl).trans (congrArg Value.int ey24)
      have iy24 : 0 ≤ y24.toInt ∧ y24.toInt ≤ 8 := by rw [← ey24]; exact hI.iv 0 (Nat.le_of_ble_eq_true rfl) rfl (Nat.le_of_ble_eq_true rfl) rfl
      obtain ⟨f25, f26, f27, f28, f29, f30⟩ := hw
      try rw [(show xi (E5 0) 21 = y7 from vi_e fy7)] at f26
      try rw [(show xi (E20 0) 21 = y22 from vi_e fy22)] at f26
      try rw [(show xi (E5 0) 23 = y3 from vi_e ((kq6 0 23 rfl).trans fy3))] at f27
      try rw [(show xi (E20 0) 23 = y24 from vi_e fy24)] at f27
      try rw [(show xi (E5 0) 22 = y2 from vi_e ((kq6 0 22 rfl).trans fy2))] at f28
      try rw [(show xi (E5 0) 23 = y3 from vi_e ((kq6 0 23 rfl).trans fy3))] at f28
      try rw [(show xi (E20 0) 22 = y23 from vi_e fy23)] at f28
      try rw [(show xi (E20 0) 23 = y24 from vi_e fy24)] at f28
      try rw [(show xi (E5 0) 22 = y2 from vi_e ((kq6 0 22 rfl).trans fy2))] at f29
      try rw [(show xi (E20 0) 22 = y23 from vi_e fy23)] at f29
      rw [hQ]
      exact W.zret (v := r19) hx hb hr (nar_b1 f25) (fun t ht hW => ⟨⟨r19, E20, rfl, ⟨hI, hKp, ⟨f25, by (try rw [(show xi (E20 0) 21 = y22 from vi_e fy22)]); (try rw [ey1]); first | done | exact (Int.le_trans f9 f26) | all_goals omega, by (try rw [(show xi (E20 0) 23 = y24 from vi_e fy24)]); (try rw [ey3]); first | done | exact f27 | all_goals omega, by (try rw [(show xi (E20 0) 22 = y23 from vi_e fy23)]); (try rw [(show xi (E20 0) 23 = y24 from vi_e fy24)]); (try rw [ey2]); (try rw [ey3]); first | done | exact fun q9 => (f28 (q9)) | all_goals omega, by (try rw [(show xi (E20 0) 22 = y23 from vi_e fy23)]); (try rw [ey2]); first | done | exact fun q9 => f29 (q9) | all_goals omega, unM_k f12 (by omega) (by omega) f30⟩⟩, by show va_P (dC, dI) vwCl (WX 72 ad E20) t.heap; rw [ht]; exact hP⟩, hS.F ht⟩) hS.2.2 dX13_unit_96
    · --48 not
      have t31 : r4.toInt = 40 := ti_eq c17
      have i32 : 40 ≤ r4.toInt ∧ r4.toInt ≤ 40 := iv_eqi t31 f8 (il_ 40) (by decide)
      refine lv_aload_n hx hb dX13_unit_51 rfl (lv_at hl 1 rfl) ?_
      refine th_i (va_runV (As := []) (rest := []) ⟨hx, hb, hml, hown, hts⟩ (q_goesInX l dC dI cT ad E5 H.size k nl hI (by exact hh0) (by exact hh1) (by exact hh2) (by exact (hKp 0 18 rfl).trans hh3) (by (try rw [hKp.ei 0 19 rfl]); exact hh4) (by (try rw [(show xi (E5 0) 21 = y7 from vi_e fy7)]); omega)) (cwV 0 hts (gi_V (in_26 _ (zs4 (zs4 (zs0)))) (in_26 _ (zs4 (zs4 (zs1 (zs0))))) (in_26 _ (zs4 (zs4 (zs1 (zs1 (zs0)))))) (in_24 _ (zs4 (zs4 (zs4 (zs1 (zs1 (zs1 (zs0)))))))) (in_26 _ (zs4 (zs4 (zs1 (zs1 (zs1 (zs0)))))))) rfl rfl rfl ⟨rfl, hz_yX13_goesIn_0⟩ ⟨(show 1 + 1 ≤ 7 * n + 9 from nl_1 (Nat.le_of_ble_eq_true rfl)), (show 8 + (1 + 11) + 40 * (1) ≤ 40 * (7 * n + 9) from nl_2 (Nat.le_of_ble_eq_true rfl))⟩) ⟨HW_bl, va_recv hK hP (ci := 14) (q0 := 0) rfl (hI.ob 0 (Nat.le_of_ble_eq_true rfl) rfl), (HW_wi hP hK (WX_D hD) hS hA hEV)⟩ rfl rfl hl.1 rfl (lv_room (Nat.le_of_ble_eq_true rfl)) dX13_unit_52 ⟨Nat.le_of_ble_eq_true rfl, Nat.le_of_ble_eq_true rfl⟩) (WX_D hD) hS hA (fun r33 E34 H locs hw hP hS => ?_)
      obtain ⟨hI, kq35, hw⟩ := hw
      have hKb := hKp
      have hKp := hKp.tr kq35 (wl_sub rfl rfl)
      obtain ⟨y36, ey36⟩ : ∃ y, xi (E34 0) 21 = y := ⟨_, rfl⟩
      have fy36 : xv (E34 0) 21 = .int y36 := (hI.fi 0 (Nat.le_of_ble_eq_true rfl) rfl (Nat.le_of_ble_eq_true rfl) rfl).trans (congrArg Value.int ey36)
      have iy36 : 0 ≤ y36.toInt ∧ y36.toInt ≤ 201 := by rw [← ey36]; exact hI.iv 0 (Nat.le_of_ble_eq_true rfl) rfl (Nat.le_of_ble_eq_true rfl) rfl
      obtain ⟨y37, ey37⟩ : ∃ y, xi (E34 0) 22 = y := ⟨_, rfl⟩
      have fy37 : xv (E34 0) 22 = .int y37 := (hI.fi 0 (Nat.le_of_ble_eq_true rfl) rfl (Nat.le_of_ble_eq_true rfl) rfl).trans (congrArg Value.int ey37)
      have iy37 : -1 ≤ y37.toInt ∧ y37.toInt ≤ 201 := by rw [← ey37]; exact hI.iv 0 (Nat.le_of_ble_eq_true rfl) rfl (Nat.le_of_ble_eq_true rfl) rfl
      obtain ⟨y38, ey38⟩ : ∃ y, xi (E34 0) 23 = y := ⟨_, rfl⟩
      have fy38 : xv (E34 0) 23 = .int y38 := (hI.fi 0 (Nat.le_of_ble_eq_true rfl) rfl (Nat.le_of_ble_eq_true rfl) rfl).trans (congrArg Value.int ey38)
      have iy38 : 0 ≤ y38.toInt ∧ y38.toInt ≤ 8 := by rw [← ey38]; exact hI.iv 0 (Nat.le_of_ble_eq_true rfl) rfl (Nat.le_of_ble_eq_true rfl) rfl
      rcases hw with hw | hw
      · -- goesInX, case 0
        obtain ⟨rfl, f39, f40, f41, f42, f43⟩ := hw
        try rw [(show xi (E5 0) 23 = y3 from vi_e ((kq6 0 23 rfl).trans fy3))] at f39
        try rw [(show xi (E34 0) 23 = y38 from vi_e fy38)] at f39
        try rw [(show xi (E5 0) 22 = y2 from vi_e ((kq6 0 22 rfl).trans fy2))] at f40
        try rw [(show xi (E34 0) 22 = y37 from vi_e fy37)] at f40
        try rw [(show xi (E5 0) 23 = y3 from vi_e ((kq6 0 23 rfl).trans fy3))] at f41
        try rw [(show xi (E34 0) 23 = y38 from vi_e fy38)] at f41
        try rw [(show xi (E5 0) 21 = y7 from vi_e fy7)] at f42
        try rw [(show xi (E34 0) 21 = y36 from vi_e fy36)] at f42
        obtain ⟨k9, hk9⟩ : ∃ k9, n = k9 + 1 := ⟨n - 1, by omega⟩
        refine lv_if_ne (tgt := 60) hx hb dX13_unit_55 (by decide) (fun c44 => ?_) (fun c44 => ?_)
        · --55 taken
          refine lv_aload_n hx hb dX13_unit_60 rfl (lv_at hl 1 rfl) ?_
          refine lv_iconst (v := 0) hx hb dX13_unit_61 (by decide) ?_
          refine lv_iconst (v := 0) hx hb dX13_unit_62 (by decide) ?_
          have z0 := ln_0
          refine th_i (va_runV (As := [.int 0, .int 0]) (rest := []) ⟨hx, hb, hml, hown, hts⟩ ((gO k9 (by omega)) dC dI cT ad E34 H.size (0 : Int32) (0 : Int32) k nl hI (by exact hh0) (by exact hh1) (by exact hh2) (by exact (hKp 0 18 rfl).trans hh3) (by (try rw [hKp.ei 0 19 rfl]); exact hh4) (by (try rw [(show xi (E34 0) 23 = y38 from vi_e fy38)]); omega) (by (try rw [(show xi (E34 0) 22 = y37 from vi_e fy37)]); omega) (iv_w ln_0 (by decide))) (cwV 2 hts (gi_V (in_29 _ (zs16 (zs1 (zs1 (zs0))))) (in_29 _ (zs16 (zs1 (zs1 (zs1 (zs0)))))) (in_29 _ (zs16 (zs4 (zs0)))) (in_24 _ (zs4 (zs4 (zs4 (zs1 (zs1 (zs1 (zs0)))))))) (in_29 _ (zs16 (zs4 (zs1 (zs0)))))) rfl rfl rfl (by decide +kernel) ⟨(show 7 * k9 + 11 + 1 ≤ 7 * n + 9 by omega), (show 8 + (5 + 11) + 40 * (7 * k9 + 11) ≤ 40 * (7 * n + 9) by omega)⟩) ⟨HW_bl, va_recv hK hP (ci := 14) (q0 := 0) rfl (hI.ob 0 (Nat.le_of_ble_eq_true rfl) rfl), (HW_wi hP hK (WX_D hD) hS hA hEV)⟩ rfl rfl hl.1 rfl (lv_room (Nat.le_of_ble_eq_true rfl)) dX13_unit_63 ⟨Nat.le_of_ble_eq_true rfl, Nat.le_of_ble_eq_true rfl⟩) (WX_D hD) hS hA (fun r45 E46 H locs hw hP hS => ?_)
          obtain ⟨hI, kq47, hw⟩ := hw
          have hKb := hKp
          have hKp := hKp.tr kq47 (wl_sub rfl rfl)
          obtain ⟨y48, ey48⟩ : ∃ y, xi (E46 0) 21 = y := ⟨_, rfl⟩
          have fy48 : xv (E46 0) 21 = .int y48 := (hI.fi 0 (Nat.le_of_ble_eq_true rfl) rfl (Nat.le_of_ble_eq_true rfl) rfl).trans (congrArg Value.int ey48)
          have iy48 : 0 ≤ y48.toInt ∧ y48.toInt ≤ 201 := by rw [← ey48]; exact hI.iv 0 (Nat.le_of_ble_eq_true rfl) rfl (Nat.le_of_ble_eq_true rfl) rfl
          obtain ⟨y49, ey49⟩ : ∃ y, xi (E46 0) 22 = y := ⟨_, rfl⟩
          have fy49 : xv (E46 0) 22 = .int y49 := (hI.fi 0 (Nat.le_of_ble_eq_true rfl) rfl (Nat.le_of_ble_eq_true rfl) rfl).trans (congrArg Value.int ey49)
          have iy49 : -1 ≤ y49.toInt ∧ y49.toInt ≤ 201 := by rw [← ey49]; exact hI.iv 0 (Nat.le_of_ble_eq_true rfl) rfl (Nat.le_of_ble_eq_true rfl) rfl
          obtain ⟨y50, ey50⟩ : ∃ y, xi (E46 0) 23 = y := ⟨_, rfl⟩
          have fy50 : xv (E46 0) 23 = .int y50 := (hI.fi 0 (Nat.le_of_ble_eq_true rfl) rfl (Nat.le_of_ble_eq_true rfl) rfl).trans (congrArg Value.int ey50)
          have iy50 : 0 ≤ y50.toInt ∧ y50.toInt ≤ 8 := by rw [← ey50]; exact hI.iv 0 (Nat.le_of_ble_eq_true rfl) rfl (Nat.le_of_ble_eq_true rfl) rfl
          obtain ⟨f51, f52, f53, f54, f55, f56⟩ := hw
          try rw [(show xi (E34 0) 21 = y36 from vi_e fy36)] at f52
          try rw [(show xi (E46 0) 21 = y48 from vi_e fy48)] at f52
          try rw [(show xi (E34 0) 23 = y38 from vi_e fy38)] at f53
          try rw [(show xi (E46 0) 23 = y50 from vi_e fy50)] at f53
          try rw [(show xi (E34 0) 22 = y37 from vi_e fy37)] at f54
          try rw [(show xi (E34 0) 23 = y38 from vi_e fy38)] at f54
          try rw [(show xi (E46 0) 22 = y49 from vi_e fy49)] at f54
          try rw [(show xi (E46 0) 23 = y50 from vi_e fy50)] at f54
          try rw [(show xi (E34 0) 22 = y37 from vi_e fy37)] at f55
          try rw [(show xi (E46 0) 22 = y49 from vi_e fy49)] at f55
          refine lv_istore_n (lv' := [(2, .int r45), (1, .int r4), (0, .ref (ad 0))]) hx hb dX13_unit_66 rfl hl (by decide) rfl (fun ls hl => ?_)
          refine lv_aload_n hx hb dX13_unit_67 rfl (lv_at hl 2 rfl) ?_
          refine lv_bipush (v := 41) hx hb dX13_unit_68 (by decide) ?_
          have z41 := ln_41
          refine th_i (va_runV (As := [.int 41]) (rest := []) ⟨hx, hb, hml, hown, hts⟩ (q_takesX l dC dI cT ad E46 H.size (41 : Int32) k nl hI (by exact hh0) (by exact hh1) (by exact hh2) (by exact (hKp 0 18 rfl).trans hh3) (by (try rw [hKp.ei 0 19 rfl]); exact hh4) (iv_w ln_41 (by decide))) (cwV 1 hts (gi_V (in_26 _ (zs16 (zs1 (zs1 (zs1 (zs0)))))) (in_26 _ (zs16 (zs4 (zs0)))) (in_26 _ (zs16 (zs4 (zs1 (zs0))))) (in_24 _ (zs4 (zs4 (zs4 (zs1 (zs1 (zs1 (zs0)))))))) (in_26 _ (zs16 (zs4 (zs1 (zs1 (zs0))))))) rfl rfl rfl ⟨rfl, hz_yX13_takes_1⟩ ⟨(show 1 + 1 ≤ 7 * n + 9 from nl_1 (Nat.le_of_ble_eq_true rfl)), (show 8 + (2 + 11) + 40 * (1) ≤ 40 * (7 * n + 9) from nl_2 (Nat.le_of_ble_eq_true rfl))⟩) ⟨HW_bl, va_recv hK hP (ci := 14) (q0 := 0) rfl (hI.ob 0 (Nat.le_of_ble_eq_true rfl) rfl), (HW_wi hP hK (WX_D hD) hS hA hEV)⟩ rfl rfl hl.1 rfl (lv_room (Nat.le_of_ble_eq_true rfl)) dX13_unit_70 ⟨Nat.le_of_ble_eq_true rfl, Nat.le_of_ble_eq_true rfl⟩) (WX_D hD) hS hA (fun r57 E58 H locs hw hP hS => ?_)
          obtain ⟨hI, kq59, hw⟩ := hw
          have hKb := hKp
          have hKp := hKp.tr kq59 (wl_sub rfl rfl)
          obtain ⟨y60, ey60⟩ : ∃ y, xi (E58 0) 21 = y := ⟨_, rfl⟩
          have fy60 : xv (E58 0) 21 = .int y60 := (hI.fi 0 (Nat.le_of_ble_eq_true rfl) rfl (Nat.le_of_ble_eq_true rfl) rfl).trans (congrArg Value.int ey60)
          have iy60 : 0 ≤ y60.toInt ∧ y60.toInt ≤ 201 := by rw [← ey60]; exact hI.iv 0 (Nat.le_of_ble_eq_true rfl) rfl (Nat.le_of_ble_eq_true rfl) rfl
          obtain ⟨y61, ey61⟩ : ∃ y, xi (E58 0) 22 = y := ⟨_, rfl⟩
          have fy61 : xv (E58 0) 22 = .int y61 := (hI.fi 0 (Nat.le_of_ble_eq_true rfl) rfl (Nat.le_of_ble_eq_true rfl) rfl).trans (congrArg Value.int ey61)
          have iy61 : -1 ≤ y61.toInt ∧ y61.toInt ≤ 201 := by rw [← ey61]; exact hI.iv 0 (Nat.le_of_ble_eq_true rfl) rfl (Nat.le_of_ble_eq_true rfl) rfl
          rcases hw with hw | hw
          · -- takesX, case 0
            obtain ⟨rfl, f62, f63, f64, f65, f66⟩ := hw
            try rw [(show xi (E46 0) 22 = y49 from vi_e fy49)] at f62
            try rw [(show xi (E58 0) 22 = y61 from vi_e fy61)] at f62
            try rw [(show xi (E46 0) 22 = y49 from vi_e fy49)] at f63
            try rw [(show xi (E58 0) 22 = y61 from vi_e fy61)] at f63
            try rw [(show xi (E46 0) 21 = y48 from vi_e fy48)] at f64
            try rw [(show xi (E58 0) 21 = y60 from vi_e fy60)] at f64
            try rw [(show xi (E46 0) 21 = y48 from vi_e fy48)] at f65
            try rw [(show xi (E58 0) 21 = y60 from vi_e fy60)] at f65
            refine lv_if_ne (tgt := 78) hx hb dX13_unit_73 (by decide) (fun c67 => ?_) (fun c67 => ?_)
            · --73 taken
              refine lv_aload_n hx hb dX13_unit_78 rfl (lv_at hl 2 rfl) ?_
              refine lv_dup hx hb dX13_unit_79 rfl ?_
              refine th_get (ci := 14) (C := RX13) (T := TX13) (N := 97) (v := .int y50) hx hb hts hinX13 hown hK hP hI 0 (Nat.le_of_ble_eq_true rfl) rfl rfl 23 (Nat.le_of_ble_eq_true rfl) (hts _ (vA_in _ _ (in_25 _ (zs16 (zs16 (zs4 (zs1 (zs1 (zs0))))))))) (fun _ h9 => h9) ((kq59 0 23 rfl).trans fy50) dX13_unit_80 ?_
              refine lv_iconst (v := 1) hx hb dX13_unit_83 (by decide) ?_
              refine lv_isub hx hb dX13_unit_84 ?_
              refine lv_topi (fun y68 ey68 => ?_)
              obtain ⟨ty68, iy68⟩ := ti_sub (e := (-1)) (f := 7) iy50 ln_1 ey68 (by decide)
              have ty68 : y68.toInt = y50.toInt - 1 := ty68
              have iy68 : -1 ≤ y68.toInt ∧ y68.toInt ≤ 7 := iy68
              have i69 : 0 ≤ y68.toInt ∧ y68.toInt ≤ 7 := by omega
              refine th_put (ci := 14) (C := RX13) (T := TX13) (N := 97) (v := .int y68) (ty := .int) hx hb hts hinX13 tyX13 tyX13_ok nmX13 hown hK hP (WX_D hD) hS hI 0 (Nat.le_of_ble_eq_true rfl) rfl rfl 23 (Nat.le_of_ble_eq_true rfl) (hts _ (vA_in _ _ (in_25 _ (zs16 (zs16 (zs4 (zs1 (zs1 (zs0))))))))) (fun _ h9 => h9) rfl (by decide +kernel) rfl rfl (okI rfl (iv_w i69 (by decide))) dX13_unit_85 (fun H locs E70 pw71 hI hP hS => ?_)
              have hKp := hKp.pw pw71 rfl
              have k72 : KM k E58 E70 := KM.pw pw71.2 hk0 (by decide)
              refine lv_iload_n hx hb dX13_unit_88 rfl (lv_at hl 0 rfl) ?_
              rw [hQ]
              exact W.zret (v := r45) hx hb hr (nar_b1 f51) (fun t ht hW => ⟨⟨r45, E70, rfl, ⟨hI, hKp, ⟨f51, by (try rw [(show xi (E70 0) 21 = y60 from vi_e ((pw71.2 0 21 (fun q9 => absurd q9.2 (Nat.ne_of_beq_eq_false rfl))).trans fy60))]); (try rw [ey1]); first | done | exact (Int.le_trans (Int.le_trans (Int.le_trans f9 (Int.le_trans (Int.le_add_of_nonneg_right (by decide)) (Int.le_of_eq f42.symm))) f52) f65) | all_goals omega, by (try rw [(show xi (E70 0) 23 = y68 from vi_e pw71.1)]); (try rw [ey1]); (try rw [ey2]); (try rw [ey3]); all_goals omega, by (try rw [(show xi (E70 0) 22 = y61 from vi_e ((pw71.2 0 22 (fun q9 => absurd q9.2 (Nat.ne_of_beq_eq_false rfl))).trans fy61))]); (try rw [(show xi (E70 0) 23 = y68 from vi_e pw71.1)]); (try rw [ey1]); (try rw [ey2]); (try rw [ey3]); all_goals omega, by (try rw [(show xi (E70 0) 22 = y61 from vi_e ((pw71.2 0 22 (fun q9 => absurd q9.2 (Nat.ne_of_beq_eq_false rfl))).trans fy61))]); (try rw [ey1]); (try rw [ey2]); (try rw [ey3]); all_goals omega, (unM_p (w := 0) rfl f12 (by omega) f43 f56 f66 hk9).ks k72⟩⟩, by show va_P (dC, dI) vwCl (WX 72 ad E70) t.heap; rw [ht]; exact hP⟩, hS.F ht⟩) hS.2.2 dX13_unit_89
            · --73 not
              exact absurd c67 (by decide)
          · -- takesX, case 1
            obtain ⟨rfl, f73, f74, f75⟩ := hw
            try rw [(show xi (E46 0) 22 = y49 from vi_e fy49)] at f73
            try rw [(show xi (E58 0) 22 = y61 from vi_e fy61)] at f73
            try rw [(show xi (E46 0) 21 = y48 from vi_e fy48)] at f74
            try rw [(show xi (E58 0) 21 = y60 from vi_e fy60)] at f74
            refine lv_if_ne (tgt := 78) hx hb dX13_unit_73 (by decide) (fun c76 => ?_) (fun c76 => ?_)
            · --73 taken
              exact absurd c76 (by decide)
            · --73 not
              refine lv_iconst (v := 0) hx hb dX13_unit_76 (by decide) ?_
              rw [hQ]
              exact W.zret (v := 0) hx hb hr rfl (fun t ht hW => ⟨⟨0, E58, rfl, ⟨hI, hKp, ⟨(iv_w ln_0 (by decide)), by (try rw [(show xi (E58 0) 21 = y60 from vi_e fy60)]); (try rw [ey1]); first | done | exact (Int.le_trans (Int.le_trans (Int.le_trans f9 (Int.le_trans (Int.le_add_of_nonneg_right (by decide)) (Int.le_of_eq f42.symm))) f52) f74) | have h8 := ln_0; all_goals omega, by (try rw [(show xi (E58 0) 23 = y50 from vi_e ((kq59 0 23 rfl).trans fy50))]); (try rw [ey3]); first | done | exact (Int.le_trans (Int.le_trans (Int.le_add_of_nonneg_right (by decide)) (Int.le_of_eq f39.symm)) f53) | have h8 := ln_0; all_goals omega, by (try rw [(show xi (E58 0) 22 = y61 from vi_e fy61)]); (try rw [(show xi (E58 0) 23 = y50 from vi_e ((kq59 0 23 rfl).trans fy50))]); (try rw [ey2]); (try rw [ey3]); first | done | exact fun q9 => absurd (q9) f73 | have h8 := ln_0; all_goals omega, by (try rw [(show xi (E58 0) 22 = y61 from vi_e fy61)]); (try rw [ey2]); first | done | exact fun q9 => absurd (q9) f73 | have h8 := ln_0; all_goals omega, unM_p (w := 0) rfl f12 (by omega) f43 f56 f75 hk9⟩⟩, by show va_P (dC, dI) vwCl (WX 72 ad E58) t.heap; rw [ht]; exact hP⟩, hS.F ht⟩) hS.2.2 dX13_unit_77
        · --55 not
          exact absurd c44 (by decide)
      · -- goesInX, case 1
        obtain ⟨rfl, f77, f78, f79, f80, f81⟩ := hw
        try rw [(show xi (E5 0) 23 = y3 from vi_e ((kq6 0 23 rfl).trans fy3))] at f77
        try rw [(show xi (E34 0) 23 = y38 from vi_e fy38)] at f77
        try rw [(show xi (E5 0) 22 = y2 from vi_e ((kq6 0 22 rfl).trans fy2))] at f78
        try rw [(show xi (E34 0) 22 = y37 from vi_e fy37)] at f78
        try rw [(show xi (E5 0) 21 = y7 from vi_e fy7)] at f79
        try rw [(show xi (E34 0) 21 = y36 from vi_e fy36)] at f79
        try rw [(show xi (E5 0) 23 = y3 from vi_e ((kq6 0 23 rfl).trans fy3))] at f80
        try rw [(show xi (E34 0) 23 = y38 from vi_e fy38)] at f80
        refine lv_if_ne (tgt := 60) hx hb dX13_unit_55 (by decide) (fun c82 => ?_) (fun c82 => ?_)
        · --55 taken
          exact absurd c82 (by decide)
        · --55 not
          refine lv_iconst (v := 0) hx hb dX13_unit_58 (by decide) ?_
          rw [hQ]
          exact W.zret (v := 0) hx hb hr rfl (fun t ht hW => ⟨⟨0, E34, rfl, ⟨hI, hKp, ⟨(iv_w ln_0 (by decide)), by (try rw [(show xi (E34 0) 21 = y36 from vi_e fy36)]); (try rw [ey1]); first | done | exact (Int.le_trans f9 (Int.le_of_eq f79.symm)) | have h8 := ln_0; all_goals omega, by (try rw [(show xi (E34 0) 23 = y38 from vi_e fy38)]); (try rw [ey3]); first | done | exact (Int.le_of_eq f80.symm) | have h8 := ln_0; all_goals omega, by (try rw [(show xi (E34 0) 22 = y37 from vi_e fy37)]); (try rw [(show xi (E34 0) 23 = y38 from vi_e fy38)]); (try rw [ey2]); (try rw [ey3]); first | done | exact fun q9 => absurd (q9) f78 | have h8 := ln_0; all_goals omega, by (try rw [(show xi (E34 0) 22 = y37 from vi_e fy37)]); (try rw [ey2]); first | done | exact fun q9 => absurd (q9) f78 | have h8 := ln_0; all_goals omega, unM_p0 (w := 0) rfl f12 (by omega) f81 (by omega)⟩⟩, by show va_P (dC, dI) vwCl (WX 72 ad E34) t.heap; rw [ht]; exact hP⟩, hS.F ht⟩) hS.2.2 dX13_unit_59
  · --8 not
    have t83 : r4.toInt = 33 := ti_eq c15
    have i84 : 33 ≤ r4.toInt ∧ r4.toInt ≤ 33 := iv_eqi t83 f8 (il_ 33) (by decide)
    refine lv_aload_n hx hb dX13_unit_11 rfl (lv_at hl 1 rfl) ?_
    refine th_i (va_runV (As := []) (rest := []) ⟨hx, hb, hml, hown, hts⟩ (q_goesInX l dC dI cT ad E5 H.size k nl hI (by exact hh0) (by exact hh1) (by exact hh2) (by exact (hKp 0 18 rfl).trans hh3) (by (try rw [hKp.ei 0 19 rfl]); exact hh4) (by (try rw [(show xi (E5 0) 21 = y7 from vi_e fy7)]); omega)) (cwV 0 hts (gi_V (in_26 _ (zs4 (zs4 (zs0)))) (in_26 _ (zs4 (zs4 (zs1 (zs0))))) (in_26 _ (zs4 (zs4 (zs1 (zs1 (zs0)))))) (in_24 _ (zs4 (zs4 (zs4 (zs1 (zs1 (zs1 (zs0)))))))) (in_26 _ (zs4 (zs4 (zs1 (zs1 (zs1 (zs0)))))))) rfl rfl rfl ⟨rfl, hz_yX13_goesIn_0⟩ ⟨(show 1 + 1 ≤ 7 * n + 9 from nl_1 (Nat.le_of_ble_eq_true rfl)), (show 8 + (1 + 11) + 40 * (1) ≤ 40 * (7 * n + 9) from nl_2 (Nat.le_of_ble_eq_true rfl))⟩) ⟨HW_bl, va_recv hK hP (ci := 14) (q0 := 0) rfl (hI.ob 0 (Nat.le_of_ble_eq_true rfl) rfl), (HW_wi hP hK (WX_D hD) hS hA hEV)⟩ rfl rfl hl.1 rfl (lv_room (Nat.le_of_ble_eq_true rfl)) dX13_unit_12 ⟨Nat.le_of_ble_eq_true rfl, Nat.le_of_ble_eq_true rfl⟩) (WX_D hD) hS hA (fun r85 E86 H locs hw hP hS => ?_)
    obtain ⟨hI, kq87, hw⟩ := hw
    have hKb := hKp
    have hKp := hKp.tr kq87 (wl_sub rfl rfl)
    obtain ⟨y88, ey88⟩ : ∃ y, xi (E86 0) 21 = y := ⟨_, rfl⟩
    have fy88 : xv (E86 0) 21 = .int y88 := (hI.fi 0 (Nat.le_of_ble_eq_true rfl) rfl (Nat.le_of_ble_eq_true rfl) rfl).trans (congrArg Value.int ey88)
    have iy88 : 0 ≤ y88.toInt ∧ y88.toInt ≤ 201 := by rw [← ey88]; exact hI.iv 0 (Nat.le_of_ble_eq_true rfl) rfl (Nat.le_of_ble_eq_true rfl) rfl
    obtain ⟨y89, ey89⟩ : ∃ y, xi (E86 0) 22 = y := ⟨_, rfl⟩
    have fy89 : xv (E86 0) 22 = .int y89 := (hI.fi 0 (Nat.le_of_ble_eq_true rfl) rfl (Nat.le_of_ble_eq_true rfl) rfl).trans (congrArg Value.int ey89)
    have iy89 : -1 ≤ y89.toInt ∧ y89.toInt ≤ 201 := by rw [← ey89]; exact hI.iv 0 (Nat.le_of_ble_eq_true rfl) rfl (Nat.le_of_ble_eq_true rfl) rfl
    obtain ⟨y90, ey90⟩ : ∃ y, xi (E86 0) 23 = y := ⟨_, rfl⟩
    have fy90 : xv (E86 0) 23 = .int y90 := (hI.fi 0 (Nat.le_of_ble_eq_true rfl) rfl (Nat.le_of_ble_eq_true rfl) rfl).trans (congrArg Value.int ey90)
    have iy90 : 0 ≤ y90.toInt ∧ y90.toInt ≤ 8 := by rw [← ey90]; exact hI.iv 0 (Nat.le_of_ble_eq_true rfl) rfl (Nat.le_of_ble_eq_true rfl) rfl
    rcases hw with hw | hw
    · -- goesInX, case 0
      obtain ⟨rfl, f91, f92, f93, f94, f95⟩ := hw
      try rw [(show xi (E5 0) 23 = y3 from vi_e ((kq6 0 23 rfl).trans fy3))] at f91
      try rw [(show xi (E86 0) 23 = y90 from vi_e fy90)] at f91
      try rw [(show xi (E5 0) 22 = y2 from vi_e ((kq6 0 22 rfl).trans fy2))] at f92
      try rw [(show xi (E86 0) 22 = y89 from vi_e fy89)] at f92
      try rw [(show xi (E5 0) 23 = y3 from vi_e ((kq6 0 23 rfl).trans fy3))] at f93
      try rw [(show xi (E86 0) 23 = y90 from vi_e fy90)] at f93
      try rw [(show xi (E5 0) 21 = y7 from vi_e fy7)] at f94
      try rw [(show xi (E86 0) 21 = y88 from vi_e fy88)] at f94
      obtain ⟨k9, hk9⟩ : ∃ k9, n = k9 + 1 := ⟨n - 1, by omega⟩
      refine lv_if_ne (tgt := 20) hx hb dX13_unit_15 (by decide) (fun c96 => ?_) (fun c96 => ?_)
      · --15 taken
        refine lv_aload_n hx hb dX13_unit_20 rfl (lv_at hl 1 rfl) ?_
        refine th_i (va_runV (As := []) (rest := []) ⟨hx, hb, hml, hown, hts⟩ ((gU k9 (by omega)) dC dI cT ad E86 H.size k nl hI (by exact hh0) (by exact hh1) (by exact hh2) (by exact (hKp 0 18 rfl).trans hh3) (by (try rw [hKp.ei 0 19 rfl]); exact hh4) (by (try rw [(show xi (E86 0) 23 = y90 from vi_e fy90)]); omega) (by (try rw [(show xi (E86 0) 22 = y89 from vi_e fy89)]); omega)) (cwV 0 hts (gi_V (in_29 _ (zs16 (zs16 (zs1 (zs0))))) (in_29 _ (zs16 (zs16 (zs1 (zs1 (zs0)))))) (in_29 _ (zs16 (zs16 (zs1 (zs1 (zs1 (zs0))))))) (in_24 _ (zs4 (zs4 (zs4 (zs1 (zs1 (zs1 (zs0)))))))) (in_29 _ (zs16 (zs16 (zs4 (zs0)))))) rfl rfl rfl (by decide +kernel) ⟨(show 7 * k9 + 9 + 1 ≤ 7 * n + 9 by omega), (show 8 + (3 + 11) + 40 * (7 * k9 + 9) ≤ 40 * (7 * n + 9) by omega)⟩) ⟨HW_bl, va_recv hK hP (ci := 14) (q0 := 0) rfl (hI.ob 0 (Nat.le_of_ble_eq_true rfl) rfl), (HW_wi hP hK (WX_D hD) hS hA hEV)⟩ rfl rfl hl.1 rfl (lv_room (Nat.le_of_ble_eq_true rfl)) dX13_unit_21 ⟨Nat.le_of_ble_eq_true rfl, Nat.le_of_ble_eq_true rfl⟩) (WX_D hD) hS hA (fun r97 E98 H locs hw hP hS => ?_)
        obtain ⟨hI, kq99, hw⟩ := hw
        have hKb := hKp
        have hKp := hKp.tr kq99 (wl_sub rfl rfl)
        obtain ⟨y100, ey100⟩ : ∃ y, xi (E98 0) 21 = y := ⟨_, rfl⟩
        have fy100 : xv (E98 0) 21 = .int y100 := (hI.fi 0 (Nat.le_of_ble_eq_true rfl) rfl (Nat.le_of_ble_eq_true rfl) rfl).trans (congrArg Value.int ey100)
        have iy100 : 0 ≤ y100.toInt ∧ y100.toInt ≤ 201 := by rw [← ey100]; exact hI.iv 0 (Nat.le_of_ble_eq_true rfl) rfl (Nat.le_of_ble_eq_true rfl) rfl
        obtain ⟨y101, ey101⟩ : ∃ y, xi (E98 0) 22 = y := ⟨_, rfl⟩
        have fy101 : xv (E98 0) 22 = .int y101 := (hI.fi 0 (Nat.le_of_ble_eq_true rfl) rfl (Nat.le_of_ble_eq_true rfl) rfl).trans (congrArg Value.int ey101)
        have iy101 : -1 ≤ y101.toInt ∧ y101.toInt ≤ 201 := by rw [← ey101]; exact hI.iv 0 (Nat.le_of_ble_eq_true rfl) rfl (Nat.le_of_ble_eq_true rfl) rfl
        obtain ⟨y102, ey102⟩ : ∃ y, xi (E98 0) 23 = y := ⟨_, rfl⟩
        have fy102 : xv (E98 0) 23 = .int y102 := (hI.fi 0 (Nat.le_of_ble_eq_true rfl) rfl (Nat.le_of_ble_eq_true rfl) rfl).trans (congrArg Value.int ey102)
        have iy102 : 0 ≤ y102.toInt ∧ y102.toInt ≤ 8 := by rw [← ey102]; exact hI.iv 0 (Nat.le_of_ble_eq_true rfl) rfl (Nat.le_of_ble_eq_true rfl) rfl
        obtain ⟨f103, f104, f105, f106, f107, f108⟩ := hw
        try rw [(show xi (E86 0) 21 = y88 from vi_e fy88)] at f104
        try rw [(show xi (E98 0) 21 = y100 from vi_e fy100)] at f104
        try rw [(show xi (E86 0) 23 = y90 from vi_e fy90)] at f105
        try rw [(show xi (E98 0) 23 = y102 from vi_e fy102)] at f105
        try rw [(show xi (E86 0) 22 = y89 from vi_e fy89)] at f106
        try rw [(show xi (E86 0) 23 = y90 from vi_e fy90)] at f106
        try rw [(show xi (E98 0) 22 = y101 from vi_e fy101)] at f106
        try rw [(show xi (E98 0) 23 = y102 from vi_e fy102)] at f106
        try rw [(show xi (E86 0) 22 = y89 from vi_e fy89)] at f107
        try rw [(show xi (E98 0) 22 = y101 from vi_e fy101)] at f107
        refine lv_istore_n (lv' := [(2, .int r97), (1, .int r4), (0, .ref (ad 0))]) hx hb dX13_unit_24 rfl hl (by decide) rfl (fun ls hl => ?_)
        refine lv_aload_n hx hb dX13_unit_25 rfl (lv_at hl 2 rfl) ?_
        refine lv_dup hx hb dX13_unit_26 rfl ?_
        refine th_get (ci := 14) (C := RX13) (T := TX13) (N := 97) (v := .int y102) hx hb hts hinX13 hown hK hP hI 0 (Nat.le_of_ble_eq_true rfl) rfl rfl 23 (Nat.le_of_ble_eq_true rfl) (hts _ (vA_in _ _ (in_25 _ (zs16 (zs16 (zs4 (zs1 (zs1 (zs0))))))))) (fun _ h9 => h9) fy102 dX13_unit_27 ?_
        refine lv_iconst (v := 1) hx hb dX13_unit_30 (by decide) ?_
        refine lv_isub hx hb dX13_unit_31 ?_
        refine lv_topi (fun y109 ey109 => ?_)
        obtain ⟨ty109, iy109⟩ := ti_sub (e := (-1)) (f := 7) iy102 ln_1 ey109 (by decide)
        have ty109 : y109.toInt = y102.toInt - 1 := ty109
        have iy109 : -1 ≤ y109.toInt ∧ y109.toInt ≤ 7 := iy109
        have i110 : 0 ≤ y109.toInt ∧ y109.toInt ≤ 7 := by omega
        refine th_put (ci := 14) (C := RX13) (T := TX13) (N := 97) (v := .int y109) (ty := .int) hx hb hts hinX13 tyX13 tyX13_ok nmX13 hown hK hP (WX_D hD) hS hI 0 (Nat.le_of_ble_eq_true rfl) rfl rfl 23 (Nat.le_of_ble_eq_true rfl) (hts _ (vA_in _ _ (in_25 _ (zs16 (zs16 (zs4 (zs1 (zs1 (zs0))))))))) (fun _ h9 => h9) rfl (by decide +kernel) rfl rfl (okI rfl (iv_w i110 (by decide))) dX13_unit_32 (fun H locs E111 pw112 hI hP hS => ?_)
        have hKp := hKp.pw pw112 rfl
        have k113 : KM k E98 E111 := KM.pw pw112.2 hk0 (by decide)
        refine lv_iload_n hx hb dX13_unit_35 rfl (lv_at hl 0 rfl) ?_
        refine lv_if_ne (tgt := 43) hx hb dX13_unit_36 (by decide) (fun c114 => ?_) (fun c114 => ?_)
        · --36 taken
          have t115 : ¬ r97.toInt = 0 := ti_ne c114
          have i116 : 1 ≤ r97.toInt ∧ r97.toInt ≤ 1 := iv_ne_l t115 f103 (il_ 0)
          refine lv_iconst (v := 0) hx hb dX13_unit_43 (by decide) ?_
          rw [hQ]
          exact W.zret (v := 0) hx hb hr rfl (fun t ht hW => ⟨⟨0, E111, rfl, ⟨hI, hKp, ⟨(iv_w ln_0 (by decide)), by (try rw [(show xi (E111 0) 21 = y100 from vi_e ((pw112.2 0 21 (fun q9 => absurd q9.2 (Nat.ne_of_beq_eq_false rfl))).trans fy100))]); (try rw [ey1]); first | done | exact (Int.le_trans (Int.le_trans f9 (Int.le_trans (Int.le_add_of_nonneg_right (by decide)) (Int.le_of_eq f94.symm))) f104) | have h8 := ln_0; all_goals omega, by have h8 := ln_0; (try rw [(show xi (E111 0) 23 = y109 from vi_e pw112.1)]); (try rw [ey1]); (try rw [ey2]); (try rw [ey3]); all_goals omega, by have h8 := ln_0; (try rw [(show xi (E111 0) 22 = y101 from vi_e ((pw112.2 0 22 (fun q9 => absurd q9.2 (Nat.ne_of_beq_eq_false rfl))).trans fy101))]); (try rw [(show xi (E111 0) 23 = y109 from vi_e pw112.1)]); (try rw [ey1]); (try rw [ey2]); (try rw [ey3]); all_goals omega, by have h8 := ln_0; (try rw [(show xi (E111 0) 22 = y101 from vi_e ((pw112.2 0 22 (fun q9 => absurd q9.2 (Nat.ne_of_beq_eq_false rfl))).trans fy101))]); (try rw [ey1]); (try rw [ey2]); (try rw [ey3]); all_goals omega, unM_n (w := 0) rfl f12 (by omega) f95 f108 k113 hk9⟩⟩, by show va_P (dC, dI) vwCl (WX 72 ad E111) t.heap; rw [ht]; exact hP⟩, hS.F ht⟩) hS.2.2 dX13_unit_44
        · --36 not
          have t117 : r97.toInt = 0 := ti_eq c114
          have i118 : 0 ≤ r97.toInt ∧ r97.toInt ≤ 0 := iv_eqi t117 f103 (il_ 0) (by decide)
          refine lv_iconst (v := 1) hx hb dX13_unit_39 (by decide) ?_
          refine lv_goto (tgt := 44) hx hb dX13_unit_40 (by decide) ?_
          rw [hQ]
          exact W.zret (v := 1) hx hb hr rfl (fun t ht hW => ⟨⟨1, E111, rfl, ⟨hI, hKp, ⟨(iv_w ln_1 (by decide)), by (try rw [(show xi (E111 0) 21 = y100 from vi_e ((pw112.2 0 21 (fun q9 => absurd q9.2 (Nat.ne_of_beq_eq_false rfl))).trans fy100))]); (try rw [ey1]); first | done | exact (Int.le_trans (Int.le_trans f9 (Int.le_trans (Int.le_add_of_nonneg_right (by decide)) (Int.le_of_eq f94.symm))) f104) | have h8 := ln_1; all_goals omega, by have h8 := ln_1; (try rw [(show xi (E111 0) 23 = y109 from vi_e pw112.1)]); (try rw [ey1]); (try rw [ey2]); (try rw [ey3]); all_goals omega, by have h8 := ln_1; (try rw [(show xi (E111 0) 22 = y101 from vi_e ((pw112.2 0 22 (fun q9 => absurd q9.2 (Nat.ne_of_beq_eq_false rfl))).trans fy101))]); (try rw [(show xi (E111 0) 23 = y109 from vi_e pw112.1)]); (try rw [ey1]); (try rw [ey2]); (try rw [ey3]); all_goals omega, by have h8 := ln_1; (try rw [(show xi (E111 0) 22 = y101 from vi_e ((pw112.2 0 22 (fun q9 => absurd q9.2 (Nat.ne_of_beq_eq_false rfl))).trans fy101))]); (try rw [ey1]); (try rw [ey2]); (try rw [ey3]); all_goals omega, unM_n (w := 0) rfl f12 (by omega) f95 f108 k113 hk9⟩⟩, by show va_P (dC, dI) vwCl (WX 72 ad E111) t.heap; rw [ht]; exact hP⟩, hS.F ht⟩) hS.2.2 dX13_unit_44
      · --15 not
        exact absurd c96 (by decide)
    · -- goesInX, case 1
      obtain ⟨rfl, f119, f120, f121, f122, f123⟩ := hw
      try rw [(show xi (E5 0) 23 = y3 from vi_e ((kq6 0 23 rfl).trans fy3))] at f119
      try rw [(show xi (E86 0) 23 = y90 from vi_e fy90)] at f119
      try rw [(show xi (E5 0) 22 = y2 from vi_e ((kq6 0 22 rfl).trans fy2))] at f120
      try rw [(show xi (E86 0) 22 = y89 from vi_e fy89)] at f120
      try rw [(show xi (E5 0) 21 = y7 from vi_e fy7)] at f121
      try rw [(show xi (E86 0) 21 = y88 from vi_e fy88)] at f121
      try rw [(show xi (E5 0) 23 = y3 from vi_e ((kq6 0 23 rfl).trans fy3))] at f122
      try rw [(show xi (E86 0) 23 = y90 from vi_e fy90)] at f122
      refine lv_if_ne (tgt := 20) hx hb dX13_unit_15 (by decide) (fun c124 => ?_) (fun c124 => ?_)
      · --15 taken
        exact absurd c124 (by decide)
      · --15 not
        refine lv_iconst (v := 0) hx hb dX13_unit_18 (by decide) ?_
        rw [hQ]
        exact W.zret (v := 0) hx hb hr rfl (fun t ht hW => ⟨⟨0, E86, rfl, ⟨hI, hKp, ⟨(iv_w ln_0 (by decide)), by (try rw [(show xi (E86 0) 21 = y88 from vi_e fy88)]); (try rw [ey1]); first | done | exact (Int.le_trans f9 (Int.le_of_eq f121.symm)) | have h8 := ln_0; all_goals omega, by (try rw [(show xi (E86 0) 23 = y90 from vi_e fy90)]); (try rw [ey3]); first | done | exact (Int.le_of_eq f122.symm) | have h8 := ln_0; all_goals omega, by (try rw [(show xi (E86 0) 22 = y89 from vi_e fy89)]); (try rw [(show xi (E86 0) 23 = y90 from vi_e fy90)]); (try rw [ey2]); (try rw [ey3]); first | done | exact fun q9 => absurd (q9) f120 | have h8 := ln_0; all_goals omega, by (try rw [(show xi (E86 0) 22 = y89 from vi_e fy89)]); (try rw [ey2]); first | done | exact fun q9 => absurd (q9) f120 | have h8 := ln_0; all_goals omega, unM_n0 (w := 0) rfl f12 (by omega) f123 (by omega)⟩⟩, by show va_P (dC, dI) vwCl (WX 72 ad E86) t.heap; rw [ht]; exact hP⟩, hS.F ht⟩) hS.2.2 dX13_unit_19
set_option maxHeartbeats 4000000 in
set_option maxRecDepth 100000 in
theorem q_partX (l : Launch) (n : Nat) (gC : C_comparesX l n) (gU : C_unitX l n) : C_partX l n := by
  intro dC dI cT ad E sz a0 a1 k nl hI0 hh0 hh1 hh2 hh3 hh4 hh5 hh6 hh7
  refine Met.ofW (cc := cX13_part) (maxL := 5) (ret := (some .boolean)) (by decide) rfl ?_
  intro p e s m args below meth c s₁ B hml hv
  obtain ⟨hargs, hsz, hP, hK, hD0, hEV⟩ := hv
  subst hsz
  have hx := B.exec
  have hb := B.bytes
  have hr := B.returns
  have hts := atoms_spec (ws := v_partX) B.pre
  have hown : s.vm.findClass RX13 = some m.cls := findClass_of_methodNamed B.named
  have hlocks := B.notSynchronized
  have hinX13 : ∀ w ∈ u_ws RX13 TX13 97, w ∈ v_partX := fun w h => vA_in _ w (in_X13 w h)
  generalize hAe : va_A (WX 72 ad E) s.heap.size = A at hEV ⊢
  have hA : ∀ q : Nat, s.heap.size ≤ q → A q := fun q h => by rw [← hAe]; exact Or.inr h
  have hD : va_D A (WX 72 ad E) := by rw [← hAe]; exact hD0.self
  have hS : va_S A s.heap s.heap [] := va_S.rf
  have hI := hI0
  have hKp : Kp w_partX E E := Kp.rf
  have hl := lv_entry ([.ref (ad 0), .int a0, .int a1]) (n := 5) (Nat.le_of_ble_eq_true rfl)
  obtain ⟨Q, hQ⟩ : ∃ Q, Q = MQ below (va_Qi (S := Nat → va_E) (fun r u => IX cT shM spM 72 ad u ∧ Kp w_partX E u ∧ ((0 ≤ r.toInt ∧ r.toInt ≤ 1) ∧ ((xi (E 0) 21).toInt ≤ (xi (u 0) 21).toInt) ∧ ((xi (E 0) 23).toInt ≤ (xi (u 0) 23).toInt) ∧ ((xi (u 0) 22).toInt = -1 → (xi (u 0) 23).toInt = (xi (E 0) 23).toInt) ∧ ((xi (u 0) 22).toInt = -1 → (xi (E 0) 22).toInt = -1) ∧ (RdM k (paY a0 n) E u))) (HB dC dI 72 ad) (A)) args s 0 0 (A) := ⟨_, rfl⟩
  rw [← hQ, show entryFrame m args 5 = _ from (congrArg (fun z => entryFrame m z 5) hargs).trans (lg_entry_eq _ _ _)]
  generalize (lg_sl ([.ref (ad 0), .int a0, .int a1]) ++ List.replicate (5 - (lg_sl ([.ref (ad 0), .int a0, .int a1])).length) Slot.unset).toArray = ls at hl ⊢
  have hl : lv_has ls 5 [(0, .ref (ad 0)), (1, .int a0), (2, .int a1)] := hl
  obtain ⟨y1, ey1⟩ : ∃ y, xi (E 0) 21 = y := ⟨_, rfl⟩
  have fy1 : xv (E 0) 21 = .int y1 := (hI.fi 0 (Nat.le_of_ble_eq_true rfl) rfl (Nat.le_of_ble_eq_true rfl) rfl).trans (congrArg Value.int ey1)
  have iy1 : 0 ≤ y1.toInt ∧ y1.toInt ≤ 201 := by rw [← ey1]; exact hI.iv 0 (Nat.le_of_ble_eq_true rfl) rfl (Nat.le_of_ble_eq_true rfl) rfl
  obtain ⟨y2, ey2⟩ : ∃ y, xi (E 0) 22 = y := ⟨_, rfl⟩
  have fy2 : xv (E 0) 22 = .int y2 := (hI.fi 0 (Nat.le_of_ble_eq_true rfl) rfl (Nat.le_of_ble_eq_true rfl) rfl).trans (congrArg Value.int ey2)
  have iy2 : -1 ≤ y2.toInt ∧ y2.toInt ≤ 201 := by rw [← ey2]; exact hI.iv 0 (Nat.le_of_ble_eq_true rfl) rfl (Nat.le_of_ble_eq_true rfl) rfl
  rw [ey2] at hh6
  obtain ⟨y3, ey3⟩ : ∃ y, xi (E 0) 23 = y := ⟨_, rfl⟩
  have fy3 : xv (E 0) 23 = .int y3 := (hI.fi 0 (Nat.le_of_ble_eq_true rfl) rfl (Nat.le_of_ble_eq_true rfl) rfl).trans (congrArg Value.int ey3)
  have iy3 : 0 ≤ y3.toInt ∧ y3.toInt ≤ 8 := by rw [← ey3]; exact hI.iv 0 (Nat.le_of_ble_eq_true rfl) rfl (Nat.le_of_ble_eq_true rfl) rfl
  rw [ey3] at hh5
  have hk0 : ¬ k = 0 := fun q9 => by rw [q9] at hh1; exact absurd (show (shM 0).1 = 1 from congrArg Prod.fst hh1) (by decide)
  refine lv_iload_n hx hb dX13_part_0 rfl (lv_at hl 1 rfl) ?_
  refine lv_if_eq (tgt := 13) hx hb dX13_part_1 (by decide) (fun c4 => ?_) (fun c4 => ?_)
  · --1 taken
    have t5 : a0.toInt = 0 := ti_eq c4
    have i6 : 0 ≤ a0.toInt ∧ a0.toInt ≤ 0 := iv_eqi t5 hh7 (il_ 0) (by decide)
    refine lv_aload_n hx hb dX13_part_13 rfl (lv_at hl 0 rfl) ?_
    refine th_i (va_runV (As := []) (rest := []) ⟨hx, hb, hml, hown, hts⟩ (gU dC dI cT ad E s.heap.size k nl hI (by exact hh0) (by exact hh1) (by exact hh2) (by exact hh3) (by exact hh4) (by (try rw [(show xi (E 0) 23 = y3 from vi_e fy3)]); omega) (by (try rw [(show xi (E 0) 22 = y2 from vi_e fy2)]); omega)) (cwV 0 hts (gi_V (in_29 _ (zs16 (zs16 (zs1 (zs0))))) (in_29 _ (zs16 (zs16 (zs1 (zs1 (zs0)))))) (in_29 _ (zs16 (zs16 (zs1 (zs1 (zs1 (zs0))))))) (in_24 _ (zs4 (zs4 (zs4 (zs1 (zs1 (zs1 (zs0)))))))) (in_29 _ (zs16 (zs16 (zs4 (zs0)))))) rfl rfl rfl (by decide +kernel) ⟨(show 7 * n + 9 + 1 ≤ 7 * n + 10 from nl_4 (Nat.le_of_ble_eq_true rfl) (Nat.le_of_ble_eq_true rfl)), (show 8 + (3 + 11) + 40 * (7 * n + 9) ≤ 40 * (7 * n + 10) from nl_3 (Nat.le_of_ble_eq_true rfl) (Nat.le_of_ble_eq_true rfl))⟩) ⟨HW_bl, va_recv hK hP (ci := 14) (q0 := 0) rfl (hI.ob 0 (Nat.le_of_ble_eq_true rfl) rfl), (HW_wi hP hK (WX_D hD) hS hA hEV)⟩ rfl rfl hl.1 rfl (lv_room (Nat.le_of_ble_eq_true rfl)) dX13_part_14 ⟨Nat.le_of_ble_eq_true rfl, Nat.le_of_ble_eq_true rfl⟩) (WX_D hD) hS hA (fun r7 E8 H locs hw hP hS => ?_)
    obtain ⟨hI, kq9, hw⟩ := hw
    have hKb := hKp
    have hKp := hKp.tr kq9 (wl_sub rfl rfl)
    obtain ⟨y10, ey10⟩ : ∃ y, xi (E8 0) 21 = y := ⟨_, rfl⟩
    have fy10 : xv (E8 0) 21 = .int y10 := (hI.fi 0 (Nat.le_of_ble_eq_true rfl) rfl (Nat.le_of_ble_eq_true rfl) rfl).trans (congrArg Value.int ey10)
    have iy10 : 0 ≤ y10.toInt ∧ y10.toInt ≤ 201 := by rw [← ey10]; exact hI.iv 0 (Nat.le_of_ble_eq_true rfl) rfl (Nat.le_of_ble_eq_true rfl) rfl
    obtain ⟨y11, ey11⟩ : ∃ y, xi (E8 0) 22 = y := ⟨_, rfl⟩
    have fy11 : xv (E8 0) 22 = .int y11 := (hI.fi 0 (Nat.le_of_ble_eq_true rfl) rfl (Nat.le_of_ble_eq_true rfl) rfl).trans (congrArg Value.int ey11)
    have iy11 : -1 ≤ y11.toInt ∧ y11.toInt ≤ 201 := by rw [← ey11]; exact hI.iv 0 (Nat.le_of_ble_eq_true rfl) rfl (Nat.le_of_ble_eq_true rfl) rfl
    obtain ⟨y12, ey12⟩ : ∃ y, xi (E8 0) 23 = y := ⟨_, rfl⟩
    have fy12 : xv (E8 0) 23 = .int y12 := (hI.fi 0 (Nat.le_of_ble_eq_true rfl) rfl (Nat.le_of_ble_eq_true rfl) rfl).trans (congrArg Value.int ey12)
    have iy12 : 0 ≤ y12.toInt ∧ y12.toInt ≤ 8 := by rw [← ey12]; exact hI.iv 0 (Nat.le_of_ble_eq_true rfl) rfl (Nat.le_of_ble_eq_true rfl) rfl
    obtain ⟨f13, f14, f15, f16, f17, f18⟩ := hw
    have i19 : 0 ≤ (xi (E 0) 19).toInt ∧ (xi (E 0) 19).toInt ≤ 3000 := (show 0 ≤ (xi (E 0) 19).toInt ∧ (xi (E 0) 19).toInt ≤ 3000 from hI0.iv 0 (Nat.le_of_ble_eq_true rfl) rfl (Nat.le_of_ble_eq_true rfl) rfl)
    have i20 : 0 ≤ (xi (E 0) 20).toInt ∧ (xi (E 0) 20).toInt ≤ 200 := (show 0 ≤ (xi (E 0) 20).toInt ∧ (xi (E 0) 20).toInt ≤ 200 from hI0.iv 0 (Nat.le_of_ble_eq_true rfl) rfl (Nat.le_of_ble_eq_true rfl) rfl)
    try rw [(show xi (E 0) 21 = y1 from vi_e fy1)] at f14
    try rw [(show xi (E8 0) 21 = y10 from vi_e fy10)] at f14
    try rw [(show xi (E 0) 23 = y3 from vi_e fy3)] at f15
    try rw [(show xi (E8 0) 23 = y12 from vi_e fy12)] at f15
    try rw [(show xi (E 0) 22 = y2 from vi_e fy2)] at f16
    try rw [(show xi (E 0) 23 = y3 from vi_e fy3)] at f16
    try rw [(show xi (E8 0) 22 = y11 from vi_e fy11)] at f16
    try rw [(show xi (E8 0) 23 = y12 from vi_e fy12)] at f16
    try rw [(show xi (E 0) 22 = y2 from vi_e fy2)] at f17
    try rw [(show xi (E8 0) 22 = y11 from vi_e fy11)] at f17
    refine lv_istore_n (lv' := [(3, .int r7), (0, .ref (ad 0)), (1, .int a0), (2, .int a1)]) hx hb dX13_part_17 rfl hl (by decide) rfl (fun ls hl => ?_)
    have hL18 : ∀ d : Nat, ∀ (w18_0_21 : Int32) (w18_0_22 : Int32) (w18_0_23 : Int32) (v18_3 : Int32) (E18_ : Nat → va_E) (H : Heap) (locs : List Loc) (ls : Array Slot), 0 ≤ w18_0_21.toInt ∧ w18_0_21.toInt ≤ 201 → -1 ≤ w18_0_22.toInt ∧ w18_0_22.toInt ≤ 201 → 0 ≤ w18_0_23.toInt ∧ w18_0_23.toInt ≤ 8 → 0 ≤ v18_3.toInt ∧ v18_3.toInt ≤ 1 → y1.toInt ≤ w18_0_21.toInt → y3.toInt ≤ w18_0_23.toInt → (w18_0_22.toInt = -1 → w18_0_23.toInt = y3.toInt) → (w18_0_22.toInt = -1 → y2.toInt = -1) → LpM k (paY a0 n) (fun t m => opL t m isAnd jb (unY 0 n t m)) 0 E E18_ → 201 - w18_0_21.toInt < (d : Int) → IX cT shM spM 72 ad E18_ → Kp w_partX E E18_ → xv (E18_ 0) 21 = .int w18_0_21 → xv (E18_ 0) 22 = .int w18_0_22 → xv (E18_ 0) 23 = .int w18_0_23 → va_P (dC, dI) vwCl (WX 72 ad E18_) H → va_S A s.heap H locs → lv_has ls 5 [(3, .int v18_3), (0, .ref (ad 0)), (1, .int a0), (2, .int a1)] → W p l e (headSpec v_partX (rm_partX n)).room s m args below meth c H locs 0 0 Q (F0 m 18 ls []) := by
      intro d
      induction d with
      | zero =>
        intro w18_0_21 w18_0_22 w18_0_23 v18_3 E18_ H locs ls hw18_0_21 hw18_0_22 hw18_0_23 hv18_3 hx18_0 hx18_1 hx18_2 hx18_3 hx18_4 hx18_5 hI hKp hs18_0_21 hs18_0_22 hs18_0_23 hP hS hl
        exact absurd hx18_5 (by omega)
      | succ d ih18 =>
        intro w18_0_21 w18_0_22 w18_0_23 v18_3 E18_ H locs ls hw18_0_21 hw18_0_22 hw18_0_23 hv18_3 hx18_0 hx18_1 hx18_2 hx18_3 hx18_4 hx18_5 hI hKp hs18_0_21 hs18_0_22 hs18_0_23 hP hS hl
        refine lv_aload_n hx hb dX13_part_18 rfl (lv_at hl 1 rfl) ?_
        refine th_get (ci := 14) (C := RX13) (T := TX13) (N := 97) (v := .int w18_0_22) hx hb hts hinX13 hown hK hP hI 0 (Nat.le_of_ble_eq_true rfl) rfl rfl 22 (Nat.le_of_ble_eq_true rfl) (hts _ (vA_in _ _ (in_25 _ (zs16 (zs16 (zs4 (zs1 (zs1 (zs1 (zs0)))))))))) (fun _ h9 => h9) hs18_0_22 dX13_part_19 ?_
        refine lv_iconst (v := -1) hx hb dX13_part_22 (by decide) ?_
        refine lv_icmp_ne (tgt := 69) hx hb dX13_part_23 (by decide) (fun c21 => ?_) (fun c21 => ?_)
        · --23 taken
          have t22 : ¬ w18_0_22.toInt = -1 := ti_ne c21
          have i23 : 0 ≤ w18_0_22.toInt ∧ w18_0_22.toInt ≤ 201 := iv_ne_l t22 hw18_0_22 (il_ (-1))
          refine lv_iload_n hx hb dX13_part_69 rfl (lv_at hl 0 rfl) ?_
          rw [hQ]
          exact W.zret (v := v18_3) hx hb hr (nar_b1 hv18_3) (fun t ht hW => ⟨⟨v18_3, E18_, rfl, ⟨hI, hKp, ⟨hv18_3, by (try rw [(show xi (E18_ 0) 21 = w18_0_21 from vi_e hs18_0_21)]); (try rw [ey1]); first | done | exact hx18_0 | all_goals omega, by (try rw [(show xi (E18_ 0) 23 = w18_0_23 from vi_e hs18_0_23)]); (try rw [ey3]); first | done | exact hx18_1 | all_goals omega, by (try rw [(show xi (E18_ 0) 22 = w18_0_22 from vi_e hs18_0_22)]); (try rw [(show xi (E18_ 0) 23 = w18_0_23 from vi_e hs18_0_23)]); (try rw [ey2]); (try rw [ey3]); first | done | exact fun q9 => absurd (q9) t22 | all_goals omega, by (try rw [(show xi (E18_ 0) 22 = w18_0_22 from vi_e hs18_0_22)]); (try rw [ey2]); first | done | exact fun q9 => absurd (q9) t22 | all_goals omega, LpM.exF hx18_4 (by show ¬ (xi (E18_ 0) 22).toInt = -1; rw [show xi (E18_ 0) 22 = w18_0_22 from vi_e hs18_0_22]; omega)⟩⟩, by show va_P (dC, dI) vwCl (WX 72 ad E18_) t.heap; rw [ht]; exact hP⟩, hS.F ht⟩) hS.2.2 dX13_part_70
        · --23 not
          have t24 : w18_0_22.toInt = -1 := ti_eq c21
          have i25 : -1 ≤ w18_0_22.toInt ∧ w18_0_22.toInt ≤ -1 := iv_eqi t24 hw18_0_22 (il_ (-1)) (by decide)
          refine lv_aload_n hx hb dX13_part_26 rfl (lv_at hl 1 rfl) ?_
          refine th_i (va_runV (As := []) (rest := []) ⟨hx, hb, hml, hown, hts⟩ (q_lookX l dC dI cT ad E18_ H.size k nl hI (by exact hh0) (by exact hh1) (by exact hh2) (by exact (hKp 0 18 rfl).trans hh3) (by (try rw [hKp.ei 0 19 rfl]); exact hh4)) (cwV 0 hts (gi_V (in_26 _ (zs1 (zs1 (zs0)))) (in_26 _ (zs1 (zs1 (zs1 (zs0))))) (in_26 _ (zs4 (zs0))) (in_24 _ (zs4 (zs4 (zs4 (zs1 (zs1 (zs1 (zs0)))))))) (in_26 _ (zs4 (zs1 (zs0))))) rfl rfl rfl ⟨rfl, hz_yX13_look_0⟩ ⟨(show 0 + 1 ≤ 7 * n + 10 from nl_1 (Nat.le_of_ble_eq_true rfl)), (show 8 + (1 + 11) + 40 * (0) ≤ 40 * (7 * n + 10) from nl_2 (Nat.le_of_ble_eq_true rfl))⟩) ⟨HW_bl, va_recv hK hP (ci := 14) (q0 := 0) rfl (hI.ob 0 (Nat.le_of_ble_eq_true rfl) rfl), (HW_wi hP hK (WX_D hD) hS hA hEV)⟩ rfl rfl hl.1 rfl (lv_room (Nat.le_of_ble_eq_true rfl)) dX13_part_27 ⟨Nat.le_of_ble_eq_true rfl, Nat.le_of_ble_eq_true rfl⟩) (WX_D hD) hS hA (fun r26 E27 H locs hw hP hS => ?_)
          obtain ⟨hI, kq28, hw⟩ := hw
          have hKb := hKp
          have hKp := hKp.tr kq28 (wl_sub rfl rfl)
          obtain ⟨y29, ey29⟩ : ∃ y, xi (E27 0) 21 = y := ⟨_, rfl⟩
          have fy29 : xv (E27 0) 21 = .int y29 := (hI.fi 0 (Nat.le_of_ble_eq_true rfl) rfl (Nat.le_of_ble_eq_true rfl) rfl).trans (congrArg Value.int ey29)
          have iy29 : 0 ≤ y29.toInt ∧ y29.toInt ≤ 201 := by rw [← ey29]; exact hI.iv 0 (Nat.le_of_ble_eq_true rfl) rfl (Nat.le_of_ble_eq_true rfl) rfl
          obtain ⟨f30, f31, f32, f33, f34⟩ := hw
          try rw [(show xi (E18_ 0) 21 = w18_0_21 from vi_e hs18_0_21)] at f31
          try rw [(show xi (E27 0) 21 = y29 from vi_e fy29)] at f31
          try rw [(show xi (E18_ 0) 21 = w18_0_21 from vi_e hs18_0_21)] at f32
          try rw [hKb.ei 0 20 rfl] at f32
          try rw [(show xi (E27 0) 21 = y29 from vi_e fy29)] at f32
          try rw [(show xi (E18_ 0) 21 = w18_0_21 from vi_e hs18_0_21)] at f33
          try rw [hKb.ei 0 20 rfl] at f33
          try rw [(show xi (E27 0) 21 = y29 from vi_e fy29)] at f33
          refine lv_bipush (v := 38) hx hb dX13_part_30 (by decide) ?_
          refine lv_icmp_ne (tgt := 69) hx hb dX13_part_32 (by decide) (fun c35 => ?_) (fun c35 => ?_)
          · --32 taken
            have t36 : ¬ r26.toInt = 38 := ti_ne c35
            refine lv_iload_n hx hb dX13_part_69 rfl (lv_at hl 0 rfl) ?_
            rw [hQ]
            exact W.zret (v := v18_3) hx hb hr (nar_b1 hv18_3) (fun t ht hW => ⟨⟨v18_3, E27, rfl, ⟨hI, hKp, ⟨hv18_3, by (try rw [(show xi (E27 0) 21 = y29 from vi_e fy29)]); (try rw [ey1]); first | done | exact (Int.le_trans hx18_0 f31) | all_goals omega, by (try rw [(show xi (E27 0) 23 = w18_0_23 from vi_e ((kq28 0 23 rfl).trans hs18_0_23))]); (try rw [ey3]); first | done | exact hx18_1 | all_goals omega, by (try rw [(show xi (E27 0) 22 = w18_0_22 from vi_e ((kq28 0 22 rfl).trans hs18_0_22))]); (try rw [(show xi (E27 0) 23 = w18_0_23 from vi_e ((kq28 0 23 rfl).trans hs18_0_23))]); (try rw [ey2]); (try rw [ey3]); first | done | exact fun q9 => (hx18_2 (q9)) | all_goals omega, by (try rw [(show xi (E27 0) 22 = w18_0_22 from vi_e ((kq28 0 22 rfl).trans hs18_0_22))]); (try rw [ey2]); first | done | exact fun q9 => hx18_3 (q9) | all_goals omega, LpM.exit (op := isAnd) hx18_4 f34 (fun q9 => by have q8 := is_and.mp q9; omega) (fun t m a c h => opL_0 h)⟩⟩, by show va_P (dC, dI) vwCl (WX 72 ad E27) t.heap; rw [ht]; exact hP⟩, hS.F ht⟩) hS.2.2 dX13_part_70
          · --32 not
            have t37 : r26.toInt = 38 := ti_eq c35
            have i38 : 38 ≤ r26.toInt ∧ r26.toInt ≤ 38 := iv_eqi t37 f30 (il_ 38) (by decide)
            refine lv_aload_n hx hb dX13_part_35 rfl (lv_at hl 1 rfl) ?_
            refine lv_dup hx hb dX13_part_36 rfl ?_
            refine th_get (ci := 14) (C := RX13) (T := TX13) (N := 97) (v := .int y29) hx hb hts hinX13 hown hK hP hI 0 (Nat.le_of_ble_eq_true rfl) rfl rfl 21 (Nat.le_of_ble_eq_true rfl) (hts _ (vA_in _ _ (in_25 _ (zs16 (zs16 (zs4 (zs0))))))) (fun _ h9 => h9) fy29 dX13_part_37 ?_
            refine lv_iconst (v := 1) hx hb dX13_part_40 (by decide) ?_
            refine lv_iadd hx hb dX13_part_41 ?_
            refine lv_topi (fun y39 ey39 => ?_)
            obtain ⟨ty39, iy39⟩ := ti_add (e := 1) (f := 202) iy29 ln_1 ey39 (by decide)
            have ty39 : y39.toInt = y29.toInt + 1 := ty39
            have iy39 : 1 ≤ y39.toInt ∧ y39.toInt ≤ 202 := iy39
            have i40 : 1 ≤ y39.toInt ∧ y39.toInt ≤ 201 := by omega
            refine th_put (ci := 14) (C := RX13) (T := TX13) (N := 97) (v := .int y39) (ty := .int) hx hb hts hinX13 tyX13 tyX13_ok nmX13 hown hK hP (WX_D hD) hS hI 0 (Nat.le_of_ble_eq_true rfl) rfl rfl 21 (Nat.le_of_ble_eq_true rfl) (hts _ (vA_in _ _ (in_25 _ (zs16 (zs16 (zs4 (zs0))))))) (fun _ h9 => h9) rfl (by decide +kernel) rfl rfl (okI rfl (iv_w i40 (by decide))) dX13_part_42 (fun H locs E41 pw42 hI hP hS => ?_)
            have hKp := hKp.pw pw42 rfl
            have k43 : AtM k E27 E41 := AtM.pw pw42.2 hk0 (vi_e fy29) (vi_e pw42.1) ty39 (by omega)
            refine lv_aload_n hx hb dX13_part_45 rfl (lv_at hl 1 rfl) ?_
            refine th_i (va_runV (As := []) (rest := []) ⟨hx, hb, hml, hown, hts⟩ (gU dC dI cT ad E41 H.size k nl hI (by exact hh0) (by exact hh1) (by exact hh2) (by exact (hKp 0 18 rfl).trans hh3) (by (try rw [hKp.ei 0 19 rfl]); exact hh4) (by (try rw [(show xi (E41 0) 23 = w18_0_23 from vi_e ((pw42.2 0 23 (fun q9 => absurd q9.2 (Nat.ne_of_beq_eq_false rfl))).trans ((kq28 0 23 rfl).trans hs18_0_23)))]); omega) (by (try rw [(show xi (E41 0) 22 = w18_0_22 from vi_e ((pw42.2 0 22 (fun q9 => absurd q9.2 (Nat.ne_of_beq_eq_false rfl))).trans ((kq28 0 22 rfl).trans hs18_0_22)))]); omega)) (cwV 0 hts (gi_V (in_29 _ (zs16 (zs16 (zs1 (zs0))))) (in_29 _ (zs16 (zs16 (zs1 (zs1 (zs0)))))) (in_29 _ (zs16 (zs16 (zs1 (zs1 (zs1 (zs0))))))) (in_24 _ (zs4 (zs4 (zs4 (zs1 (zs1 (zs1 (zs0)))))))) (in_29 _ (zs16 (zs16 (zs4 (zs0)))))) rfl rfl rfl (by decide +kernel) ⟨(show 7 * n + 9 + 1 ≤ 7 * n + 10 from nl_4 (Nat.le_of_ble_eq_true rfl) (Nat.le_of_ble_eq_true rfl)), (show 8 + (3 + 11) + 40 * (7 * n + 9) ≤ 40 * (7 * n + 10) from nl_3 (Nat.le_of_ble_eq_true rfl) (Nat.le_of_ble_eq_true rfl))⟩) ⟨HW_bl, va_recv hK hP (ci := 14) (q0 := 0) rfl (hI.ob 0 (Nat.le_of_ble_eq_true rfl) rfl), (HW_wi hP hK (WX_D hD) hS hA hEV)⟩ rfl rfl hl.1 rfl (lv_room (Nat.le_of_ble_eq_true rfl)) dX13_part_46 ⟨Nat.le_of_ble_eq_true rfl, Nat.le_of_ble_eq_true rfl⟩) (WX_D hD) hS hA (fun r44 E45 H locs hw hP hS => ?_)
            obtain ⟨hI, kq46, hw⟩ := hw
            have hKb := hKp
            have hKp := hKp.tr kq46 (wl_sub rfl rfl)
            obtain ⟨y47, ey47⟩ : ∃ y, xi (E45 0) 21 = y := ⟨_, rfl⟩
            have fy47 : xv (E45 0) 21 = .int y47 := (hI.fi 0 (Nat.le_of_ble_eq_true rfl) rfl (Nat.le_of_ble_eq_true rfl) rfl).trans (congrArg Value.int ey47)
            have iy47 : 0 ≤ y47.toInt ∧ y47.toInt ≤ 201 := by rw [← ey47]; exact hI.iv 0 (Nat.le_of_ble_eq_true rfl) rfl (Nat.le_of_ble_eq_true rfl) rfl
            obtain ⟨y48, ey48⟩ : ∃ y, xi (E45 0) 22 = y := ⟨_, rfl⟩
            have fy48 : xv (E45 0) 22 = .int y48 := (hI.fi 0 (Nat.le_of_ble_eq_true rfl) rfl (Nat.le_of_ble_eq_true rfl) rfl).trans (congrArg Value.int ey48)
            have iy48 : -1 ≤ y48.toInt ∧ y48.toInt ≤ 201 := by rw [← ey48]; exact hI.iv 0 (Nat.le_of_ble_eq_true rfl) rfl (Nat.le_of_ble_eq_true rfl) rfl
            obtain ⟨y49, ey49⟩ : ∃ y, xi (E45 0) 23 = y := ⟨_, rfl⟩
            have fy49 : xv (E45 0) 23 = .int y49 := (hI.fi 0 (Nat.le_of_ble_eq_true rfl) rfl (Nat.le_of_ble_eq_true rfl) rfl).trans (congrArg Value.int ey49)
            have iy49 : 0 ≤ y49.toInt ∧ y49.toInt ≤ 8 := by rw [← ey49]; exact hI.iv 0 (Nat.le_of_ble_eq_true rfl) rfl (Nat.le_of_ble_eq_true rfl) rfl
            obtain ⟨f50, f51, f52, f53, f54, f55⟩ := hw
            try rw [(show xi (E41 0) 21 = y39 from vi_e pw42.1)] at f51
            try rw [(show xi (E45 0) 21 = y47 from vi_e fy47)] at f51
            try rw [(show xi (E41 0) 23 = w18_0_23 from vi_e ((pw42.2 0 23 (fun q9 => absurd q9.2 (Nat.ne_of_beq_eq_false rfl))).trans ((kq28 0 23 rfl).trans hs18_0_23)))] at f52
            try rw [(show xi (E45 0) 23 = y49 from vi_e fy49)] at f52
            try rw [(show xi (E41 0) 22 = w18_0_22 from vi_e ((pw42.2 0 22 (fun q9 => absurd q9.2 (Nat.ne_of_beq_eq_false rfl))).trans ((kq28 0 22 rfl).trans hs18_0_22)))] at f53
            try rw [(show xi (E41 0) 23 = w18_0_23 from vi_e ((pw42.2 0 23 (fun q9 => absurd q9.2 (Nat.ne_of_beq_eq_false rfl))).trans ((kq28 0 23 rfl).trans hs18_0_23)))] at f53
            try rw [(show xi (E45 0) 22 = y48 from vi_e fy48)] at f53
            try rw [(show xi (E45 0) 23 = y49 from vi_e fy49)] at f53
            try rw [(show xi (E41 0) 22 = w18_0_22 from vi_e ((pw42.2 0 22 (fun q9 => absurd q9.2 (Nat.ne_of_beq_eq_false rfl))).trans ((kq28 0 22 rfl).trans hs18_0_22)))] at f54
            try rw [(show xi (E45 0) 22 = y48 from vi_e fy48)] at f54
            refine lv_istore (lv' := [(4, .int r44), (3, .int v18_3), (0, .ref (ad 0)), (1, .int a0), (2, .int a1)]) hx hb dX13_part_49 hl (by decide) rfl (fun ls hl => ?_)
            refine lv_iload_n hx hb dX13_part_51 rfl (lv_at hl 1 rfl) ?_
            refine lv_if_eq (tgt := 64) hx hb dX13_part_52 (by decide) (fun c56 => ?_) (fun c56 => ?_)
            · --52 taken
              have t57 : v18_3.toInt = 0 := ti_eq c56
              have i58 : 0 ≤ v18_3.toInt ∧ v18_3.toInt ≤ 0 := iv_eqi t57 hv18_3 (il_ 0) (by decide)
              refine lv_iconst (v := 0) hx hb dX13_part_64 (by decide) ?_
              refine lv_istore_n (lv' := [(3, .int 0), (4, .int r44), (0, .ref (ad 0)), (1, .int a0), (2, .int a1)]) hx hb dX13_part_65 rfl hl (by decide) rfl (fun ls hl => ?_)
              refine lv_goto (tgt := 18) hx hb dX13_part_66 (by decide) ?_
              exact ih18 y47 y48 y49 (0 : Int32) E45 _ _ _ iy47 iy48 iy49 (iv_w ln_0 (by decide)) (by  first | exact (Int.le_trans (Int.le_trans (Int.le_trans hx18_0 f31) (Int.le_trans (Int.le_add_of_nonneg_right (by decide)) (Int.le_of_eq ty39.symm))) f51) | omega) (by  first | exact (Int.le_trans hx18_1 f52) | omega) (by  first | exact fun q9 => ((f53 (q9)).trans (hx18_2 (f54 (q9)))) | omega) (by  first | exact fun q9 => hx18_3 (f54 (q9)) | omega) (LpM.step (op := isAnd) (cb := jb) hx18_4 f34 (is_and.mpr (by omega)) (by show (xi (E18_ 0) 22).toInt = -1; rw [show xi (E18_ 0) 22 = w18_0_22 from vi_e hs18_0_22]; first | exact t24 | omega) k43 f55 KM.rf (by decide) (fun t m => unY_mono n t m) (fun t m a c h => opL_1 (unY_mono n t m) rfl h)) (by omega) hI hKp fy47 fy48 fy49 hP hS (lv_sub hl [0, 2, 3, 4] rfl)
            · --52 not
              have t59 : ¬ v18_3.toInt = 0 := ti_ne c56
              have i60 : 1 ≤ v18_3.toInt ∧ v18_3.toInt ≤ 1 := iv_ne_l t59 hv18_3 (il_ 0)
              refine lv_iload hx hb dX13_part_55 (lv_at hl 0 rfl) ?_
              refine lv_if_eq (tgt := 64) hx hb dX13_part_57 (by decide) (fun c61 => ?_) (fun c61 => ?_)
              · --57 taken
                have t62 : r44.toInt = 0 := ti_eq c61
                have i63 : 0 ≤ r44.toInt ∧ r44.toInt ≤ 0 := iv_eqi t62 f50 (il_ 0) (by decide)
                refine lv_iconst (v := 0) hx hb dX13_part_64 (by decide) ?_
                refine lv_istore_n (lv' := [(3, .int 0), (4, .int r44), (0, .ref (ad 0)), (1, .int a0), (2, .int a1)]) hx hb dX13_part_65 rfl hl (by decide) rfl (fun ls hl => ?_)
                refine lv_goto (tgt := 18) hx hb dX13_part_66 (by decide) ?_
                exact ih18 y47 y48 y49 (0 : Int32) E45 _ _ _ iy47 iy48 iy49 (iv_w ln_0 (by decide)) (by  first | exact (Int.le_trans (Int.le_trans (Int.le_trans hx18_0 f31) (Int.le_trans (Int.le_add_of_nonneg_right (by decide)) (Int.le_of_eq ty39.symm))) f51) | omega) (by  first | exact (Int.le_trans hx18_1 f52) | omega) (by  first | exact fun q9 => ((f53 (q9)).trans (hx18_2 (f54 (q9)))) | omega) (by  first | exact fun q9 => hx18_3 (f54 (q9)) | omega) (LpM.step (op := isAnd) (cb := jb) hx18_4 f34 (is_and.mpr (by omega)) (by show (xi (E18_ 0) 22).toInt = -1; rw [show xi (E18_ 0) 22 = w18_0_22 from vi_e hs18_0_22]; first | exact t24 | omega) k43 f55 KM.rf (by decide) (fun t m => unY_mono n t m) (fun t m a c h => opL_1 (unY_mono n t m) rfl h)) (by omega) hI hKp fy47 fy48 fy49 hP hS (lv_sub hl [0, 2, 3, 4] rfl)
              · --57 not
                have t64 : ¬ r44.toInt = 0 := ti_ne c61
                have i65 : 1 ≤ r44.toInt ∧ r44.toInt ≤ 1 := iv_ne_l t64 f50 (il_ 0)
                refine lv_iconst (v := 1) hx hb dX13_part_60 (by decide) ?_
                refine lv_goto (tgt := 65) hx hb dX13_part_61 (by decide) ?_
                refine lv_istore_n (lv' := [(3, .int 1), (4, .int r44), (0, .ref (ad 0)), (1, .int a0), (2, .int a1)]) hx hb dX13_part_65 rfl hl (by decide) rfl (fun ls hl => ?_)
                refine lv_goto (tgt := 18) hx hb dX13_part_66 (by decide) ?_
                exact ih18 y47 y48 y49 (1 : Int32) E45 _ _ _ iy47 iy48 iy49 (iv_w ln_1 (by decide)) (by  first | exact (Int.le_trans (Int.le_trans (Int.le_trans hx18_0 f31) (Int.le_trans (Int.le_add_of_nonneg_right (by decide)) (Int.le_of_eq ty39.symm))) f51) | omega) (by  first | exact (Int.le_trans hx18_1 f52) | omega) (by  first | exact fun q9 => ((f53 (q9)).trans (hx18_2 (f54 (q9)))) | omega) (by  first | exact fun q9 => hx18_3 (f54 (q9)) | omega) (LpM.step (op := isAnd) (cb := jb) hx18_4 f34 (is_and.mpr (by omega)) (by show (xi (E18_ 0) 22).toInt = -1; rw [show xi (E18_ 0) 22 = w18_0_22 from vi_e hs18_0_22]; first | exact t24 | omega) k43 f55 KM.rf (by decide) (fun t m => unY_mono n t m) (fun t m a c h => opL_1 (unY_mono n t m) rfl h)) (by omega) hI hKp fy47 fy48 fy49 hP hS (lv_sub hl [0, 2, 3, 4] rfl)
    exact hL18 (202) y10 y11 y12 r7 E8 _ _ _ iy10 iy11 iy12 f13 (by  first | exact f14 | omega) (by  first | exact f15 | omega) (by  first | exact fun q9 => (f16 (q9)) | omega) (by  first | exact fun q9 => f17 (q9) | omega) (LpM.start (unM_0 (w := a0) (by omega) f18) lmP (Int.le_refl _)) (by have h9 := iy10; omega) hI hKp fy10 fy11 fy12 hP hS (lv_sub hl [0, 1, 2, 3] rfl)
  · --1 not
    have t66 : ¬ a0.toInt = 0 := ti_ne c4
    have i67 : 1 ≤ a0.toInt ∧ a0.toInt ≤ 1 := iv_ne_l t66 hh7 (il_ 0)
    refine lv_aload_n hx hb dX13_part_4 rfl (lv_at hl 0 rfl) ?_
    refine lv_iconst (v := 1) hx hb dX13_part_5 (by decide) ?_
    refine lv_iload_n hx hb dX13_part_6 rfl (lv_at hl 2 rfl) ?_
    have z1 := ln_1
    refine th_i (va_runV (As := [.int 1, .int a1]) (rest := []) ⟨hx, hb, hml, hown, hts⟩ (gC dC dI cT ad E s.heap.size (1 : Int32) a1 k nl hI (by exact hh0) (by exact hh1) (by exact hh2) (by exact hh3) (by exact hh4) (by (try rw [(show xi (E 0) 23 = y3 from vi_e fy3)]); omega) (by (try rw [(show xi (E 0) 22 = y2 from vi_e fy2)]); omega) (iv_w ln_1 (by decide))) (cwV 2 hts (gi_V (in_29 _ (zs16 (zs4 (zs4 (zs1 (zs1 (zs0))))))) (in_29 _ (zs16 (zs4 (zs4 (zs1 (zs1 (zs1 (zs0)))))))) (in_29 _ (zs16 (zs4 (zs4 (zs4 (zs0)))))) (in_24 _ (zs4 (zs4 (zs4 (zs1 (zs1 (zs1 (zs0)))))))) (in_29 _ (zs16 (zs4 (zs4 (zs4 (zs1 (zs0)))))))) rfl rfl rfl (by decide +kernel) ⟨(show 7 * n + 8 + 1 ≤ 7 * n + 10 from nl_4 (Nat.le_of_ble_eq_true rfl) (Nat.le_of_ble_eq_true rfl)), (show 8 + (6 + 11) + 40 * (7 * n + 8) ≤ 40 * (7 * n + 10) from nl_3 (Nat.le_of_ble_eq_true rfl) (Nat.le_of_ble_eq_true rfl))⟩) ⟨HW_bl, va_recv hK hP (ci := 14) (q0 := 0) rfl (hI.ob 0 (Nat.le_of_ble_eq_true rfl) rfl), (HW_wi hP hK (WX_D hD) hS hA hEV)⟩ rfl rfl hl.1 rfl (lv_room (Nat.le_of_ble_eq_true rfl)) dX13_part_7 ⟨Nat.le_of_ble_eq_true rfl, Nat.le_of_ble_eq_true rfl⟩) (WX_D hD) hS hA (fun r68 E69 H locs hw hP hS => ?_)
    obtain ⟨hI, kq70, hw⟩ := hw
    have hKb := hKp
    have hKp := hKp.tr kq70 (wl_sub rfl rfl)
    obtain ⟨y71, ey71⟩ : ∃ y, xi (E69 0) 21 = y := ⟨_, rfl⟩
    have fy71 : xv (E69 0) 21 = .int y71 := (hI.fi 0 (Nat.le_of_ble_eq_true rfl) rfl (Nat.le_of_ble_eq_true rfl) rfl).trans (congrArg Value.int ey71)
    have iy71 : 0 ≤ y71.toInt ∧ y71.toInt ≤ 201 := by rw [← ey71]; exact hI.iv 0 (Nat.le_of_ble_eq_true rfl) rfl (Nat.le_of_ble_eq_true rfl) rfl
    obtain ⟨y72, ey72⟩ : ∃ y, xi (E69 0) 22 = y := ⟨_, rfl⟩
    have fy72 : xv (E69 0) 22 = .int y72 := (hI.fi 0 (Nat.le_of_ble_eq_true rfl) rfl (Nat.le_of_ble_eq_true rfl) rfl).trans (congrArg Value.int ey72)
    have iy72 : -1 ≤ y72.toInt ∧ y72.toInt ≤ 201 := by rw [← ey72]; exact hI.iv 0 (Nat.le_of_ble_eq_true rfl) rfl (Nat.le_of_ble_eq_true rfl) rfl
    obtain ⟨y73, ey73⟩ : ∃ y, xi (E69 0) 23 = y := ⟨_, rfl⟩
    have fy73 : xv (E69 0) 23 = .int y73 := (hI.fi 0 (Nat.le_of_ble_eq_true rfl) rfl (Nat.le_of_ble_eq_true rfl) rfl).trans (congrArg Value.int ey73)
    have iy73 : 0 ≤ y73.toInt ∧ y73.toInt ≤ 8 := by rw [← ey73]; exact hI.iv 0 (Nat.le_of_ble_eq_true rfl) rfl (Nat.le_of_ble_eq_true rfl) rfl
    obtain ⟨f74, f75, f76, f77, f78, f79⟩ := hw
    have i80 : 0 ≤ (xi (E 0) 19).toInt ∧ (xi (E 0) 19).toInt ≤ 3000 := (show 0 ≤ (xi (E 0) 19).toInt ∧ (xi (E 0) 19).toInt ≤ 3000 from hI0.iv 0 (Nat.le_of_ble_eq_true rfl) rfl (Nat.le_of_ble_eq_true rfl) rfl)
    have i81 : 0 ≤ (xi (E 0) 20).toInt ∧ (xi (E 0) 20).toInt ≤ 200 := (show 0 ≤ (xi (E 0) 20).toInt ∧ (xi (E 0) 20).toInt ≤ 200 from hI0.iv 0 (Nat.le_of_ble_eq_true rfl) rfl (Nat.le_of_ble_eq_true rfl) rfl)
    try rw [(show xi (E 0) 21 = y1 from vi_e fy1)] at f75
    try rw [(show xi (E69 0) 21 = y71 from vi_e fy71)] at f75
    try rw [(show xi (E 0) 23 = y3 from vi_e fy3)] at f76
    try rw [(show xi (E69 0) 23 = y73 from vi_e fy73)] at f76
    try rw [(show xi (E 0) 22 = y2 from vi_e fy2)] at f77
    try rw [(show xi (E 0) 23 = y3 from vi_e fy3)] at f77
    try rw [(show xi (E69 0) 22 = y72 from vi_e fy72)] at f77
    try rw [(show xi (E69 0) 23 = y73 from vi_e fy73)] at f77
    try rw [(show xi (E 0) 22 = y2 from vi_e fy2)] at f78
    try rw [(show xi (E69 0) 22 = y72 from vi_e fy72)] at f78
    refine lv_goto (tgt := 17) hx hb dX13_part_10 (by decide) ?_
    refine lv_istore_n (lv' := [(3, .int r68), (0, .ref (ad 0)), (1, .int a0), (2, .int a1)]) hx hb dX13_part_17 rfl hl (by decide) rfl (fun ls hl => ?_)
    have hL18 : ∀ d : Nat, ∀ (w18_0_21 : Int32) (w18_0_22 : Int32) (w18_0_23 : Int32) (v18_3 : Int32) (E18_ : Nat → va_E) (H : Heap) (locs : List Loc) (ls : Array Slot), 0 ≤ w18_0_21.toInt ∧ w18_0_21.toInt ≤ 201 → -1 ≤ w18_0_22.toInt ∧ w18_0_22.toInt ≤ 201 → 0 ≤ w18_0_23.toInt ∧ w18_0_23.toInt ≤ 8 → 0 ≤ v18_3.toInt ∧ v18_3.toInt ≤ 1 → y1.toInt ≤ w18_0_21.toInt → y3.toInt ≤ w18_0_23.toInt → (w18_0_22.toInt = -1 → w18_0_23.toInt = y3.toInt) → (w18_0_22.toInt = -1 → y2.toInt = -1) → LpM k (paY a0 n) (fun t m => opL t m isAnd jb (unY 0 n t m)) 0 E E18_ → 201 - w18_0_21.toInt < (d : Int) → IX cT shM spM 72 ad E18_ → Kp w_partX E E18_ → xv (E18_ 0) 21 = .int w18_0_21 → xv (E18_ 0) 22 = .int w18_0_22 → xv (E18_ 0) 23 = .int w18_0_23 → va_P (dC, dI) vwCl (WX 72 ad E18_) H → va_S A s.heap H locs → lv_has ls 5 [(3, .int v18_3), (0, .ref (ad 0)), (1, .int a0), (2, .int a1)] → W p l e (headSpec v_partX (rm_partX n)).room s m args below meth c H locs 0 0 Q (F0 m 18 ls []) := by
      intro d
      induction d with
      | zero =>
        intro w18_0_21 w18_0_22 w18_0_23 v18_3 E18_ H locs ls hw18_0_21 hw18_0_22 hw18_0_23 hv18_3 hx18_0 hx18_1 hx18_2 hx18_3 hx18_4 hx18_5 hI hKp hs18_0_21 hs18_0_22 hs18_0_23 hP hS hl
        exact absurd hx18_5 (by omega)
      | succ d ih18 =>
        intro w18_0_21 w18_0_22 w18_0_23 v18_3 E18_ H locs ls hw18_0_21 hw18_0_22 hw18_0_23 hv18_3 hx18_0 hx18_1 hx18_2 hx18_3 hx18_4 hx18_5 hI hKp hs18_0_21 hs18_0_22 hs18_0_23 hP hS hl
        refine lv_aload_n hx hb dX13_part_18 rfl (lv_at hl 1 rfl) ?_
        refine th_get (ci := 14) (C := RX13) (T := TX13) (N := 97) (v := .int w18_0_22) hx hb hts hinX13 hown hK hP hI 0 (Nat.le_of_ble_eq_true rfl) rfl rfl 22 (Nat.le_of_ble_eq_true rfl) (hts _ (vA_in _ _ (in_25 _ (zs16 (zs16 (zs4 (zs1 (zs1 (zs1 (zs0)))))))))) (fun _ h9 => h9) hs18_0_22 dX13_part_19 ?_
        refine lv_iconst (v := -1) hx hb dX13_part_22 (by decide) ?_
        refine lv_icmp_ne (tgt := 69) hx hb dX13_part_23 (by decide) (fun c82 => ?_) (fun c82 => ?_)
        · --23 taken
          have t83 : ¬ w18_0_22.toInt = -1 := ti_ne c82
          have i84 : 0 ≤ w18_0_22.toInt ∧ w18_0_22.toInt ≤ 201 := iv_ne_l t83 hw18_0_22 (il_ (-1))
          refine lv_iload_n hx hb dX13_part_69 rfl (lv_at hl 0 rfl) ?_
          rw [hQ]
          exact W.zret (v := v18_3) hx hb hr (nar_b1 hv18_3) (fun t ht hW => ⟨⟨v18_3, E18_, rfl, ⟨hI, hKp, ⟨hv18_3, by (try rw [(show xi (E18_ 0) 21 = w18_0_21 from vi_e hs18_0_21)]); (try rw [ey1]); first | done | exact hx18_0 | all_goals omega, by (try rw [(show xi (E18_ 0) 23 = w18_0_23 from vi_e hs18_0_23)]); (try rw [ey3]); first | done | exact hx18_1 | all_goals omega, by (try rw [(show xi (E18_ 0) 22 = w18_0_22 from vi_e hs18_0_22)]); (try rw [(show xi (E18_ 0) 23 = w18_0_23 from vi_e hs18_0_23)]); (try rw [ey2]); (try rw [ey3]); first | done | exact fun q9 => absurd (q9) t83 | all_goals omega, by (try rw [(show xi (E18_ 0) 22 = w18_0_22 from vi_e hs18_0_22)]); (try rw [ey2]); first | done | exact fun q9 => absurd (q9) t83 | all_goals omega, LpM.exF hx18_4 (by show ¬ (xi (E18_ 0) 22).toInt = -1; rw [show xi (E18_ 0) 22 = w18_0_22 from vi_e hs18_0_22]; omega)⟩⟩, by show va_P (dC, dI) vwCl (WX 72 ad E18_) t.heap; rw [ht]; exact hP⟩, hS.F ht⟩) hS.2.2 dX13_part_70
        · --23 not
          have t85 : w18_0_22.toInt = -1 := ti_eq c82
          have i86 : -1 ≤ w18_0_22.toInt ∧ w18_0_22.toInt ≤ -1 := iv_eqi t85 hw18_0_22 (il_ (-1)) (by decide)
          refine lv_aload_n hx hb dX13_part_26 rfl (lv_at hl 1 rfl) ?_
          refine th_i (va_runV (As := []) (rest := []) ⟨hx, hb, hml, hown, hts⟩ (q_lookX l dC dI cT ad E18_ H.size k nl hI (by exact hh0) (by exact hh1) (by exact hh2) (by exact (hKp 0 18 rfl).trans hh3) (by (try rw [hKp.ei 0 19 rfl]); exact hh4)) (cwV 0 hts (gi_V (in_26 _ (zs1 (zs1 (zs0)))) (in_26 _ (zs1 (zs1 (zs1 (zs0))))) (in_26 _ (zs4 (zs0))) (in_24 _ (zs4 (zs4 (zs4 (zs1 (zs1 (zs1 (zs0)))))))) (in_26 _ (zs4 (zs1 (zs0))))) rfl rfl rfl ⟨rfl, hz_yX13_look_0⟩ ⟨(show 0 + 1 ≤ 7 * n + 10 from nl_1 (Nat.le_of_ble_eq_true rfl)), (show 8 + (1 + 11) + 40 * (0) ≤ 40 * (7 * n + 10) from nl_2 (Nat.le_of_ble_eq_true rfl))⟩) ⟨HW_bl, va_recv hK hP (ci := 14) (q0 := 0) rfl (hI.ob 0 (Nat.le_of_ble_eq_true rfl) rfl), (HW_wi hP hK (WX_D hD) hS hA hEV)⟩ rfl rfl hl.1 rfl (lv_room (Nat.le_of_ble_eq_true rfl)) dX13_part_27 ⟨Nat.le_of_ble_eq_true rfl, Nat.le_of_ble_eq_true rfl⟩) (WX_D hD) hS hA (fun r87 E88 H locs hw hP hS => ?_)
          obtain ⟨hI, kq89, hw⟩ := hw
          have hKb := hKp
          have hKp := hKp.tr kq89 (wl_sub rfl rfl)
          obtain ⟨y90, ey90⟩ : ∃ y, xi (E88 0) 21 = y := ⟨_, rfl⟩
          have fy90 : xv (E88 0) 21 = .int y90 := (hI.fi 0 (Nat.le_of_ble_eq_true rfl) rfl (Nat.le_of_ble_eq_true rfl) rfl).trans (congrArg Value.int ey90)
          have iy90 : 0 ≤ y90.toInt ∧ y90.toInt ≤ 201 := by rw [← ey90]; exact hI.iv 0 (Nat.le_of_ble_eq_true rfl) rfl (Nat.le_of_ble_eq_true rfl) rfl
          obtain ⟨f91, f92, f93, f94, f95⟩ := hw
          try rw [(show xi (E18_ 0) 21 = w18_0_21 from vi_e hs18_0_21)] at f92
          try rw [(show xi (E88 0) 21 = y90 from vi_e fy90)] at f92
          try rw [(show xi (E18_ 0) 21 = w18_0_21 from vi_e hs18_0_21)] at f93
          try rw [hKb.ei 0 20 rfl] at f93
          try rw [(show xi (E88 0) 21 = y90 from vi_e fy90)] at f93
          try rw [(show xi (E18_ 0) 21 = w18_0_21 from vi_e hs18_0_21)] at f94
          try rw [hKb.ei 0 20 rfl] at f94
          try rw [(show xi (E88 0) 21 = y90 from vi_e fy90)] at f94
          refine lv_bipush (v := 38) hx hb dX13_part_30 (by decide) ?_
          refine lv_icmp_ne (tgt := 69) hx hb dX13_part_32 (by decide) (fun c96 => ?_) (fun c96 => ?_)
          · --32 taken
            have t97 : ¬ r87.toInt = 38 := ti_ne c96
            refine lv_iload_n hx hb dX13_part_69 rfl (lv_at hl 0 rfl) ?_
            rw [hQ]
            exact W.zret (v := v18_3) hx hb hr (nar_b1 hv18_3) (fun t ht hW => ⟨⟨v18_3, E88, rfl, ⟨hI, hKp, ⟨hv18_3, by (try rw [(show xi (E88 0) 21 = y90 from vi_e fy90)]); (try rw [ey1]); first | done | exact (Int.le_trans hx18_0 f92) | all_goals omega, by (try rw [(show xi (E88 0) 23 = w18_0_23 from vi_e ((kq89 0 23 rfl).trans hs18_0_23))]); (try rw [ey3]); first | done | exact hx18_1 | all_goals omega, by (try rw [(show xi (E88 0) 22 = w18_0_22 from vi_e ((kq89 0 22 rfl).trans hs18_0_22))]); (try rw [(show xi (E88 0) 23 = w18_0_23 from vi_e ((kq89 0 23 rfl).trans hs18_0_23))]); (try rw [ey2]); (try rw [ey3]); first | done | exact fun q9 => (hx18_2 (q9)) | all_goals omega, by (try rw [(show xi (E88 0) 22 = w18_0_22 from vi_e ((kq89 0 22 rfl).trans hs18_0_22))]); (try rw [ey2]); first | done | exact fun q9 => hx18_3 (q9) | all_goals omega, LpM.exit (op := isAnd) hx18_4 f95 (fun q9 => by have q8 := is_and.mp q9; omega) (fun t m a c h => opL_0 h)⟩⟩, by show va_P (dC, dI) vwCl (WX 72 ad E88) t.heap; rw [ht]; exact hP⟩, hS.F ht⟩) hS.2.2 dX13_part_70
          · --32 not
            have t98 : r87.toInt = 38 := ti_eq c96
            have i99 : 38 ≤ r87.toInt ∧ r87.toInt ≤ 38 := iv_eqi t98 f91 (il_ 38) (by decide)
            refine lv_aload_n hx hb dX13_part_35 rfl (lv_at hl 1 rfl) ?_
            refine lv_dup hx hb dX13_part_36 rfl ?_
            refine th_get (ci := 14) (C := RX13) (T := TX13) (N := 97) (v := .int y90) hx hb hts hinX13 hown hK hP hI 0 (Nat.le_of_ble_eq_true rfl) rfl rfl 21 (Nat.le_of_ble_eq_true rfl) (hts _ (vA_in _ _ (in_25 _ (zs16 (zs16 (zs4 (zs0))))))) (fun _ h9 => h9) fy90 dX13_part_37 ?_
            refine lv_iconst (v := 1) hx hb dX13_part_40 (by decide) ?_
            refine lv_iadd hx hb dX13_part_41 ?_
            refine lv_topi (fun y100 ey100 => ?_)
            obtain ⟨ty100, iy100⟩ := ti_add (e := 1) (f := 202) iy90 ln_1 ey100 (by decide)
            have ty100 : y100.toInt = y90.toInt + 1 := ty100
            have iy100 : 1 ≤ y100.toInt ∧ y100.toInt ≤ 202 := iy100
            have i101 : 1 ≤ y100.toInt ∧ y100.toInt ≤ 201 := by omega
            refine th_put (ci := 14) (C := RX13) (T := TX13) (N := 97) (v := .int y100) (ty := .int) hx hb hts hinX13 tyX13 tyX13_ok nmX13 hown hK hP (WX_D hD) hS hI 0 (Nat.le_of_ble_eq_true rfl) rfl rfl 21 (Nat.le_of_ble_eq_true rfl) (hts _ (vA_in _ _ (in_25 _ (zs16 (zs16 (zs4 (zs0))))))) (fun _ h9 => h9) rfl (by decide +kernel) rfl rfl (okI rfl (iv_w i101 (by decide))) dX13_part_42 (fun H locs E102 pw103 hI hP hS => ?_)
            have hKp := hKp.pw pw103 rfl
            have k104 : AtM k E88 E102 := AtM.pw pw103.2 hk0 (vi_e fy90) (vi_e pw103.1) ty100 (by omega)
            refine lv_aload_n hx hb dX13_part_45 rfl (lv_at hl 1 rfl) ?_
            refine th_i (va_runV (As := []) (rest := []) ⟨hx, hb, hml, hown, hts⟩ (gU dC dI cT ad E102 H.size k nl hI (by exact hh0) (by exact hh1) (by exact hh2) (by exact (hKp 0 18 rfl).trans hh3) (by (try rw [hKp.ei 0 19 rfl]); exact hh4) (by (try rw [(show xi (E102 0) 23 = w18_0_23 from vi_e ((pw103.2 0 23 (fun q9 => absurd q9.2 (Nat.ne_of_beq_eq_false rfl))).trans ((kq89 0 23 rfl).trans hs18_0_23)))]); omega) (by (try rw [(show xi (E102 0) 22 = w18_0_22 from vi_e ((pw103.2 0 22 (fun q9 => absurd q9.2 (Nat.ne_of_beq_eq_false rfl))).trans ((kq89 0 22 rfl).trans hs18_0_22)))]); omega)) (cwV 0 hts (gi_V (in_29 _ (zs16 (zs16 (zs1 (zs0))))) (in_29 _ (zs16 (zs16 (zs1 (zs1 (zs0)))))) (in_29 _ (zs16 (zs16 (zs1 (zs1 (zs1 (zs0))))))) (in_24 _ (zs4 (zs4 (zs4 (zs1 (zs1 (zs1 (zs0)))))))) (in_29 _ (zs16 (zs16 (zs4 (zs0)))))) rfl rfl rfl (by decide +kernel) ⟨(show 7 * n + 9 + 1 ≤ 7 * n + 10 from nl_4 (Nat.le_of_ble_eq_true rfl) (Nat.le_of_ble_eq_true rfl)), (show 8 + (3 + 11) + 40 * (7 * n + 9) ≤ 40 * (7 * n + 10) from nl_3 (Nat.le_of_ble_eq_true rfl) (Nat.le_of_ble_eq_true rfl))⟩) ⟨HW_bl, va_recv hK hP (ci := 14) (q0 := 0) rfl (hI.ob 0 (Nat.le_of_ble_eq_true rfl) rfl), (HW_wi hP hK (WX_D hD) hS hA hEV)⟩ rfl rfl hl.1 rfl (lv_room (Nat.le_of_ble_eq_true rfl)) dX13_part_46 ⟨Nat.le_of_ble_eq_true rfl, Nat.le_of_ble_eq_true rfl⟩) (WX_D hD) hS hA (fun r105 E106 H locs hw hP hS => ?_)
            obtain ⟨hI, kq107, hw⟩ := hw
            have hKb := hKp
            have hKp := hKp.tr kq107 (wl_sub rfl rfl)
            obtain ⟨y108, ey108⟩ : ∃ y, xi (E106 0) 21 = y := ⟨_, rfl⟩
            have fy108 : xv (E106 0) 21 = .int y108 := (hI.fi 0 (Nat.le_of_ble_eq_true rfl) rfl (Nat.le_of_ble_eq_true rfl) rfl).trans (congrArg Value.int ey108)
            have iy108 : 0 ≤ y108.toInt ∧ y108.toInt ≤ 201 := by rw [← ey108]; exact hI.iv 0 (Nat.le_of_ble_eq_true rfl) rfl (Nat.le_of_ble_eq_true rfl) rfl
            obtain ⟨y109, ey109⟩ : ∃ y, xi (E106 0) 22 = y := ⟨_, rfl⟩
            have fy109 : xv (E106 0) 22 = .int y109 := (hI.fi 0 (Nat.le_of_ble_eq_true rfl) rfl (Nat.le_of_ble_eq_true rfl) rfl).trans (congrArg Value.int ey109)
            have iy109 : -1 ≤ y109.toInt ∧ y109.toInt ≤ 201 := by rw [← ey109]; exact hI.iv 0 (Nat.le_of_ble_eq_true rfl) rfl (Nat.le_of_ble_eq_true rfl) rfl
            obtain ⟨y110, ey110⟩ : ∃ y, xi (E106 0) 23 = y := ⟨_, rfl⟩
            have fy110 : xv (E106 0) 23 = .int y110 := (hI.fi 0 (Nat.le_of_ble_eq_true rfl) rfl (Nat.le_of_ble_eq_true rfl) rfl).trans (congrArg Value.int ey110)
            have iy110 : 0 ≤ y110.toInt ∧ y110.toInt ≤ 8 := by rw [← ey110]; exact hI.iv 0 (Nat.le_of_ble_eq_true rfl) rfl (Nat.le_of_ble_eq_true rfl) rfl
            obtain ⟨f111, f112, f113, f114, f115, f116⟩ := hw
            try rw [(show xi (E102 0) 21 = y100 from vi_e pw103.1)] at f112
            try rw [(show xi (E106 0) 21 = y108 from vi_e fy108)] at f112
            try rw [(show xi (E102 0) 23 = w18_0_23 from vi_e ((pw103.2 0 23 (fun q9 => absurd q9.2 (Nat.ne_of_beq_eq_false rfl))).trans ((kq89 0 23 rfl).trans hs18_0_23)))] at f113
            try rw [(show xi (E106 0) 23 = y110 from vi_e fy110)] at f113
            try rw [(show xi (E102 0) 22 = w18_0_22 from vi_e ((pw103.2 0 22 (fun q9 => absurd q9.2 (Nat.ne_of_beq_eq_false rfl))).trans ((kq89 0 22 rfl).trans hs18_0_22)))] at f114
            try rw [(show xi (E102 0) 23 = w18_0_23 from vi_e ((pw103.2 0 23 (fun q9 => absurd q9.2 (Nat.ne_of_beq_eq_false rfl))).trans ((kq89 0 23 rfl).trans hs18_0_23)))] at f114
            try rw [(show xi (E106 0) 22 = y109 from vi_e fy109)] at f114
            try rw [(show xi (E106 0) 23 = y110 from vi_e fy110)] at f114
            try rw [(show xi (E102 0) 22 = w18_0_22 from vi_e ((pw103.2 0 22 (fun q9 => absurd q9.2 (Nat.ne_of_beq_eq_false rfl))).trans ((kq89 0 22 rfl).trans hs18_0_22)))] at f115
            try rw [(show xi (E106 0) 22 = y109 from vi_e fy109)] at f115
            refine lv_istore (lv' := [(4, .int r105), (3, .int v18_3), (0, .ref (ad 0)), (1, .int a0), (2, .int a1)]) hx hb dX13_part_49 hl (by decide) rfl (fun ls hl => ?_)
            refine lv_iload_n hx hb dX13_part_51 rfl (lv_at hl 1 rfl) ?_
            refine lv_if_eq (tgt := 64) hx hb dX13_part_52 (by decide) (fun c117 => ?_) (fun c117 => ?_)
            · --52 taken
              have t118 : v18_3.toInt = 0 := ti_eq c117
              have i119 : 0 ≤ v18_3.toInt ∧ v18_3.toInt ≤ 0 := iv_eqi t118 hv18_3 (il_ 0) (by decide)
              refine lv_iconst (v := 0) hx hb dX13_part_64 (by decide) ?_
              refine lv_istore_n (lv' := [(3, .int 0), (4, .int r105), (0, .ref (ad 0)), (1, .int a0), (2, .int a1)]) hx hb dX13_part_65 rfl hl (by decide) rfl (fun ls hl => ?_)
              refine lv_goto (tgt := 18) hx hb dX13_part_66 (by decide) ?_
              exact ih18 y108 y109 y110 (0 : Int32) E106 _ _ _ iy108 iy109 iy110 (iv_w ln_0 (by decide)) (by  first | exact (Int.le_trans (Int.le_trans (Int.le_trans hx18_0 f92) (Int.le_trans (Int.le_add_of_nonneg_right (by decide)) (Int.le_of_eq ty100.symm))) f112) | omega) (by  first | exact (Int.le_trans hx18_1 f113) | omega) (by  first | exact fun q9 => ((f114 (q9)).trans (hx18_2 (f115 (q9)))) | omega) (by  first | exact fun q9 => hx18_3 (f115 (q9)) | omega) (LpM.step (op := isAnd) (cb := jb) hx18_4 f95 (is_and.mpr (by omega)) (by show (xi (E18_ 0) 22).toInt = -1; rw [show xi (E18_ 0) 22 = w18_0_22 from vi_e hs18_0_22]; first | exact t85 | omega) k104 f116 KM.rf (by decide) (fun t m => unY_mono n t m) (fun t m a c h => opL_1 (unY_mono n t m) rfl h)) (by omega) hI hKp fy108 fy109 fy110 hP hS (lv_sub hl [0, 2, 3, 4] rfl)
            · --52 not
              have t120 : ¬ v18_3.toInt = 0 := ti_ne c117
              have i121 : 1 ≤ v18_3.toInt ∧ v18_3.toInt ≤ 1 := iv_ne_l t120 hv18_3 (il_ 0)
              refine lv_iload hx hb dX13_part_55 (lv_at hl 0 rfl) ?_
              refine lv_if_eq (tgt := 64) hx hb dX13_part_57 (by decide) (fun c122 => ?_) (fun c122 => ?_)
              · --57 taken
                have t123 : r105.toInt = 0 := ti_eq c122
                have i124 : 0 ≤ r105.toInt ∧ r105.toInt ≤ 0 := iv_eqi t123 f111 (il_ 0) (by decide)
                refine lv_iconst (v := 0) hx hb dX13_part_64 (by decide) ?_
                refine lv_istore_n (lv' := [(3, .int 0), (4, .int r105), (0, .ref (ad 0)), (1, .int a0), (2, .int a1)]) hx hb dX13_part_65 rfl hl (by decide) rfl (fun ls hl => ?_)
                refine lv_goto (tgt := 18) hx hb dX13_part_66 (by decide) ?_
                exact ih18 y108 y109 y110 (0 : Int32) E106 _ _ _ iy108 iy109 iy110 (iv_w ln_0 (by decide)) (by  first | exact (Int.le_trans (Int.le_trans (Int.le_trans hx18_0 f92) (Int.le_trans (Int.le_add_of_nonneg_right (by decide)) (Int.le_of_eq ty100.symm))) f112) | omega) (by  first | exact (Int.le_trans hx18_1 f113) | omega) (by  first | exact fun q9 => ((f114 (q9)).trans (hx18_2 (f115 (q9)))) | omega) (by  first | exact fun q9 => hx18_3 (f115 (q9)) | omega) (LpM.step (op := isAnd) (cb := jb) hx18_4 f95 (is_and.mpr (by omega)) (by show (xi (E18_ 0) 22).toInt = -1; rw [show xi (E18_ 0) 22 = w18_0_22 from vi_e hs18_0_22]; first | exact t85 | omega) k104 f116 KM.rf (by decide) (fun t m => unY_mono n t m) (fun t m a c h => opL_1 (unY_mono n t m) rfl h)) (by omega) hI hKp fy108 fy109 fy110 hP hS (lv_sub hl [0, 2, 3, 4] rfl)
              · --57 not
                have t125 : ¬ r105.toInt = 0 := ti_ne c122
                have i126 : 1 ≤ r105.toInt ∧ r105.toInt ≤ 1 := iv_ne_l t125 f111 (il_ 0)
                refine lv_iconst (v := 1) hx hb dX13_part_60 (by decide) ?_
                refine lv_goto (tgt := 65) hx hb dX13_part_61 (by decide) ?_
                refine lv_istore_n (lv' := [(3, .int 1), (4, .int r105), (0, .ref (ad 0)), (1, .int a0), (2, .int a1)]) hx hb dX13_part_65 rfl hl (by decide) rfl (fun ls hl => ?_)
                refine lv_goto (tgt := 18) hx hb dX13_part_66 (by decide) ?_
                exact ih18 y108 y109 y110 (1 : Int32) E106 _ _ _ iy108 iy109 iy110 (iv_w ln_1 (by decide)) (by  first | exact (Int.le_trans (Int.le_trans (Int.le_trans hx18_0 f92) (Int.le_trans (Int.le_add_of_nonneg_right (by decide)) (Int.le_of_eq ty100.symm))) f112) | omega) (by  first | exact (Int.le_trans hx18_1 f113) | omega) (by  first | exact fun q9 => ((f114 (q9)).trans (hx18_2 (f115 (q9)))) | omega) (by  first | exact fun q9 => hx18_3 (f115 (q9)) | omega) (LpM.step (op := isAnd) (cb := jb) hx18_4 f95 (is_and.mpr (by omega)) (by show (xi (E18_ 0) 22).toInt = -1; rw [show xi (E18_ 0) 22 = w18_0_22 from vi_e hs18_0_22]; first | exact t85 | omega) k104 f116 KM.rf (by decide) (fun t m => unY_mono n t m) (fun t m a c h => opL_1 (unY_mono n t m) rfl h)) (by omega) hI hKp fy108 fy109 fy110 hP hS (lv_sub hl [0, 2, 3, 4] rfl)
    exact hL18 (202) y71 y72 y73 r68 E69 _ _ _ iy71 iy72 iy73 f74 (by  first | exact f75 | omega) (by  first | exact f76 | omega) (by  first | exact fun q9 => (f77 (q9)) | omega) (by  first | exact fun q9 => f78 (q9) | omega) (LpM.start (unM_1 (w := a0) (by omega) f79) lmP (Int.le_refl _)) (by have h9 := iy71; omega) hI hKp fy71 fy72 fy73 hP hS (lv_sub hl [0, 1, 2, 3] rfl)
set_option maxHeartbeats 4000000 in
set_option maxRecDepth 100000 in
theorem q_conditionX (l : Launch) (n : Nat) (gP : C_partX l n) : C_conditionX l n := by
  intro dC dI cT ad E sz a0 a1 k nl hI0 hh0 hh1 hh2 hh3 hh4 hh5 hh6 hh7
  refine Met.ofW (cc := cX13_condition) (maxL := 5) (ret := (some .boolean)) (by decide) rfl ?_
  intro p e s m args below meth c s₁ B hml hv
  obtain ⟨hargs, hsz, hP, hK, hD0, hEV⟩ := hv
  subst hsz
  have hx := B.exec
  have hb := B.bytes
  have hr := B.returns
  have hts := atoms_spec (ws := v_conditionX) B.pre
  have hown : s.vm.findClass RX13 = some m.cls := findClass_of_methodNamed B.named
  have hlocks := B.notSynchronized
  have hinX13 : ∀ w ∈ u_ws RX13 TX13 97, w ∈ v_conditionX := fun w h => vA_in _ w (in_X13 w h)
  generalize hAe : va_A (WX 72 ad E) s.heap.size = A at hEV ⊢
  have hA : ∀ q : Nat, s.heap.size ≤ q → A q := fun q h => by rw [← hAe]; exact Or.inr h
  have hD : va_D A (WX 72 ad E) := by rw [← hAe]; exact hD0.self
  have hS : va_S A s.heap s.heap [] := va_S.rf
  have hI := hI0
  have hKp : Kp w_conditionX E E := Kp.rf
  have hl := lv_entry ([.ref (ad 0), .int a0, .int a1]) (n := 5) (Nat.le_of_ble_eq_true rfl)
  obtain ⟨Q, hQ⟩ : ∃ Q, Q = MQ below (va_Qi (S := Nat → va_E) (fun r u => IX cT shM spM 72 ad u ∧ Kp w_conditionX E u ∧ ((0 ≤ r.toInt ∧ r.toInt ≤ 1) ∧ ((xi (E 0) 21).toInt ≤ (xi (u 0) 21).toInt) ∧ ((xi (E 0) 23).toInt ≤ (xi (u 0) 23).toInt) ∧ ((xi (u 0) 22).toInt = -1 → (xi (u 0) 23).toInt = (xi (E 0) 23).toInt) ∧ ((xi (u 0) 22).toInt = -1 → (xi (E 0) 22).toInt = -1) ∧ (RdM k (coY a0 n) E u))) (HB dC dI 72 ad) (A)) args s 0 0 (A) := ⟨_, rfl⟩
  rw [← hQ, show entryFrame m args 5 = _ from (congrArg (fun z => entryFrame m z 5) hargs).trans (lg_entry_eq _ _ _)]
  generalize (lg_sl ([.ref (ad 0), .int a0, .int a1]) ++ List.replicate (5 - (lg_sl ([.ref (ad 0), .int a0, .int a1])).length) Slot.unset).toArray = ls at hl ⊢
  have hl : lv_has ls 5 [(0, .ref (ad 0)), (1, .int a0), (2, .int a1)] := hl
  obtain ⟨y1, ey1⟩ : ∃ y, xi (E 0) 21 = y := ⟨_, rfl⟩
  have fy1 : xv (E 0) 21 = .int y1 := (hI.fi 0 (Nat.le_of_ble_eq_true rfl) rfl (Nat.le_of_ble_eq_true rfl) rfl).trans (congrArg Value.int ey1)
  have iy1 : 0 ≤ y1.toInt ∧ y1.toInt ≤ 201 := by rw [← ey1]; exact hI.iv 0 (Nat.le_of_ble_eq_true rfl) rfl (Nat.le_of_ble_eq_true rfl) rfl
  obtain ⟨y2, ey2⟩ : ∃ y, xi (E 0) 22 = y := ⟨_, rfl⟩
  have fy2 : xv (E 0) 22 = .int y2 := (hI.fi 0 (Nat.le_of_ble_eq_true rfl) rfl (Nat.le_of_ble_eq_true rfl) rfl).trans (congrArg Value.int ey2)
  have iy2 : -1 ≤ y2.toInt ∧ y2.toInt ≤ 201 := by rw [← ey2]; exact hI.iv 0 (Nat.le_of_ble_eq_true rfl) rfl (Nat.le_of_ble_eq_true rfl) rfl
  rw [ey2] at hh6
  obtain ⟨y3, ey3⟩ : ∃ y, xi (E 0) 23 = y := ⟨_, rfl⟩
  have fy3 : xv (E 0) 23 = .int y3 := (hI.fi 0 (Nat.le_of_ble_eq_true rfl) rfl (Nat.le_of_ble_eq_true rfl) rfl).trans (congrArg Value.int ey3)
  have iy3 : 0 ≤ y3.toInt ∧ y3.toInt ≤ 8 := by rw [← ey3]; exact hI.iv 0 (Nat.le_of_ble_eq_true rfl) rfl (Nat.le_of_ble_eq_true rfl) rfl
  rw [ey3] at hh5
  have hk0 : ¬ k = 0 := fun q9 => by rw [q9] at hh1; exact absurd (show (shM 0).1 = 1 from congrArg Prod.fst hh1) (by decide)
  refine lv_aload_n hx hb dX13_condition_0 rfl (lv_at hl 0 rfl) ?_
  refine lv_iload_n hx hb dX13_condition_1 rfl (lv_at hl 1 rfl) ?_
  refine lv_iload_n hx hb dX13_condition_2 rfl (lv_at hl 2 rfl) ?_
  refine th_i (va_runV (As := [.int a0, .int a1]) (rest := []) ⟨hx, hb, hml, hown, hts⟩ (gP dC dI cT ad E s.heap.size a0 a1 k nl hI (by exact hh0) (by exact hh1) (by exact hh2) (by exact hh3) (by exact hh4) (by (try rw [(show xi (E 0) 23 = y3 from vi_e fy3)]); omega) (by (try rw [(show xi (E 0) 22 = y2 from vi_e fy2)]); omega) hh7) (cwV 2 hts (gi_V (in_29 _ (zs16 (zs4 (zs1 (zs1 (zs0)))))) (in_29 _ (zs16 (zs4 (zs1 (zs1 (zs1 (zs0))))))) (in_29 _ (zs16 (zs4 (zs4 (zs0))))) (in_24 _ (zs4 (zs4 (zs4 (zs1 (zs1 (zs1 (zs0)))))))) (in_29 _ (zs16 (zs4 (zs4 (zs1 (zs0))))))) rfl rfl rfl (by decide +kernel) ⟨(show 7 * n + 10 + 1 ≤ 7 * n + 11 from nl_4 (Nat.le_of_ble_eq_true rfl) (Nat.le_of_ble_eq_true rfl)), (show 8 + (5 + 11) + 40 * (7 * n + 10) ≤ 40 * (7 * n + 11) from nl_3 (Nat.le_of_ble_eq_true rfl) (Nat.le_of_ble_eq_true rfl))⟩) ⟨HW_bl, va_recv hK hP (ci := 14) (q0 := 0) rfl (hI.ob 0 (Nat.le_of_ble_eq_true rfl) rfl), (HW_wi hP hK (WX_D hD) hS hA hEV)⟩ rfl rfl hl.1 rfl (lv_room (Nat.le_of_ble_eq_true rfl)) dX13_condition_3 ⟨Nat.le_of_ble_eq_true rfl, Nat.le_of_ble_eq_true rfl⟩) (WX_D hD) hS hA (fun r4 E5 H locs hw hP hS => ?_)
  obtain ⟨hI, kq6, hw⟩ := hw
  have hKb := hKp
  have hKp := hKp.tr kq6 (wl_sub rfl rfl)
  obtain ⟨y7, ey7⟩ : ∃ y, xi (E5 0) 21 = y := ⟨_, rfl⟩
  have fy7 : xv (E5 0) 21 = .int y7 := (hI.fi 0 (Nat.le_of_ble_eq_true rfl) rfl (Nat.le_of_ble_eq_true rfl) rfl).trans (congrArg Value.int ey7)
  have iy7 : 0 ≤ y7.toInt ∧ y7.toInt ≤ 201 := by rw [← ey7]; exact hI.iv 0 (Nat.le_of_ble_eq_true rfl) rfl (Nat.le_of_ble_eq_true rfl) rfl
  obtain ⟨y8, ey8⟩ : ∃ y, xi (E5 0) 22 = y := ⟨_, rfl⟩
  have fy8 : xv (E5 0) 22 = .int y8 := (hI.fi 0 (Nat.le_of_ble_eq_true rfl) rfl (Nat.le_of_ble_eq_true rfl) rfl).trans (congrArg Value.int ey8)
  have iy8 : -1 ≤ y8.toInt ∧ y8.toInt ≤ 201 := by rw [← ey8]; exact hI.iv 0 (Nat.le_of_ble_eq_true rfl) rfl (Nat.le_of_ble_eq_true rfl) rfl
  obtain ⟨y9, ey9⟩ : ∃ y, xi (E5 0) 23 = y := ⟨_, rfl⟩
  have fy9 : xv (E5 0) 23 = .int y9 := (hI.fi 0 (Nat.le_of_ble_eq_true rfl) rfl (Nat.le_of_ble_eq_true rfl) rfl).trans (congrArg Value.int ey9)
  have iy9 : 0 ≤ y9.toInt ∧ y9.toInt ≤ 8 := by rw [← ey9]; exact hI.iv 0 (Nat.le_of_ble_eq_true rfl) rfl (Nat.le_of_ble_eq_true rfl) rfl
  obtain ⟨f10, f11, f12, f13, f14, f15⟩ := hw
  have i16 : 0 ≤ (xi (E 0) 19).toInt ∧ (xi (E 0) 19).toInt ≤ 3000 := (show 0 ≤ (xi (E 0) 19).toInt ∧ (xi (E 0) 19).toInt ≤ 3000 from hI0.iv 0 (Nat.le_of_ble_eq_true rfl) rfl (Nat.le_of_ble_eq_true rfl) rfl)
  have i17 : 0 ≤ (xi (E 0) 20).toInt ∧ (xi (E 0) 20).toInt ≤ 200 := (show 0 ≤ (xi (E 0) 20).toInt ∧ (xi (E 0) 20).toInt ≤ 200 from hI0.iv 0 (Nat.le_of_ble_eq_true rfl) rfl (Nat.le_of_ble_eq_true rfl) rfl)
  try rw [(show xi (E 0) 21 = y1 from vi_e fy1)] at f11
  try rw [(show xi (E5 0) 21 = y7 from vi_e fy7)] at f11
  try rw [(show xi (E 0) 23 = y3 from vi_e fy3)] at f12
  try rw [(show xi (E5 0) 23 = y9 from vi_e fy9)] at f12
  try rw [(show xi (E 0) 22 = y2 from vi_e fy2)] at f13
  try rw [(show xi (E 0) 23 = y3 from vi_e fy3)] at f13
  try rw [(show xi (E5 0) 22 = y8 from vi_e fy8)] at f13
  try rw [(show xi (E5 0) 23 = y9 from vi_e fy9)] at f13
  try rw [(show xi (E 0) 22 = y2 from vi_e fy2)] at f14
  try rw [(show xi (E5 0) 22 = y8 from vi_e fy8)] at f14
  refine lv_istore_n (lv' := [(3, .int r4), (0, .ref (ad 0)), (1, .int a0), (2, .int a1)]) hx hb dX13_condition_6 rfl hl (by decide) rfl (fun ls hl => ?_)
  have hL7 : ∀ d : Nat, ∀ (w7_0_21 : Int32) (w7_0_22 : Int32) (w7_0_23 : Int32) (v7_3 : Int32) (E7_ : Nat → va_E) (H : Heap) (locs : List Loc) (ls : Array Slot), 0 ≤ w7_0_21.toInt ∧ w7_0_21.toInt ≤ 201 → -1 ≤ w7_0_22.toInt ∧ w7_0_22.toInt ≤ 201 → 0 ≤ w7_0_23.toInt ∧ w7_0_23.toInt ≤ 8 → 0 ≤ v7_3.toInt ∧ v7_3.toInt ≤ 1 → y1.toInt ≤ w7_0_21.toInt → y3.toInt ≤ w7_0_23.toInt → (w7_0_22.toInt = -1 → w7_0_23.toInt = y3.toInt) → (w7_0_22.toInt = -1 → y2.toInt = -1) → LpM k (coY a0 n) (fun t m => opL t m isOr jb (paY 0 n t m)) 0 E E7_ → 201 - w7_0_21.toInt < (d : Int) → IX cT shM spM 72 ad E7_ → Kp w_conditionX E E7_ → xv (E7_ 0) 21 = .int w7_0_21 → xv (E7_ 0) 22 = .int w7_0_22 → xv (E7_ 0) 23 = .int w7_0_23 → va_P (dC, dI) vwCl (WX 72 ad E7_) H → va_S A s.heap H locs → lv_has ls 5 [(3, .int v7_3), (0, .ref (ad 0)), (1, .int a0), (2, .int a1)] → W p l e (headSpec v_conditionX (rm_conditionX n)).room s m args below meth c H locs 0 0 Q (F0 m 7 ls []) := by
    intro d
    induction d with
    | zero =>
      intro w7_0_21 w7_0_22 w7_0_23 v7_3 E7_ H locs ls hw7_0_21 hw7_0_22 hw7_0_23 hv7_3 hx7_0 hx7_1 hx7_2 hx7_3 hx7_4 hx7_5 hI hKp hs7_0_21 hs7_0_22 hs7_0_23 hP hS hl
      exact absurd hx7_5 (by omega)
    | succ d ih7 =>
      intro w7_0_21 w7_0_22 w7_0_23 v7_3 E7_ H locs ls hw7_0_21 hw7_0_22 hw7_0_23 hv7_3 hx7_0 hx7_1 hx7_2 hx7_3 hx7_4 hx7_5 hI hKp hs7_0_21 hs7_0_22 hs7_0_23 hP hS hl
      refine lv_aload_n hx hb dX13_condition_7 rfl (lv_at hl 1 rfl) ?_
      refine th_get (ci := 14) (C := RX13) (T := TX13) (N := 97) (v := .int w7_0_22) hx hb hts hinX13 hown hK hP hI 0 (Nat.le_of_ble_eq_true rfl) rfl rfl 22 (Nat.le_of_ble_eq_true rfl) (hts _ (vA_in _ _ (in_25 _ (zs16 (zs16 (zs4 (zs1 (zs1 (zs1 (zs0)))))))))) (fun _ h9 => h9) hs7_0_22 dX13_condition_8 ?_
      refine lv_iconst (v := -1) hx hb dX13_condition_11 (by decide) ?_
      refine lv_icmp_ne (tgt := 60) hx hb dX13_condition_12 (by decide) (fun c18 => ?_) (fun c18 => ?_)
      · --12 taken
        have t19 : ¬ w7_0_22.toInt = -1 := ti_ne c18
        have i20 : 0 ≤ w7_0_22.toInt ∧ w7_0_22.toInt ≤ 201 := iv_ne_l t19 hw7_0_22 (il_ (-1))
        refine lv_iload_n hx hb dX13_condition_60 rfl (lv_at hl 0 rfl) ?_
        rw [hQ]
        exact W.zret (v := v7_3) hx hb hr (nar_b1 hv7_3) (fun t ht hW => ⟨⟨v7_3, E7_, rfl, ⟨hI, hKp, ⟨hv7_3, by (try rw [(show xi (E7_ 0) 21 = w7_0_21 from vi_e hs7_0_21)]); (try rw [ey1]); first | done | exact hx7_0 | all_goals omega, by (try rw [(show xi (E7_ 0) 23 = w7_0_23 from vi_e hs7_0_23)]); (try rw [ey3]); first | done | exact hx7_1 | all_goals omega, by (try rw [(show xi (E7_ 0) 22 = w7_0_22 from vi_e hs7_0_22)]); (try rw [(show xi (E7_ 0) 23 = w7_0_23 from vi_e hs7_0_23)]); (try rw [ey2]); (try rw [ey3]); first | done | exact fun q9 => absurd (q9) t19 | all_goals omega, by (try rw [(show xi (E7_ 0) 22 = w7_0_22 from vi_e hs7_0_22)]); (try rw [ey2]); first | done | exact fun q9 => absurd (q9) t19 | all_goals omega, LpM.exF hx7_4 (by show ¬ (xi (E7_ 0) 22).toInt = -1; rw [show xi (E7_ 0) 22 = w7_0_22 from vi_e hs7_0_22]; omega)⟩⟩, by show va_P (dC, dI) vwCl (WX 72 ad E7_) t.heap; rw [ht]; exact hP⟩, hS.F ht⟩) hS.2.2 dX13_condition_61
      · --12 not
        have t21 : w7_0_22.toInt = -1 := ti_eq c18
        have i22 : -1 ≤ w7_0_22.toInt ∧ w7_0_22.toInt ≤ -1 := iv_eqi t21 hw7_0_22 (il_ (-1)) (by decide)
        refine lv_aload_n hx hb dX13_condition_15 rfl (lv_at hl 1 rfl) ?_
        refine th_i (va_runV (As := []) (rest := []) ⟨hx, hb, hml, hown, hts⟩ (q_lookX l dC dI cT ad E7_ H.size k nl hI (by exact hh0) (by exact hh1) (by exact hh2) (by exact (hKp 0 18 rfl).trans hh3) (by (try rw [hKp.ei 0 19 rfl]); exact hh4)) (cwV 0 hts (gi_V (in_26 _ (zs1 (zs1 (zs0)))) (in_26 _ (zs1 (zs1 (zs1 (zs0))))) (in_26 _ (zs4 (zs0))) (in_24 _ (zs4 (zs4 (zs4 (zs1 (zs1 (zs1 (zs0)))))))) (in_26 _ (zs4 (zs1 (zs0))))) rfl rfl rfl ⟨rfl, hz_yX13_look_0⟩ ⟨(show 0 + 1 ≤ 7 * n + 11 from nl_1 (Nat.le_of_ble_eq_true rfl)), (show 8 + (1 + 11) + 40 * (0) ≤ 40 * (7 * n + 11) from nl_2 (Nat.le_of_ble_eq_true rfl))⟩) ⟨HW_bl, va_recv hK hP (ci := 14) (q0 := 0) rfl (hI.ob 0 (Nat.le_of_ble_eq_true rfl) rfl), (HW_wi hP hK (WX_D hD) hS hA hEV)⟩ rfl rfl hl.1 rfl (lv_room (Nat.le_of_ble_eq_true rfl)) dX13_condition_16 ⟨Nat.le_of_ble_eq_true rfl, Nat.le_of_ble_eq_true rfl⟩) (WX_D hD) hS hA (fun r23 E24 H locs hw hP hS => ?_)
        obtain ⟨hI, kq25, hw⟩ := hw
        have hKb := hKp
        have hKp := hKp.tr kq25 (wl_sub rfl rfl)
        obtain ⟨y26, ey26⟩ : ∃ y, xi (E24 0) 21 = y := ⟨_, rfl⟩
        have fy26 : xv (E24 0) 21 = .int y26 := (hI.fi 0 (Nat.le_of_ble_eq_true rfl) rfl (Nat.le_of_ble_eq_true rfl) rfl).trans (congrArg Value.int ey26)
        have iy26 : 0 ≤ y26.toInt ∧ y26.toInt ≤ 201 := by rw [← ey26]; exact hI.iv 0 (Nat.le_of_ble_eq_true rfl) rfl (Nat.le_of_ble_eq_true rfl) rfl
        obtain ⟨f27, f28, f29, f30, f31⟩ := hw
        try rw [(show xi (E7_ 0) 21 = w7_0_21 from vi_e hs7_0_21)] at f28
        try rw [(show xi (E24 0) 21 = y26 from vi_e fy26)] at f28
        try rw [(show xi (E7_ 0) 21 = w7_0_21 from vi_e hs7_0_21)] at f29
        try rw [hKb.ei 0 20 rfl] at f29
        try rw [(show xi (E24 0) 21 = y26 from vi_e fy26)] at f29
        try rw [(show xi (E7_ 0) 21 = w7_0_21 from vi_e hs7_0_21)] at f30
        try rw [hKb.ei 0 20 rfl] at f30
        try rw [(show xi (E24 0) 21 = y26 from vi_e fy26)] at f30
        refine lv_bipush (v := 124) hx hb dX13_condition_19 (by decide) ?_
        refine lv_icmp_ne (tgt := 60) hx hb dX13_condition_21 (by decide) (fun c32 => ?_) (fun c32 => ?_)
        · --21 taken
          have t33 : ¬ r23.toInt = 124 := ti_ne c32
          refine lv_iload_n hx hb dX13_condition_60 rfl (lv_at hl 0 rfl) ?_
          rw [hQ]
          exact W.zret (v := v7_3) hx hb hr (nar_b1 hv7_3) (fun t ht hW => ⟨⟨v7_3, E24, rfl, ⟨hI, hKp, ⟨hv7_3, by (try rw [(show xi (E24 0) 21 = y26 from vi_e fy26)]); (try rw [ey1]); first | done | exact (Int.le_trans hx7_0 f28) | all_goals omega, by (try rw [(show xi (E24 0) 23 = w7_0_23 from vi_e ((kq25 0 23 rfl).trans hs7_0_23))]); (try rw [ey3]); first | done | exact hx7_1 | all_goals omega, by (try rw [(show xi (E24 0) 22 = w7_0_22 from vi_e ((kq25 0 22 rfl).trans hs7_0_22))]); (try rw [(show xi (E24 0) 23 = w7_0_23 from vi_e ((kq25 0 23 rfl).trans hs7_0_23))]); (try rw [ey2]); (try rw [ey3]); first | done | exact fun q9 => (hx7_2 (q9)) | all_goals omega, by (try rw [(show xi (E24 0) 22 = w7_0_22 from vi_e ((kq25 0 22 rfl).trans hs7_0_22))]); (try rw [ey2]); first | done | exact fun q9 => hx7_3 (q9) | all_goals omega, LpM.exit (op := isOr) hx7_4 f31 (fun q9 => by have q8 := is_or.mp q9; omega) (fun t m a c h => opL_0 h)⟩⟩, by show va_P (dC, dI) vwCl (WX 72 ad E24) t.heap; rw [ht]; exact hP⟩, hS.F ht⟩) hS.2.2 dX13_condition_61
        · --21 not
          have t34 : r23.toInt = 124 := ti_eq c32
          have i35 : 124 ≤ r23.toInt ∧ r23.toInt ≤ 124 := iv_eqi t34 f27 (il_ 124) (by decide)
          refine lv_aload_n hx hb dX13_condition_24 rfl (lv_at hl 1 rfl) ?_
          refine lv_dup hx hb dX13_condition_25 rfl ?_
          refine th_get (ci := 14) (C := RX13) (T := TX13) (N := 97) (v := .int y26) hx hb hts hinX13 hown hK hP hI 0 (Nat.le_of_ble_eq_true rfl) rfl rfl 21 (Nat.le_of_ble_eq_true rfl) (hts _ (vA_in _ _ (in_25 _ (zs16 (zs16 (zs4 (zs0))))))) (fun _ h9 => h9) fy26 dX13_condition_26 ?_
          refine lv_iconst (v := 1) hx hb dX13_condition_29 (by decide) ?_
          refine lv_iadd hx hb dX13_condition_30 ?_
          refine lv_topi (fun y36 ey36 => ?_)
          obtain ⟨ty36, iy36⟩ := ti_add (e := 1) (f := 202) iy26 ln_1 ey36 (by decide)
          have ty36 : y36.toInt = y26.toInt + 1 := ty36
          have iy36 : 1 ≤ y36.toInt ∧ y36.toInt ≤ 202 := iy36
          have i37 : 1 ≤ y36.toInt ∧ y36.toInt ≤ 201 := by omega
          refine th_put (ci := 14) (C := RX13) (T := TX13) (N := 97) (v := .int y36) (ty := .int) hx hb hts hinX13 tyX13 tyX13_ok nmX13 hown hK hP (WX_D hD) hS hI 0 (Nat.le_of_ble_eq_true rfl) rfl rfl 21 (Nat.le_of_ble_eq_true rfl) (hts _ (vA_in _ _ (in_25 _ (zs16 (zs16 (zs4 (zs0))))))) (fun _ h9 => h9) rfl (by decide +kernel) rfl rfl (okI rfl (iv_w i37 (by decide))) dX13_condition_31 (fun H locs E38 pw39 hI hP hS => ?_)
          have hKp := hKp.pw pw39 rfl
          have k40 : AtM k E24 E38 := AtM.pw pw39.2 hk0 (vi_e fy26) (vi_e pw39.1) ty36 (by omega)
          refine lv_aload_n hx hb dX13_condition_34 rfl (lv_at hl 1 rfl) ?_
          refine lv_iconst (v := 0) hx hb dX13_condition_35 (by decide) ?_
          refine lv_iconst (v := 0) hx hb dX13_condition_36 (by decide) ?_
          have z0 := ln_0
          refine th_i (va_runV (As := [.int 0, .int 0]) (rest := []) ⟨hx, hb, hml, hown, hts⟩ (gP dC dI cT ad E38 H.size (0 : Int32) (0 : Int32) k nl hI (by exact hh0) (by exact hh1) (by exact hh2) (by exact (hKp 0 18 rfl).trans hh3) (by (try rw [hKp.ei 0 19 rfl]); exact hh4) (by (try rw [(show xi (E38 0) 23 = w7_0_23 from vi_e ((pw39.2 0 23 (fun q9 => absurd q9.2 (Nat.ne_of_beq_eq_false rfl))).trans ((kq25 0 23 rfl).trans hs7_0_23)))]); omega) (by (try rw [(show xi (E38 0) 22 = w7_0_22 from vi_e ((pw39.2 0 22 (fun q9 => absurd q9.2 (Nat.ne_of_beq_eq_false rfl))).trans ((kq25 0 22 rfl).trans hs7_0_22)))]); omega) (iv_w ln_0 (by decide))) (cwV 2 hts (gi_V (in_29 _ (zs16 (zs4 (zs1 (zs1 (zs0)))))) (in_29 _ (zs16 (zs4 (zs1 (zs1 (zs1 (zs0))))))) (in_29 _ (zs16 (zs4 (zs4 (zs0))))) (in_24 _ (zs4 (zs4 (zs4 (zs1 (zs1 (zs1 (zs0)))))))) (in_29 _ (zs16 (zs4 (zs4 (zs1 (zs0))))))) rfl rfl rfl (by decide +kernel) ⟨(show 7 * n + 10 + 1 ≤ 7 * n + 11 from nl_4 (Nat.le_of_ble_eq_true rfl) (Nat.le_of_ble_eq_true rfl)), (show 8 + (5 + 11) + 40 * (7 * n + 10) ≤ 40 * (7 * n + 11) from nl_3 (Nat.le_of_ble_eq_true rfl) (Nat.le_of_ble_eq_true rfl))⟩) ⟨HW_bl, va_recv hK hP (ci := 14) (q0 := 0) rfl (hI.ob 0 (Nat.le_of_ble_eq_true rfl) rfl), (HW_wi hP hK (WX_D hD) hS hA hEV)⟩ rfl rfl hl.1 rfl (lv_room (Nat.le_of_ble_eq_true rfl)) dX13_condition_37 ⟨Nat.le_of_ble_eq_true rfl, Nat.le_of_ble_eq_true rfl⟩) (WX_D hD) hS hA (fun r41 E42 H locs hw hP hS => ?_)
          obtain ⟨hI, kq43, hw⟩ := hw
          have hKb := hKp
          have hKp := hKp.tr kq43 (wl_sub rfl rfl)
          obtain ⟨y44, ey44⟩ : ∃ y, xi (E42 0) 21 = y := ⟨_, rfl⟩
          have fy44 : xv (E42 0) 21 = .int y44 := (hI.fi 0 (Nat.le_of_ble_eq_true rfl) rfl (Nat.le_of_ble_eq_true rfl) rfl).trans (congrArg Value.int ey44)
          have iy44 : 0 ≤ y44.toInt ∧ y44.toInt ≤ 201 := by rw [← ey44]; exact hI.iv 0 (Nat.le_of_ble_eq_true rfl) rfl (Nat.le_of_ble_eq_true rfl) rfl
          obtain ⟨y45, ey45⟩ : ∃ y, xi (E42 0) 22 = y := ⟨_, rfl⟩
          have fy45 : xv (E42 0) 22 = .int y45 := (hI.fi 0 (Nat.le_of_ble_eq_true rfl) rfl (Nat.le_of_ble_eq_true rfl) rfl).trans (congrArg Value.int ey45)
          have iy45 : -1 ≤ y45.toInt ∧ y45.toInt ≤ 201 := by rw [← ey45]; exact hI.iv 0 (Nat.le_of_ble_eq_true rfl) rfl (Nat.le_of_ble_eq_true rfl) rfl
          obtain ⟨y46, ey46⟩ : ∃ y, xi (E42 0) 23 = y := ⟨_, rfl⟩
          have fy46 : xv (E42 0) 23 = .int y46 := (hI.fi 0 (Nat.le_of_ble_eq_true rfl) rfl (Nat.le_of_ble_eq_true rfl) rfl).trans (congrArg Value.int ey46)
          have iy46 : 0 ≤ y46.toInt ∧ y46.toInt ≤ 8 := by rw [← ey46]; exact hI.iv 0 (Nat.le_of_ble_eq_true rfl) rfl (Nat.le_of_ble_eq_true rfl) rfl
          obtain ⟨f47, f48, f49, f50, f51, f52⟩ := hw
          try rw [(show xi (E38 0) 21 = y36 from vi_e pw39.1)] at f48
          try rw [(show xi (E42 0) 21 = y44 from vi_e fy44)] at f48
          try rw [(show xi (E38 0) 23 = w7_0_23 from vi_e ((pw39.2 0 23 (fun q9 => absurd q9.2 (Nat.ne_of_beq_eq_false rfl))).trans ((kq25 0 23 rfl).trans hs7_0_23)))] at f49
          try rw [(show xi (E42 0) 23 = y46 from vi_e fy46)] at f49
          try rw [(show xi (E38 0) 22 = w7_0_22 from vi_e ((pw39.2 0 22 (fun q9 => absurd q9.2 (Nat.ne_of_beq_eq_false rfl))).trans ((kq25 0 22 rfl).trans hs7_0_22)))] at f50
          try rw [(show xi (E38 0) 23 = w7_0_23 from vi_e ((pw39.2 0 23 (fun q9 => absurd q9.2 (Nat.ne_of_beq_eq_false rfl))).trans ((kq25 0 23 rfl).trans hs7_0_23)))] at f50
          try rw [(show xi (E42 0) 22 = y45 from vi_e fy45)] at f50
          try rw [(show xi (E42 0) 23 = y46 from vi_e fy46)] at f50
          try rw [(show xi (E38 0) 22 = w7_0_22 from vi_e ((pw39.2 0 22 (fun q9 => absurd q9.2 (Nat.ne_of_beq_eq_false rfl))).trans ((kq25 0 22 rfl).trans hs7_0_22)))] at f51
          try rw [(show xi (E42 0) 22 = y45 from vi_e fy45)] at f51
          refine lv_istore (lv' := [(4, .int r41), (3, .int v7_3), (0, .ref (ad 0)), (1, .int a0), (2, .int a1)]) hx hb dX13_condition_40 hl (by decide) rfl (fun ls hl => ?_)
          refine lv_iload_n hx hb dX13_condition_42 rfl (lv_at hl 1 rfl) ?_
          refine lv_if_ne (tgt := 51) hx hb dX13_condition_43 (by decide) (fun c53 => ?_) (fun c53 => ?_)
          · --43 taken
            have t54 : ¬ v7_3.toInt = 0 := ti_ne c53
            have i55 : 1 ≤ v7_3.toInt ∧ v7_3.toInt ≤ 1 := iv_ne_l t54 hv7_3 (il_ 0)
            refine lv_iconst (v := 1) hx hb dX13_condition_51 (by decide) ?_
            refine lv_goto (tgt := 56) hx hb dX13_condition_52 (by decide) ?_
            refine lv_istore_n (lv' := [(3, .int 1), (4, .int r41), (0, .ref (ad 0)), (1, .int a0), (2, .int a1)]) hx hb dX13_condition_56 rfl hl (by decide) rfl (fun ls hl => ?_)
            refine lv_goto (tgt := 7) hx hb dX13_condition_57 (by decide) ?_
            exact ih7 y44 y45 y46 (1 : Int32) E42 _ _ _ iy44 iy45 iy46 (iv_w ln_1 (by decide)) (by  first | exact (Int.le_trans (Int.le_trans (Int.le_trans hx7_0 f28) (Int.le_trans (Int.le_add_of_nonneg_right (by decide)) (Int.le_of_eq ty36.symm))) f48) | omega) (by  first | exact (Int.le_trans hx7_1 f49) | omega) (by  first | exact fun q9 => ((f50 (q9)).trans (hx7_2 (f51 (q9)))) | omega) (by  first | exact fun q9 => hx7_3 (f51 (q9)) | omega) (LpM.step (op := isOr) (cb := jb) hx7_4 f31 (is_or.mpr (by omega)) (by show (xi (E7_ 0) 22).toInt = -1; rw [show xi (E7_ 0) 22 = w7_0_22 from vi_e hs7_0_22]; first | exact t21 | omega) k40 f52 KM.rf (by decide) (fun t m => paY_mono n t m) (fun t m a c h => opL_1 (paY_mono n t m) rfl h)) (by omega) hI hKp fy44 fy45 fy46 hP hS (lv_sub hl [0, 2, 3, 4] rfl)
          · --43 not
            have t56 : v7_3.toInt = 0 := ti_eq c53
            have i57 : 0 ≤ v7_3.toInt ∧ v7_3.toInt ≤ 0 := iv_eqi t56 hv7_3 (il_ 0) (by decide)
            refine lv_iload hx hb dX13_condition_46 (lv_at hl 0 rfl) ?_
            refine lv_if_eq (tgt := 55) hx hb dX13_condition_48 (by decide) (fun c58 => ?_) (fun c58 => ?_)
            · --48 taken
              have t59 : r41.toInt = 0 := ti_eq c58
              have i60 : 0 ≤ r41.toInt ∧ r41.toInt ≤ 0 := iv_eqi t59 f47 (il_ 0) (by decide)
              refine lv_iconst (v := 0) hx hb dX13_condition_55 (by decide) ?_
              refine lv_istore_n (lv' := [(3, .int 0), (4, .int r41), (0, .ref (ad 0)), (1, .int a0), (2, .int a1)]) hx hb dX13_condition_56 rfl hl (by decide) rfl (fun ls hl => ?_)
              refine lv_goto (tgt := 7) hx hb dX13_condition_57 (by decide) ?_
              exact ih7 y44 y45 y46 (0 : Int32) E42 _ _ _ iy44 iy45 iy46 (iv_w ln_0 (by decide)) (by  first | exact (Int.le_trans (Int.le_trans (Int.le_trans hx7_0 f28) (Int.le_trans (Int.le_add_of_nonneg_right (by decide)) (Int.le_of_eq ty36.symm))) f48) | omega) (by  first | exact (Int.le_trans hx7_1 f49) | omega) (by  first | exact fun q9 => ((f50 (q9)).trans (hx7_2 (f51 (q9)))) | omega) (by  first | exact fun q9 => hx7_3 (f51 (q9)) | omega) (LpM.step (op := isOr) (cb := jb) hx7_4 f31 (is_or.mpr (by omega)) (by show (xi (E7_ 0) 22).toInt = -1; rw [show xi (E7_ 0) 22 = w7_0_22 from vi_e hs7_0_22]; first | exact t21 | omega) k40 f52 KM.rf (by decide) (fun t m => paY_mono n t m) (fun t m a c h => opL_1 (paY_mono n t m) rfl h)) (by omega) hI hKp fy44 fy45 fy46 hP hS (lv_sub hl [0, 2, 3, 4] rfl)
            · --48 not
              have t61 : ¬ r41.toInt = 0 := ti_ne c58
              have i62 : 1 ≤ r41.toInt ∧ r41.toInt ≤ 1 := iv_ne_l t61 f47 (il_ 0)
              refine lv_iconst (v := 1) hx hb dX13_condition_51 (by decide) ?_
              refine lv_goto (tgt := 56) hx hb dX13_condition_52 (by decide) ?_
              refine lv_istore_n (lv' := [(3, .int 1), (4, .int r41), (0, .ref (ad 0)), (1, .int a0), (2, .int a1)]) hx hb dX13_condition_56 rfl hl (by decide) rfl (fun ls hl => ?_)
              refine lv_goto (tgt := 7) hx hb dX13_condition_57 (by decide) ?_
              exact ih7 y44 y45 y46 (1 : Int32) E42 _ _ _ iy44 iy45 iy46 (iv_w ln_1 (by decide)) (by  first | exact (Int.le_trans (Int.le_trans (Int.le_trans hx7_0 f28) (Int.le_trans (Int.le_add_of_nonneg_right (by decide)) (Int.le_of_eq ty36.symm))) f48) | omega) (by  first | exact (Int.le_trans hx7_1 f49) | omega) (by  first | exact fun q9 => ((f50 (q9)).trans (hx7_2 (f51 (q9)))) | omega) (by  first | exact fun q9 => hx7_3 (f51 (q9)) | omega) (LpM.step (op := isOr) (cb := jb) hx7_4 f31 (is_or.mpr (by omega)) (by show (xi (E7_ 0) 22).toInt = -1; rw [show xi (E7_ 0) 22 = w7_0_22 from vi_e hs7_0_22]; first | exact t21 | omega) k40 f52 KM.rf (by decide) (fun t m => paY_mono n t m) (fun t m a c h => opL_1 (paY_mono n t m) rfl h)) (by omega) hI hKp fy44 fy45 fy46 hP hS (lv_sub hl [0, 2, 3, 4] rfl)
  exact hL7 (202) y7 y8 y9 r4 E5 _ _ _ iy7 iy8 iy9 f10 (by  first | exact f11 | omega) (by  first | exact f12 | omega) (by  first | exact fun q9 => (f13 (q9)) | omega) (by  first | exact fun q9 => f14 (q9) | omega) (LpM.start f15 lmO (Int.le_refl _)) (by have h9 := iy7; omega) hI hKp fy7 fy8 fy9 hP hS (lv_sub hl [0, 1, 2, 3] rfl)
theorem q_groupX (l : Launch) : ∀ n, C_sumX l n ∧ C_unitX l n ∧ C_conditionX l n := by
  have key : ∀ n, ∀ k, k < n → C_sumX l k ∧ C_unitX l k ∧ C_conditionX l k := by
    intro n
    induction n with
    | zero => intro k hk; exact absurd hk (by omega)
    | succ n ih =>
      intro k hk
      have h1 := q_atomX l k (fun j hj => (ih j (by omega)).1)
      have h3 := q_sumX l k (q_termX l k h1)
      have h4 := q_comparesX l k h3
      have h5 := q_unitX l k h4 (fun j hj => (ih j (by omega)).2.1) (fun j hj => (ih j (by omega)).2.2)
      exact ⟨h3, h5, q_conditionX l k (q_partX l k h4 h5)⟩
  exact fun n => key (n + 1) n (by omega)
