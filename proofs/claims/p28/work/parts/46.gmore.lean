

def v_certificateX : List Cond := .code yX13_certificate cX13_certificate 6 (some .int) :: vA
abbrev rm_certificateX : Room := { frames := 2, cells := 0, slots := 0, locals := 80 }
def w_certificateX : Nat → Nat → Bool := wl [1, 2, 3, 4, 5, 6] [(0, 0), (0, 9)]
set_option maxHeartbeats 4000000 in
set_option maxRecDepth 100000 in
theorem q_certificateX (l : Launch) (dC : Nat → ClassId) (dI : Nat → Nat → Nat) (cT : Nat → ClassId) (ad : Nat → Nat) (E : Nat → va_E) (sz : Nat) (a0 : Int32) (a1 : Int32) (a2 : Int32) (a3 : Int32) (a4 : Int32) (hI0 : IX cT shM spM 72 ad E)  : Met l yX13_certificate v_certificateX rm_certificateX (va_Pc [.ref (ad 0), .int a0, .int a1, .int a2, .int a3, .int a4] (HW dC dI (TYM cT) 72 ad E sz)) (va_Qi (S := Nat → va_E) (fun r u => IX cT shM spM 72 ad u ∧ Kp w_certificateX E u ∧ ((((((0 ≤ a0.toInt ∧ a0.toInt < (xi (E 0) 8).toInt) ∧ (0 ≤ a1.toInt ∧ a1.toInt ≤ 400) ∧ (10 ≤ a2.toInt ∧ a2.toInt ≤ 400) ∧ (1 ≤ a3.toInt ∧ a3.toInt ≤ 4000) ∧ (1 ≤ a4.toInt ∧ a4.toInt ≤ 900) ∧ (xi (E 0) 9).toInt < 80) → (r.toInt = (xi (E 0) 9).toInt ∧ (xi (u 0) 9).toInt = (xi (E 0) 9).toInt + 1)) ∧ (¬ ((0 ≤ a0.toInt ∧ a0.toInt < (xi (E 0) 8).toInt) ∧ (0 ≤ a1.toInt ∧ a1.toInt ≤ 400) ∧ (10 ≤ a2.toInt ∧ a2.toInt ≤ 400) ∧ (1 ≤ a3.toInt ∧ a3.toInt ≤ 4000) ∧ (1 ≤ a4.toInt ∧ a4.toInt ≤ 900) ∧ (xi (E 0) 9).toInt < 80) → (r.toInt = -1 ∧ (xi (u 0) 9).toInt = (xi (E 0) 9).toInt)))))) (HB dC dI 72 ad) (va_A (WX 72 ad E) sz)) 0 0 (va_A (WX 72 ad E) sz) := by
  refine Met.ofW (cc := cX13_certificate) (maxL := 6) (ret := (some .int)) (by decide) rfl ?_
  intro p e s m args below meth c s₁ B hml hv
  obtain ⟨hargs, hsz, hP, hK, hD0, hEV⟩ := hv
  subst hsz
  have hx := B.exec
  have hb := B.bytes
  have hr := B.returns
  have hts := atoms_spec (ws := v_certificateX) B.pre
  have hown : s.vm.findClass RX13 = some m.cls := findClass_of_methodNamed B.named
  have hlocks := B.notSynchronized
  have hinX13 : ∀ w ∈ u_ws RX13 TX13 97, w ∈ v_certificateX := fun w h => vA_in _ w (in_X13 w h)
  generalize hAe : va_A (WX 72 ad E) s.heap.size = A at hEV ⊢
  have hA : ∀ q : Nat, s.heap.size ≤ q → A q := fun q h => by rw [← hAe]; exact Or.inr h
  have hD : va_D A (WX 72 ad E) := by rw [← hAe]; exact hD0.self
  have hS : va_S A s.heap s.heap [] := va_S.rf
  have hI := hI0
  have hKp : Kp w_certificateX E E := Kp.rf
  have hl := lv_entry ([.ref (ad 0), .int a0, .int a1, .int a2, .int a3, .int a4]) (n := 6) (Nat.le_of_ble_eq_true rfl)
  obtain ⟨Q, hQ⟩ : ∃ Q, Q = MQ below (va_Qi (S := Nat → va_E) (fun r u => IX cT shM spM 72 ad u ∧ Kp w_certificateX E u ∧ ((((((0 ≤ a0.toInt ∧ a0.toInt < (xi (E 0) 8).toInt) ∧ (0 ≤ a1.toInt ∧ a1.toInt ≤ 400) ∧ (10 ≤ a2.toInt ∧ a2.toInt ≤ 400) ∧ (1 ≤ a3.toInt ∧ a3.toInt ≤ 4000) ∧ (1 ≤ a4.toInt ∧ a4.toInt ≤ 900) ∧ (xi (E 0) 9).toInt < 80) → (r.toInt = (xi (E 0) 9).toInt ∧ (xi (u 0) 9).toInt = (xi (E 0) 9).toInt + 1)) ∧ (¬ ((0 ≤ a0.toInt ∧ a0.toInt < (xi (E 0) 8).toInt) ∧ (0 ≤ a1.toInt ∧ a1.toInt ≤ 400) ∧ (10 ≤ a2.toInt ∧ a2.toInt ≤ 400) ∧ (1 ≤ a3.toInt ∧ a3.toInt ≤ 4000) ∧ (1 ≤ a4.toInt ∧ a4.toInt ≤ 900) ∧ (xi (E 0) 9).toInt < 80) → (r.toInt = -1 ∧ (xi (u 0) 9).toInt = (xi (E 0) 9).toInt)))))) (HB dC dI 72 ad) (A)) args s 0 0 (A) := ⟨_, rfl⟩
  rw [← hQ, show entryFrame m args 6 = _ from (congrArg (fun z => entryFrame m z 6) hargs).trans (lg_entry_eq _ _ _)]
  generalize (lg_sl ([.ref (ad 0), .int a0, .int a1, .int a2, .int a3, .int a4]) ++ List.replicate (6 - (lg_sl ([.ref (ad 0), .int a0, .int a1, .int a2, .int a3, .int a4])).length) Slot.unset).toArray = ls at hl ⊢
  have hl : lv_has ls 6 [(0, .ref (ad 0)), (1, .int a0), (2, .int a1), (3, .int a2), (4, .int a3), (5, .int a4)] := hl
  obtain ⟨y1, ey1⟩ : ∃ y, xi (E 0) 9 = y := ⟨_, rfl⟩
  have fy1 : xv (E 0) 9 = .int y1 := (hI.fi 0 (Nat.le_of_ble_eq_true rfl) rfl (Nat.le_of_ble_eq_true rfl) rfl).trans (congrArg Value.int ey1)
  have iy1 : 0 ≤ y1.toInt ∧ y1.toInt ≤ 80 := by rw [← ey1]; exact hI.iv 0 (Nat.le_of_ble_eq_true rfl) rfl (Nat.le_of_ble_eq_true rfl) rfl
  refine lv_aload_n hx hb dX13_certificate_0 rfl (lv_at hl 0 rfl) ?_
  refine lv_iconst (v := 0) hx hb dX13_certificate_1 (by decide) ?_
  refine th_put (ci := 14) (C := RX13) (T := TX13) (N := 97) (v := .int 0) (ty := .int) hx hb hts hinX13 tyX13 tyX13_ok nmX13 hown hK hP (WX_D hD) hS hI 0 (Nat.le_of_ble_eq_true rfl) rfl rfl 0 (Nat.le_of_ble_eq_true rfl) (hts _ (vA_in _ _ (in_24 _ (List.mem_of_getElem? (i := 10) rfl)))) (fun _ h9 => h9) rfl (by decide +kernel) rfl rfl (okI rfl (iv_w ln_0 (by decide))) dX13_certificate_2 (fun H locs E2 pw3 hI hP hS => ?_)
  have hKp := hKp.pw pw3 rfl
  refine lv_aload_n hx hb dX13_certificate_5 rfl (lv_at hl 0 rfl) ?_
  refine th_get (ci := 14) (C := RX13) (T := TX13) (N := 97) (v := .int y1) hx hb hts hinX13 hown hK hP hI 0 (Nat.le_of_ble_eq_true rfl) rfl rfl 9 (Nat.le_of_ble_eq_true rfl) (hts _ (vA_in _ _ (in_27 _ (List.mem_of_getElem? (i := 9) rfl)))) (fun _ h9 => h9) ((pw3.2 0 9 (fun q9 => absurd q9.2 (Nat.ne_of_beq_eq_false rfl))).trans fy1) dX13_certificate_6 ?_
  refine lv_bipush (v := 80) hx hb dX13_certificate_9 (by decide) ?_
  refine lv_icmp_eq (tgt := 65) hx hb dX13_certificate_11 (by decide) (fun c4 => ?_) (fun c4 => ?_)
  · --11 taken
    have t5 : y1.toInt = 80 := ti_eq c4
    have i6 : 80 ≤ y1.toInt ∧ y1.toInt ≤ 80 := iv_eqi t5 iy1 (il_ 80) (by decide)
    refine lv_iconst (v := -1) hx hb dX13_certificate_65 (by decide) ?_
    rw [hQ]
    exact W.iret (v := (-1)) hx hb hr (fun t ht hW => ⟨⟨(-1), E2, rfl, ⟨hI, hKp, (by have h8 := ln_m1; (try rw [(show xi (E2 0) 9 = y1 from vi_e ((pw3.2 0 9 (fun q9 => absurd q9.2 (Nat.ne_of_beq_eq_false rfl))).trans fy1))]); (try rw [ey1]); all_goals omega)⟩, by show va_P (dC, dI) vwCl (WX 72 ad E2) t.heap; rw [ht]; exact hP⟩, hS.F ht⟩) hS.2.2 dX13_certificate_66
  · --11 not
    have t7 : ¬ y1.toInt = 80 := ti_ne c4
    have i8 : 0 ≤ y1.toInt ∧ y1.toInt ≤ 79 := iv_ne_r t7 iy1 (il_ 80)
    refine lv_aload_n hx hb dX13_certificate_14 rfl (lv_at hl 0 rfl) ?_
    refine lv_iload_n hx hb dX13_certificate_15 rfl (lv_at hl 1 rfl) ?_
    refine th_ri (va_runV (As := [.int a0]) (rest := []) ⟨hx, hb, hml, hown, hts⟩ (q_isBoat l dC dI cT ad E2 H.size a0 hI) (cwV 1 hts (gi_V (in_24 _ (List.mem_of_getElem? (i := 18) rfl)) (in_24 _ (List.mem_of_getElem? (i := 19) rfl)) (in_24 _ (List.mem_of_getElem? (i := 20) rfl)) (in_24 _ (List.mem_of_getElem? (i := 15) rfl)) (in_24 _ (List.mem_of_getElem? (i := 21) rfl))) rfl rfl rfl (by decide +kernel) ⟨Nat.le_of_ble_eq_true rfl, Nat.le_of_ble_eq_true rfl⟩) ⟨HW_bl, va_recv hK hP (ci := 14) (q0 := 0) rfl (hI.ob 0 (Nat.le_of_ble_eq_true rfl) rfl), (HW_wi hP hK (WX_D hD) hS hA hEV)⟩ rfl rfl hl.1 rfl (lv_room (Nat.le_of_ble_eq_true rfl)) dX13_certificate_16 ⟨Nat.le_of_ble_eq_true rfl, Nat.le_of_ble_eq_true rfl⟩) hS hP (fun r9 H locs hw hP hS => ?_)
    rcases hw with hw | hw
    · -- isBoat, case 0
      obtain ⟨rfl, f10, f11⟩ := hw
      have i12 : 0 ≤ (xi (E 0) 8).toInt ∧ (xi (E 0) 8).toInt ≤ 16 := (show 0 ≤ (xi (E 0) 8).toInt ∧ (xi (E 0) 8).toInt ≤ 16 from hI0.iv 0 (Nat.le_of_ble_eq_true rfl) rfl (Nat.le_of_ble_eq_true rfl) rfl)
      try rw [hKp.ei 0 8 rfl] at f10
      refine lv_if_eq (tgt := 65) hx hb dX13_certificate_19 (by decide) (fun c13 => ?_) (fun c13 => ?_)
      · --19 taken
        exact absurd c13 (by decide)
      · --19 not
        refine lv_iload_n hx hb dX13_certificate_22 rfl (lv_at hl 2 rfl) ?_
        refine th_pi (va_runS (As := [.int a1]) (rest := []) ⟨hx, hb, hml, hown, hts⟩ (q_isDay l a1) (va_cwS 1 hts (gi_S (in_27 _ (List.mem_of_getElem? (i := 17) rfl)) (in_27 _ (List.mem_of_getElem? (i := 18) rfl)) (in_24 _ (List.mem_of_getElem? (i := 15) rfl)) (in_27 _ (List.mem_of_getElem? (i := 19) rfl))) rfl rfl rfl (by decide +kernel) ⟨Nat.le_of_ble_eq_true rfl, Nat.le_of_ble_eq_true rfl⟩) ⟨fun _ _ _ _ q => q, fun _ _ _ => ⟨rfl, trivial⟩⟩ rfl rfl hl.1 rfl (lv_room (Nat.le_of_ble_eq_true rfl)) dX13_certificate_23 ⟨Nat.le_of_ble_eq_true rfl, Nat.le_of_ble_eq_true rfl⟩) hS (fun r14 H1 locs1 hw hk1 hS => ?_)
        have hP := ub_keep hP hk1
        generalize H1 = H at hP hS ⊢
        generalize locs1 = locs at hS ⊢
        rcases hw with hw | hw
        · -- isDay, case 0
          obtain ⟨rfl, f15⟩ := hw
          have t16 : (0 : Int) ≤ a1.toInt := f15.1
          have t17 : a1.toInt ≤ 400 := f15.2
          have i18 : 0 ≤ a1.toInt ∧ a1.toInt ≤ 2147483647 := iv_le_r t16 (il_ 0) (iv_all _) (by decide)
          have i19 : 0 ≤ a1.toInt ∧ a1.toInt ≤ 400 := iv_le_l t17 i18 (il_ 400) (by decide)
          refine lv_if_eq (tgt := 65) hx hb dX13_certificate_26 (by decide) (fun c20 => ?_) (fun c20 => ?_)
          · --26 taken
            exact absurd c20 (by decide)
          · --26 not
            refine lv_iload_n hx hb dX13_certificate_29 rfl (lv_at hl 3 rfl) ?_
            refine lv_bipush (v := 10) hx hb dX13_certificate_30 (by decide) ?_
            refine lv_sipush (v := 400) hx hb dX13_certificate_32 (by decide) ?_
            refine th_pi (va_runS (As := [.int a2, .int 10, .int 400]) (rest := []) ⟨hx, hb, hml, hown, hts⟩ (q_isIn l a2 (10 : Int32) (400 : Int32)) (va_cwS 3 hts (gi_S (in_24 _ (List.mem_of_getElem? (i := 28) rfl)) (in_24 _ (List.mem_of_getElem? (i := 29) rfl)) (in_24 _ (List.mem_of_getElem? (i := 15) rfl)) (in_24 _ (List.mem_of_getElem? (i := 30) rfl))) rfl rfl rfl (by decide +kernel) ⟨Nat.le_of_ble_eq_true rfl, Nat.le_of_ble_eq_true rfl⟩) ⟨fun _ _ _ _ q => q, fun _ _ _ => ⟨rfl, trivial⟩⟩ rfl rfl hl.1 rfl (lv_room (Nat.le_of_ble_eq_true rfl)) dX13_certificate_35 ⟨Nat.le_of_ble_eq_true rfl, Nat.le_of_ble_eq_true rfl⟩) hS (fun r21 H1 locs1 hw hk1 hS => ?_)
            have hP := ub_keep hP hk1
            generalize H1 = H at hP hS ⊢
            generalize locs1 = locs at hS ⊢
            rcases hw with hw | hw
            · -- isIn, case 0
              obtain ⟨rfl, f22⟩ := hw
              have t23 : (10 : Int) ≤ a2.toInt := f22.1
              have t24 : a2.toInt ≤ 400 := f22.2
              have i25 : 10 ≤ a2.toInt ∧ a2.toInt ≤ 2147483647 := iv_le_r t23 (il_ 10) (iv_all _) (by decide)
              have i26 : 10 ≤ a2.toInt ∧ a2.toInt ≤ 400 := iv_le_l t24 i25 (il_ 400) (by decide)
              refine lv_if_eq (tgt := 65) hx hb dX13_certificate_38 (by decide) (fun c27 => ?_) (fun c27 => ?_)
              · --38 taken
                exact absurd c27 (by decide)
              · --38 not
                refine lv_iload hx hb dX13_certificate_41 (lv_at hl 4 rfl) ?_
                refine lv_iconst (v := 1) hx hb dX13_certificate_43 (by decide) ?_
                refine lv_sipush (v := 4000) hx hb dX13_certificate_44 (by decide) ?_
                refine th_pi (va_runS (As := [.int a3, .int 1, .int 4000]) (rest := []) ⟨hx, hb, hml, hown, hts⟩ (q_isIn l a3 (1 : Int32) (4000 : Int32)) (va_cwS 3 hts (gi_S (in_24 _ (List.mem_of_getElem? (i := 28) rfl)) (in_24 _ (List.mem_of_getElem? (i := 29) rfl)) (in_24 _ (List.mem_of_getElem? (i := 15) rfl)) (in_24 _ (List.mem_of_getElem? (i := 30) rfl))) rfl rfl rfl (by decide +kernel) ⟨Nat.le_of_ble_eq_true rfl, Nat.le_of_ble_eq_true rfl⟩) ⟨fun _ _ _ _ q => q, fun _ _ _ => ⟨rfl, trivial⟩⟩ rfl rfl hl.1 rfl (lv_room (Nat.le_of_ble_eq_true rfl)) dX13_certificate_47 ⟨Nat.le_of_ble_eq_true rfl, Nat.le_of_ble_eq_true rfl⟩) hS (fun r28 H1 locs1 hw hk1 hS => ?_)
                have hP := ub_keep hP hk1
                generalize H1 = H at hP hS ⊢
                generalize locs1 = locs at hS ⊢
                rcases hw with hw | hw
                · -- isIn, case 0
                  obtain ⟨rfl, f29⟩ := hw
                  have t30 : (1 : Int) ≤ a3.toInt := f29.1
                  have t31 : a3.toInt ≤ 4000 := f29.2
                  have i32 : 1 ≤ a3.toInt ∧ a3.toInt ≤ 2147483647 := iv_le_r t30 (il_ 1) (iv_all _) (by decide)
                  have i33 : 1 ≤ a3.toInt ∧ a3.toInt ≤ 4000 := iv_le_l t31 i32 (il_ 4000) (by decide)
                  refine lv_if_eq (tgt := 65) hx hb dX13_certificate_50 (by decide) (fun c34 => ?_) (fun c34 => ?_)
                  · --50 taken
                    exact absurd c34 (by decide)
                  · --50 not
                    refine lv_iload hx hb dX13_certificate_53 (lv_at hl 5 rfl) ?_
                    refine lv_iconst (v := 1) hx hb dX13_certificate_55 (by decide) ?_
                    refine lv_sipush (v := 900) hx hb dX13_certificate_56 (by decide) ?_
                    refine th_pi (va_runS (As := [.int a4, .int 1, .int 900]) (rest := []) ⟨hx, hb, hml, hown, hts⟩ (q_isIn l a4 (1 : Int32) (900 : Int32)) (va_cwS 3 hts (gi_S (in_24 _ (List.mem_of_getElem? (i := 28) rfl)) (in_24 _ (List.mem_of_getElem? (i := 29) rfl)) (in_24 _ (List.mem_of_getElem? (i := 15) rfl)) (in_24 _ (List.mem_of_getElem? (i := 30) rfl))) rfl rfl rfl (by decide +kernel) ⟨Nat.le_of_ble_eq_true rfl, Nat.le_of_ble_eq_true rfl⟩) ⟨fun _ _ _ _ q => q, fun _ _ _ => ⟨rfl, trivial⟩⟩ rfl rfl hl.1 rfl (lv_room (Nat.le_of_ble_eq_true rfl)) dX13_certificate_59 ⟨Nat.le_of_ble_eq_true rfl, Nat.le_of_ble_eq_true rfl⟩) hS (fun r35 H1 locs1 hw hk1 hS => ?_)
                    have hP := ub_keep hP hk1
                    generalize H1 = H at hP hS ⊢
                    generalize locs1 = locs at hS ⊢
                    rcases hw with hw | hw
                    · -- isIn, case 0
                      obtain ⟨rfl, f36⟩ := hw
                      have t37 : (1 : Int) ≤ a4.toInt := f36.1
                      have t38 : a4.toInt ≤ 900 := f36.2
                      have i39 : 1 ≤ a4.toInt ∧ a4.toInt ≤ 2147483647 := iv_le_r t37 (il_ 1) (iv_all _) (by decide)
                      have i40 : 1 ≤ a4.toInt ∧ a4.toInt ≤ 900 := iv_le_l t38 i39 (il_ 900) (by decide)
                      refine lv_if_ne (tgt := 67) hx hb dX13_certificate_62 (by decide) (fun c41 => ?_) (fun c41 => ?_)
                      · --62 taken
                        refine lv_aload_n hx hb dX13_certificate_67 rfl (lv_at hl 0 rfl) ?_
                        refine th_get (ci := 14) (C := RX13) (T := TX13) (N := 97) (v := .ref (ad 1)) hx hb hts hinX13 hown hK hP hI 0 (Nat.le_of_ble_eq_true rfl) rfl rfl 2 (Nat.le_of_ble_eq_true rfl) (hts _ (vA_in _ _ (in_27 _ (List.mem_of_getElem? (i := 10) rfl)))) (fun _ h9 => h9) (hI.fr 0 (Nat.le_of_ble_eq_true rfl) rfl (Nat.le_of_ble_eq_true rfl) 1 rfl) dX13_certificate_68 ?_
                        refine lv_aload_n hx hb dX13_certificate_71 rfl (lv_at hl 0 rfl) ?_
                        refine th_get (ci := 14) (C := RX13) (T := TX13) (N := 97) (v := .int y1) hx hb hts hinX13 hown hK hP hI 0 (Nat.le_of_ble_eq_true rfl) rfl rfl 9 (Nat.le_of_ble_eq_true rfl) (hts _ (vA_in _ _ (in_27 _ (List.mem_of_getElem? (i := 9) rfl)))) (fun _ h9 => h9) ((pw3.2 0 9 (fun q9 => absurd q9.2 (Nat.ne_of_beq_eq_false rfl))).trans fy1) dX13_certificate_72 ?_
                        refine lv_iload_n hx hb dX13_certificate_75 rfl (lv_at hl 1 rfl) ?_
                        have n42 : vp_in y1 80 := (iv_in (n := 80) i8 (by decide))
                        refine th_iast hx hb hK hP (WX_D hD) hS hI 1 (Nat.le_of_ble_eq_true rfl) rfl rfl n42 (okI rfl f11) dX13_certificate_76 (fun H locs E43 pw44 hI hP hS => ?_)
                        have hKp := hKp.pw pw44 rfl
                        refine lv_aload_n hx hb dX13_certificate_77 rfl (lv_at hl 0 rfl) ?_
                        refine th_get (ci := 14) (C := RX13) (T := TX13) (N := 97) (v := .ref (ad 2)) hx hb hts hinX13 hown hK hP hI 0 (Nat.le_of_ble_eq_true rfl) rfl rfl 3 (Nat.le_of_ble_eq_true rfl) (hts _ (vA_in _ _ (in_27 _ (List.mem_of_getElem? (i := 12) rfl)))) (fun _ h9 => h9) (hI.fr 0 (Nat.le_of_ble_eq_true rfl) rfl (Nat.le_of_ble_eq_true rfl) 2 rfl) dX13_certificate_78 ?_
                        refine lv_aload_n hx hb dX13_certificate_81 rfl (lv_at hl 0 rfl) ?_
                        refine th_get (ci := 14) (C := RX13) (T := TX13) (N := 97) (v := .int y1) hx hb hts hinX13 hown hK hP hI 0 (Nat.le_of_ble_eq_true rfl) rfl rfl 9 (Nat.le_of_ble_eq_true rfl) (hts _ (vA_in _ _ (in_27 _ (List.mem_of_getElem? (i := 9) rfl)))) (fun _ h9 => h9) ((pw44.2 0 9 (fun q9 => absurd q9.1 (Nat.ne_of_beq_eq_false rfl))).trans ((pw3.2 0 9 (fun q9 => absurd q9.2 (Nat.ne_of_beq_eq_false rfl))).trans fy1)) dX13_certificate_82 ?_
                        refine lv_iload_n hx hb dX13_certificate_85 rfl (lv_at hl 2 rfl) ?_
                        have n45 : vp_in y1 80 := (iv_in (n := 80) i8 (by decide))
                        refine th_iast hx hb hK hP (WX_D hD) hS hI 2 (Nat.le_of_ble_eq_true rfl) rfl rfl n45 (okI rfl i19) dX13_certificate_86 (fun H locs E46 pw47 hI hP hS => ?_)
                        have hKp := hKp.pw pw47 rfl
                        refine lv_aload_n hx hb dX13_certificate_87 rfl (lv_at hl 0 rfl) ?_
                        refine th_get (ci := 14) (C := RX13) (T := TX13) (N := 97) (v := .ref (ad 3)) hx hb hts hinX13 hown hK hP hI 0 (Nat.le_of_ble_eq_true rfl) rfl rfl 4 (Nat.le_of_ble_eq_true rfl) (hts _ (vA_in _ _ (in_27 _ (List.mem_of_getElem? (i := 14) rfl)))) (fun _ h9 => h9) (hI.fr 0 (Nat.le_of_ble_eq_true rfl) rfl (Nat.le_of_ble_eq_true rfl) 3 rfl) dX13_certificate_88 ?_
                        refine lv_aload_n hx hb dX13_certificate_91 rfl (lv_at hl 0 rfl) ?_
                        refine th_get (ci := 14) (C := RX13) (T := TX13) (N := 97) (v := .int y1) hx hb hts hinX13 hown hK hP hI 0 (Nat.le_of_ble_eq_true rfl) rfl rfl 9 (Nat.le_of_ble_eq_true rfl) (hts _ (vA_in _ _ (in_27 _ (List.mem_of_getElem? (i := 9) rfl)))) (fun _ h9 => h9) ((pw47.2 0 9 (fun q9 => absurd q9.1 (Nat.ne_of_beq_eq_false rfl))).trans ((pw44.2 0 9 (fun q9 => absurd q9.1 (Nat.ne_of_beq_eq_false rfl))).trans ((pw3.2 0 9 (fun q9 => absurd q9.2 (Nat.ne_of_beq_eq_false rfl))).trans fy1))) dX13_certificate_92 ?_
                        refine lv_iload_n hx hb dX13_certificate_95 rfl (lv_at hl 3 rfl) ?_
                        have n48 : vp_in y1 80 := (iv_in (n := 80) i8 (by decide))
                        refine th_iast hx hb hK hP (WX_D hD) hS hI 3 (Nat.le_of_ble_eq_true rfl) rfl rfl n48 (okI rfl (iv_w i26 (by decide))) dX13_certificate_96 (fun H locs E49 pw50 hI hP hS => ?_)
                        have hKp := hKp.pw pw50 rfl
                        refine lv_aload_n hx hb dX13_certificate_97 rfl (lv_at hl 0 rfl) ?_
                        refine th_get (ci := 14) (C := RX13) (T := TX13) (N := 97) (v := .ref (ad 4)) hx hb hts hinX13 hown hK hP hI 0 (Nat.le_of_ble_eq_true rfl) rfl rfl 5 (Nat.le_of_ble_eq_true rfl) (hts _ (vA_in _ _ (in_27 _ (List.mem_of_getElem? (i := 15) rfl)))) (fun _ h9 => h9) (hI.fr 0 (Nat.le_of_ble_eq_true rfl) rfl (Nat.le_of_ble_eq_true rfl) 4 rfl) dX13_certificate_98 ?_
                        refine lv_aload_n hx hb dX13_certificate_101 rfl (lv_at hl 0 rfl) ?_
                        refine th_get (ci := 14) (C := RX13) (T := TX13) (N := 97) (v := .int y1) hx hb hts hinX13 hown hK hP hI 0 (Nat.le_of_ble_eq_true rfl) rfl rfl 9 (Nat.le_of_ble_eq_true rfl) (hts _ (vA_in _ _ (in_27 _ (List.mem_of_getElem? (i := 9) rfl)))) (fun _ h9 => h9) ((pw50.2 0 9 (fun q9 => absurd q9.1 (Nat.ne_of_beq_eq_false rfl))).trans ((pw47.2 0 9 (fun q9 => absurd q9.1 (Nat.ne_of_beq_eq_false rfl))).trans ((pw44.2 0 9 (fun q9 => absurd q9.1 (Nat.ne_of_beq_eq_false rfl))).trans ((pw3.2 0 9 (fun q9 => absurd q9.2 (Nat.ne_of_beq_eq_false rfl))).trans fy1)))) dX13_certificate_102 ?_
                        refine lv_iload hx hb dX13_certificate_105 (lv_at hl 4 rfl) ?_
                        have n51 : vp_in y1 80 := (iv_in (n := 80) i8 (by decide))
                        refine th_iast hx hb hK hP (WX_D hD) hS hI 4 (Nat.le_of_ble_eq_true rfl) rfl rfl n51 (okI rfl (iv_w i33 (by decide))) dX13_certificate_107 (fun H locs E52 pw53 hI hP hS => ?_)
                        have hKp := hKp.pw pw53 rfl
                        refine lv_aload_n hx hb dX13_certificate_108 rfl (lv_at hl 0 rfl) ?_
                        refine th_get (ci := 14) (C := RX13) (T := TX13) (N := 97) (v := .ref (ad 5)) hx hb hts hinX13 hown hK hP hI 0 (Nat.le_of_ble_eq_true rfl) rfl rfl 6 (Nat.le_of_ble_eq_true rfl) (hts _ (vA_in _ _ (in_27 _ (List.mem_of_getElem? (i := 16) rfl)))) (fun _ h9 => h9) (hI.fr 0 (Nat.le_of_ble_eq_true rfl) rfl (Nat.le_of_ble_eq_true rfl) 5 rfl) dX13_certificate_109 ?_
                        refine lv_aload_n hx hb dX13_certificate_112 rfl (lv_at hl 0 rfl) ?_
                        refine th_get (ci := 14) (C := RX13) (T := TX13) (N := 97) (v := .int y1) hx hb hts hinX13 hown hK hP hI 0 (Nat.le_of_ble_eq_true rfl) rfl rfl 9 (Nat.le_of_ble_eq_true rfl) (hts _ (vA_in _ _ (in_27 _ (List.mem_of_getElem? (i := 9) rfl)))) (fun _ h9 => h9) ((pw53.2 0 9 (fun q9 => absurd q9.1 (Nat.ne_of_beq_eq_false rfl))).trans ((pw50.2 0 9 (fun q9 => absurd q9.1 (Nat.ne_of_beq_eq_false rfl))).trans ((pw47.2 0 9 (fun q9 => absurd q9.1 (Nat.ne_of_beq_eq_false rfl))).trans ((pw44.2 0 9 (fun q9 => absurd q9.1 (Nat.ne_of_beq_eq_false rfl))).trans ((pw3.2 0 9 (fun q9 => absurd q9.2 (Nat.ne_of_beq_eq_false rfl))).trans fy1))))) dX13_certificate_113 ?_
                        refine lv_iload hx hb dX13_certificate_116 (lv_at hl 5 rfl) ?_
                        have n54 : vp_in y1 80 := (iv_in (n := 80) i8 (by decide))
                        refine th_iast hx hb hK hP (WX_D hD) hS hI 5 (Nat.le_of_ble_eq_true rfl) rfl rfl n54 (okI rfl (iv_w i40 (by decide))) dX13_certificate_118 (fun H locs E55 pw56 hI hP hS => ?_)
                        have hKp := hKp.pw pw56 rfl
                        refine lv_aload_n hx hb dX13_certificate_119 rfl (lv_at hl 0 rfl) ?_
                        refine th_get (ci := 14) (C := RX13) (T := TX13) (N := 97) (v := .ref (ad 6)) hx hb hts hinX13 hown hK hP hI 0 (Nat.le_of_ble_eq_true rfl) rfl rfl 7 (Nat.le_of_ble_eq_true rfl) (hts _ (vA_in _ _ (in_27 _ (List.mem_of_getElem? (i := 11) rfl)))) (fun _ h9 => h9) (hI.fr 0 (Nat.le_of_ble_eq_true rfl) rfl (Nat.le_of_ble_eq_true rfl) 6 rfl) dX13_certificate_120 ?_
                        refine lv_aload_n hx hb dX13_certificate_123 rfl (lv_at hl 0 rfl) ?_
                        refine th_get (ci := 14) (C := RX13) (T := TX13) (N := 97) (v := .int y1) hx hb hts hinX13 hown hK hP hI 0 (Nat.le_of_ble_eq_true rfl) rfl rfl 9 (Nat.le_of_ble_eq_true rfl) (hts _ (vA_in _ _ (in_27 _ (List.mem_of_getElem? (i := 9) rfl)))) (fun _ h9 => h9) ((pw56.2 0 9 (fun q9 => absurd q9.1 (Nat.ne_of_beq_eq_false rfl))).trans ((pw53.2 0 9 (fun q9 => absurd q9.1 (Nat.ne_of_beq_eq_false rfl))).trans ((pw50.2 0 9 (fun q9 => absurd q9.1 (Nat.ne_of_beq_eq_false rfl))).trans ((pw47.2 0 9 (fun q9 => absurd q9.1 (Nat.ne_of_beq_eq_false rfl))).trans ((pw44.2 0 9 (fun q9 => absurd q9.1 (Nat.ne_of_beq_eq_false rfl))).trans ((pw3.2 0 9 (fun q9 => absurd q9.2 (Nat.ne_of_beq_eq_false rfl))).trans fy1)))))) dX13_certificate_124 ?_
                        refine lv_aload_n hx hb dX13_certificate_127 rfl (lv_at hl 0 rfl) ?_
                        have i57 : 0 ≤ (xi (E 0) 1).toInt ∧ (xi (E 0) 1).toInt ≤ 400 := hI0.iv 0 (Nat.le_of_ble_eq_true rfl) rfl (Nat.le_of_ble_eq_true rfl) rfl
                        refine th_get (ci := 14) (C := RX13) (T := TX13) (N := 97) (v := .int (xi (E 0) 1)) hx hb hts hinX13 hown hK hP hI 0 (Nat.le_of_ble_eq_true rfl) rfl rfl 1 (Nat.le_of_ble_eq_true rfl) (hts _ (vA_in _ _ (in_24 _ (List.mem_of_getElem? (i := 27) rfl)))) (fun _ h9 => h9) (th_v0 hKp hI0 0 (Nat.le_of_ble_eq_true rfl) rfl (Nat.le_of_ble_eq_true rfl) rfl rfl) dX13_certificate_128 ?_
                        have n58 : vp_in y1 80 := (iv_in (n := 80) i8 (by decide))
                        refine th_iast hx hb hK hP (WX_D hD) hS hI 6 (Nat.le_of_ble_eq_true rfl) rfl rfl n58 (okI rfl i57) dX13_certificate_131 (fun H locs E59 pw60 hI hP hS => ?_)
                        have hKp := hKp.pw pw60 rfl
                        refine lv_aload_n hx hb dX13_certificate_132 rfl (lv_at hl 0 rfl) ?_
                        refine lv_dup hx hb dX13_certificate_133 rfl ?_
                        refine th_get (ci := 14) (C := RX13) (T := TX13) (N := 97) (v := .int y1) hx hb hts hinX13 hown hK hP hI 0 (Nat.le_of_ble_eq_true rfl) rfl rfl 9 (Nat.le_of_ble_eq_true rfl) (hts _ (vA_in _ _ (in_27 _ (List.mem_of_getElem? (i := 9) rfl)))) (fun _ h9 => h9) ((pw60.2 0 9 (fun q9 => absurd q9.1 (Nat.ne_of_beq_eq_false rfl))).trans ((pw56.2 0 9 (fun q9 => absurd q9.1 (Nat.ne_of_beq_eq_false rfl))).trans ((pw53.2 0 9 (fun q9 => absurd q9.1 (Nat.ne_of_beq_eq_false rfl))).trans ((pw50.2 0 9 (fun q9 => absurd q9.1 (Nat.ne_of_beq_eq_false rfl))).trans ((pw47.2 0 9 (fun q9 => absurd q9.1 (Nat.ne_of_beq_eq_false rfl))).trans ((pw44.2 0 9 (fun q9 => absurd q9.1 (Nat.ne_of_beq_eq_false rfl))).trans ((pw3.2 0 9 (fun q9 => absurd q9.2 (Nat.ne_of_beq_eq_false rfl))).trans fy1))))))) dX13_certificate_134 ?_
                        refine lv_iconst (v := 1) hx hb dX13_certificate_137 (by decide) ?_
                        refine lv_iadd hx hb dX13_certificate_138 ?_
                        refine lv_topi (fun y61 ey61 => ?_)
                        obtain ⟨ty61, iy61⟩ := ti_add (e := 1) (f := 80) i8 ln_1 ey61 (by decide)
                        have ty61 : y61.toInt = y1.toInt + 1 := ty61
                        have iy61 : 1 ≤ y61.toInt ∧ y61.toInt ≤ 80 := iy61
                        refine th_put (ci := 14) (C := RX13) (T := TX13) (N := 97) (v := .int y61) (ty := .int) hx hb hts hinX13 tyX13 tyX13_ok nmX13 hown hK hP (WX_D hD) hS hI 0 (Nat.le_of_ble_eq_true rfl) rfl rfl 9 (Nat.le_of_ble_eq_true rfl) (hts _ (vA_in _ _ (in_27 _ (List.mem_of_getElem? (i := 9) rfl)))) (fun _ h9 => h9) rfl (by decide +kernel) rfl rfl (okI rfl (iv_w iy61 (by decide))) dX13_certificate_139 (fun H locs E62 pw63 hI hP hS => ?_)
                        have hKp := hKp.pw pw63 rfl
                        refine lv_aload_n hx hb dX13_certificate_142 rfl (lv_at hl 0 rfl) ?_
                        refine th_get (ci := 14) (C := RX13) (T := TX13) (N := 97) (v := .int y61) hx hb hts hinX13 hown hK hP hI 0 (Nat.le_of_ble_eq_true rfl) rfl rfl 9 (Nat.le_of_ble_eq_true rfl) (hts _ (vA_in _ _ (in_27 _ (List.mem_of_getElem? (i := 9) rfl)))) (fun _ h9 => h9) pw63.1 dX13_certificate_143 ?_
                        refine lv_iconst (v := 1) hx hb dX13_certificate_146 (by decide) ?_
                        refine lv_isub hx hb dX13_certificate_147 ?_
                        refine lv_topi (fun y64 ey64 => ?_)
                        obtain ⟨ty64, iy64⟩ := ti_sub (e := 0) (f := 79) iy61 ln_1 ey64 (by decide)
                        have ty64 : y64.toInt = y61.toInt - 1 := ty64
                        have iy64 : 0 ≤ y64.toInt ∧ y64.toInt ≤ 79 := iy64
                        rw [hQ]
                        exact W.iret (v := y64) hx hb hr (fun t ht hW => ⟨⟨y64, E62, rfl, ⟨hI, hKp, (by (try rw [(show xi (E62 0) 9 = y61 from vi_e pw63.1)]); (try rw [ey1]); all_goals omega)⟩, by show va_P (dC, dI) vwCl (WX 72 ad E62) t.heap; rw [ht]; exact hP⟩, hS.F ht⟩) hS.2.2 dX13_certificate_148
                      · --62 not
                        exact absurd c41 (by decide)
                    · -- isIn, case 1
                      obtain ⟨rfl, f65⟩ := hw
                      have t66 : ¬ ((1 : Int) ≤ a4.toInt ∧ a4.toInt ≤ 900) := f65
                      refine lv_if_ne (tgt := 67) hx hb dX13_certificate_62 (by decide) (fun c67 => ?_) (fun c67 => ?_)
                      · --62 taken
                        exact absurd c67 (by decide)
                      · --62 not
                        refine lv_iconst (v := -1) hx hb dX13_certificate_65 (by decide) ?_
                        rw [hQ]
                        exact W.iret (v := (-1)) hx hb hr (fun t ht hW => ⟨⟨(-1), E2, rfl, ⟨hI, hKp, (by have h8 := ln_m1; (try rw [(show xi (E2 0) 9 = y1 from vi_e ((pw3.2 0 9 (fun q9 => absurd q9.2 (Nat.ne_of_beq_eq_false rfl))).trans fy1))]); (try rw [ey1]); all_goals omega)⟩, by show va_P (dC, dI) vwCl (WX 72 ad E2) t.heap; rw [ht]; exact hP⟩, hS.F ht⟩) hS.2.2 dX13_certificate_66
                · -- isIn, case 1
                  obtain ⟨rfl, f68⟩ := hw
                  have t69 : ¬ ((1 : Int) ≤ a3.toInt ∧ a3.toInt ≤ 4000) := f68
                  refine lv_if_eq (tgt := 65) hx hb dX13_certificate_50 (by decide) (fun c70 => ?_) (fun c70 => ?_)
                  · --50 taken
                    refine lv_iconst (v := -1) hx hb dX13_certificate_65 (by decide) ?_
                    rw [hQ]
                    exact W.iret (v := (-1)) hx hb hr (fun t ht hW => ⟨⟨(-1), E2, rfl, ⟨hI, hKp, (by have h8 := ln_m1; (try rw [(show xi (E2 0) 9 = y1 from vi_e ((pw3.2 0 9 (fun q9 => absurd q9.2 (Nat.ne_of_beq_eq_false rfl))).trans fy1))]); (try rw [ey1]); all_goals omega)⟩, by show va_P (dC, dI) vwCl (WX 72 ad E2) t.heap; rw [ht]; exact hP⟩, hS.F ht⟩) hS.2.2 dX13_certificate_66
                  · --50 not
                    exact absurd c70 (by decide)
            · -- isIn, case 1
              obtain ⟨rfl, f71⟩ := hw
              have t72 : ¬ ((10 : Int) ≤ a2.toInt ∧ a2.toInt ≤ 400) := f71
              refine lv_if_eq (tgt := 65) hx hb dX13_certificate_38 (by decide) (fun c73 => ?_) (fun c73 => ?_)
              · --38 taken
                refine lv_iconst (v := -1) hx hb dX13_certificate_65 (by decide) ?_
                rw [hQ]
                exact W.iret (v := (-1)) hx hb hr (fun t ht hW => ⟨⟨(-1), E2, rfl, ⟨hI, hKp, (by have h8 := ln_m1; (try rw [(show xi (E2 0) 9 = y1 from vi_e ((pw3.2 0 9 (fun q9 => absurd q9.2 (Nat.ne_of_beq_eq_false rfl))).trans fy1))]); (try rw [ey1]); all_goals omega)⟩, by show va_P (dC, dI) vwCl (WX 72 ad E2) t.heap; rw [ht]; exact hP⟩, hS.F ht⟩) hS.2.2 dX13_certificate_66
              · --38 not
                exact absurd c73 (by decide)
        · -- isDay, case 1
          obtain ⟨rfl, f74⟩ := hw
          have t75 : ¬ ((0 : Int) ≤ a1.toInt ∧ a1.toInt ≤ 400) := f74
          refine lv_if_eq (tgt := 65) hx hb dX13_certificate_26 (by decide) (fun c76 => ?_) (fun c76 => ?_)
          · --26 taken
            refine lv_iconst (v := -1) hx hb dX13_certificate_65 (by decide) ?_
            rw [hQ]
            exact W.iret (v := (-1)) hx hb hr (fun t ht hW => ⟨⟨(-1), E2, rfl, ⟨hI, hKp, (by have h8 := ln_m1; (try rw [(show xi (E2 0) 9 = y1 from vi_e ((pw3.2 0 9 (fun q9 => absurd q9.2 (Nat.ne_of_beq_eq_false rfl))).trans fy1))]); (try rw [ey1]); all_goals omega)⟩, by show va_P (dC, dI) vwCl (WX 72 ad E2) t.heap; rw [ht]; exact hP⟩, hS.F ht⟩) hS.2.2 dX13_certificate_66
          · --26 not
            exact absurd c76 (by decide)
    · -- isBoat, case 1
      obtain ⟨rfl, f77⟩ := hw
      have i78 : 0 ≤ (xi (E 0) 8).toInt ∧ (xi (E 0) 8).toInt ≤ 16 := (show 0 ≤ (xi (E 0) 8).toInt ∧ (xi (E 0) 8).toInt ≤ 16 from hI0.iv 0 (Nat.le_of_ble_eq_true rfl) rfl (Nat.le_of_ble_eq_true rfl) rfl)
      try rw [hKp.ei 0 8 rfl] at f77
      refine lv_if_eq (tgt := 65) hx hb dX13_certificate_19 (by decide) (fun c79 => ?_) (fun c79 => ?_)
      · --19 taken
        refine lv_iconst (v := -1) hx hb dX13_certificate_65 (by decide) ?_
        rw [hQ]
        exact W.iret (v := (-1)) hx hb hr (fun t ht hW => ⟨⟨(-1), E2, rfl, ⟨hI, hKp, (by have h8 := ln_m1; (try rw [(show xi (E2 0) 9 = y1 from vi_e ((pw3.2 0 9 (fun q9 => absurd q9.2 (Nat.ne_of_beq_eq_false rfl))).trans fy1))]); (try rw [ey1]); all_goals omega)⟩, by show va_P (dC, dI) vwCl (WX 72 ad E2) t.heap; rw [ht]; exact hP⟩, hS.F ht⟩) hS.2.2 dX13_certificate_66
      · --19 not
        exact absurd c79 (by decide)
def v_raceX : List Cond := .code yX13_race cX13_race 8 (some .int) :: vA
abbrev rm_raceX : Room := { frames := 2, cells := 0, slots := 0, locals := 80 }
def w_raceX : Nat → Nat → Bool := wl [13, 14, 15, 16, 17, 18, 19, 20, 21, 22] [(0, 0), (0, 46)]
set_option maxHeartbeats 4000000 in
set_option maxRecDepth 100000 in
theorem q_raceX (l : Launch) (dC : Nat → ClassId) (dI : Nat → Nat → Nat) (cT : Nat → ClassId) (ad : Nat → Nat) (E : Nat → va_E) (sz : Nat) (a0 : Int32) (a1 : Int32) (a2 : Int32) (a3 : Int32) (a4 : Int32) (a5 : Int32) (hI0 : IX cT shM spM 72 ad E)  : Met l yX13_race v_raceX rm_raceX (va_Pc [.ref (ad 0), .int a0, .int a1, .int a2, .int a3, .int a4, .int a5] (HW dC dI (TYM cT) 72 ad E sz)) (va_Qi (S := Nat → va_E) (fun r u => IX cT shM spM 72 ad u ∧ Kp w_raceX E u ∧ ((((((0 ≤ a0.toInt ∧ a0.toInt ≤ (xi (E 0) 1).toInt) ∧ (1 ≤ a1.toInt ∧ a1.toInt ≤ 1000) ∧ (0 ≤ a2.toInt ∧ a2.toInt ≤ 1) ∧ (0 ≤ a3.toInt ∧ a3.toInt ≤ 7) ∧ (0 ≤ a4.toInt ∧ a4.toInt ≤ 99) ∧ (0 ≤ a5.toInt ∧ a5.toInt ≤ 99) ∧ (xi (E 0) 46).toInt < 20) → (r.toInt = (xi (E 0) 46).toInt ∧ (xi (u 0) 46).toInt = (xi (E 0) 46).toInt + 1)) ∧ (¬ ((0 ≤ a0.toInt ∧ a0.toInt ≤ (xi (E 0) 1).toInt) ∧ (1 ≤ a1.toInt ∧ a1.toInt ≤ 1000) ∧ (0 ≤ a2.toInt ∧ a2.toInt ≤ 1) ∧ (0 ≤ a3.toInt ∧ a3.toInt ≤ 7) ∧ (0 ≤ a4.toInt ∧ a4.toInt ≤ 99) ∧ (0 ≤ a5.toInt ∧ a5.toInt ≤ 99) ∧ (xi (E 0) 46).toInt < 20) → (r.toInt = -1 ∧ (xi (u 0) 46).toInt = (xi (E 0) 46).toInt)))) ∧ ((∀ j : Nat, ((j : Int) < 16 * (xi (E 0) 46).toInt ∨ 16 * (xi (E 0) 46).toInt + 16 ≤ (j : Int)) → xi (u 21) j = xi (E 21) j) ∧ (0 ≤ r.toInt → ∀ j : Nat, 16 * (xi (E 0) 46).toInt ≤ (j : Int) → (j : Int) < 16 * (xi (E 0) 46).toInt + 16 → xi (u 21) j = 1000)))) (HB dC dI 72 ad) (va_A (WX 72 ad E) sz)) 0 0 (va_A (WX 72 ad E) sz) := by
  refine Met.ofW (cc := cX13_race) (maxL := 8) (ret := (some .int)) (by decide) rfl ?_
  intro p e s m args below meth c s₁ B hml hv
  obtain ⟨hargs, hsz, hP, hK, hD0, hEV⟩ := hv
  subst hsz
  have hx := B.exec
  have hb := B.bytes
  have hr := B.returns
  have hts := atoms_spec (ws := v_raceX) B.pre
  have hown : s.vm.findClass RX13 = some m.cls := findClass_of_methodNamed B.named
  have hlocks := B.notSynchronized
  have hinX13 : ∀ w ∈ u_ws RX13 TX13 97, w ∈ v_raceX := fun w h => vA_in _ w (in_X13 w h)
  generalize hAe : va_A (WX 72 ad E) s.heap.size = A at hEV ⊢
  have hA : ∀ q : Nat, s.heap.size ≤ q → A q := fun q h => by rw [← hAe]; exact Or.inr h
  have hD : va_D A (WX 72 ad E) := by rw [← hAe]; exact hD0.self
  have hS : va_S A s.heap s.heap [] := va_S.rf
  have hI := hI0
  have hKp : Kp w_raceX E E := Kp.rf
  have hl := lv_entry ([.ref (ad 0), .int a0, .int a1, .int a2, .int a3, .int a4, .int a5]) (n := 8) (Nat.le_of_ble_eq_true rfl)
  obtain ⟨Q, hQ⟩ : ∃ Q, Q = MQ below (va_Qi (S := Nat → va_E) (fun r u => IX cT shM spM 72 ad u ∧ Kp w_raceX E u ∧ ((((((0 ≤ a0.toInt ∧ a0.toInt ≤ (xi (E 0) 1).toInt) ∧ (1 ≤ a1.toInt ∧ a1.toInt ≤ 1000) ∧ (0 ≤ a2.toInt ∧ a2.toInt ≤ 1) ∧ (0 ≤ a3.toInt ∧ a3.toInt ≤ 7) ∧ (0 ≤ a4.toInt ∧ a4.toInt ≤ 99) ∧ (0 ≤ a5.toInt ∧ a5.toInt ≤ 99) ∧ (xi (E 0) 46).toInt < 20) → (r.toInt = (xi (E 0) 46).toInt ∧ (xi (u 0) 46).toInt = (xi (E 0) 46).toInt + 1)) ∧ (¬ ((0 ≤ a0.toInt ∧ a0.toInt ≤ (xi (E 0) 1).toInt) ∧ (1 ≤ a1.toInt ∧ a1.toInt ≤ 1000) ∧ (0 ≤ a2.toInt ∧ a2.toInt ≤ 1) ∧ (0 ≤ a3.toInt ∧ a3.toInt ≤ 7) ∧ (0 ≤ a4.toInt ∧ a4.toInt ≤ 99) ∧ (0 ≤ a5.toInt ∧ a5.toInt ≤ 99) ∧ (xi (E 0) 46).toInt < 20) → (r.toInt = -1 ∧ (xi (u 0) 46).toInt = (xi (E 0) 46).toInt)))) ∧ ((∀ j : Nat, ((j : Int) < 16 * (xi (E 0) 46).toInt ∨ 16 * (xi (E 0) 46).toInt + 16 ≤ (j : Int)) → xi (u 21) j = xi (E 21) j) ∧ (0 ≤ r.toInt → ∀ j : Nat, 16 * (xi (E 0) 46).toInt ≤ (j : Int) → (j : Int) < 16 * (xi (E 0) 46).toInt + 16 → xi (u 21) j = 1000)))) (HB dC dI 72 ad) (A)) args s 0 0 (A) := ⟨_, rfl⟩
  rw [← hQ, show entryFrame m args 8 = _ from (congrArg (fun z => entryFrame m z 8) hargs).trans (lg_entry_eq _ _ _)]
  generalize (lg_sl ([.ref (ad 0), .int a0, .int a1, .int a2, .int a3, .int a4, .int a5]) ++ List.replicate (8 - (lg_sl ([.ref (ad 0), .int a0, .int a1, .int a2, .int a3, .int a4, .int a5])).length) Slot.unset).toArray = ls at hl ⊢
  have hl : lv_has ls 8 [(0, .ref (ad 0)), (1, .int a0), (2, .int a1), (3, .int a2), (4, .int a3), (5, .int a4), (6, .int a5)] := hl
  obtain ⟨y1, ey1⟩ : ∃ y, xi (E 0) 46 = y := ⟨_, rfl⟩
  have fy1 : xv (E 0) 46 = .int y1 := (hI.fi 0 (Nat.le_of_ble_eq_true rfl) rfl (Nat.le_of_ble_eq_true rfl) rfl).trans (congrArg Value.int ey1)
  have iy1 : 0 ≤ y1.toInt ∧ y1.toInt ≤ 20 := by rw [← ey1]; exact hI.iv 0 (Nat.le_of_ble_eq_true rfl) rfl (Nat.le_of_ble_eq_true rfl) rfl
  obtain ⟨g2, hg2⟩ : ∃ g, xi (E 21) = g := ⟨_, rfl⟩
  refine lv_aload_n hx hb dX13_race_0 rfl (lv_at hl 0 rfl) ?_
  refine lv_iconst (v := 0) hx hb dX13_race_1 (by decide) ?_
  refine th_put (ci := 14) (C := RX13) (T := TX13) (N := 97) (v := .int 0) (ty := .int) hx hb hts hinX13 tyX13 tyX13_ok nmX13 hown hK hP (WX_D hD) hS hI 0 (Nat.le_of_ble_eq_true rfl) rfl rfl 0 (Nat.le_of_ble_eq_true rfl) (hts _ (vA_in _ _ (in_24 _ (List.mem_of_getElem? (i := 10) rfl)))) (fun _ h9 => h9) rfl (by decide +kernel) rfl rfl (okI rfl (iv_w ln_0 (by decide))) dX13_race_2 (fun H locs E3 pw4 hI hP hS => ?_)
  have hKp := hKp.pw pw4 rfl
  refine lv_aload_n hx hb dX13_race_5 rfl (lv_at hl 0 rfl) ?_
  refine th_get (ci := 14) (C := RX13) (T := TX13) (N := 97) (v := .int y1) hx hb hts hinX13 hown hK hP hI 0 (Nat.le_of_ble_eq_true rfl) rfl rfl 46 (Nat.le_of_ble_eq_true rfl) (hts _ (vA_in _ _ (in_24 _ (List.mem_of_getElem? (i := 17) rfl)))) (fun _ h9 => h9) ((pw4.2 0 46 (fun q9 => absurd q9.2 (Nat.ne_of_beq_eq_false rfl))).trans fy1) dX13_race_6 ?_
  refine lv_bipush (v := 20) hx hb dX13_race_9 (by decide) ?_
  refine lv_icmp_eq (tgt := 75) hx hb dX13_race_11 (by decide) (fun c5 => ?_) (fun c5 => ?_)
  · --11 taken
    have t6 : y1.toInt = 20 := ti_eq c5
    have i7 : 20 ≤ y1.toInt ∧ y1.toInt ≤ 20 := iv_eqi t6 iy1 (il_ 20) (by decide)
    refine lv_iconst (v := -1) hx hb dX13_race_75 (by decide) ?_
    rw [hQ]
    exact W.iret (v := (-1)) hx hb hr (fun t ht hW => ⟨⟨(-1), E3, rfl, ⟨hI, hKp, ⟨by have h8 := ln_m1; (try rw [(show xi (E3 0) 46 = y1 from vi_e ((pw4.2 0 46 (fun q9 => absurd q9.2 (Nat.ne_of_beq_eq_false rfl))).trans fy1))]); (try rw [ey1]); all_goals omega, by rw [show xi (E3 21) = g2 from ((pw4.ef 21 (Nat.ne_of_beq_eq_false rfl)).trans hg2), show xi (E 21) = g2 from hg2, ey1]; exact ⟨fun _ _ => rfl, fun h => absurd h (by decide)⟩⟩⟩, by show va_P (dC, dI) vwCl (WX 72 ad E3) t.heap; rw [ht]; exact hP⟩, hS.F ht⟩) hS.2.2 dX13_race_76
  · --11 not
    have t8 : ¬ y1.toInt = 20 := ti_ne c5
    have i9 : 0 ≤ y1.toInt ∧ y1.toInt ≤ 19 := iv_ne_r t8 iy1 (il_ 20)
    refine lv_aload_n hx hb dX13_race_14 rfl (lv_at hl 0 rfl) ?_
    refine lv_iload_n hx hb dX13_race_15 rfl (lv_at hl 1 rfl) ?_
    refine th_ri (va_runV (As := [.int a0]) (rest := []) ⟨hx, hb, hml, hown, hts⟩ (q_isKnown l dC dI cT ad E3 H.size a0 hI) (cwV 1 hts (gi_V (in_24 _ (List.mem_of_getElem? (i := 23) rfl)) (in_24 _ (List.mem_of_getElem? (i := 24) rfl)) (in_24 _ (List.mem_of_getElem? (i := 25) rfl)) (in_24 _ (List.mem_of_getElem? (i := 15) rfl)) (in_24 _ (List.mem_of_getElem? (i := 26) rfl))) rfl rfl rfl (by decide +kernel) ⟨Nat.le_of_ble_eq_true rfl, Nat.le_of_ble_eq_true rfl⟩) ⟨HW_bl, va_recv hK hP (ci := 14) (q0 := 0) rfl (hI.ob 0 (Nat.le_of_ble_eq_true rfl) rfl), (HW_wi hP hK (WX_D hD) hS hA hEV)⟩ rfl rfl hl.1 rfl (lv_room (Nat.le_of_ble_eq_true rfl)) dX13_race_16 ⟨Nat.le_of_ble_eq_true rfl, Nat.le_of_ble_eq_true rfl⟩) hS hP (fun r10 H locs hw hP hS => ?_)
    rcases hw with hw | hw
    · -- isKnown, case 0
      obtain ⟨rfl, f11⟩ := hw
      have i12 : 0 ≤ (xi (E 0) 1).toInt ∧ (xi (E 0) 1).toInt ≤ 400 := (show 0 ≤ (xi (E 0) 1).toInt ∧ (xi (E 0) 1).toInt ≤ 400 from hI0.iv 0 (Nat.le_of_ble_eq_true rfl) rfl (Nat.le_of_ble_eq_true rfl) rfl)
      try rw [hKp.ei 0 1 rfl] at f11
      have t13 : (0 : Int) ≤ a0.toInt := f11.1
      have t14 : a0.toInt ≤ (xi (E 0) 1).toInt := f11.2
      have i15 : 0 ≤ a0.toInt ∧ a0.toInt ≤ 2147483647 := iv_le_r t13 (il_ 0) (iv_all _) (by decide)
      have i16 : 0 ≤ a0.toInt ∧ a0.toInt ≤ 400 := iv_le_l t14 i15 i12 (by decide)
      refine lv_if_eq (tgt := 75) hx hb dX13_race_19 (by decide) (fun c17 => ?_) (fun c17 => ?_)
      · --19 taken
        exact absurd c17 (by decide)
      · --19 not
        refine lv_iload_n hx hb dX13_race_22 rfl (lv_at hl 2 rfl) ?_
        refine lv_iconst (v := 1) hx hb dX13_race_23 (by decide) ?_
        refine lv_sipush (v := 1000) hx hb dX13_race_24 (by decide) ?_
        refine th_pi (va_runS (As := [.int a1, .int 1, .int 1000]) (rest := []) ⟨hx, hb, hml, hown, hts⟩ (q_isIn l a1 (1 : Int32) (1000 : Int32)) (va_cwS 3 hts (gi_S (in_24 _ (List.mem_of_getElem? (i := 28) rfl)) (in_24 _ (List.mem_of_getElem? (i := 29) rfl)) (in_24 _ (List.mem_of_getElem? (i := 15) rfl)) (in_24 _ (List.mem_of_getElem? (i := 30) rfl))) rfl rfl rfl (by decide +kernel) ⟨Nat.le_of_ble_eq_true rfl, Nat.le_of_ble_eq_true rfl⟩) ⟨fun _ _ _ _ q => q, fun _ _ _ => ⟨rfl, trivial⟩⟩ rfl rfl hl.1 rfl (lv_room (Nat.le_of_ble_eq_true rfl)) dX13_race_27 ⟨Nat.le_of_ble_eq_true rfl, Nat.le_of_ble_eq_true rfl⟩) hS (fun r18 H1 locs1 hw hk1 hS => ?_)
        have hP := ub_keep hP hk1
        generalize H1 = H at hP hS ⊢
        generalize locs1 = locs at hS ⊢
        rcases hw with hw | hw
        · -- isIn, case 0
          obtain ⟨rfl, f19⟩ := hw
          have t20 : (1 : Int) ≤ a1.toInt := f19.1
          have t21 : a1.toInt ≤ 1000 := f19.2
          have i22 : 1 ≤ a1.toInt ∧ a1.toInt ≤ 2147483647 := iv_le_r t20 (il_ 1) (iv_all _) (by decide)
          have i23 : 1 ≤ a1.toInt ∧ a1.toInt ≤ 1000 := iv_le_l t21 i22 (il_ 1000) (by decide)
          refine lv_if_eq (tgt := 75) hx hb dX13_race_30 (by decide) (fun c24 => ?_) (fun c24 => ?_)
          · --30 taken
            exact absurd c24 (by decide)
          · --30 not
            refine lv_iload_n hx hb dX13_race_33 rfl (lv_at hl 3 rfl) ?_
            refine lv_iconst (v := 0) hx hb dX13_race_34 (by decide) ?_
            refine lv_iconst (v := 1) hx hb dX13_race_35 (by decide) ?_
            refine th_pi (va_runS (As := [.int a2, .int 0, .int 1]) (rest := []) ⟨hx, hb, hml, hown, hts⟩ (q_isIn l a2 (0 : Int32) (1 : Int32)) (va_cwS 3 hts (gi_S (in_24 _ (List.mem_of_getElem? (i := 28) rfl)) (in_24 _ (List.mem_of_getElem? (i := 29) rfl)) (in_24 _ (List.mem_of_getElem? (i := 15) rfl)) (in_24 _ (List.mem_of_getElem? (i := 30) rfl))) rfl rfl rfl (by decide +kernel) ⟨Nat.le_of_ble_eq_true rfl, Nat.le_of_ble_eq_true rfl⟩) ⟨fun _ _ _ _ q => q, fun _ _ _ => ⟨rfl, trivial⟩⟩ rfl rfl hl.1 rfl (lv_room (Nat.le_of_ble_eq_true rfl)) dX13_race_36 ⟨Nat.le_of_ble_eq_true rfl, Nat.le_of_ble_eq_true rfl⟩) hS (fun r25 H1 locs1 hw hk1 hS => ?_)
            have hP := ub_keep hP hk1
            generalize H1 = H at hP hS ⊢
            generalize locs1 = locs at hS ⊢
            rcases hw with hw | hw
            · -- isIn, case 0
              obtain ⟨rfl, f26⟩ := hw
              have t27 : (0 : Int) ≤ a2.toInt := f26.1
              have t28 : a2.toInt ≤ 1 := f26.2
              have i29 : 0 ≤ a2.toInt ∧ a2.toInt ≤ 2147483647 := iv_le_r t27 (il_ 0) (iv_all _) (by decide)
              have i30 : 0 ≤ a2.toInt ∧ a2.toInt ≤ 1 := iv_le_l t28 i29 (il_ 1) (by decide)
              refine lv_if_eq (tgt := 75) hx hb dX13_race_39 (by decide) (fun c31 => ?_) (fun c31 => ?_)
              · --39 taken
                exact absurd c31 (by decide)
              · --39 not
                refine lv_iload hx hb dX13_race_42 (lv_at hl 4 rfl) ?_
                refine lv_iconst (v := 0) hx hb dX13_race_44 (by decide) ?_
                refine lv_bipush (v := 7) hx hb dX13_race_45 (by decide) ?_
                refine th_pi (va_runS (As := [.int a3, .int 0, .int 7]) (rest := []) ⟨hx, hb, hml, hown, hts⟩ (q_isIn l a3 (0 : Int32) (7 : Int32)) (va_cwS 3 hts (gi_S (in_24 _ (List.mem_of_getElem? (i := 28) rfl)) (in_24 _ (List.mem_of_getElem? (i := 29) rfl)) (in_24 _ (List.mem_of_getElem? (i := 15) rfl)) (in_24 _ (List.mem_of_getElem? (i := 30) rfl))) rfl rfl rfl (by decide +kernel) ⟨Nat.le_of_ble_eq_true rfl, Nat.le_of_ble_eq_true rfl⟩) ⟨fun _ _ _ _ q => q, fun _ _ _ => ⟨rfl, trivial⟩⟩ rfl rfl hl.1 rfl (lv_room (Nat.le_of_ble_eq_true rfl)) dX13_race_47 ⟨Nat.le_of_ble_eq_true rfl, Nat.le_of_ble_eq_true rfl⟩) hS (fun r32 H1 locs1 hw hk1 hS => ?_)
                have hP := ub_keep hP hk1
                generalize H1 = H at hP hS ⊢
                generalize locs1 = locs at hS ⊢
                rcases hw with hw | hw
                · -- isIn, case 0
                  obtain ⟨rfl, f33⟩ := hw
                  have t34 : (0 : Int) ≤ a3.toInt := f33.1
                  have t35 : a3.toInt ≤ 7 := f33.2
                  have i36 : 0 ≤ a3.toInt ∧ a3.toInt ≤ 2147483647 := iv_le_r t34 (il_ 0) (iv_all _) (by decide)
                  have i37 : 0 ≤ a3.toInt ∧ a3.toInt ≤ 7 := iv_le_l t35 i36 (il_ 7) (by decide)
                  refine lv_if_eq (tgt := 75) hx hb dX13_race_50 (by decide) (fun c38 => ?_) (fun c38 => ?_)
                  · --50 taken
                    exact absurd c38 (by decide)
                  · --50 not
                    refine lv_iload hx hb dX13_race_53 (lv_at hl 5 rfl) ?_
                    refine lv_iconst (v := 0) hx hb dX13_race_55 (by decide) ?_
                    refine lv_bipush (v := 99) hx hb dX13_race_56 (by decide) ?_
                    refine th_pi (va_runS (As := [.int a4, .int 0, .int 99]) (rest := []) ⟨hx, hb, hml, hown, hts⟩ (q_isIn l a4 (0 : Int32) (99 : Int32)) (va_cwS 3 hts (gi_S (in_24 _ (List.mem_of_getElem? (i := 28) rfl)) (in_24 _ (List.mem_of_getElem? (i := 29) rfl)) (in_24 _ (List.mem_of_getElem? (i := 15) rfl)) (in_24 _ (List.mem_of_getElem? (i := 30) rfl))) rfl rfl rfl (by decide +kernel) ⟨Nat.le_of_ble_eq_true rfl, Nat.le_of_ble_eq_true rfl⟩) ⟨fun _ _ _ _ q => q, fun _ _ _ => ⟨rfl, trivial⟩⟩ rfl rfl hl.1 rfl (lv_room (Nat.le_of_ble_eq_true rfl)) dX13_race_58 ⟨Nat.le_of_ble_eq_true rfl, Nat.le_of_ble_eq_true rfl⟩) hS (fun r39 H1 locs1 hw hk1 hS => ?_)
                    have hP := ub_keep hP hk1
                    generalize H1 = H at hP hS ⊢
                    generalize locs1 = locs at hS ⊢
                    rcases hw with hw | hw
                    · -- isIn, case 0
                      obtain ⟨rfl, f40⟩ := hw
                      have t41 : (0 : Int) ≤ a4.toInt := f40.1
                      have t42 : a4.toInt ≤ 99 := f40.2
                      have i43 : 0 ≤ a4.toInt ∧ a4.toInt ≤ 2147483647 := iv_le_r t41 (il_ 0) (iv_all _) (by decide)
                      have i44 : 0 ≤ a4.toInt ∧ a4.toInt ≤ 99 := iv_le_l t42 i43 (il_ 99) (by decide)
                      refine lv_if_eq (tgt := 75) hx hb dX13_race_61 (by decide) (fun c45 => ?_) (fun c45 => ?_)
                      · --61 taken
                        exact absurd c45 (by decide)
                      · --61 not
                        refine lv_iload hx hb dX13_race_64 (lv_at hl 6 rfl) ?_
                        refine lv_iconst (v := 0) hx hb dX13_race_66 (by decide) ?_
                        refine lv_bipush (v := 99) hx hb dX13_race_67 (by decide) ?_
                        refine th_pi (va_runS (As := [.int a5, .int 0, .int 99]) (rest := []) ⟨hx, hb, hml, hown, hts⟩ (q_isIn l a5 (0 : Int32) (99 : Int32)) (va_cwS 3 hts (gi_S (in_24 _ (List.mem_of_getElem? (i := 28) rfl)) (in_24 _ (List.mem_of_getElem? (i := 29) rfl)) (in_24 _ (List.mem_of_getElem? (i := 15) rfl)) (in_24 _ (List.mem_of_getElem? (i := 30) rfl))) rfl rfl rfl (by decide +kernel) ⟨Nat.le_of_ble_eq_true rfl, Nat.le_of_ble_eq_true rfl⟩) ⟨fun _ _ _ _ q => q, fun _ _ _ => ⟨rfl, trivial⟩⟩ rfl rfl hl.1 rfl (lv_room (Nat.le_of_ble_eq_true rfl)) dX13_race_69 ⟨Nat.le_of_ble_eq_true rfl, Nat.le_of_ble_eq_true rfl⟩) hS (fun r46 H1 locs1 hw hk1 hS => ?_)
                        have hP := ub_keep hP hk1
                        generalize H1 = H at hP hS ⊢
                        generalize locs1 = locs at hS ⊢
                        rcases hw with hw | hw
                        · -- isIn, case 0
                          obtain ⟨rfl, f47⟩ := hw
                          have t48 : (0 : Int) ≤ a5.toInt := f47.1
                          have t49 : a5.toInt ≤ 99 := f47.2
                          have i50 : 0 ≤ a5.toInt ∧ a5.toInt ≤ 2147483647 := iv_le_r t48 (il_ 0) (iv_all _) (by decide)
                          have i51 : 0 ≤ a5.toInt ∧ a5.toInt ≤ 99 := iv_le_l t49 i50 (il_ 99) (by decide)
                          refine lv_if_ne (tgt := 77) hx hb dX13_race_72 (by decide) (fun c52 => ?_) (fun c52 => ?_)
                          · --72 taken
                            refine lv_aload_n hx hb dX13_race_77 rfl (lv_at hl 0 rfl) ?_
                            refine th_get (ci := 14) (C := RX13) (T := TX13) (N := 97) (v := .ref (ad 13)) hx hb hts hinX13 hown hK hP hI 0 (Nat.le_of_ble_eq_true rfl) rfl rfl 27 (Nat.le_of_ble_eq_true rfl) (hts _ (vA_in _ _ (in_27 _ (List.mem_of_getElem? (i := 32) rfl)))) (fun _ h9 => h9) (hI.fr 0 (Nat.le_of_ble_eq_true rfl) rfl (Nat.le_of_ble_eq_true rfl) 13 rfl) dX13_race_78 ?_
                            refine lv_aload_n hx hb dX13_race_81 rfl (lv_at hl 0 rfl) ?_
                            refine th_get (ci := 14) (C := RX13) (T := TX13) (N := 97) (v := .int y1) hx hb hts hinX13 hown hK hP hI 0 (Nat.le_of_ble_eq_true rfl) rfl rfl 46 (Nat.le_of_ble_eq_true rfl) (hts _ (vA_in _ _ (in_24 _ (List.mem_of_getElem? (i := 17) rfl)))) (fun _ h9 => h9) ((pw4.2 0 46 (fun q9 => absurd q9.2 (Nat.ne_of_beq_eq_false rfl))).trans fy1) dX13_race_82 ?_
                            refine lv_iload_n hx hb dX13_race_85 rfl (lv_at hl 1 rfl) ?_
                            have n53 : vp_in y1 20 := (iv_in (n := 20) i9 (by decide))
                            refine th_iast hx hb hK hP (WX_D hD) hS hI 13 (Nat.le_of_ble_eq_true rfl) rfl rfl n53 (okI rfl i16) dX13_race_86 (fun H locs E54 pw55 hI hP hS => ?_)
                            have hKp := hKp.pw pw55 rfl
                            refine lv_aload_n hx hb dX13_race_87 rfl (lv_at hl 0 rfl) ?_
                            refine th_get (ci := 14) (C := RX13) (T := TX13) (N := 97) (v := .ref (ad 14)) hx hb hts hinX13 hown hK hP hI 0 (Nat.le_of_ble_eq_true rfl) rfl rfl 28 (Nat.le_of_ble_eq_true rfl) (hts _ (vA_in _ _ (in_30 _ (List.mem_of_getElem? (i := 10) rfl)))) (fun _ h9 => h9) (hI.fr 0 (Nat.le_of_ble_eq_true rfl) rfl (Nat.le_of_ble_eq_true rfl) 14 rfl) dX13_race_88 ?_
                            refine lv_aload_n hx hb dX13_race_91 rfl (lv_at hl 0 rfl) ?_
                            refine th_get (ci := 14) (C := RX13) (T := TX13) (N := 97) (v := .int y1) hx hb hts hinX13 hown hK hP hI 0 (Nat.le_of_ble_eq_true rfl) rfl rfl 46 (Nat.le_of_ble_eq_true rfl) (hts _ (vA_in _ _ (in_24 _ (List.mem_of_getElem? (i := 17) rfl)))) (fun _ h9 => h9) ((pw55.2 0 46 (fun q9 => absurd q9.1 (Nat.ne_of_beq_eq_false rfl))).trans ((pw4.2 0 46 (fun q9 => absurd q9.2 (Nat.ne_of_beq_eq_false rfl))).trans fy1)) dX13_race_92 ?_
                            refine lv_iload_n hx hb dX13_race_95 rfl (lv_at hl 2 rfl) ?_
                            have n56 : vp_in y1 20 := (iv_in (n := 20) i9 (by decide))
                            refine th_iast hx hb hK hP (WX_D hD) hS hI 14 (Nat.le_of_ble_eq_true rfl) rfl rfl n56 (okI rfl (iv_w i23 (by decide))) dX13_race_96 (fun H locs E57 pw58 hI hP hS => ?_)
                            have hKp := hKp.pw pw58 rfl
                            refine lv_aload_n hx hb dX13_race_97 rfl (lv_at hl 0 rfl) ?_
                            refine th_get (ci := 14) (C := RX13) (T := TX13) (N := 97) (v := .ref (ad 15)) hx hb hts hinX13 hown hK hP hI 0 (Nat.le_of_ble_eq_true rfl) rfl rfl 29 (Nat.le_of_ble_eq_true rfl) (hts _ (vA_in _ _ (in_27 _ (List.mem_of_getElem? (i := 33) rfl)))) (fun _ h9 => h9) (hI.fr 0 (Nat.le_of_ble_eq_true rfl) rfl (Nat.le_of_ble_eq_true rfl) 15 rfl) dX13_race_98 ?_
                            refine lv_aload_n hx hb dX13_race_101 rfl (lv_at hl 0 rfl) ?_
                            refine th_get (ci := 14) (C := RX13) (T := TX13) (N := 97) (v := .int y1) hx hb hts hinX13 hown hK hP hI 0 (Nat.le_of_ble_eq_true rfl) rfl rfl 46 (Nat.le_of_ble_eq_true rfl) (hts _ (vA_in _ _ (in_24 _ (List.mem_of_getElem? (i := 17) rfl)))) (fun _ h9 => h9) ((pw58.2 0 46 (fun q9 => absurd q9.1 (Nat.ne_of_beq_eq_false rfl))).trans ((pw55.2 0 46 (fun q9 => absurd q9.1 (Nat.ne_of_beq_eq_false rfl))).trans ((pw4.2 0 46 (fun q9 => absurd q9.2 (Nat.ne_of_beq_eq_false rfl))).trans fy1))) dX13_race_102 ?_
                            refine lv_iload_n hx hb dX13_race_105 rfl (lv_at hl 3 rfl) ?_
                            have n59 : vp_in y1 20 := (iv_in (n := 20) i9 (by decide))
                            refine th_iast hx hb hK hP (WX_D hD) hS hI 15 (Nat.le_of_ble_eq_true rfl) rfl rfl n59 (okI rfl i30) dX13_race_106 (fun H locs E60 pw61 hI hP hS => ?_)
                            have hKp := hKp.pw pw61 rfl
                            refine lv_aload_n hx hb dX13_race_107 rfl (lv_at hl 0 rfl) ?_
                            refine th_get (ci := 14) (C := RX13) (T := TX13) (N := 97) (v := .ref (ad 16)) hx hb hts hinX13 hown hK hP hI 0 (Nat.le_of_ble_eq_true rfl) rfl rfl 30 (Nat.le_of_ble_eq_true rfl) (hts _ (vA_in _ _ (in_30 _ (List.mem_of_getElem? (i := 32) rfl)))) (fun _ h9 => h9) (hI.fr 0 (Nat.le_of_ble_eq_true rfl) rfl (Nat.le_of_ble_eq_true rfl) 16 rfl) dX13_race_108 ?_
                            refine lv_aload_n hx hb dX13_race_111 rfl (lv_at hl 0 rfl) ?_
                            refine th_get (ci := 14) (C := RX13) (T := TX13) (N := 97) (v := .int y1) hx hb hts hinX13 hown hK hP hI 0 (Nat.le_of_ble_eq_true rfl) rfl rfl 46 (Nat.le_of_ble_eq_true rfl) (hts _ (vA_in _ _ (in_24 _ (List.mem_of_getElem? (i := 17) rfl)))) (fun _ h9 => h9) ((pw61.2 0 46 (fun q9 => absurd q9.1 (Nat.ne_of_beq_eq_false rfl))).trans ((pw58.2 0 46 (fun q9 => absurd q9.1 (Nat.ne_of_beq_eq_false rfl))).trans ((pw55.2 0 46 (fun q9 => absurd q9.1 (Nat.ne_of_beq_eq_false rfl))).trans ((pw4.2 0 46 (fun q9 => absurd q9.2 (Nat.ne_of_beq_eq_false rfl))).trans fy1)))) dX13_race_112 ?_
                            refine lv_iload hx hb dX13_race_115 (lv_at hl 4 rfl) ?_
                            have n62 : vp_in y1 20 := (iv_in (n := 20) i9 (by decide))
                            refine th_iast hx hb hK hP (WX_D hD) hS hI 16 (Nat.le_of_ble_eq_true rfl) rfl rfl n62 (okI rfl i37) dX13_race_117 (fun H locs E63 pw64 hI hP hS => ?_)
                            have hKp := hKp.pw pw64 rfl
                            refine lv_aload_n hx hb dX13_race_118 rfl (lv_at hl 0 rfl) ?_
                            refine th_get (ci := 14) (C := RX13) (T := TX13) (N := 97) (v := .ref (ad 17)) hx hb hts hinX13 hown hK hP hI 0 (Nat.le_of_ble_eq_true rfl) rfl rfl 31 (Nat.le_of_ble_eq_true rfl) (hts _ (vA_in _ _ (in_30 _ (List.mem_of_getElem? (i := 33) rfl)))) (fun _ h9 => h9) (hI.fr 0 (Nat.le_of_ble_eq_true rfl) rfl (Nat.le_of_ble_eq_true rfl) 17 rfl) dX13_race_119 ?_
                            refine lv_aload_n hx hb dX13_race_122 rfl (lv_at hl 0 rfl) ?_
                            refine th_get (ci := 14) (C := RX13) (T := TX13) (N := 97) (v := .int y1) hx hb hts hinX13 hown hK hP hI 0 (Nat.le_of_ble_eq_true rfl) rfl rfl 46 (Nat.le_of_ble_eq_true rfl) (hts _ (vA_in _ _ (in_24 _ (List.mem_of_getElem? (i := 17) rfl)))) (fun _ h9 => h9) ((pw64.2 0 46 (fun q9 => absurd q9.1 (Nat.ne_of_beq_eq_false rfl))).trans ((pw61.2 0 46 (fun q9 => absurd q9.1 (Nat.ne_of_beq_eq_false rfl))).trans ((pw58.2 0 46 (fun q9 => absurd q9.1 (Nat.ne_of_beq_eq_false rfl))).trans ((pw55.2 0 46 (fun q9 => absurd q9.1 (Nat.ne_of_beq_eq_false rfl))).trans ((pw4.2 0 46 (fun q9 => absurd q9.2 (Nat.ne_of_beq_eq_false rfl))).trans fy1))))) dX13_race_123 ?_
                            refine lv_iload hx hb dX13_race_126 (lv_at hl 5 rfl) ?_
                            have n65 : vp_in y1 20 := (iv_in (n := 20) i9 (by decide))
                            refine th_iast hx hb hK hP (WX_D hD) hS hI 17 (Nat.le_of_ble_eq_true rfl) rfl rfl n65 (okI rfl i44) dX13_race_128 (fun H locs E66 pw67 hI hP hS => ?_)
                            have hKp := hKp.pw pw67 rfl
                            refine lv_aload_n hx hb dX13_race_129 rfl (lv_at hl 0 rfl) ?_
                            refine th_get (ci := 14) (C := RX13) (T := TX13) (N := 97) (v := .ref (ad 18)) hx hb hts hinX13 hown hK hP hI 0 (Nat.le_of_ble_eq_true rfl) rfl rfl 32 (Nat.le_of_ble_eq_true rfl) (hts _ (vA_in _ _ (in_30 _ (List.mem_of_getElem? (i := 34) rfl)))) (fun _ h9 => h9) (hI.fr 0 (Nat.le_of_ble_eq_true rfl) rfl (Nat.le_of_ble_eq_true rfl) 18 rfl) dX13_race_130 ?_
                            refine lv_aload_n hx hb dX13_race_133 rfl (lv_at hl 0 rfl) ?_
                            refine th_get (ci := 14) (C := RX13) (T := TX13) (N := 97) (v := .int y1) hx hb hts hinX13 hown hK hP hI 0 (Nat.le_of_ble_eq_true rfl) rfl rfl 46 (Nat.le_of_ble_eq_true rfl) (hts _ (vA_in _ _ (in_24 _ (List.mem_of_getElem? (i := 17) rfl)))) (fun _ h9 => h9) ((pw67.2 0 46 (fun q9 => absurd q9.1 (Nat.ne_of_beq_eq_false rfl))).trans ((pw64.2 0 46 (fun q9 => absurd q9.1 (Nat.ne_of_beq_eq_false rfl))).trans ((pw61.2 0 46 (fun q9 => absurd q9.1 (Nat.ne_of_beq_eq_false rfl))).trans ((pw58.2 0 46 (fun q9 => absurd q9.1 (Nat.ne_of_beq_eq_false rfl))).trans ((pw55.2 0 46 (fun q9 => absurd q9.1 (Nat.ne_of_beq_eq_false rfl))).trans ((pw4.2 0 46 (fun q9 => absurd q9.2 (Nat.ne_of_beq_eq_false rfl))).trans fy1)))))) dX13_race_134 ?_
                            refine lv_iload hx hb dX13_race_137 (lv_at hl 6 rfl) ?_
                            have n68 : vp_in y1 20 := (iv_in (n := 20) i9 (by decide))
                            refine th_iast hx hb hK hP (WX_D hD) hS hI 18 (Nat.le_of_ble_eq_true rfl) rfl rfl n68 (okI rfl i51) dX13_race_139 (fun H locs E69 pw70 hI hP hS => ?_)
                            have hKp := hKp.pw pw70 rfl
                            refine lv_aload_n hx hb dX13_race_140 rfl (lv_at hl 0 rfl) ?_
                            refine th_get (ci := 14) (C := RX13) (T := TX13) (N := 97) (v := .ref (ad 19)) hx hb hts hinX13 hown hK hP hI 0 (Nat.le_of_ble_eq_true rfl) rfl rfl 33 (Nat.le_of_ble_eq_true rfl) (hts _ (vA_in _ _ (in_25 _ (List.mem_of_getElem? (i := 33) rfl)))) (fun _ h9 => h9) (hI.fr 0 (Nat.le_of_ble_eq_true rfl) rfl (Nat.le_of_ble_eq_true rfl) 19 rfl) dX13_race_141 ?_
                            refine lv_aload_n hx hb dX13_race_144 rfl (lv_at hl 0 rfl) ?_
                            refine th_get (ci := 14) (C := RX13) (T := TX13) (N := 97) (v := .int y1) hx hb hts hinX13 hown hK hP hI 0 (Nat.le_of_ble_eq_true rfl) rfl rfl 46 (Nat.le_of_ble_eq_true rfl) (hts _ (vA_in _ _ (in_24 _ (List.mem_of_getElem? (i := 17) rfl)))) (fun _ h9 => h9) ((pw70.2 0 46 (fun q9 => absurd q9.1 (Nat.ne_of_beq_eq_false rfl))).trans ((pw67.2 0 46 (fun q9 => absurd q9.1 (Nat.ne_of_beq_eq_false rfl))).trans ((pw64.2 0 46 (fun q9 => absurd q9.1 (Nat.ne_of_beq_eq_false rfl))).trans ((pw61.2 0 46 (fun q9 => absurd q9.1 (Nat.ne_of_beq_eq_false rfl))).trans ((pw58.2 0 46 (fun q9 => absurd q9.1 (Nat.ne_of_beq_eq_false rfl))).trans ((pw55.2 0 46 (fun q9 => absurd q9.1 (Nat.ne_of_beq_eq_false rfl))).trans ((pw4.2 0 46 (fun q9 => absurd q9.2 (Nat.ne_of_beq_eq_false rfl))).trans fy1))))))) dX13_race_145 ?_
                            refine lv_iconst (v := 2) hx hb dX13_race_148 (by decide) ?_
                            have n71 : vp_in y1 20 := (iv_in (n := 20) i9 (by decide))
                            refine th_iast hx hb hK hP (WX_D hD) hS hI 19 (Nat.le_of_ble_eq_true rfl) rfl rfl n71 (okI rfl (iv_w ln_2 (by decide))) dX13_race_149 (fun H locs E72 pw73 hI hP hS => ?_)
                            have hKp := hKp.pw pw73 rfl
                            refine lv_aload_n hx hb dX13_race_150 rfl (lv_at hl 0 rfl) ?_
                            refine th_get (ci := 14) (C := RX13) (T := TX13) (N := 97) (v := .ref (ad 20)) hx hb hts hinX13 hown hK hP hI 0 (Nat.le_of_ble_eq_true rfl) rfl rfl 34 (Nat.le_of_ble_eq_true rfl) (hts _ (vA_in _ _ (in_24 _ (List.mem_of_getElem? (i := 11) rfl)))) (fun _ h9 => h9) (hI.fr 0 (Nat.le_of_ble_eq_true rfl) rfl (Nat.le_of_ble_eq_true rfl) 20 rfl) dX13_race_151 ?_
                            refine lv_aload_n hx hb dX13_race_154 rfl (lv_at hl 0 rfl) ?_
                            refine th_get (ci := 14) (C := RX13) (T := TX13) (N := 97) (v := .int y1) hx hb hts hinX13 hown hK hP hI 0 (Nat.le_of_ble_eq_true rfl) rfl rfl 46 (Nat.le_of_ble_eq_true rfl) (hts _ (vA_in _ _ (in_24 _ (List.mem_of_getElem? (i := 17) rfl)))) (fun _ h9 => h9) ((pw73.2 0 46 (fun q9 => absurd q9.1 (Nat.ne_of_beq_eq_false rfl))).trans ((pw70.2 0 46 (fun q9 => absurd q9.1 (Nat.ne_of_beq_eq_false rfl))).trans ((pw67.2 0 46 (fun q9 => absurd q9.1 (Nat.ne_of_beq_eq_false rfl))).trans ((pw64.2 0 46 (fun q9 => absurd q9.1 (Nat.ne_of_beq_eq_false rfl))).trans ((pw61.2 0 46 (fun q9 => absurd q9.1 (Nat.ne_of_beq_eq_false rfl))).trans ((pw58.2 0 46 (fun q9 => absurd q9.1 (Nat.ne_of_beq_eq_false rfl))).trans ((pw55.2 0 46 (fun q9 => absurd q9.1 (Nat.ne_of_beq_eq_false rfl))).trans ((pw4.2 0 46 (fun q9 => absurd q9.2 (Nat.ne_of_beq_eq_false rfl))).trans fy1)))))))) dX13_race_155 ?_
                            refine lv_aload_n hx hb dX13_race_158 rfl (lv_at hl 0 rfl) ?_
                            refine th_get (ci := 14) (C := RX13) (T := TX13) (N := 97) (v := .int (xi (E 0) 1)) hx hb hts hinX13 hown hK hP hI 0 (Nat.le_of_ble_eq_true rfl) rfl rfl 1 (Nat.le_of_ble_eq_true rfl) (hts _ (vA_in _ _ (in_24 _ (List.mem_of_getElem? (i := 27) rfl)))) (fun _ h9 => h9) (th_v0 hKp hI0 0 (Nat.le_of_ble_eq_true rfl) rfl (Nat.le_of_ble_eq_true rfl) rfl rfl) dX13_race_159 ?_
                            have n74 : vp_in y1 20 := (iv_in (n := 20) i9 (by decide))
                            refine th_iast hx hb hK hP (WX_D hD) hS hI 20 (Nat.le_of_ble_eq_true rfl) rfl rfl n74 (okI rfl i12) dX13_race_162 (fun H locs E75 pw76 hI hP hS => ?_)
                            have hKp := hKp.pw pw76 rfl
                            refine lv_iconst (v := 0) hx hb dX13_race_163 (by decide) ?_
                            refine lv_istore (lv' := [(7, .int 0), (0, .ref (ad 0)), (1, .int a0), (2, .int a1), (3, .int a2), (4, .int a3), (5, .int a4), (6, .int a5)]) hx hb dX13_race_164 hl (by decide) rfl (fun ls hl => ?_)
                            have hL166 : ∀ d : Nat, ∀ (g166_21 : Nat → Int32) (v166_7 : Int32) (E166_ : Nat → va_E) (H : Heap) (locs : List Loc) (ls : Array Slot), 0 ≤ v166_7.toInt ∧ v166_7.toInt ≤ 16 → (∀ j : Nat, (j : Int) < 16 * y1.toInt → g166_21 j = g2 j) → (∀ j : Nat, 16 * y1.toInt + 16 ≤ (j : Int) → g166_21 j = g2 j) → (∀ j : Nat, 16 * y1.toInt ≤ (j : Int) → (j : Int) < 16 * y1.toInt + v166_7.toInt → g166_21 j = 1000) → 16 - v166_7.toInt < (d : Int) → IX cT shM spM 72 ad E166_ → Kp w_raceX E E166_ → xv (E166_ 0) 46 = .int y1 → xv (E166_ 0) 0 = .int 0 → xi (E166_ 21) = g166_21 → va_P (dC, dI) vwCl (WX 72 ad E166_) H → va_S A s.heap H locs → lv_has ls 8 [(7, .int v166_7), (0, .ref (ad 0)), (1, .int a0), (2, .int a1), (3, .int a2), (4, .int a3), (5, .int a4), (6, .int a5)] → W p l e (headSpec v_raceX rm_raceX).room s m args below meth c H locs 0 0 Q (F0 m 166 ls []) := by
                              intro d
                              induction d with
                              | zero =>
                                intro g166_21 v166_7 E166_ H locs ls hv166_7 hx166_0 hx166_1 hx166_2 hx166_3 hI hKp hs166_0_46 hs166_0_0 hr166_21 hP hS hl
                                exact absurd hx166_3 (by omega)
                              | succ d ih166 =>
                                intro g166_21 v166_7 E166_ H locs ls hv166_7 hx166_0 hx166_1 hx166_2 hx166_3 hI hKp hs166_0_46 hs166_0_0 hr166_21 hP hS hl
                                refine lv_iload hx hb dX13_race_166 (lv_at hl 0 rfl) ?_
                                refine lv_bipush (v := 16) hx hb dX13_race_168 (by decide) ?_
                                refine lv_icmp_ge (tgt := 213) hx hb dX13_race_170 (by decide) (fun c77 => ?_) (fun c77 => ?_)
                                · --170 taken
                                  have t78 : (16 : Int) ≤ v166_7.toInt := ti_le c77
                                  have i79 : 16 ≤ v166_7.toInt ∧ v166_7.toInt ≤ 16 := iv_le_r t78 (il_ 16) hv166_7 (by decide)
                                  refine lv_aload_n hx hb dX13_race_213 rfl (lv_at hl 1 rfl) ?_
                                  refine lv_dup hx hb dX13_race_214 rfl ?_
                                  refine th_get (ci := 14) (C := RX13) (T := TX13) (N := 97) (v := .int y1) hx hb hts hinX13 hown hK hP hI 0 (Nat.le_of_ble_eq_true rfl) rfl rfl 46 (Nat.le_of_ble_eq_true rfl) (hts _ (vA_in _ _ (in_24 _ (List.mem_of_getElem? (i := 17) rfl)))) (fun _ h9 => h9) hs166_0_46 dX13_race_215 ?_
                                  refine lv_iconst (v := 1) hx hb dX13_race_218 (by decide) ?_
                                  refine lv_iadd hx hb dX13_race_219 ?_
                                  refine lv_topi (fun y80 ey80 => ?_)
                                  obtain ⟨ty80, iy80⟩ := ti_add (e := 1) (f := 20) i9 ln_1 ey80 (by decide)
                                  have ty80 : y80.toInt = y1.toInt + 1 := ty80
                                  have iy80 : 1 ≤ y80.toInt ∧ y80.toInt ≤ 20 := iy80
                                  refine th_put (ci := 14) (C := RX13) (T := TX13) (N := 97) (v := .int y80) (ty := .int) hx hb hts hinX13 tyX13 tyX13_ok nmX13 hown hK hP (WX_D hD) hS hI 0 (Nat.le_of_ble_eq_true rfl) rfl rfl 46 (Nat.le_of_ble_eq_true rfl) (hts _ (vA_in _ _ (in_24 _ (List.mem_of_getElem? (i := 17) rfl)))) (fun _ h9 => h9) rfl (by decide +kernel) rfl rfl (okI rfl (iv_w iy80 (by decide))) dX13_race_220 (fun H locs E81 pw82 hI hP hS => ?_)
                                  have hKp := hKp.pw pw82 rfl
                                  refine lv_aload_n hx hb dX13_race_223 rfl (lv_at hl 1 rfl) ?_
                                  refine th_get (ci := 14) (C := RX13) (T := TX13) (N := 97) (v := .int y80) hx hb hts hinX13 hown hK hP hI 0 (Nat.le_of_ble_eq_true rfl) rfl rfl 46 (Nat.le_of_ble_eq_true rfl) (hts _ (vA_in _ _ (in_24 _ (List.mem_of_getElem? (i := 17) rfl)))) (fun _ h9 => h9) pw82.1 dX13_race_224 ?_
                                  refine lv_iconst (v := 1) hx hb dX13_race_227 (by decide) ?_
                                  refine lv_isub hx hb dX13_race_228 ?_
                                  refine lv_topi (fun y83 ey83 => ?_)
                                  obtain ⟨ty83, iy83⟩ := ti_sub (e := 0) (f := 19) iy80 ln_1 ey83 (by decide)
                                  have ty83 : y83.toInt = y80.toInt - 1 := ty83
                                  have iy83 : 0 ≤ y83.toInt ∧ y83.toInt ≤ 19 := iy83
                                  rw [hQ]
                                  exact W.iret (v := y83) hx hb hr (fun t ht hW => ⟨⟨y83, E81, rfl, ⟨hI, hKp, ⟨by (try rw [(show xi (E81 0) 46 = y80 from vi_e pw82.1)]); (try rw [ey1]); all_goals omega, by rw [show xi (E81 21) = g166_21 from ((pw82.ef 21 (Nat.ne_of_beq_eq_false rfl)).trans hr166_21), show xi (E 21) = g2 from hg2, ey1]; exact ⟨fun j hj => hj.elim (hx166_0 j) (hx166_1 j), fun _ j h1 h2 => hx166_2 j h1 (by omega)⟩⟩⟩, by show va_P (dC, dI) vwCl (WX 72 ad E81) t.heap; rw [ht]; exact hP⟩, hS.F ht⟩) hS.2.2 dX13_race_229
                                · --170 not
                                  have t84 : v166_7.toInt < 16 := ti_nle c77
                                  have i85 : 0 ≤ v166_7.toInt ∧ v166_7.toInt ≤ 15 := iv_lt_l t84 hv166_7 (il_ 16) (by decide)
                                  refine lv_aload_n hx hb dX13_race_173 rfl (lv_at hl 1 rfl) ?_
                                  refine th_get (ci := 14) (C := RX13) (T := TX13) (N := 97) (v := .ref (ad 21)) hx hb hts hinX13 hown hK hP hI 0 (Nat.le_of_ble_eq_true rfl) rfl rfl 35 (Nat.le_of_ble_eq_true rfl) (hts _ (vA_in _ _ (in_24 _ (List.mem_of_getElem? (i := 39) rfl)))) (fun _ h9 => h9) (hI.fr 0 (Nat.le_of_ble_eq_true rfl) rfl (Nat.le_of_ble_eq_true rfl) 21 rfl) dX13_race_174 ?_
                                  refine lv_bipush (v := 16) hx hb dX13_race_177 (by decide) ?_
                                  refine lv_aload_n hx hb dX13_race_179 rfl (lv_at hl 1 rfl) ?_
                                  refine th_get (ci := 14) (C := RX13) (T := TX13) (N := 97) (v := .int y1) hx hb hts hinX13 hown hK hP hI 0 (Nat.le_of_ble_eq_true rfl) rfl rfl 46 (Nat.le_of_ble_eq_true rfl) (hts _ (vA_in _ _ (in_24 _ (List.mem_of_getElem? (i := 17) rfl)))) (fun _ h9 => h9) hs166_0_46 dX13_race_180 ?_
                                  refine lv_imul hx hb dX13_race_183 ?_
                                  refine lv_topi (fun y86 ey86 => ?_)
                                  obtain ⟨ty86, iy86⟩ := ti_mul (e := 0) (f := 304) ln_16 i9 ey86 (by decide)
                                  have ty86 : y86.toInt = 16 * y1.toInt := ty86
                                  have iy86 : 0 ≤ y86.toInt ∧ y86.toInt ≤ 304 := iy86
                                  refine lv_iload hx hb dX13_race_184 (lv_at hl 0 rfl) ?_
                                  refine lv_iadd hx hb dX13_race_186 ?_
                                  refine lv_topi (fun y87 ey87 => ?_)
                                  obtain ⟨ty87, iy87⟩ := ti_add (e := 0) (f := 319) iy86 i85 ey87 (by decide)
                                  have ty87 : y87.toInt = y86.toInt + v166_7.toInt := ty87
                                  have iy87 : 0 ≤ y87.toInt ∧ y87.toInt ≤ 319 := iy87
                                  refine lv_sipush (v := 1000) hx hb dX13_race_187 (by decide) ?_
                                  have n88 : vp_in y87 320 := (iv_in (n := 320) iy87 (by decide))
                                  refine th_iast hx hb hK hP (WX_D hD) hS hI 21 (Nat.le_of_ble_eq_true rfl) rfl rfl n88 (okI rfl (iv_w ln_1000 (by decide))) dX13_race_190 (fun H locs E89 pw90 hI hP hS => ?_)
                                  have hKp := hKp.pw pw90 rfl
                                  obtain ⟨g91, eg91⟩ : ∃ z : Nat → Int32, z = upd g166_21 y87.toNatClampNeg (1000 : Int32) := ⟨_, rfl⟩
                                  have hg91 : xi (E89 21) = g91 := by rw [pw90.eu, hr166_21, eg91]
                                  refine lv_aload_n hx hb dX13_race_191 rfl (lv_at hl 1 rfl) ?_
                                  refine th_get (ci := 14) (C := RX13) (T := TX13) (N := 97) (v := .ref (ad 22)) hx hb hts hinX13 hown hK hP hI 0 (Nat.le_of_ble_eq_true rfl) rfl rfl 36 (Nat.le_of_ble_eq_true rfl) (hts _ (vA_in _ _ (in_32 _ (List.mem_of_getElem? (i := 7) rfl)))) (fun _ h9 => h9) (hI.fr 0 (Nat.le_of_ble_eq_true rfl) rfl (Nat.le_of_ble_eq_true rfl) 22 rfl) dX13_race_192 ?_
                                  refine lv_bipush (v := 16) hx hb dX13_race_195 (by decide) ?_
                                  refine lv_aload_n hx hb dX13_race_197 rfl (lv_at hl 1 rfl) ?_
                                  refine th_get (ci := 14) (C := RX13) (T := TX13) (N := 97) (v := .int y1) hx hb hts hinX13 hown hK hP hI 0 (Nat.le_of_ble_eq_true rfl) rfl rfl 46 (Nat.le_of_ble_eq_true rfl) (hts _ (vA_in _ _ (in_24 _ (List.mem_of_getElem? (i := 17) rfl)))) (fun _ h9 => h9) ((pw90.2 0 46 (fun q9 => absurd q9.1 (Nat.ne_of_beq_eq_false rfl))).trans hs166_0_46) dX13_race_198 ?_
                                  refine lv_imul hx hb dX13_race_201 ?_
                                  refine lv_topi (fun y92 ey92 => ?_)
                                  obtain ⟨ty92, iy92⟩ := ti_mul (e := 0) (f := 304) ln_16 i9 ey92 (by decide)
                                  have ty92 : y92.toInt = 16 * y1.toInt := ty92
                                  have iy92 : 0 ≤ y92.toInt ∧ y92.toInt ≤ 304 := iy92
                                  refine lv_iload hx hb dX13_race_202 (lv_at hl 0 rfl) ?_
                                  refine lv_iadd hx hb dX13_race_204 ?_
                                  refine lv_topi (fun y93 ey93 => ?_)
                                  obtain ⟨ty93, iy93⟩ := ti_add (e := 0) (f := 319) iy92 i85 ey93 (by decide)
                                  have ty93 : y93.toInt = y92.toInt + v166_7.toInt := ty93
                                  have iy93 : 0 ≤ y93.toInt ∧ y93.toInt ≤ 319 := iy93
                                  refine lv_iconst (v := -1) hx hb dX13_race_205 (by decide) ?_
                                  have n94 : vp_in y93 320 := (iv_in (n := 320) iy93 (by decide))
                                  refine th_iast hx hb hK hP (WX_D hD) hS hI 22 (Nat.le_of_ble_eq_true rfl) rfl rfl n94 (okI rfl (iv_w ln_m1 (by decide))) dX13_race_206 (fun H locs E95 pw96 hI hP hS => ?_)
                                  have hKp := hKp.pw pw96 rfl
                                  obtain ⟨y97, ey97⟩ : ∃ y : Int32, y = v166_7 + (1 : Int32) := ⟨_, rfl⟩
                                  obtain ⟨ty97, iy97⟩ := ti_add (e := 1) (f := 16) i85 ln_1 ey97 (by decide)
                                  have ty97 : y97.toInt = v166_7.toInt + 1 := ty97
                                  have iy97 : 1 ≤ y97.toInt ∧ y97.toInt ≤ 16 := iy97
                                  refine lv_iinc (v := y97) (lv' := [(7, .int y97), (0, .ref (ad 0)), (1, .int a0), (2, .int a1), (3, .int a2), (4, .int a3), (5, .int a4), (6, .int a5)]) hx hb dX13_race_207 hl (k := 0) rfl (by rw [ey97]; rfl) (by decide) rfl (fun ls hl => ?_)
                                  refine lv_goto (tgt := 166) hx hb dX13_race_210 (by decide) ?_
                                  exact ih166 g91 y97 E95 _ _ _ (iv_w iy97 (by decide)) (fun j hj => by rw [eg91]; exact (show upd g166_21 y87.toNatClampNeg 1000 j = g166_21 j from if_neg (by rw [tn_]; omega)).trans (hx166_0 j hj)) (fun j hj => by rw [eg91]; exact (show upd g166_21 y87.toNatClampNeg 1000 j = g166_21 j from if_neg (by rw [tn_]; omega)).trans (hx166_1 j hj)) (fun j h1 h2 => by rw [eg91]; exact dite (j = y87.toNatClampNeg) (fun q9 => by rw [q9]; exact pk_us) (fun q9 => (show upd g166_21 y87.toNatClampNeg 1000 j = g166_21 j from if_neg q9).trans (hx166_2 j h1 (by rw [tn_] at q9; have z1 := ln_1; omega)))) (by omega) hI hKp ((pw96.2 0 46 (fun q9 => absurd q9.1 (Nat.ne_of_beq_eq_false rfl))).trans ((pw90.2 0 46 (fun q9 => absurd q9.1 (Nat.ne_of_beq_eq_false rfl))).trans hs166_0_46)) ((pw96.2 0 0 (fun q9 => absurd q9.1 (Nat.ne_of_beq_eq_false rfl))).trans ((pw90.2 0 0 (fun q9 => absurd q9.1 (Nat.ne_of_beq_eq_false rfl))).trans hs166_0_0)) ((pw96.ef 21 (Nat.ne_of_beq_eq_false rfl)).trans hg91) hP hS (lv_sub hl [0, 1, 2, 3, 4, 5, 6, 7] rfl)
                            exact hL166 (17) g2 (0 : Int32) E75 _ _ _ (iv_w ln_0 (by decide)) (fun j _ => rfl) (fun j _ => rfl) (fun j h1 h2 => by exfalso; have z0 := ln_0; omega) (by have h9 := ln_0; omega) hI hKp ((pw76.2 0 46 (fun q9 => absurd q9.1 (Nat.ne_of_beq_eq_false rfl))).trans ((pw73.2 0 46 (fun q9 => absurd q9.1 (Nat.ne_of_beq_eq_false rfl))).trans ((pw70.2 0 46 (fun q9 => absurd q9.1 (Nat.ne_of_beq_eq_false rfl))).trans ((pw67.2 0 46 (fun q9 => absurd q9.1 (Nat.ne_of_beq_eq_false rfl))).trans ((pw64.2 0 46 (fun q9 => absurd q9.1 (Nat.ne_of_beq_eq_false rfl))).trans ((pw61.2 0 46 (fun q9 => absurd q9.1 (Nat.ne_of_beq_eq_false rfl))).trans ((pw58.2 0 46 (fun q9 => absurd q9.1 (Nat.ne_of_beq_eq_false rfl))).trans ((pw55.2 0 46 (fun q9 => absurd q9.1 (Nat.ne_of_beq_eq_false rfl))).trans ((pw4.2 0 46 (fun q9 => absurd q9.2 (Nat.ne_of_beq_eq_false rfl))).trans fy1))))))))) ((pw76.2 0 0 (fun q9 => absurd q9.1 (Nat.ne_of_beq_eq_false rfl))).trans ((pw73.2 0 0 (fun q9 => absurd q9.1 (Nat.ne_of_beq_eq_false rfl))).trans ((pw70.2 0 0 (fun q9 => absurd q9.1 (Nat.ne_of_beq_eq_false rfl))).trans ((pw67.2 0 0 (fun q9 => absurd q9.1 (Nat.ne_of_beq_eq_false rfl))).trans ((pw64.2 0 0 (fun q9 => absurd q9.1 (Nat.ne_of_beq_eq_false rfl))).trans ((pw61.2 0 0 (fun q9 => absurd q9.1 (Nat.ne_of_beq_eq_false rfl))).trans ((pw58.2 0 0 (fun q9 => absurd q9.1 (Nat.ne_of_beq_eq_false rfl))).trans ((pw55.2 0 0 (fun q9 => absurd q9.1 (Nat.ne_of_beq_eq_false rfl))).trans pw4.1)))))))) ((pw76.ef 21 (Nat.ne_of_beq_eq_false rfl)).trans ((pw73.ef 21 (Nat.ne_of_beq_eq_false rfl)).trans ((pw70.ef 21 (Nat.ne_of_beq_eq_false rfl)).trans ((pw67.ef 21 (Nat.ne_of_beq_eq_false rfl)).trans ((pw64.ef 21 (Nat.ne_of_beq_eq_false rfl)).trans ((pw61.ef 21 (Nat.ne_of_beq_eq_false rfl)).trans ((pw58.ef 21 (Nat.ne_of_beq_eq_false rfl)).trans ((pw55.ef 21 (Nat.ne_of_beq_eq_false rfl)).trans ((pw4.ef 21 (Nat.ne_of_beq_eq_false rfl)).trans hg2))))))))) hP hS (lv_sub hl [0, 1, 2, 3, 4, 5, 6, 7] rfl)
                          · --72 not
                            exact absurd c52 (by decide)
                        · -- isIn, case 1
                          obtain ⟨rfl, f98⟩ := hw
                          have t99 : ¬ ((0 : Int) ≤ a5.toInt ∧ a5.toInt ≤ 99) := f98
                          refine lv_if_ne (tgt := 77) hx hb dX13_race_72 (by decide) (fun c100 => ?_) (fun c100 => ?_)
                          · --72 taken
                            exact absurd c100 (by decide)
                          · --72 not
                            refine lv_iconst (v := -1) hx hb dX13_race_75 (by decide) ?_
                            rw [hQ]
                            exact W.iret (v := (-1)) hx hb hr (fun t ht hW => ⟨⟨(-1), E3, rfl, ⟨hI, hKp, ⟨by have h8 := ln_m1; (try rw [(show xi (E3 0) 46 = y1 from vi_e ((pw4.2 0 46 (fun q9 => absurd q9.2 (Nat.ne_of_beq_eq_false rfl))).trans fy1))]); (try rw [ey1]); all_goals omega, by rw [show xi (E3 21) = g2 from ((pw4.ef 21 (Nat.ne_of_beq_eq_false rfl)).trans hg2), show xi (E 21) = g2 from hg2, ey1]; exact ⟨fun _ _ => rfl, fun h => absurd h (by decide)⟩⟩⟩, by show va_P (dC, dI) vwCl (WX 72 ad E3) t.heap; rw [ht]; exact hP⟩, hS.F ht⟩) hS.2.2 dX13_race_76
                    · -- isIn, case 1
                      obtain ⟨rfl, f101⟩ := hw
                      have t102 : ¬ ((0 : Int) ≤ a4.toInt ∧ a4.toInt ≤ 99) := f101
                      refine lv_if_eq (tgt := 75) hx hb dX13_race_61 (by decide) (fun c103 => ?_) (fun c103 => ?_)
                      · --61 taken
                        refine lv_iconst (v := -1) hx hb dX13_race_75 (by decide) ?_
                        rw [hQ]
                        exact W.iret (v := (-1)) hx hb hr (fun t ht hW => ⟨⟨(-1), E3, rfl, ⟨hI, hKp, ⟨by have h8 := ln_m1; (try rw [(show xi (E3 0) 46 = y1 from vi_e ((pw4.2 0 46 (fun q9 => absurd q9.2 (Nat.ne_of_beq_eq_false rfl))).trans fy1))]); (try rw [ey1]); all_goals omega, by rw [show xi (E3 21) = g2 from ((pw4.ef 21 (Nat.ne_of_beq_eq_false rfl)).trans hg2), show xi (E 21) = g2 from hg2, ey1]; exact ⟨fun _ _ => rfl, fun h => absurd h (by decide)⟩⟩⟩, by show va_P (dC, dI) vwCl (WX 72 ad E3) t.heap; rw [ht]; exact hP⟩, hS.F ht⟩) hS.2.2 dX13_race_76
                      · --61 not
                        exact absurd c103 (by decide)
                · -- isIn, case 1
                  obtain ⟨rfl, f104⟩ := hw
                  have t105 : ¬ ((0 : Int) ≤ a3.toInt ∧ a3.toInt ≤ 7) := f104
                  refine lv_if_eq (tgt := 75) hx hb dX13_race_50 (by decide) (fun c106 => ?_) (fun c106 => ?_)
                  · --50 taken
                    refine lv_iconst (v := -1) hx hb dX13_race_75 (by decide) ?_
                    rw [hQ]
                    exact W.iret (v := (-1)) hx hb hr (fun t ht hW => ⟨⟨(-1), E3, rfl, ⟨hI, hKp, ⟨by have h8 := ln_m1; (try rw [(show xi (E3 0) 46 = y1 from vi_e ((pw4.2 0 46 (fun q9 => absurd q9.2 (Nat.ne_of_beq_eq_false rfl))).trans fy1))]); (try rw [ey1]); all_goals omega, by rw [show xi (E3 21) = g2 from ((pw4.ef 21 (Nat.ne_of_beq_eq_false rfl)).trans hg2), show xi (E 21) = g2 from hg2, ey1]; exact ⟨fun _ _ => rfl, fun h => absurd h (by decide)⟩⟩⟩, by show va_P (dC, dI) vwCl (WX 72 ad E3) t.heap; rw [ht]; exact hP⟩, hS.F ht⟩) hS.2.2 dX13_race_76
                  · --50 not
                    exact absurd c106 (by decide)
            · -- isIn, case 1
              obtain ⟨rfl, f107⟩ := hw
              have t108 : ¬ ((0 : Int) ≤ a2.toInt ∧ a2.toInt ≤ 1) := f107
              refine lv_if_eq (tgt := 75) hx hb dX13_race_39 (by decide) (fun c109 => ?_) (fun c109 => ?_)
              · --39 taken
                refine lv_iconst (v := -1) hx hb dX13_race_75 (by decide) ?_
                rw [hQ]
                exact W.iret (v := (-1)) hx hb hr (fun t ht hW => ⟨⟨(-1), E3, rfl, ⟨hI, hKp, ⟨by have h8 := ln_m1; (try rw [(show xi (E3 0) 46 = y1 from vi_e ((pw4.2 0 46 (fun q9 => absurd q9.2 (Nat.ne_of_beq_eq_false rfl))).trans fy1))]); (try rw [ey1]); all_goals omega, by rw [show xi (E3 21) = g2 from ((pw4.ef 21 (Nat.ne_of_beq_eq_false rfl)).trans hg2), show xi (E 21) = g2 from hg2, ey1]; exact ⟨fun _ _ => rfl, fun h => absurd h (by decide)⟩⟩⟩, by show va_P (dC, dI) vwCl (WX 72 ad E3) t.heap; rw [ht]; exact hP⟩, hS.F ht⟩) hS.2.2 dX13_race_76
              · --39 not
                exact absurd c109 (by decide)
        · -- isIn, case 1
          obtain ⟨rfl, f110⟩ := hw
          have t111 : ¬ ((1 : Int) ≤ a1.toInt ∧ a1.toInt ≤ 1000) := f110
          refine lv_if_eq (tgt := 75) hx hb dX13_race_30 (by decide) (fun c112 => ?_) (fun c112 => ?_)
          · --30 taken
            refine lv_iconst (v := -1) hx hb dX13_race_75 (by decide) ?_
            rw [hQ]
            exact W.iret (v := (-1)) hx hb hr (fun t ht hW => ⟨⟨(-1), E3, rfl, ⟨hI, hKp, ⟨by have h8 := ln_m1; (try rw [(show xi (E3 0) 46 = y1 from vi_e ((pw4.2 0 46 (fun q9 => absurd q9.2 (Nat.ne_of_beq_eq_false rfl))).trans fy1))]); (try rw [ey1]); all_goals omega, by rw [show xi (E3 21) = g2 from ((pw4.ef 21 (Nat.ne_of_beq_eq_false rfl)).trans hg2), show xi (E 21) = g2 from hg2, ey1]; exact ⟨fun _ _ => rfl, fun h => absurd h (by decide)⟩⟩⟩, by show va_P (dC, dI) vwCl (WX 72 ad E3) t.heap; rw [ht]; exact hP⟩, hS.F ht⟩) hS.2.2 dX13_race_76
          · --30 not
            exact absurd c112 (by decide)
    · -- isKnown, case 1
      obtain ⟨rfl, f113⟩ := hw
      have i114 : 0 ≤ (xi (E 0) 1).toInt ∧ (xi (E 0) 1).toInt ≤ 400 := (show 0 ≤ (xi (E 0) 1).toInt ∧ (xi (E 0) 1).toInt ≤ 400 from hI0.iv 0 (Nat.le_of_ble_eq_true rfl) rfl (Nat.le_of_ble_eq_true rfl) rfl)
      try rw [hKp.ei 0 1 rfl] at f113
      have t115 : ¬ ((0 : Int) ≤ a0.toInt ∧ a0.toInt ≤ (xi (E 0) 1).toInt) := f113
      refine lv_if_eq (tgt := 75) hx hb dX13_race_19 (by decide) (fun c116 => ?_) (fun c116 => ?_)
      · --19 taken
        refine lv_iconst (v := -1) hx hb dX13_race_75 (by decide) ?_
        rw [hQ]
        exact W.iret (v := (-1)) hx hb hr (fun t ht hW => ⟨⟨(-1), E3, rfl, ⟨hI, hKp, ⟨by have h8 := ln_m1; (try rw [(show xi (E3 0) 46 = y1 from vi_e ((pw4.2 0 46 (fun q9 => absurd q9.2 (Nat.ne_of_beq_eq_false rfl))).trans fy1))]); (try rw [ey1]); all_goals omega, by rw [show xi (E3 21) = g2 from ((pw4.ef 21 (Nat.ne_of_beq_eq_false rfl)).trans hg2), show xi (E 21) = g2 from hg2, ey1]; exact ⟨fun _ _ => rfl, fun h => absurd h (by decide)⟩⟩⟩, by show va_P (dC, dI) vwCl (WX 72 ad E3) t.heap; rw [ht]; exact hP⟩, hS.F ht⟩) hS.2.2 dX13_race_76
      · --19 not
        exact absurd c116 (by decide)
def v_swiftX : List Cond := .code yX13_swift cX13_swift 3 (some .boolean) :: vA
abbrev rm_swiftX : Room := { frames := 1, cells := 0, slots := 0, locals := 40 }
def w_swiftX : Nat → Nat → Bool := wl [19] [(0, 0)]
set_option maxHeartbeats 4000000 in
set_option maxRecDepth 100000 in
theorem q_swiftX (l : Launch) (dC : Nat → ClassId) (dI : Nat → Nat → Nat) (cT : Nat → ClassId) (ad : Nat → Nat) (E : Nat → va_E) (sz : Nat) (a0 : Int32) (a1 : Int32) (hI0 : IX cT shM spM 72 ad E)  : Met l yX13_swift v_swiftX rm_swiftX (va_Pc [.ref (ad 0), .int a0, .int a1] (HW dC dI (TYM cT) 72 ad E sz)) (va_Qi (S := Nat → va_E) (fun r u => IX cT shM spM 72 ad u ∧ Kp w_swiftX E u ∧ ((((((0 ≤ a0.toInt ∧ a0.toInt < (xi (E 0) 46).toInt) ∧ (1 ≤ a1.toInt ∧ a1.toInt ≤ 9)) → (r.toInt = 1)) ∧ (¬ ((0 ≤ a0.toInt ∧ a0.toInt < (xi (E 0) 46).toInt) ∧ (1 ≤ a1.toInt ∧ a1.toInt ≤ 9)) → (r.toInt = 0)))))) (HB dC dI 72 ad) (va_A (WX 72 ad E) sz)) 0 0 (va_A (WX 72 ad E) sz) := by
  refine Met.ofW (cc := cX13_swift) (maxL := 3) (ret := (some .boolean)) (by decide) rfl ?_
  intro p e s m args below meth c s₁ B hml hv
  obtain ⟨hargs, hsz, hP, hK, hD0, hEV⟩ := hv
  subst hsz
  have hx := B.exec
  have hb := B.bytes
  have hr := B.returns
  have hts := atoms_spec (ws := v_swiftX) B.pre
  have hown : s.vm.findClass RX13 = some m.cls := findClass_of_methodNamed B.named
  have hlocks := B.notSynchronized
  have hinX13 : ∀ w ∈ u_ws RX13 TX13 97, w ∈ v_swiftX := fun w h => vA_in _ w (in_X13 w h)
  generalize hAe : va_A (WX 72 ad E) s.heap.size = A at hEV ⊢
  have hA : ∀ q : Nat, s.heap.size ≤ q → A q := fun q h => by rw [← hAe]; exact Or.inr h
  have hD : va_D A (WX 72 ad E) := by rw [← hAe]; exact hD0.self
  have hS : va_S A s.heap s.heap [] := va_S.rf
  have hI := hI0
  have hKp : Kp w_swiftX E E := Kp.rf
  have hl := lv_entry ([.ref (ad 0), .int a0, .int a1]) (n := 3) (Nat.le_of_ble_eq_true rfl)
  obtain ⟨Q, hQ⟩ : ∃ Q, Q = MQ below (va_Qi (S := Nat → va_E) (fun r u => IX cT shM spM 72 ad u ∧ Kp w_swiftX E u ∧ ((((((0 ≤ a0.toInt ∧ a0.toInt < (xi (E 0) 46).toInt) ∧ (1 ≤ a1.toInt ∧ a1.toInt ≤ 9)) → (r.toInt = 1)) ∧ (¬ ((0 ≤ a0.toInt ∧ a0.toInt < (xi (E 0) 46).toInt) ∧ (1 ≤ a1.toInt ∧ a1.toInt ≤ 9)) → (r.toInt = 0)))))) (HB dC dI 72 ad) (A)) args s 0 0 (A) := ⟨_, rfl⟩
  rw [← hQ, show entryFrame m args 3 = _ from (congrArg (fun z => entryFrame m z 3) hargs).trans (lg_entry_eq _ _ _)]
  generalize (lg_sl ([.ref (ad 0), .int a0, .int a1]) ++ List.replicate (3 - (lg_sl ([.ref (ad 0), .int a0, .int a1])).length) Slot.unset).toArray = ls at hl ⊢
  have hl : lv_has ls 3 [(0, .ref (ad 0)), (1, .int a0), (2, .int a1)] := hl
  refine lv_aload_n hx hb dX13_swift_0 rfl (lv_at hl 0 rfl) ?_
  refine lv_iconst (v := 0) hx hb dX13_swift_1 (by decide) ?_
  refine th_put (ci := 14) (C := RX13) (T := TX13) (N := 97) (v := .int 0) (ty := .int) hx hb hts hinX13 tyX13 tyX13_ok nmX13 hown hK hP (WX_D hD) hS hI 0 (Nat.le_of_ble_eq_true rfl) rfl rfl 0 (Nat.le_of_ble_eq_true rfl) (hts _ (vA_in _ _ (in_24 _ (List.mem_of_getElem? (i := 10) rfl)))) (fun _ h9 => h9) rfl (by decide +kernel) rfl rfl (okI rfl (iv_w ln_0 (by decide))) dX13_swift_2 (fun H locs E1 pw2 hI hP hS => ?_)
  have hKp := hKp.pw pw2 rfl
  refine lv_aload_n hx hb dX13_swift_5 rfl (lv_at hl 0 rfl) ?_
  refine lv_iload_n hx hb dX13_swift_6 rfl (lv_at hl 1 rfl) ?_
  refine th_ri (va_runV (As := [.int a0]) (rest := []) ⟨hx, hb, hml, hown, hts⟩ (q_isRace l dC dI cT ad E1 H.size a0 hI) (cwV 1 hts (gi_V (in_24 _ (List.mem_of_getElem? (i := 12) rfl)) (in_24 _ (List.mem_of_getElem? (i := 13) rfl)) (in_24 _ (List.mem_of_getElem? (i := 14) rfl)) (in_24 _ (List.mem_of_getElem? (i := 15) rfl)) (in_24 _ (List.mem_of_getElem? (i := 16) rfl))) rfl rfl rfl (by decide +kernel) ⟨Nat.le_of_ble_eq_true rfl, Nat.le_of_ble_eq_true rfl⟩) ⟨HW_bl, va_recv hK hP (ci := 14) (q0 := 0) rfl (hI.ob 0 (Nat.le_of_ble_eq_true rfl) rfl), (HW_wi hP hK (WX_D hD) hS hA hEV)⟩ rfl rfl hl.1 rfl (lv_room (Nat.le_of_ble_eq_true rfl)) dX13_swift_7 ⟨Nat.le_of_ble_eq_true rfl, Nat.le_of_ble_eq_true rfl⟩) hS hP (fun r3 H locs hw hP hS => ?_)
  rcases hw with hw | hw
  · -- isRace, case 0
    obtain ⟨rfl, f4, f5⟩ := hw
    have i6 : 0 ≤ (xi (E 0) 46).toInt ∧ (xi (E 0) 46).toInt ≤ 20 := (show 0 ≤ (xi (E 0) 46).toInt ∧ (xi (E 0) 46).toInt ≤ 20 from hI0.iv 0 (Nat.le_of_ble_eq_true rfl) rfl (Nat.le_of_ble_eq_true rfl) rfl)
    try rw [hKp.ei 0 46 rfl] at f4
    refine lv_if_eq (tgt := 23) hx hb dX13_swift_10 (by decide) (fun c7 => ?_) (fun c7 => ?_)
    · --10 taken
      exact absurd c7 (by decide)
    · --10 not
      refine lv_iload_n hx hb dX13_swift_13 rfl (lv_at hl 2 rfl) ?_
      refine lv_iconst (v := 1) hx hb dX13_swift_14 (by decide) ?_
      refine lv_bipush (v := 9) hx hb dX13_swift_15 (by decide) ?_
      refine th_pi (va_runS (As := [.int a1, .int 1, .int 9]) (rest := []) ⟨hx, hb, hml, hown, hts⟩ (q_isIn l a1 (1 : Int32) (9 : Int32)) (va_cwS 3 hts (gi_S (in_24 _ (List.mem_of_getElem? (i := 28) rfl)) (in_24 _ (List.mem_of_getElem? (i := 29) rfl)) (in_24 _ (List.mem_of_getElem? (i := 15) rfl)) (in_24 _ (List.mem_of_getElem? (i := 30) rfl))) rfl rfl rfl (by decide +kernel) ⟨Nat.le_of_ble_eq_true rfl, Nat.le_of_ble_eq_true rfl⟩) ⟨fun _ _ _ _ q => q, fun _ _ _ => ⟨rfl, trivial⟩⟩ rfl rfl hl.1 rfl (lv_room (Nat.le_of_ble_eq_true rfl)) dX13_swift_17 ⟨Nat.le_of_ble_eq_true rfl, Nat.le_of_ble_eq_true rfl⟩) hS (fun r8 H1 locs1 hw hk1 hS => ?_)
      have hP := ub_keep hP hk1
      generalize H1 = H at hP hS ⊢
      generalize locs1 = locs at hS ⊢
      rcases hw with hw | hw
      · -- isIn, case 0
        obtain ⟨rfl, f9⟩ := hw
        have t10 : (1 : Int) ≤ a1.toInt := f9.1
        have t11 : a1.toInt ≤ 9 := f9.2
        have i12 : 1 ≤ a1.toInt ∧ a1.toInt ≤ 2147483647 := iv_le_r t10 (il_ 1) (iv_all _) (by decide)
        have i13 : 1 ≤ a1.toInt ∧ a1.toInt ≤ 9 := iv_le_l t11 i12 (il_ 9) (by decide)
        refine lv_if_ne (tgt := 25) hx hb dX13_swift_20 (by decide) (fun c14 => ?_) (fun c14 => ?_)
        · --20 taken
          refine lv_aload_n hx hb dX13_swift_25 rfl (lv_at hl 0 rfl) ?_
          refine th_get (ci := 14) (C := RX13) (T := TX13) (N := 97) (v := .ref (ad 19)) hx hb hts hinX13 hown hK hP hI 0 (Nat.le_of_ble_eq_true rfl) rfl rfl 33 (Nat.le_of_ble_eq_true rfl) (hts _ (vA_in _ _ (in_25 _ (List.mem_of_getElem? (i := 33) rfl)))) (fun _ h9 => h9) (hI.fr 0 (Nat.le_of_ble_eq_true rfl) rfl (Nat.le_of_ble_eq_true rfl) 19 rfl) dX13_swift_26 ?_
          refine lv_iload_n hx hb dX13_swift_29 rfl (lv_at hl 1 rfl) ?_
          refine lv_iload_n hx hb dX13_swift_30 rfl (lv_at hl 2 rfl) ?_
          have n15 : vp_in a0 20 := (iv_in (n := 20) f5 (by decide))
          refine th_iast hx hb hK hP (WX_D hD) hS hI 19 (Nat.le_of_ble_eq_true rfl) rfl rfl n15 (okI rfl (iv_w i13 (by decide))) dX13_swift_31 (fun H locs E16 pw17 hI hP hS => ?_)
          have hKp := hKp.pw pw17 rfl
          refine lv_iconst (v := 1) hx hb dX13_swift_32 (by decide) ?_
          rw [hQ]
          exact W.zret (v := 1) hx hb hr rfl (fun t ht hW => ⟨⟨1, E16, rfl, ⟨hI, hKp, (by have h8 := ln_1; all_goals omega)⟩, by show va_P (dC, dI) vwCl (WX 72 ad E16) t.heap; rw [ht]; exact hP⟩, hS.F ht⟩) hS.2.2 dX13_swift_33
        · --20 not
          exact absurd c14 (by decide)
      · -- isIn, case 1
        obtain ⟨rfl, f18⟩ := hw
        have t19 : ¬ ((1 : Int) ≤ a1.toInt ∧ a1.toInt ≤ 9) := f18
        refine lv_if_ne (tgt := 25) hx hb dX13_swift_20 (by decide) (fun c20 => ?_) (fun c20 => ?_)
        · --20 taken
          exact absurd c20 (by decide)
        · --20 not
          refine lv_iconst (v := 0) hx hb dX13_swift_23 (by decide) ?_
          rw [hQ]
          exact W.zret (v := 0) hx hb hr rfl (fun t ht hW => ⟨⟨0, E1, rfl, ⟨hI, hKp, (by have h8 := ln_0; all_goals omega)⟩, by show va_P (dC, dI) vwCl (WX 72 ad E1) t.heap; rw [ht]; exact hP⟩, hS.F ht⟩) hS.2.2 dX13_swift_24
  · -- isRace, case 1
    obtain ⟨rfl, f21⟩ := hw
    have i22 : 0 ≤ (xi (E 0) 46).toInt ∧ (xi (E 0) 46).toInt ≤ 20 := (show 0 ≤ (xi (E 0) 46).toInt ∧ (xi (E 0) 46).toInt ≤ 20 from hI0.iv 0 (Nat.le_of_ble_eq_true rfl) rfl (Nat.le_of_ble_eq_true rfl) rfl)
    try rw [hKp.ei 0 46 rfl] at f21
    refine lv_if_eq (tgt := 23) hx hb dX13_swift_10 (by decide) (fun c23 => ?_) (fun c23 => ?_)
    · --10 taken
      refine lv_iconst (v := 0) hx hb dX13_swift_23 (by decide) ?_
      rw [hQ]
      exact W.zret (v := 0) hx hb hr rfl (fun t ht hW => ⟨⟨0, E1, rfl, ⟨hI, hKp, (by have h8 := ln_0; all_goals omega)⟩, by show va_P (dC, dI) vwCl (WX 72 ad E1) t.heap; rw [ht]; exact hP⟩, hS.F ht⟩) hS.2.2 dX13_swift_24
    · --10 not
      exact absurd c23 (by decide)
def v_enterX : List Cond := .code yX13_enter cX13_enter 3 (some .boolean) :: vA
abbrev rm_enterX : Room := { frames := 1, cells := 0, slots := 0, locals := 40 }
def w_enterX : Nat → Nat → Bool := wl [21] [(0, 0)]
set_option maxHeartbeats 4000000 in
set_option maxRecDepth 100000 in
theorem q_enterX (l : Launch) (dC : Nat → ClassId) (dI : Nat → Nat → Nat) (cT : Nat → ClassId) (ad : Nat → Nat) (E : Nat → va_E) (sz : Nat) (a0 : Int32) (a1 : Int32) (hI0 : IX cT shM spM 72 ad E)  : Met l yX13_enter v_enterX rm_enterX (va_Pc [.ref (ad 0), .int a0, .int a1] (HW dC dI (TYM cT) 72 ad E sz)) (va_Qi (S := Nat → va_E) (fun r u => IX cT shM spM 72 ad u ∧ Kp w_enterX E u ∧ ((r = 1 ∧ ((0 ≤ a0.toInt ∧ a0.toInt < (xi (E 0) 46).toInt) ∧ (0 ≤ a1.toInt ∧ a1.toInt < (xi (E 0) 8).toInt) ∧ ¬ (xi (E 21) (16 * a0.toInt + a1.toInt).toNat).toInt ≤ (xi (E 0) 1).toInt) ∧ (xi (u 21) = upd (xi (E 21)) (16 * a0.toInt + a1.toInt).toNat (xi (E 0) 1))) ∨ (r = 0 ∧ (¬ ((0 ≤ a0.toInt ∧ a0.toInt < (xi (E 0) 46).toInt) ∧ (0 ≤ a1.toInt ∧ a1.toInt < (xi (E 0) 8).toInt) ∧ ¬ (xi (E 21) (16 * a0.toInt + a1.toInt).toNat).toInt ≤ (xi (E 0) 1).toInt)) ∧ (xi (u 21) = xi (E 21))))) (HB dC dI 72 ad) (va_A (WX 72 ad E) sz)) 0 0 (va_A (WX 72 ad E) sz) := by
  refine Met.ofW (cc := cX13_enter) (maxL := 3) (ret := (some .boolean)) (by decide) rfl ?_
  intro p e s m args below meth c s₁ B hml hv
  obtain ⟨hargs, hsz, hP, hK, hD0, hEV⟩ := hv
  subst hsz
  have hx := B.exec
  have hb := B.bytes
  have hr := B.returns
  have hts := atoms_spec (ws := v_enterX) B.pre
  have hown : s.vm.findClass RX13 = some m.cls := findClass_of_methodNamed B.named
  have hlocks := B.notSynchronized
  have hinX13 : ∀ w ∈ u_ws RX13 TX13 97, w ∈ v_enterX := fun w h => vA_in _ w (in_X13 w h)
  generalize hAe : va_A (WX 72 ad E) s.heap.size = A at hEV ⊢
  have hA : ∀ q : Nat, s.heap.size ≤ q → A q := fun q h => by rw [← hAe]; exact Or.inr h
  have hD : va_D A (WX 72 ad E) := by rw [← hAe]; exact hD0.self
  have hS : va_S A s.heap s.heap [] := va_S.rf
  have hI := hI0
  have hKp : Kp w_enterX E E := Kp.rf
  have hl := lv_entry ([.ref (ad 0), .int a0, .int a1]) (n := 3) (Nat.le_of_ble_eq_true rfl)
  obtain ⟨Q, hQ⟩ : ∃ Q, Q = MQ below (va_Qi (S := Nat → va_E) (fun r u => IX cT shM spM 72 ad u ∧ Kp w_enterX E u ∧ ((r = 1 ∧ ((0 ≤ a0.toInt ∧ a0.toInt < (xi (E 0) 46).toInt) ∧ (0 ≤ a1.toInt ∧ a1.toInt < (xi (E 0) 8).toInt) ∧ ¬ (xi (E 21) (16 * a0.toInt + a1.toInt).toNat).toInt ≤ (xi (E 0) 1).toInt) ∧ (xi (u 21) = upd (xi (E 21)) (16 * a0.toInt + a1.toInt).toNat (xi (E 0) 1))) ∨ (r = 0 ∧ (¬ ((0 ≤ a0.toInt ∧ a0.toInt < (xi (E 0) 46).toInt) ∧ (0 ≤ a1.toInt ∧ a1.toInt < (xi (E 0) 8).toInt) ∧ ¬ (xi (E 21) (16 * a0.toInt + a1.toInt).toNat).toInt ≤ (xi (E 0) 1).toInt)) ∧ (xi (u 21) = xi (E 21))))) (HB dC dI 72 ad) (A)) args s 0 0 (A) := ⟨_, rfl⟩
  rw [← hQ, show entryFrame m args 3 = _ from (congrArg (fun z => entryFrame m z 3) hargs).trans (lg_entry_eq _ _ _)]
  generalize (lg_sl ([.ref (ad 0), .int a0, .int a1]) ++ List.replicate (3 - (lg_sl ([.ref (ad 0), .int a0, .int a1])).length) Slot.unset).toArray = ls at hl ⊢
  have hl : lv_has ls 3 [(0, .ref (ad 0)), (1, .int a0), (2, .int a1)] := hl
  obtain ⟨g1, hg1⟩ : ∃ g, xi (E 21) = g := ⟨_, rfl⟩
  refine lv_aload_n hx hb dX13_enter_0 rfl (lv_at hl 0 rfl) ?_
  refine lv_iconst (v := 0) hx hb dX13_enter_1 (by decide) ?_
  refine th_put (ci := 14) (C := RX13) (T := TX13) (N := 97) (v := .int 0) (ty := .int) hx hb hts hinX13 tyX13 tyX13_ok nmX13 hown hK hP (WX_D hD) hS hI 0 (Nat.le_of_ble_eq_true rfl) rfl rfl 0 (Nat.le_of_ble_eq_true rfl) (hts _ (vA_in _ _ (in_24 _ (List.mem_of_getElem? (i := 10) rfl)))) (fun _ h9 => h9) rfl (by decide +kernel) rfl rfl (okI rfl (iv_w ln_0 (by decide))) dX13_enter_2 (fun H locs E2 pw3 hI hP hS => ?_)
  have hKp := hKp.pw pw3 rfl
  refine lv_aload_n hx hb dX13_enter_5 rfl (lv_at hl 0 rfl) ?_
  refine lv_iload_n hx hb dX13_enter_6 rfl (lv_at hl 1 rfl) ?_
  refine th_ri (va_runV (As := [.int a0]) (rest := []) ⟨hx, hb, hml, hown, hts⟩ (q_isRace l dC dI cT ad E2 H.size a0 hI) (cwV 1 hts (gi_V (in_24 _ (List.mem_of_getElem? (i := 12) rfl)) (in_24 _ (List.mem_of_getElem? (i := 13) rfl)) (in_24 _ (List.mem_of_getElem? (i := 14) rfl)) (in_24 _ (List.mem_of_getElem? (i := 15) rfl)) (in_24 _ (List.mem_of_getElem? (i := 16) rfl))) rfl rfl rfl (by decide +kernel) ⟨Nat.le_of_ble_eq_true rfl, Nat.le_of_ble_eq_true rfl⟩) ⟨HW_bl, va_recv hK hP (ci := 14) (q0 := 0) rfl (hI.ob 0 (Nat.le_of_ble_eq_true rfl) rfl), (HW_wi hP hK (WX_D hD) hS hA hEV)⟩ rfl rfl hl.1 rfl (lv_room (Nat.le_of_ble_eq_true rfl)) dX13_enter_7 ⟨Nat.le_of_ble_eq_true rfl, Nat.le_of_ble_eq_true rfl⟩) hS hP (fun r4 H locs hw hP hS => ?_)
  rcases hw with hw | hw
  · -- isRace, case 0
    obtain ⟨rfl, f5, f6⟩ := hw
    have i7 : 0 ≤ (xi (E 0) 46).toInt ∧ (xi (E 0) 46).toInt ≤ 20 := (show 0 ≤ (xi (E 0) 46).toInt ∧ (xi (E 0) 46).toInt ≤ 20 from hI0.iv 0 (Nat.le_of_ble_eq_true rfl) rfl (Nat.le_of_ble_eq_true rfl) rfl)
    try rw [hKp.ei 0 46 rfl] at f5
    refine lv_if_eq (tgt := 34) hx hb dX13_enter_10 (by decide) (fun c8 => ?_) (fun c8 => ?_)
    · --10 taken
      exact absurd c8 (by decide)
    · --10 not
      refine lv_aload_n hx hb dX13_enter_13 rfl (lv_at hl 0 rfl) ?_
      refine lv_iload_n hx hb dX13_enter_14 rfl (lv_at hl 2 rfl) ?_
      refine th_ri (va_runV (As := [.int a1]) (rest := []) ⟨hx, hb, hml, hown, hts⟩ (q_isBoat l dC dI cT ad E2 H.size a1 hI) (cwV 1 hts (gi_V (in_24 _ (List.mem_of_getElem? (i := 18) rfl)) (in_24 _ (List.mem_of_getElem? (i := 19) rfl)) (in_24 _ (List.mem_of_getElem? (i := 20) rfl)) (in_24 _ (List.mem_of_getElem? (i := 15) rfl)) (in_24 _ (List.mem_of_getElem? (i := 21) rfl))) rfl rfl rfl (by decide +kernel) ⟨Nat.le_of_ble_eq_true rfl, Nat.le_of_ble_eq_true rfl⟩) ⟨HW_bl, va_recv hK hP (ci := 14) (q0 := 0) rfl (hI.ob 0 (Nat.le_of_ble_eq_true rfl) rfl), (HW_wi hP hK (WX_D hD) hS hA hEV)⟩ rfl rfl hl.1 rfl (lv_room (Nat.le_of_ble_eq_true rfl)) dX13_enter_15 ⟨Nat.le_of_ble_eq_true rfl, Nat.le_of_ble_eq_true rfl⟩) hS hP (fun r9 H locs hw hP hS => ?_)
      rcases hw with hw | hw
      · -- isBoat, case 0
        obtain ⟨rfl, f10, f11⟩ := hw
        have i12 : 0 ≤ (xi (E 0) 8).toInt ∧ (xi (E 0) 8).toInt ≤ 16 := (show 0 ≤ (xi (E 0) 8).toInt ∧ (xi (E 0) 8).toInt ≤ 16 from hI0.iv 0 (Nat.le_of_ble_eq_true rfl) rfl (Nat.le_of_ble_eq_true rfl) rfl)
        try rw [hKp.ei 0 8 rfl] at f10
        refine lv_if_eq (tgt := 34) hx hb dX13_enter_18 (by decide) (fun c13 => ?_) (fun c13 => ?_)
        · --18 taken
          exact absurd c13 (by decide)
        · --18 not
          refine lv_aload_n hx hb dX13_enter_21 rfl (lv_at hl 0 rfl) ?_
          refine lv_iload_n hx hb dX13_enter_22 rfl (lv_at hl 1 rfl) ?_
          refine lv_iload_n hx hb dX13_enter_23 rfl (lv_at hl 2 rfl) ?_
          refine lv_aload_n hx hb dX13_enter_24 rfl (lv_at hl 0 rfl) ?_
          have i14 : 0 ≤ (xi (E 0) 1).toInt ∧ (xi (E 0) 1).toInt ≤ 400 := hI0.iv 0 (Nat.le_of_ble_eq_true rfl) rfl (Nat.le_of_ble_eq_true rfl) rfl
          refine th_get (ci := 14) (C := RX13) (T := TX13) (N := 97) (v := .int (xi (E 0) 1)) hx hb hts hinX13 hown hK hP hI 0 (Nat.le_of_ble_eq_true rfl) rfl rfl 1 (Nat.le_of_ble_eq_true rfl) (hts _ (vA_in _ _ (in_24 _ (List.mem_of_getElem? (i := 27) rfl)))) (fun _ h9 => h9) (th_v0 hKp hI0 0 (Nat.le_of_ble_eq_true rfl) rfl (Nat.le_of_ble_eq_true rfl) rfl rfl) dX13_enter_25 ?_
          have hq9 : xi (E2 21) = xi (E 21) := (show xi (E2 21) = g1 from ((pw3.ef 21 (Nat.ne_of_beq_eq_false rfl)).trans hg1)).trans (show xi (E 21) = g1 from hg1).symm
          refine th_ri (va_runV (As := [.int a0, .int a1, .int (xi (E 0) 1)]) (rest := []) ⟨hx, hb, hml, hown, hts⟩ (q_isEntered l dC dI cT ad E2 H.size a0 a1 (xi (E 0) 1) hI f6 f11) (cwV 3 hts (gi_V (in_24 _ (List.mem_of_getElem? (i := 35) rfl)) (in_24 _ (List.mem_of_getElem? (i := 36) rfl)) (in_24 _ (List.mem_of_getElem? (i := 37) rfl)) (in_24 _ (List.mem_of_getElem? (i := 15) rfl)) (in_24 _ (List.mem_of_getElem? (i := 38) rfl))) rfl rfl rfl (by decide +kernel) ⟨Nat.le_of_ble_eq_true rfl, Nat.le_of_ble_eq_true rfl⟩) ⟨HW_bl, va_recv hK hP (ci := 14) (q0 := 0) rfl (hI.ob 0 (Nat.le_of_ble_eq_true rfl) rfl), (HW_wi hP hK (WX_D hD) hS hA hEV)⟩ rfl rfl hl.1 rfl (lv_room (Nat.le_of_ble_eq_true rfl)) dX13_enter_28 ⟨Nat.le_of_ble_eq_true rfl, Nat.le_of_ble_eq_true rfl⟩) hS hP (fun r15 H locs hw hP hS => ?_)
          rcases hw with hw | hw
          · -- isEntered, case 0
            obtain ⟨rfl, f16⟩ := hw
            refine lv_if_eq (tgt := 36) hx hb dX13_enter_31 (by decide) (fun c17 => ?_) (fun c17 => ?_)
            · --31 taken
              exact absurd c17 (by decide)
            · --31 not
              refine lv_iconst (v := 0) hx hb dX13_enter_34 (by decide) ?_
              rw [hQ]
              exact W.zret (v := 0) hx hb hr rfl (fun t ht hW => ⟨⟨0, E2, rfl, ⟨hI, hKp, Or.inr (⟨rfl, by (try rw [← hq9]); omega, (show xi (E2 21) = g1 from ((pw3.ef 21 (Nat.ne_of_beq_eq_false rfl)).trans hg1)).trans (show xi (E 21) = g1 from hg1).symm⟩)⟩, by show va_P (dC, dI) vwCl (WX 72 ad E2) t.heap; rw [ht]; exact hP⟩, hS.F ht⟩) hS.2.2 dX13_enter_35
          · -- isEntered, case 1
            obtain ⟨rfl, f18⟩ := hw
            refine lv_if_eq (tgt := 36) hx hb dX13_enter_31 (by decide) (fun c19 => ?_) (fun c19 => ?_)
            · --31 taken
              refine lv_aload_n hx hb dX13_enter_36 rfl (lv_at hl 0 rfl) ?_
              refine th_get (ci := 14) (C := RX13) (T := TX13) (N := 97) (v := .ref (ad 21)) hx hb hts hinX13 hown hK hP hI 0 (Nat.le_of_ble_eq_true rfl) rfl rfl 35 (Nat.le_of_ble_eq_true rfl) (hts _ (vA_in _ _ (in_24 _ (List.mem_of_getElem? (i := 39) rfl)))) (fun _ h9 => h9) (hI.fr 0 (Nat.le_of_ble_eq_true rfl) rfl (Nat.le_of_ble_eq_true rfl) 21 rfl) dX13_enter_37 ?_
              refine lv_bipush (v := 16) hx hb dX13_enter_40 (by decide) ?_
              refine lv_iload_n hx hb dX13_enter_42 rfl (lv_at hl 1 rfl) ?_
              refine lv_imul hx hb dX13_enter_43 ?_
              refine lv_topi (fun y20 ey20 => ?_)
              obtain ⟨ty20, iy20⟩ := ti_mul (e := 0) (f := 304) ln_16 f6 ey20 (by decide)
              have ty20 : y20.toInt = 16 * a0.toInt := ty20
              have iy20 : 0 ≤ y20.toInt ∧ y20.toInt ≤ 304 := iy20
              refine lv_iload_n hx hb dX13_enter_44 rfl (lv_at hl 2 rfl) ?_
              refine lv_iadd hx hb dX13_enter_45 ?_
              refine lv_topi (fun y21 ey21 => ?_)
              obtain ⟨ty21, iy21⟩ := ti_add (e := 0) (f := 319) iy20 f11 ey21 (by decide)
              have ty21 : y21.toInt = y20.toInt + a1.toInt := ty21
              have iy21 : 0 ≤ y21.toInt ∧ y21.toInt ≤ 319 := iy21
              refine lv_aload_n hx hb dX13_enter_46 rfl (lv_at hl 0 rfl) ?_
              refine th_get (ci := 14) (C := RX13) (T := TX13) (N := 97) (v := .int (xi (E 0) 1)) hx hb hts hinX13 hown hK hP hI 0 (Nat.le_of_ble_eq_true rfl) rfl rfl 1 (Nat.le_of_ble_eq_true rfl) (hts _ (vA_in _ _ (in_24 _ (List.mem_of_getElem? (i := 27) rfl)))) (fun _ h9 => h9) (th_v0 hKp hI0 0 (Nat.le_of_ble_eq_true rfl) rfl (Nat.le_of_ble_eq_true rfl) rfl rfl) dX13_enter_47 ?_
              have n22 : vp_in y21 320 := (iv_in (n := 320) iy21 (by decide))
              refine th_iast hx hb hK hP (WX_D hD) hS hI 21 (Nat.le_of_ble_eq_true rfl) rfl rfl n22 (okI rfl (iv_w i14 (by decide))) dX13_enter_50 (fun H locs E23 pw24 hI hP hS => ?_)
              have hKp := hKp.pw pw24 rfl
              obtain ⟨g25, eg25⟩ : ∃ z : Nat → Int32, z = upd g1 y21.toNatClampNeg (xi (E 0) 1) := ⟨_, rfl⟩
              have hg25 : xi (E23 21) = g25 := by rw [pw24.eu, ((pw3.ef 21 (Nat.ne_of_beq_eq_false rfl)).trans hg1), eg25]
              refine lv_iconst (v := 1) hx hb dX13_enter_51 (by decide) ?_
              rw [hQ]
              exact W.zret (v := 1) hx hb hr rfl (fun t ht hW => ⟨⟨1, E23, rfl, ⟨hI, hKp, Or.inl ⟨rfl, by (try rw [← hq9]); omega, by rw [show xi (E23 21) = g25 from hg25, show xi (E 21) = g1 from hg1]; rw [eg25]; congr 1; rw [tn_]; omega⟩⟩, by show va_P (dC, dI) vwCl (WX 72 ad E23) t.heap; rw [ht]; exact hP⟩, hS.F ht⟩) hS.2.2 dX13_enter_52
            · --31 not
              exact absurd c19 (by decide)
      · -- isBoat, case 1
        obtain ⟨rfl, f26⟩ := hw
        have i27 : 0 ≤ (xi (E 0) 8).toInt ∧ (xi (E 0) 8).toInt ≤ 16 := (show 0 ≤ (xi (E 0) 8).toInt ∧ (xi (E 0) 8).toInt ≤ 16 from hI0.iv 0 (Nat.le_of_ble_eq_true rfl) rfl (Nat.le_of_ble_eq_true rfl) rfl)
        try rw [hKp.ei 0 8 rfl] at f26
        refine lv_if_eq (tgt := 34) hx hb dX13_enter_18 (by decide) (fun c28 => ?_) (fun c28 => ?_)
        · --18 taken
          refine lv_iconst (v := 0) hx hb dX13_enter_34 (by decide) ?_
          rw [hQ]
          exact W.zret (v := 0) hx hb hr rfl (fun t ht hW => ⟨⟨0, E2, rfl, ⟨hI, hKp, Or.inr (⟨rfl, by omega, (show xi (E2 21) = g1 from ((pw3.ef 21 (Nat.ne_of_beq_eq_false rfl)).trans hg1)).trans (show xi (E 21) = g1 from hg1).symm⟩)⟩, by show va_P (dC, dI) vwCl (WX 72 ad E2) t.heap; rw [ht]; exact hP⟩, hS.F ht⟩) hS.2.2 dX13_enter_35
        · --18 not
          exact absurd c28 (by decide)
  · -- isRace, case 1
    obtain ⟨rfl, f29⟩ := hw
    have i30 : 0 ≤ (xi (E 0) 46).toInt ∧ (xi (E 0) 46).toInt ≤ 20 := (show 0 ≤ (xi (E 0) 46).toInt ∧ (xi (E 0) 46).toInt ≤ 20 from hI0.iv 0 (Nat.le_of_ble_eq_true rfl) rfl (Nat.le_of_ble_eq_true rfl) rfl)
    try rw [hKp.ei 0 46 rfl] at f29
    refine lv_if_eq (tgt := 34) hx hb dX13_enter_10 (by decide) (fun c31 => ?_) (fun c31 => ?_)
    · --10 taken
      refine lv_iconst (v := 0) hx hb dX13_enter_34 (by decide) ?_
      rw [hQ]
      exact W.zret (v := 0) hx hb hr rfl (fun t ht hW => ⟨⟨0, E2, rfl, ⟨hI, hKp, Or.inr (⟨rfl, by omega, (show xi (E2 21) = g1 from ((pw3.ef 21 (Nat.ne_of_beq_eq_false rfl)).trans hg1)).trans (show xi (E 21) = g1 from hg1).symm⟩)⟩, by show va_P (dC, dI) vwCl (WX 72 ad E2) t.heap; rw [ht]; exact hP⟩, hS.F ht⟩) hS.2.2 dX13_enter_35
    · --10 not
      exact absurd c31 (by decide)
def v_resultX : List Cond := .code yX13_result cX13_result 5 (some .boolean) :: vA
abbrev rm_resultX : Room := { frames := 2, cells := 0, slots := 0, locals := 80 }
def w_resultX : Nat → Nat → Bool := wl [24, 25, 26, 27, 28] [(0, 0), (0, 47)]
set_option maxHeartbeats 4000000 in
set_option maxRecDepth 100000 in
theorem q_resultX (l : Launch) (dC : Nat → ClassId) (dI : Nat → Nat → Nat) (cT : Nat → ClassId) (ad : Nat → Nat) (E : Nat → va_E) (sz : Nat) (a0 : Int32) (a1 : Int32) (a2 : Int32) (a3 : Int32) (hI0 : IX cT shM spM 72 ad E)  : Met l yX13_result v_resultX rm_resultX (va_Pc [.ref (ad 0), .int a0, .int a1, .int a2, .int a3] (HW dC dI (TYM cT) 72 ad E sz)) (va_Qi (S := Nat → va_E) (fun r u => IX cT shM spM 72 ad u ∧ Kp w_resultX E u ∧ ((((((0 ≤ a0.toInt ∧ a0.toInt < (xi (E 0) 46).toInt) ∧ (0 ≤ a1.toInt ∧ a1.toInt < (xi (E 0) 8).toInt) ∧ (xi (E 21) (16 * a0.toInt + a1.toInt).toNat).toInt ≤ (xi (E 0) 1).toInt ∧ (0 ≤ a2.toInt ∧ a2.toInt ≤ 4) ∧ ((a2.toInt = 0 ∧ 1 ≤ a3.toInt ∧ a3.toInt ≤ 200000) ∨ (¬ a2.toInt = 0 ∧ a3.toInt = 0)) ∧ (xi (E 0) 47).toInt < 300) → (r.toInt = 1 ∧ (xi (u 0) 47).toInt = (xi (E 0) 47).toInt + 1)) ∧ (¬ ((0 ≤ a0.toInt ∧ a0.toInt < (xi (E 0) 46).toInt) ∧ (0 ≤ a1.toInt ∧ a1.toInt < (xi (E 0) 8).toInt) ∧ (xi (E 21) (16 * a0.toInt + a1.toInt).toNat).toInt ≤ (xi (E 0) 1).toInt ∧ (0 ≤ a2.toInt ∧ a2.toInt ≤ 4) ∧ ((a2.toInt = 0 ∧ 1 ≤ a3.toInt ∧ a3.toInt ≤ 200000) ∨ (¬ a2.toInt = 0 ∧ a3.toInt = 0)) ∧ (xi (E 0) 47).toInt < 300) → (r.toInt = 0 ∧ (xi (u 0) 47).toInt = (xi (E 0) 47).toInt)))))) (HB dC dI 72 ad) (va_A (WX 72 ad E) sz)) 0 0 (va_A (WX 72 ad E) sz) := by
  refine Met.ofW (cc := cX13_result) (maxL := 5) (ret := (some .boolean)) (by decide) rfl ?_
  intro p e s m args below meth c s₁ B hml hv
  obtain ⟨hargs, hsz, hP, hK, hD0, hEV⟩ := hv
  subst hsz
  have hx := B.exec
  have hb := B.bytes
  have hr := B.returns
  have hts := atoms_spec (ws := v_resultX) B.pre
  have hown : s.vm.findClass RX13 = some m.cls := findClass_of_methodNamed B.named
  have hlocks := B.notSynchronized
  have hinX13 : ∀ w ∈ u_ws RX13 TX13 97, w ∈ v_resultX := fun w h => vA_in _ w (in_X13 w h)
  generalize hAe : va_A (WX 72 ad E) s.heap.size = A at hEV ⊢
  have hA : ∀ q : Nat, s.heap.size ≤ q → A q := fun q h => by rw [← hAe]; exact Or.inr h
  have hD : va_D A (WX 72 ad E) := by rw [← hAe]; exact hD0.self
  have hS : va_S A s.heap s.heap [] := va_S.rf
  have hI := hI0
  have hKp : Kp w_resultX E E := Kp.rf
  have hl := lv_entry ([.ref (ad 0), .int a0, .int a1, .int a2, .int a3]) (n := 5) (Nat.le_of_ble_eq_true rfl)
  obtain ⟨Q, hQ⟩ : ∃ Q, Q = MQ below (va_Qi (S := Nat → va_E) (fun r u => IX cT shM spM 72 ad u ∧ Kp w_resultX E u ∧ ((((((0 ≤ a0.toInt ∧ a0.toInt < (xi (E 0) 46).toInt) ∧ (0 ≤ a1.toInt ∧ a1.toInt < (xi (E 0) 8).toInt) ∧ (xi (E 21) (16 * a0.toInt + a1.toInt).toNat).toInt ≤ (xi (E 0) 1).toInt ∧ (0 ≤ a2.toInt ∧ a2.toInt ≤ 4) ∧ ((a2.toInt = 0 ∧ 1 ≤ a3.toInt ∧ a3.toInt ≤ 200000) ∨ (¬ a2.toInt = 0 ∧ a3.toInt = 0)) ∧ (xi (E 0) 47).toInt < 300) → (r.toInt = 1 ∧ (xi (u 0) 47).toInt = (xi (E 0) 47).toInt + 1)) ∧ (¬ ((0 ≤ a0.toInt ∧ a0.toInt < (xi (E 0) 46).toInt) ∧ (0 ≤ a1.toInt ∧ a1.toInt < (xi (E 0) 8).toInt) ∧ (xi (E 21) (16 * a0.toInt + a1.toInt).toNat).toInt ≤ (xi (E 0) 1).toInt ∧ (0 ≤ a2.toInt ∧ a2.toInt ≤ 4) ∧ ((a2.toInt = 0 ∧ 1 ≤ a3.toInt ∧ a3.toInt ≤ 200000) ∨ (¬ a2.toInt = 0 ∧ a3.toInt = 0)) ∧ (xi (E 0) 47).toInt < 300) → (r.toInt = 0 ∧ (xi (u 0) 47).toInt = (xi (E 0) 47).toInt)))))) (HB dC dI 72 ad) (A)) args s 0 0 (A) := ⟨_, rfl⟩
  rw [← hQ, show entryFrame m args 5 = _ from (congrArg (fun z => entryFrame m z 5) hargs).trans (lg_entry_eq _ _ _)]
  generalize (lg_sl ([.ref (ad 0), .int a0, .int a1, .int a2, .int a3]) ++ List.replicate (5 - (lg_sl ([.ref (ad 0), .int a0, .int a1, .int a2, .int a3])).length) Slot.unset).toArray = ls at hl ⊢
  have hl : lv_has ls 5 [(0, .ref (ad 0)), (1, .int a0), (2, .int a1), (3, .int a2), (4, .int a3)] := hl
  obtain ⟨y1, ey1⟩ : ∃ y, xi (E 0) 47 = y := ⟨_, rfl⟩
  have fy1 : xv (E 0) 47 = .int y1 := (hI.fi 0 (Nat.le_of_ble_eq_true rfl) rfl (Nat.le_of_ble_eq_true rfl) rfl).trans (congrArg Value.int ey1)
  have iy1 : 0 ≤ y1.toInt ∧ y1.toInt ≤ 300 := by rw [← ey1]; exact hI.iv 0 (Nat.le_of_ble_eq_true rfl) rfl (Nat.le_of_ble_eq_true rfl) rfl
  refine lv_aload_n hx hb dX13_result_0 rfl (lv_at hl 0 rfl) ?_
  refine lv_iconst (v := 0) hx hb dX13_result_1 (by decide) ?_
  refine th_put (ci := 14) (C := RX13) (T := TX13) (N := 97) (v := .int 0) (ty := .int) hx hb hts hinX13 tyX13 tyX13_ok nmX13 hown hK hP (WX_D hD) hS hI 0 (Nat.le_of_ble_eq_true rfl) rfl rfl 0 (Nat.le_of_ble_eq_true rfl) (hts _ (vA_in _ _ (in_24 _ (List.mem_of_getElem? (i := 10) rfl)))) (fun _ h9 => h9) rfl (by decide +kernel) rfl rfl (okI rfl (iv_w ln_0 (by decide))) dX13_result_2 (fun H locs E2 pw3 hI hP hS => ?_)
  have hKp := hKp.pw pw3 rfl
  refine lv_aload_n hx hb dX13_result_5 rfl (lv_at hl 0 rfl) ?_
  refine th_get (ci := 14) (C := RX13) (T := TX13) (N := 97) (v := .int y1) hx hb hts hinX13 hown hK hP hI 0 (Nat.le_of_ble_eq_true rfl) rfl rfl 47 (Nat.le_of_ble_eq_true rfl) (hts _ (vA_in _ _ (in_28 _ (List.mem_of_getElem? (i := 13) rfl)))) (fun _ h9 => h9) ((pw3.2 0 47 (fun q9 => absurd q9.2 (Nat.ne_of_beq_eq_false rfl))).trans fy1) dX13_result_6 ?_
  refine lv_sipush (v := 300) hx hb dX13_result_9 (by decide) ?_
  refine lv_icmp_eq (tgt := 61) hx hb dX13_result_12 (by decide) (fun c4 => ?_) (fun c4 => ?_)
  · --12 taken
    have t5 : y1.toInt = 300 := ti_eq c4
    have i6 : 300 ≤ y1.toInt ∧ y1.toInt ≤ 300 := iv_eqi t5 iy1 (il_ 300) (by decide)
    refine lv_iconst (v := 0) hx hb dX13_result_61 (by decide) ?_
    rw [hQ]
    exact W.zret (v := 0) hx hb hr rfl (fun t ht hW => ⟨⟨0, E2, rfl, ⟨hI, hKp, (by have h8 := ln_0; (try rw [(show xi (E2 0) 47 = y1 from vi_e ((pw3.2 0 47 (fun q9 => absurd q9.2 (Nat.ne_of_beq_eq_false rfl))).trans fy1))]); (try rw [ey1]); all_goals omega)⟩, by show va_P (dC, dI) vwCl (WX 72 ad E2) t.heap; rw [ht]; exact hP⟩, hS.F ht⟩) hS.2.2 dX13_result_62
  · --12 not
    have t7 : ¬ y1.toInt = 300 := ti_ne c4
    have i8 : 0 ≤ y1.toInt ∧ y1.toInt ≤ 299 := iv_ne_r t7 iy1 (il_ 300)
    refine lv_aload_n hx hb dX13_result_15 rfl (lv_at hl 0 rfl) ?_
    refine lv_iload_n hx hb dX13_result_16 rfl (lv_at hl 1 rfl) ?_
    refine lv_iload_n hx hb dX13_result_17 rfl (lv_at hl 2 rfl) ?_
    refine th_ri (va_runV (As := [.int a0, .int a1]) (rest := []) ⟨hx, hb, hml, hown, hts⟩ (q_isEntry l dC dI cT ad E2 H.size a0 a1 hI) (cwV 2 hts (gi_V (in_33 _ (List.mem_of_getElem? (i := 8) rfl)) (in_33 _ (List.mem_of_getElem? (i := 9) rfl)) (in_33 _ (List.mem_of_getElem? (i := 10) rfl)) (in_24 _ (List.mem_of_getElem? (i := 15) rfl)) (in_32 _ (List.mem_of_getElem? (i := 24) rfl))) rfl rfl rfl (by decide +kernel) ⟨Nat.le_of_ble_eq_true rfl, Nat.le_of_ble_eq_true rfl⟩) ⟨HW_bl, va_recv hK hP (ci := 14) (q0 := 0) rfl (hI.ob 0 (Nat.le_of_ble_eq_true rfl) rfl), (HW_wi hP hK (WX_D hD) hS hA hEV)⟩ rfl rfl hl.1 rfl (lv_room (Nat.le_of_ble_eq_true rfl)) dX13_result_18 ⟨Nat.le_of_ble_eq_true rfl, Nat.le_of_ble_eq_true rfl⟩) hS hP (fun r9 H locs hw hP hS => ?_)
    rcases hw with hw | hw
    · -- isEntry, case 0
      obtain ⟨rfl, f10, f11, f12⟩ := hw
      have i13 : 0 ≤ (xi (E 0) 46).toInt ∧ (xi (E 0) 46).toInt ≤ 20 := (show 0 ≤ (xi (E 0) 46).toInt ∧ (xi (E 0) 46).toInt ≤ 20 from hI0.iv 0 (Nat.le_of_ble_eq_true rfl) rfl (Nat.le_of_ble_eq_true rfl) rfl)
      have i14 : 0 ≤ (xi (E 0) 8).toInt ∧ (xi (E 0) 8).toInt ≤ 16 := (show 0 ≤ (xi (E 0) 8).toInt ∧ (xi (E 0) 8).toInt ≤ 16 from hI0.iv 0 (Nat.le_of_ble_eq_true rfl) rfl (Nat.le_of_ble_eq_true rfl) rfl)
      have i15 : 0 ≤ (xi (E 0) 1).toInt ∧ (xi (E 0) 1).toInt ≤ 400 := (show 0 ≤ (xi (E 0) 1).toInt ∧ (xi (E 0) 1).toInt ≤ 400 from hI0.iv 0 (Nat.le_of_ble_eq_true rfl) rfl (Nat.le_of_ble_eq_true rfl) rfl)
      try rw [hKp.ei 0 46 rfl] at f10
      try rw [hKp.ei 0 8 rfl] at f10
      try rw [hKp.ei 0 1 rfl] at f10
      try rw [hKp.ef 21 (fun _ => rfl)] at f10
      refine lv_if_eq (tgt := 61) hx hb dX13_result_21 (by decide) (fun c16 => ?_) (fun c16 => ?_)
      · --21 taken
        exact absurd c16 (by decide)
      · --21 not
        refine lv_iload_n hx hb dX13_result_24 rfl (lv_at hl 3 rfl) ?_
        refine lv_iconst (v := 0) hx hb dX13_result_25 (by decide) ?_
        refine lv_iconst (v := 4) hx hb dX13_result_26 (by decide) ?_
        refine th_pi (va_runS (As := [.int a2, .int 0, .int 4]) (rest := []) ⟨hx, hb, hml, hown, hts⟩ (q_isIn l a2 (0 : Int32) (4 : Int32)) (va_cwS 3 hts (gi_S (in_24 _ (List.mem_of_getElem? (i := 28) rfl)) (in_24 _ (List.mem_of_getElem? (i := 29) rfl)) (in_24 _ (List.mem_of_getElem? (i := 15) rfl)) (in_24 _ (List.mem_of_getElem? (i := 30) rfl))) rfl rfl rfl (by decide +kernel) ⟨Nat.le_of_ble_eq_true rfl, Nat.le_of_ble_eq_true rfl⟩) ⟨fun _ _ _ _ q => q, fun _ _ _ => ⟨rfl, trivial⟩⟩ rfl rfl hl.1 rfl (lv_room (Nat.le_of_ble_eq_true rfl)) dX13_result_27 ⟨Nat.le_of_ble_eq_true rfl, Nat.le_of_ble_eq_true rfl⟩) hS (fun r17 H1 locs1 hw hk1 hS => ?_)
        have hP := ub_keep hP hk1
        generalize H1 = H at hP hS ⊢
        generalize locs1 = locs at hS ⊢
        rcases hw with hw | hw
        · -- isIn, case 0
          obtain ⟨rfl, f18⟩ := hw
          have t19 : (0 : Int) ≤ a2.toInt := f18.1
          have t20 : a2.toInt ≤ 4 := f18.2
          have i21 : 0 ≤ a2.toInt ∧ a2.toInt ≤ 2147483647 := iv_le_r t19 (il_ 0) (iv_all _) (by decide)
          have i22 : 0 ≤ a2.toInt ∧ a2.toInt ≤ 4 := iv_le_l t20 i21 (il_ 4) (by decide)
          refine lv_if_eq (tgt := 61) hx hb dX13_result_30 (by decide) (fun c23 => ?_) (fun c23 => ?_)
          · --30 taken
            exact absurd c23 (by decide)
          · --30 not
            refine lv_iload hx hb dX13_result_33 (lv_at hl 4 rfl) ?_
            refine lv_iload_n hx hb dX13_result_35 rfl (lv_at hl 3 rfl) ?_
            refine lv_if_ne (tgt := 43) hx hb dX13_result_36 (by decide) (fun c24 => ?_) (fun c24 => ?_)
            · --36 taken
              have t25 : ¬ a2.toInt = 0 := ti_ne c24
              have i26 : 1 ≤ a2.toInt ∧ a2.toInt ≤ 4 := iv_ne_l t25 i22 (il_ 0)
              refine lv_iconst (v := 0) hx hb dX13_result_43 (by decide) ?_
              refine lv_iload_n hx hb dX13_result_44 rfl (lv_at hl 3 rfl) ?_
              refine lv_if_ne (tgt := 54) hx hb dX13_result_45 (by decide) (fun c27 => ?_) (fun c27 => ?_)
              · --45 taken
                have t28 : ¬ a2.toInt = 0 := ti_ne c27
                refine lv_iconst (v := 0) hx hb dX13_result_54 (by decide) ?_
                refine th_pi (va_runS (As := [.int a3, .int 0, .int 0]) (rest := []) ⟨hx, hb, hml, hown, hts⟩ (q_isIn l a3 (0 : Int32) (0 : Int32)) (va_cwS 3 hts (gi_S (in_24 _ (List.mem_of_getElem? (i := 28) rfl)) (in_24 _ (List.mem_of_getElem? (i := 29) rfl)) (in_24 _ (List.mem_of_getElem? (i := 15) rfl)) (in_24 _ (List.mem_of_getElem? (i := 30) rfl))) rfl rfl rfl (by decide +kernel) ⟨Nat.le_of_ble_eq_true rfl, Nat.le_of_ble_eq_true rfl⟩) ⟨fun _ _ _ _ q => q, fun _ _ _ => ⟨rfl, trivial⟩⟩ rfl rfl hl.1 rfl (lv_room (Nat.le_of_ble_eq_true rfl)) dX13_result_55 ⟨Nat.le_of_ble_eq_true rfl, Nat.le_of_ble_eq_true rfl⟩) hS (fun r29 H1 locs1 hw hk1 hS => ?_)
                have hP := ub_keep hP hk1
                generalize H1 = H at hP hS ⊢
                generalize locs1 = locs at hS ⊢
                rcases hw with hw | hw
                · -- isIn, case 0
                  obtain ⟨rfl, f30⟩ := hw
                  have t31 : (0 : Int) ≤ a3.toInt := f30.1
                  have t32 : a3.toInt ≤ 0 := f30.2
                  have i33 : 0 ≤ a3.toInt ∧ a3.toInt ≤ 2147483647 := iv_le_r t31 (il_ 0) (iv_all _) (by decide)
                  have i34 : 0 ≤ a3.toInt ∧ a3.toInt ≤ 0 := iv_le_l t32 i33 (il_ 0) (by decide)
                  refine lv_if_ne (tgt := 63) hx hb dX13_result_58 (by decide) (fun c35 => ?_) (fun c35 => ?_)
                  · --58 taken
                    refine lv_aload_n hx hb dX13_result_63 rfl (lv_at hl 0 rfl) ?_
                    refine th_get (ci := 14) (C := RX13) (T := TX13) (N := 97) (v := .ref (ad 24)) hx hb hts hinX13 hown hK hP hI 0 (Nat.le_of_ble_eq_true rfl) rfl rfl 38 (Nat.le_of_ble_eq_true rfl) (hts _ (vA_in _ _ (in_28 _ (List.mem_of_getElem? (i := 14) rfl)))) (fun _ h9 => h9) (hI.fr 0 (Nat.le_of_ble_eq_true rfl) rfl (Nat.le_of_ble_eq_true rfl) 24 rfl) dX13_result_64 ?_
                    refine lv_aload_n hx hb dX13_result_67 rfl (lv_at hl 0 rfl) ?_
                    refine th_get (ci := 14) (C := RX13) (T := TX13) (N := 97) (v := .int y1) hx hb hts hinX13 hown hK hP hI 0 (Nat.le_of_ble_eq_true rfl) rfl rfl 47 (Nat.le_of_ble_eq_true rfl) (hts _ (vA_in _ _ (in_28 _ (List.mem_of_getElem? (i := 13) rfl)))) (fun _ h9 => h9) ((pw3.2 0 47 (fun q9 => absurd q9.2 (Nat.ne_of_beq_eq_false rfl))).trans fy1) dX13_result_68 ?_
                    refine lv_iload_n hx hb dX13_result_71 rfl (lv_at hl 1 rfl) ?_
                    have n36 : vp_in y1 300 := (iv_in (n := 300) i8 (by decide))
                    refine th_iast hx hb hK hP (WX_D hD) hS hI 24 (Nat.le_of_ble_eq_true rfl) rfl rfl n36 (okI rfl f11) dX13_result_72 (fun H locs E37 pw38 hI hP hS => ?_)
                    have hKp := hKp.pw pw38 rfl
                    refine lv_aload_n hx hb dX13_result_73 rfl (lv_at hl 0 rfl) ?_
                    refine th_get (ci := 14) (C := RX13) (T := TX13) (N := 97) (v := .ref (ad 25)) hx hb hts hinX13 hown hK hP hI 0 (Nat.le_of_ble_eq_true rfl) rfl rfl 39 (Nat.le_of_ble_eq_true rfl) (hts _ (vA_in _ _ (in_28 _ (List.mem_of_getElem? (i := 15) rfl)))) (fun _ h9 => h9) (hI.fr 0 (Nat.le_of_ble_eq_true rfl) rfl (Nat.le_of_ble_eq_true rfl) 25 rfl) dX13_result_74 ?_
                    refine lv_aload_n hx hb dX13_result_77 rfl (lv_at hl 0 rfl) ?_
                    refine th_get (ci := 14) (C := RX13) (T := TX13) (N := 97) (v := .int y1) hx hb hts hinX13 hown hK hP hI 0 (Nat.le_of_ble_eq_true rfl) rfl rfl 47 (Nat.le_of_ble_eq_true rfl) (hts _ (vA_in _ _ (in_28 _ (List.mem_of_getElem? (i := 13) rfl)))) (fun _ h9 => h9) ((pw38.2 0 47 (fun q9 => absurd q9.1 (Nat.ne_of_beq_eq_false rfl))).trans ((pw3.2 0 47 (fun q9 => absurd q9.2 (Nat.ne_of_beq_eq_false rfl))).trans fy1)) dX13_result_78 ?_
                    refine lv_iload_n hx hb dX13_result_81 rfl (lv_at hl 2 rfl) ?_
                    have n39 : vp_in y1 300 := (iv_in (n := 300) i8 (by decide))
                    refine th_iast hx hb hK hP (WX_D hD) hS hI 25 (Nat.le_of_ble_eq_true rfl) rfl rfl n39 (okI rfl f12) dX13_result_82 (fun H locs E40 pw41 hI hP hS => ?_)
                    have hKp := hKp.pw pw41 rfl
                    refine lv_aload_n hx hb dX13_result_83 rfl (lv_at hl 0 rfl) ?_
                    refine th_get (ci := 14) (C := RX13) (T := TX13) (N := 97) (v := .ref (ad 26)) hx hb hts hinX13 hown hK hP hI 0 (Nat.le_of_ble_eq_true rfl) rfl rfl 40 (Nat.le_of_ble_eq_true rfl) (hts _ (vA_in _ _ (in_28 _ (List.mem_of_getElem? (i := 0) rfl)))) (fun _ h9 => h9) (hI.fr 0 (Nat.le_of_ble_eq_true rfl) rfl (Nat.le_of_ble_eq_true rfl) 26 rfl) dX13_result_84 ?_
                    refine lv_aload_n hx hb dX13_result_87 rfl (lv_at hl 0 rfl) ?_
                    refine th_get (ci := 14) (C := RX13) (T := TX13) (N := 97) (v := .int y1) hx hb hts hinX13 hown hK hP hI 0 (Nat.le_of_ble_eq_true rfl) rfl rfl 47 (Nat.le_of_ble_eq_true rfl) (hts _ (vA_in _ _ (in_28 _ (List.mem_of_getElem? (i := 13) rfl)))) (fun _ h9 => h9) ((pw41.2 0 47 (fun q9 => absurd q9.1 (Nat.ne_of_beq_eq_false rfl))).trans ((pw38.2 0 47 (fun q9 => absurd q9.1 (Nat.ne_of_beq_eq_false rfl))).trans ((pw3.2 0 47 (fun q9 => absurd q9.2 (Nat.ne_of_beq_eq_false rfl))).trans fy1))) dX13_result_88 ?_
                    refine lv_iload_n hx hb dX13_result_91 rfl (lv_at hl 3 rfl) ?_
                    have n42 : vp_in y1 300 := (iv_in (n := 300) i8 (by decide))
                    refine th_iast hx hb hK hP (WX_D hD) hS hI 26 (Nat.le_of_ble_eq_true rfl) rfl rfl n42 (okI rfl (iv_w i26 (by decide))) dX13_result_92 (fun H locs E43 pw44 hI hP hS => ?_)
                    have hKp := hKp.pw pw44 rfl
                    refine lv_aload_n hx hb dX13_result_93 rfl (lv_at hl 0 rfl) ?_
                    refine th_get (ci := 14) (C := RX13) (T := TX13) (N := 97) (v := .ref (ad 27)) hx hb hts hinX13 hown hK hP hI 0 (Nat.le_of_ble_eq_true rfl) rfl rfl 41 (Nat.le_of_ble_eq_true rfl) (hts _ (vA_in _ _ (in_28 _ (List.mem_of_getElem? (i := 21) rfl)))) (fun _ h9 => h9) (hI.fr 0 (Nat.le_of_ble_eq_true rfl) rfl (Nat.le_of_ble_eq_true rfl) 27 rfl) dX13_result_94 ?_
                    refine lv_aload_n hx hb dX13_result_97 rfl (lv_at hl 0 rfl) ?_
                    refine th_get (ci := 14) (C := RX13) (T := TX13) (N := 97) (v := .int y1) hx hb hts hinX13 hown hK hP hI 0 (Nat.le_of_ble_eq_true rfl) rfl rfl 47 (Nat.le_of_ble_eq_true rfl) (hts _ (vA_in _ _ (in_28 _ (List.mem_of_getElem? (i := 13) rfl)))) (fun _ h9 => h9) ((pw44.2 0 47 (fun q9 => absurd q9.1 (Nat.ne_of_beq_eq_false rfl))).trans ((pw41.2 0 47 (fun q9 => absurd q9.1 (Nat.ne_of_beq_eq_false rfl))).trans ((pw38.2 0 47 (fun q9 => absurd q9.1 (Nat.ne_of_beq_eq_false rfl))).trans ((pw3.2 0 47 (fun q9 => absurd q9.2 (Nat.ne_of_beq_eq_false rfl))).trans fy1)))) dX13_result_98 ?_
                    refine lv_iload hx hb dX13_result_101 (lv_at hl 4 rfl) ?_
                    have n45 : vp_in y1 300 := (iv_in (n := 300) i8 (by decide))
                    refine th_iast hx hb hK hP (WX_D hD) hS hI 27 (Nat.le_of_ble_eq_true rfl) rfl rfl n45 (okI rfl (iv_w i34 (by decide))) dX13_result_103 (fun H locs E46 pw47 hI hP hS => ?_)
                    have hKp := hKp.pw pw47 rfl
                    refine lv_aload_n hx hb dX13_result_104 rfl (lv_at hl 0 rfl) ?_
                    refine th_get (ci := 14) (C := RX13) (T := TX13) (N := 97) (v := .ref (ad 28)) hx hb hts hinX13 hown hK hP hI 0 (Nat.le_of_ble_eq_true rfl) rfl rfl 42 (Nat.le_of_ble_eq_true rfl) (hts _ (vA_in _ _ (in_28 _ (List.mem_of_getElem? (i := 16) rfl)))) (fun _ h9 => h9) (hI.fr 0 (Nat.le_of_ble_eq_true rfl) rfl (Nat.le_of_ble_eq_true rfl) 28 rfl) dX13_result_105 ?_
                    refine lv_aload_n hx hb dX13_result_108 rfl (lv_at hl 0 rfl) ?_
                    refine th_get (ci := 14) (C := RX13) (T := TX13) (N := 97) (v := .int y1) hx hb hts hinX13 hown hK hP hI 0 (Nat.le_of_ble_eq_true rfl) rfl rfl 47 (Nat.le_of_ble_eq_true rfl) (hts _ (vA_in _ _ (in_28 _ (List.mem_of_getElem? (i := 13) rfl)))) (fun _ h9 => h9) ((pw47.2 0 47 (fun q9 => absurd q9.1 (Nat.ne_of_beq_eq_false rfl))).trans ((pw44.2 0 47 (fun q9 => absurd q9.1 (Nat.ne_of_beq_eq_false rfl))).trans ((pw41.2 0 47 (fun q9 => absurd q9.1 (Nat.ne_of_beq_eq_false rfl))).trans ((pw38.2 0 47 (fun q9 => absurd q9.1 (Nat.ne_of_beq_eq_false rfl))).trans ((pw3.2 0 47 (fun q9 => absurd q9.2 (Nat.ne_of_beq_eq_false rfl))).trans fy1))))) dX13_result_109 ?_
                    refine lv_aload_n hx hb dX13_result_112 rfl (lv_at hl 0 rfl) ?_
                    refine th_get (ci := 14) (C := RX13) (T := TX13) (N := 97) (v := .int (xi (E 0) 1)) hx hb hts hinX13 hown hK hP hI 0 (Nat.le_of_ble_eq_true rfl) rfl rfl 1 (Nat.le_of_ble_eq_true rfl) (hts _ (vA_in _ _ (in_24 _ (List.mem_of_getElem? (i := 27) rfl)))) (fun _ h9 => h9) (th_v0 hKp hI0 0 (Nat.le_of_ble_eq_true rfl) rfl (Nat.le_of_ble_eq_true rfl) rfl rfl) dX13_result_113 ?_
                    have n48 : vp_in y1 300 := (iv_in (n := 300) i8 (by decide))
                    refine th_iast hx hb hK hP (WX_D hD) hS hI 28 (Nat.le_of_ble_eq_true rfl) rfl rfl n48 (okI rfl i15) dX13_result_116 (fun H locs E49 pw50 hI hP hS => ?_)
                    have hKp := hKp.pw pw50 rfl
                    refine lv_aload_n hx hb dX13_result_117 rfl (lv_at hl 0 rfl) ?_
                    refine lv_dup hx hb dX13_result_118 rfl ?_
                    refine th_get (ci := 14) (C := RX13) (T := TX13) (N := 97) (v := .int y1) hx hb hts hinX13 hown hK hP hI 0 (Nat.le_of_ble_eq_true rfl) rfl rfl 47 (Nat.le_of_ble_eq_true rfl) (hts _ (vA_in _ _ (in_28 _ (List.mem_of_getElem? (i := 13) rfl)))) (fun _ h9 => h9) ((pw50.2 0 47 (fun q9 => absurd q9.1 (Nat.ne_of_beq_eq_false rfl))).trans ((pw47.2 0 47 (fun q9 => absurd q9.1 (Nat.ne_of_beq_eq_false rfl))).trans ((pw44.2 0 47 (fun q9 => absurd q9.1 (Nat.ne_of_beq_eq_false rfl))).trans ((pw41.2 0 47 (fun q9 => absurd q9.1 (Nat.ne_of_beq_eq_false rfl))).trans ((pw38.2 0 47 (fun q9 => absurd q9.1 (Nat.ne_of_beq_eq_false rfl))).trans ((pw3.2 0 47 (fun q9 => absurd q9.2 (Nat.ne_of_beq_eq_false rfl))).trans fy1)))))) dX13_result_119 ?_
                    refine lv_iconst (v := 1) hx hb dX13_result_122 (by decide) ?_
                    refine lv_iadd hx hb dX13_result_123 ?_
                    refine lv_topi (fun y51 ey51 => ?_)
                    obtain ⟨ty51, iy51⟩ := ti_add (e := 1) (f := 300) i8 ln_1 ey51 (by decide)
                    have ty51 : y51.toInt = y1.toInt + 1 := ty51
                    have iy51 : 1 ≤ y51.toInt ∧ y51.toInt ≤ 300 := iy51
                    refine th_put (ci := 14) (C := RX13) (T := TX13) (N := 97) (v := .int y51) (ty := .int) hx hb hts hinX13 tyX13 tyX13_ok nmX13 hown hK hP (WX_D hD) hS hI 0 (Nat.le_of_ble_eq_true rfl) rfl rfl 47 (Nat.le_of_ble_eq_true rfl) (hts _ (vA_in _ _ (in_28 _ (List.mem_of_getElem? (i := 13) rfl)))) (fun _ h9 => h9) rfl (by decide +kernel) rfl rfl (okI rfl (iv_w iy51 (by decide))) dX13_result_124 (fun H locs E52 pw53 hI hP hS => ?_)
                    have hKp := hKp.pw pw53 rfl
                    refine lv_iconst (v := 1) hx hb dX13_result_127 (by decide) ?_
                    rw [hQ]
                    exact W.zret (v := 1) hx hb hr rfl (fun t ht hW => ⟨⟨1, E52, rfl, ⟨hI, hKp, (by have h8 := ln_1; (try rw [(show xi (E52 0) 47 = y51 from vi_e pw53.1)]); (try rw [ey1]); all_goals omega)⟩, by show va_P (dC, dI) vwCl (WX 72 ad E52) t.heap; rw [ht]; exact hP⟩, hS.F ht⟩) hS.2.2 dX13_result_128
                  · --58 not
                    exact absurd c35 (by decide)
                · -- isIn, case 1
                  obtain ⟨rfl, f54⟩ := hw
                  have t55 : ¬ ((0 : Int) ≤ a3.toInt ∧ a3.toInt ≤ 0) := f54
                  refine lv_if_ne (tgt := 63) hx hb dX13_result_58 (by decide) (fun c56 => ?_) (fun c56 => ?_)
                  · --58 taken
                    exact absurd c56 (by decide)
                  · --58 not
                    refine lv_iconst (v := 0) hx hb dX13_result_61 (by decide) ?_
                    rw [hQ]
                    exact W.zret (v := 0) hx hb hr rfl (fun t ht hW => ⟨⟨0, E2, rfl, ⟨hI, hKp, (by have h8 := ln_0; (try rw [(show xi (E2 0) 47 = y1 from vi_e ((pw3.2 0 47 (fun q9 => absurd q9.2 (Nat.ne_of_beq_eq_false rfl))).trans fy1))]); (try rw [ey1]); all_goals omega)⟩, by show va_P (dC, dI) vwCl (WX 72 ad E2) t.heap; rw [ht]; exact hP⟩, hS.F ht⟩) hS.2.2 dX13_result_62
              · --45 not
                have t57 : a2.toInt = 0 := ti_eq c27
                have i58 : 1 ≤ a2.toInt ∧ a2.toInt ≤ 0 := iv_eqi t57 i26 (il_ 0) (by decide)
                exact iv_no i58 (by decide)
            · --36 not
              have t59 : a2.toInt = 0 := ti_eq c24
              have i60 : 0 ≤ a2.toInt ∧ a2.toInt ≤ 0 := iv_eqi t59 i22 (il_ 0) (by decide)
              refine lv_iconst (v := 1) hx hb dX13_result_39 (by decide) ?_
              refine lv_goto (tgt := 44) hx hb dX13_result_40 (by decide) ?_
              refine lv_iload_n hx hb dX13_result_44 rfl (lv_at hl 3 rfl) ?_
              refine lv_if_ne (tgt := 54) hx hb dX13_result_45 (by decide) (fun c61 => ?_) (fun c61 => ?_)
              · --45 taken
                have t62 : ¬ a2.toInt = 0 := ti_ne c61
                have i63 : 1 ≤ a2.toInt ∧ a2.toInt ≤ 0 := iv_ne_l t62 i60 (il_ 0)
                exact iv_no i63 (by decide)
              · --45 not
                have t64 : a2.toInt = 0 := ti_eq c61
                refine lv_ldcw hx hb hown (hts _ (vA_in _ _ (in_33 _ (List.mem_of_getElem? (i := 23) rfl)))) dX13_result_48 ?_
                refine lv_goto (tgt := 55) hx hb dX13_result_51 (by decide) ?_
                refine th_pi (va_runS (As := [.int a3, .int 1, .int 200000]) (rest := []) ⟨hx, hb, hml, hown, hts⟩ (q_isIn l a3 (1 : Int32) (200000 : Int32)) (va_cwS 3 hts (gi_S (in_24 _ (List.mem_of_getElem? (i := 28) rfl)) (in_24 _ (List.mem_of_getElem? (i := 29) rfl)) (in_24 _ (List.mem_of_getElem? (i := 15) rfl)) (in_24 _ (List.mem_of_getElem? (i := 30) rfl))) rfl rfl rfl (by decide +kernel) ⟨Nat.le_of_ble_eq_true rfl, Nat.le_of_ble_eq_true rfl⟩) ⟨fun _ _ _ _ q => q, fun _ _ _ => ⟨rfl, trivial⟩⟩ rfl rfl hl.1 rfl (lv_room (Nat.le_of_ble_eq_true rfl)) dX13_result_55 ⟨Nat.le_of_ble_eq_true rfl, Nat.le_of_ble_eq_true rfl⟩) hS (fun r65 H1 locs1 hw hk1 hS => ?_)
                have hP := ub_keep hP hk1
                generalize H1 = H at hP hS ⊢
                generalize locs1 = locs at hS ⊢
                rcases hw with hw | hw
                · -- isIn, case 0
                  obtain ⟨rfl, f66⟩ := hw
                  have t67 : (1 : Int) ≤ a3.toInt := f66.1
                  have t68 : a3.toInt ≤ 200000 := f66.2
                  have i69 : 1 ≤ a3.toInt ∧ a3.toInt ≤ 2147483647 := iv_le_r t67 (il_ 1) (iv_all _) (by decide)
                  have i70 : 1 ≤ a3.toInt ∧ a3.toInt ≤ 200000 := iv_le_l t68 i69 (il_ 200000) (by decide)
                  refine lv_if_ne (tgt := 63) hx hb dX13_result_58 (by decide) (fun c71 => ?_) (fun c71 => ?_)
                  · --58 taken
                    refine lv_aload_n hx hb dX13_result_63 rfl (lv_at hl 0 rfl) ?_
                    refine th_get (ci := 14) (C := RX13) (T := TX13) (N := 97) (v := .ref (ad 24)) hx hb hts hinX13 hown hK hP hI 0 (Nat.le_of_ble_eq_true rfl) rfl rfl 38 (Nat.le_of_ble_eq_true rfl) (hts _ (vA_in _ _ (in_28 _ (List.mem_of_getElem? (i := 14) rfl)))) (fun _ h9 => h9) (hI.fr 0 (Nat.le_of_ble_eq_true rfl) rfl (Nat.le_of_ble_eq_true rfl) 24 rfl) dX13_result_64 ?_
                    refine lv_aload_n hx hb dX13_result_67 rfl (lv_at hl 0 rfl) ?_
                    refine th_get (ci := 14) (C := RX13) (T := TX13) (N := 97) (v := .int y1) hx hb hts hinX13 hown hK hP hI 0 (Nat.le_of_ble_eq_true rfl) rfl rfl 47 (Nat.le_of_ble_eq_true rfl) (hts _ (vA_in _ _ (in_28 _ (List.mem_of_getElem? (i := 13) rfl)))) (fun _ h9 => h9) ((pw3.2 0 47 (fun q9 => absurd q9.2 (Nat.ne_of_beq_eq_false rfl))).trans fy1) dX13_result_68 ?_
                    refine lv_iload_n hx hb dX13_result_71 rfl (lv_at hl 1 rfl) ?_
                    have n72 : vp_in y1 300 := (iv_in (n := 300) i8 (by decide))
                    refine th_iast hx hb hK hP (WX_D hD) hS hI 24 (Nat.le_of_ble_eq_true rfl) rfl rfl n72 (okI rfl f11) dX13_result_72 (fun H locs E73 pw74 hI hP hS => ?_)
                    have hKp := hKp.pw pw74 rfl
                    refine lv_aload_n hx hb dX13_result_73 rfl (lv_at hl 0 rfl) ?_
                    refine th_get (ci := 14) (C := RX13) (T := TX13) (N := 97) (v := .ref (ad 25)) hx hb hts hinX13 hown hK hP hI 0 (Nat.le_of_ble_eq_true rfl) rfl rfl 39 (Nat.le_of_ble_eq_true rfl) (hts _ (vA_in _ _ (in_28 _ (List.mem_of_getElem? (i := 15) rfl)))) (fun _ h9 => h9) (hI.fr 0 (Nat.le_of_ble_eq_true rfl) rfl (Nat.le_of_ble_eq_true rfl) 25 rfl) dX13_result_74 ?_
                    refine lv_aload_n hx hb dX13_result_77 rfl (lv_at hl 0 rfl) ?_
                    refine th_get (ci := 14) (C := RX13) (T := TX13) (N := 97) (v := .int y1) hx hb hts hinX13 hown hK hP hI 0 (Nat.le_of_ble_eq_true rfl) rfl rfl 47 (Nat.le_of_ble_eq_true rfl) (hts _ (vA_in _ _ (in_28 _ (List.mem_of_getElem? (i := 13) rfl)))) (fun _ h9 => h9) ((pw74.2 0 47 (fun q9 => absurd q9.1 (Nat.ne_of_beq_eq_false rfl))).trans ((pw3.2 0 47 (fun q9 => absurd q9.2 (Nat.ne_of_beq_eq_false rfl))).trans fy1)) dX13_result_78 ?_
                    refine lv_iload_n hx hb dX13_result_81 rfl (lv_at hl 2 rfl) ?_
                    have n75 : vp_in y1 300 := (iv_in (n := 300) i8 (by decide))
                    refine th_iast hx hb hK hP (WX_D hD) hS hI 25 (Nat.le_of_ble_eq_true rfl) rfl rfl n75 (okI rfl f12) dX13_result_82 (fun H locs E76 pw77 hI hP hS => ?_)
                    have hKp := hKp.pw pw77 rfl
                    refine lv_aload_n hx hb dX13_result_83 rfl (lv_at hl 0 rfl) ?_
                    refine th_get (ci := 14) (C := RX13) (T := TX13) (N := 97) (v := .ref (ad 26)) hx hb hts hinX13 hown hK hP hI 0 (Nat.le_of_ble_eq_true rfl) rfl rfl 40 (Nat.le_of_ble_eq_true rfl) (hts _ (vA_in _ _ (in_28 _ (List.mem_of_getElem? (i := 0) rfl)))) (fun _ h9 => h9) (hI.fr 0 (Nat.le_of_ble_eq_true rfl) rfl (Nat.le_of_ble_eq_true rfl) 26 rfl) dX13_result_84 ?_
                    refine lv_aload_n hx hb dX13_result_87 rfl (lv_at hl 0 rfl) ?_
                    refine th_get (ci := 14) (C := RX13) (T := TX13) (N := 97) (v := .int y1) hx hb hts hinX13 hown hK hP hI 0 (Nat.le_of_ble_eq_true rfl) rfl rfl 47 (Nat.le_of_ble_eq_true rfl) (hts _ (vA_in _ _ (in_28 _ (List.mem_of_getElem? (i := 13) rfl)))) (fun _ h9 => h9) ((pw77.2 0 47 (fun q9 => absurd q9.1 (Nat.ne_of_beq_eq_false rfl))).trans ((pw74.2 0 47 (fun q9 => absurd q9.1 (Nat.ne_of_beq_eq_false rfl))).trans ((pw3.2 0 47 (fun q9 => absurd q9.2 (Nat.ne_of_beq_eq_false rfl))).trans fy1))) dX13_result_88 ?_
                    refine lv_iload_n hx hb dX13_result_91 rfl (lv_at hl 3 rfl) ?_
                    have n78 : vp_in y1 300 := (iv_in (n := 300) i8 (by decide))
                    refine th_iast hx hb hK hP (WX_D hD) hS hI 26 (Nat.le_of_ble_eq_true rfl) rfl rfl n78 (okI rfl (iv_w i60 (by decide))) dX13_result_92 (fun H locs E79 pw80 hI hP hS => ?_)
                    have hKp := hKp.pw pw80 rfl
                    refine lv_aload_n hx hb dX13_result_93 rfl (lv_at hl 0 rfl) ?_
                    refine th_get (ci := 14) (C := RX13) (T := TX13) (N := 97) (v := .ref (ad 27)) hx hb hts hinX13 hown hK hP hI 0 (Nat.le_of_ble_eq_true rfl) rfl rfl 41 (Nat.le_of_ble_eq_true rfl) (hts _ (vA_in _ _ (in_28 _ (List.mem_of_getElem? (i := 21) rfl)))) (fun _ h9 => h9) (hI.fr 0 (Nat.le_of_ble_eq_true rfl) rfl (Nat.le_of_ble_eq_true rfl) 27 rfl) dX13_result_94 ?_
                    refine lv_aload_n hx hb dX13_result_97 rfl (lv_at hl 0 rfl) ?_
                    refine th_get (ci := 14) (C := RX13) (T := TX13) (N := 97) (v := .int y1) hx hb hts hinX13 hown hK hP hI 0 (Nat.le_of_ble_eq_true rfl) rfl rfl 47 (Nat.le_of_ble_eq_true rfl) (hts _ (vA_in _ _ (in_28 _ (List.mem_of_getElem? (i := 13) rfl)))) (fun _ h9 => h9) ((pw80.2 0 47 (fun q9 => absurd q9.1 (Nat.ne_of_beq_eq_false rfl))).trans ((pw77.2 0 47 (fun q9 => absurd q9.1 (Nat.ne_of_beq_eq_false rfl))).trans ((pw74.2 0 47 (fun q9 => absurd q9.1 (Nat.ne_of_beq_eq_false rfl))).trans ((pw3.2 0 47 (fun q9 => absurd q9.2 (Nat.ne_of_beq_eq_false rfl))).trans fy1)))) dX13_result_98 ?_
                    refine lv_iload hx hb dX13_result_101 (lv_at hl 4 rfl) ?_
                    have n81 : vp_in y1 300 := (iv_in (n := 300) i8 (by decide))
                    refine th_iast hx hb hK hP (WX_D hD) hS hI 27 (Nat.le_of_ble_eq_true rfl) rfl rfl n81 (okI rfl (iv_w i70 (by decide))) dX13_result_103 (fun H locs E82 pw83 hI hP hS => ?_)
                    have hKp := hKp.pw pw83 rfl
                    refine lv_aload_n hx hb dX13_result_104 rfl (lv_at hl 0 rfl) ?_
                    refine th_get (ci := 14) (C := RX13) (T := TX13) (N := 97) (v := .ref (ad 28)) hx hb hts hinX13 hown hK hP hI 0 (Nat.le_of_ble_eq_true rfl) rfl rfl 42 (Nat.le_of_ble_eq_true rfl) (hts _ (vA_in _ _ (in_28 _ (List.mem_of_getElem? (i := 16) rfl)))) (fun _ h9 => h9) (hI.fr 0 (Nat.le_of_ble_eq_true rfl) rfl (Nat.le_of_ble_eq_true rfl) 28 rfl) dX13_result_105 ?_
                    refine lv_aload_n hx hb dX13_result_108 rfl (lv_at hl 0 rfl) ?_
                    refine th_get (ci := 14) (C := RX13) (T := TX13) (N := 97) (v := .int y1) hx hb hts hinX13 hown hK hP hI 0 (Nat.le_of_ble_eq_true rfl) rfl rfl 47 (Nat.le_of_ble_eq_true rfl) (hts _ (vA_in _ _ (in_28 _ (List.mem_of_getElem? (i := 13) rfl)))) (fun _ h9 => h9) ((pw83.2 0 47 (fun q9 => absurd q9.1 (Nat.ne_of_beq_eq_false rfl))).trans ((pw80.2 0 47 (fun q9 => absurd q9.1 (Nat.ne_of_beq_eq_false rfl))).trans ((pw77.2 0 47 (fun q9 => absurd q9.1 (Nat.ne_of_beq_eq_false rfl))).trans ((pw74.2 0 47 (fun q9 => absurd q9.1 (Nat.ne_of_beq_eq_false rfl))).trans ((pw3.2 0 47 (fun q9 => absurd q9.2 (Nat.ne_of_beq_eq_false rfl))).trans fy1))))) dX13_result_109 ?_
                    refine lv_aload_n hx hb dX13_result_112 rfl (lv_at hl 0 rfl) ?_
                    refine th_get (ci := 14) (C := RX13) (T := TX13) (N := 97) (v := .int (xi (E 0) 1)) hx hb hts hinX13 hown hK hP hI 0 (Nat.le_of_ble_eq_true rfl) rfl rfl 1 (Nat.le_of_ble_eq_true rfl) (hts _ (vA_in _ _ (in_24 _ (List.mem_of_getElem? (i := 27) rfl)))) (fun _ h9 => h9) (th_v0 hKp hI0 0 (Nat.le_of_ble_eq_true rfl) rfl (Nat.le_of_ble_eq_true rfl) rfl rfl) dX13_result_113 ?_
                    have n84 : vp_in y1 300 := (iv_in (n := 300) i8 (by decide))
                    refine th_iast hx hb hK hP (WX_D hD) hS hI 28 (Nat.le_of_ble_eq_true rfl) rfl rfl n84 (okI rfl i15) dX13_result_116 (fun H locs E85 pw86 hI hP hS => ?_)
                    have hKp := hKp.pw pw86 rfl
                    refine lv_aload_n hx hb dX13_result_117 rfl (lv_at hl 0 rfl) ?_
                    refine lv_dup hx hb dX13_result_118 rfl ?_
                    refine th_get (ci := 14) (C := RX13) (T := TX13) (N := 97) (v := .int y1) hx hb hts hinX13 hown hK hP hI 0 (Nat.le_of_ble_eq_true rfl) rfl rfl 47 (Nat.le_of_ble_eq_true rfl) (hts _ (vA_in _ _ (in_28 _ (List.mem_of_getElem? (i := 13) rfl)))) (fun _ h9 => h9) ((pw86.2 0 47 (fun q9 => absurd q9.1 (Nat.ne_of_beq_eq_false rfl))).trans ((pw83.2 0 47 (fun q9 => absurd q9.1 (Nat.ne_of_beq_eq_false rfl))).trans ((pw80.2 0 47 (fun q9 => absurd q9.1 (Nat.ne_of_beq_eq_false rfl))).trans ((pw77.2 0 47 (fun q9 => absurd q9.1 (Nat.ne_of_beq_eq_false rfl))).trans ((pw74.2 0 47 (fun q9 => absurd q9.1 (Nat.ne_of_beq_eq_false rfl))).trans ((pw3.2 0 47 (fun q9 => absurd q9.2 (Nat.ne_of_beq_eq_false rfl))).trans fy1)))))) dX13_result_119 ?_
                    refine lv_iconst (v := 1) hx hb dX13_result_122 (by decide) ?_
                    refine lv_iadd hx hb dX13_result_123 ?_
                    refine lv_topi (fun y87 ey87 => ?_)
                    obtain ⟨ty87, iy87⟩ := ti_add (e := 1) (f := 300) i8 ln_1 ey87 (by decide)
                    have ty87 : y87.toInt = y1.toInt + 1 := ty87
                    have iy87 : 1 ≤ y87.toInt ∧ y87.toInt ≤ 300 := iy87
                    refine th_put (ci := 14) (C := RX13) (T := TX13) (N := 97) (v := .int y87) (ty := .int) hx hb hts hinX13 tyX13 tyX13_ok nmX13 hown hK hP (WX_D hD) hS hI 0 (Nat.le_of_ble_eq_true rfl) rfl rfl 47 (Nat.le_of_ble_eq_true rfl) (hts _ (vA_in _ _ (in_28 _ (List.mem_of_getElem? (i := 13) rfl)))) (fun _ h9 => h9) rfl (by decide +kernel) rfl rfl (okI rfl (iv_w iy87 (by decide))) dX13_result_124 (fun H locs E88 pw89 hI hP hS => ?_)
                    have hKp := hKp.pw pw89 rfl
                    refine lv_iconst (v := 1) hx hb dX13_result_127 (by decide) ?_
                    rw [hQ]
                    exact W.zret (v := 1) hx hb hr rfl (fun t ht hW => ⟨⟨1, E88, rfl, ⟨hI, hKp, (by have h8 := ln_1; (try rw [(show xi (E88 0) 47 = y87 from vi_e pw89.1)]); (try rw [ey1]); all_goals omega)⟩, by show va_P (dC, dI) vwCl (WX 72 ad E88) t.heap; rw [ht]; exact hP⟩, hS.F ht⟩) hS.2.2 dX13_result_128
                  · --58 not
                    exact absurd c71 (by decide)
                · -- isIn, case 1
                  obtain ⟨rfl, f90⟩ := hw
                  have t91 : ¬ ((1 : Int) ≤ a3.toInt ∧ a3.toInt ≤ 200000) := f90
                  refine lv_if_ne (tgt := 63) hx hb dX13_result_58 (by decide) (fun c92 => ?_) (fun c92 => ?_)
                  · --58 taken
                    exact absurd c92 (by decide)
                  · --58 not
                    refine lv_iconst (v := 0) hx hb dX13_result_61 (by decide) ?_
                    rw [hQ]
                    exact W.zret (v := 0) hx hb hr rfl (fun t ht hW => ⟨⟨0, E2, rfl, ⟨hI, hKp, (by have h8 := ln_0; (try rw [(show xi (E2 0) 47 = y1 from vi_e ((pw3.2 0 47 (fun q9 => absurd q9.2 (Nat.ne_of_beq_eq_false rfl))).trans fy1))]); (try rw [ey1]); all_goals omega)⟩, by show va_P (dC, dI) vwCl (WX 72 ad E2) t.heap; rw [ht]; exact hP⟩, hS.F ht⟩) hS.2.2 dX13_result_62
        · -- isIn, case 1
          obtain ⟨rfl, f93⟩ := hw
          have t94 : ¬ ((0 : Int) ≤ a2.toInt ∧ a2.toInt ≤ 4) := f93
          refine lv_if_eq (tgt := 61) hx hb dX13_result_30 (by decide) (fun c95 => ?_) (fun c95 => ?_)
          · --30 taken
            refine lv_iconst (v := 0) hx hb dX13_result_61 (by decide) ?_
            rw [hQ]
            exact W.zret (v := 0) hx hb hr rfl (fun t ht hW => ⟨⟨0, E2, rfl, ⟨hI, hKp, (by have h8 := ln_0; (try rw [(show xi (E2 0) 47 = y1 from vi_e ((pw3.2 0 47 (fun q9 => absurd q9.2 (Nat.ne_of_beq_eq_false rfl))).trans fy1))]); (try rw [ey1]); all_goals omega)⟩, by show va_P (dC, dI) vwCl (WX 72 ad E2) t.heap; rw [ht]; exact hP⟩, hS.F ht⟩) hS.2.2 dX13_result_62
          · --30 not
            exact absurd c95 (by decide)
    · -- isEntry, case 1
      obtain ⟨rfl, f96⟩ := hw
      have i97 : 0 ≤ (xi (E 0) 46).toInt ∧ (xi (E 0) 46).toInt ≤ 20 := (show 0 ≤ (xi (E 0) 46).toInt ∧ (xi (E 0) 46).toInt ≤ 20 from hI0.iv 0 (Nat.le_of_ble_eq_true rfl) rfl (Nat.le_of_ble_eq_true rfl) rfl)
      have i98 : 0 ≤ (xi (E 0) 8).toInt ∧ (xi (E 0) 8).toInt ≤ 16 := (show 0 ≤ (xi (E 0) 8).toInt ∧ (xi (E 0) 8).toInt ≤ 16 from hI0.iv 0 (Nat.le_of_ble_eq_true rfl) rfl (Nat.le_of_ble_eq_true rfl) rfl)
      have i99 : 0 ≤ (xi (E 0) 1).toInt ∧ (xi (E 0) 1).toInt ≤ 400 := (show 0 ≤ (xi (E 0) 1).toInt ∧ (xi (E 0) 1).toInt ≤ 400 from hI0.iv 0 (Nat.le_of_ble_eq_true rfl) rfl (Nat.le_of_ble_eq_true rfl) rfl)
      try rw [hKp.ei 0 46 rfl] at f96
      try rw [hKp.ei 0 8 rfl] at f96
      try rw [hKp.ei 0 1 rfl] at f96
      try rw [hKp.ef 21 (fun _ => rfl)] at f96
      refine lv_if_eq (tgt := 61) hx hb dX13_result_21 (by decide) (fun c100 => ?_) (fun c100 => ?_)
      · --21 taken
        refine lv_iconst (v := 0) hx hb dX13_result_61 (by decide) ?_
        rw [hQ]
        exact W.zret (v := 0) hx hb hr rfl (fun t ht hW => ⟨⟨0, E2, rfl, ⟨hI, hKp, (by have h8 := ln_0; (try rw [(show xi (E2 0) 47 = y1 from vi_e ((pw3.2 0 47 (fun q9 => absurd q9.2 (Nat.ne_of_beq_eq_false rfl))).trans fy1))]); (try rw [ey1]); all_goals omega)⟩, by show va_P (dC, dI) vwCl (WX 72 ad E2) t.heap; rw [ht]; exact hP⟩, hS.F ht⟩) hS.2.2 dX13_result_62
      · --21 not
        exact absurd c100 (by decide)
def v_wordX : List Cond := .code yX13_word cX13_word 8 (some .int) :: vA
abbrev rm_wordX : Room := { frames := 2, cells := 0, slots := 0, locals := 80 }
def w_wordX : Nat → Nat → Bool := wl [38, 39, 40, 41, 42, 43, 44, 45] [(0, 0), (0, 74)]
set_option maxHeartbeats 4000000 in
set_option maxRecDepth 100000 in
theorem q_wordX (l : Launch) (dC : Nat → ClassId) (dI : Nat → Nat → Nat) (cT : Nat → ClassId) (ad : Nat → Nat) (E : Nat → va_E) (sz : Nat) (a0 : Int32) (a1 : Int32) (a2 : Int32) (a3 : Int32) (a4 : Int32) (a5 : Int32) (a6 : Int32) (hI0 : IX cT shM spM 72 ad E)  : Met l yX13_word v_wordX rm_wordX (va_Pc [.ref (ad 0), .int a0, .int a1, .int a2, .int a3, .int a4, .int a5, .int a6] (HW dC dI (TYM cT) 72 ad E sz)) (va_Qi (S := Nat → va_E) (fun r u => IX cT shM spM 72 ad u ∧ Kp w_wordX E u ∧ ((((((0 ≤ a0.toInt ∧ a0.toInt < (xi (E 0) 46).toInt) ∧ (0 ≤ a1.toInt ∧ a1.toInt < (xi (E 0) 8).toInt) ∧ (xi (E 21) (16 * a0.toInt + a1.toInt).toNat).toInt ≤ (xi (E 0) 1).toInt ∧ (0 ≤ a2.toInt ∧ a2.toInt ≤ 100000) ∧ (0 ≤ a5.toInt ∧ a5.toInt ≤ 3) ∧ (1 ≤ a6.toInt ∧ a6.toInt ≤ 255) ∧ (0 ≤ a3.toInt ∧ a3.toInt ≤ 99 - a5.toInt) ∧ (0 ≤ a4.toInt ∧ a4.toInt ≤ 99 - a5.toInt) ∧ (xi (E 0) 74).toInt < 200) → (r.toInt = (xi (E 0) 74).toInt ∧ (xi (u 0) 74).toInt = (xi (E 0) 74).toInt + 1)) ∧ (¬ ((0 ≤ a0.toInt ∧ a0.toInt < (xi (E 0) 46).toInt) ∧ (0 ≤ a1.toInt ∧ a1.toInt < (xi (E 0) 8).toInt) ∧ (xi (E 21) (16 * a0.toInt + a1.toInt).toNat).toInt ≤ (xi (E 0) 1).toInt ∧ (0 ≤ a2.toInt ∧ a2.toInt ≤ 100000) ∧ (0 ≤ a5.toInt ∧ a5.toInt ≤ 3) ∧ (1 ≤ a6.toInt ∧ a6.toInt ≤ 255) ∧ (0 ≤ a3.toInt ∧ a3.toInt ≤ 99 - a5.toInt) ∧ (0 ≤ a4.toInt ∧ a4.toInt ≤ 99 - a5.toInt) ∧ (xi (E 0) 74).toInt < 200) → (r.toInt = -1 ∧ (xi (u 0) 74).toInt = (xi (E 0) 74).toInt)))))) (HB dC dI 72 ad) (va_A (WX 72 ad E) sz)) 0 0 (va_A (WX 72 ad E) sz) := by
  refine Met.ofW (cc := cX13_word) (maxL := 8) (ret := (some .int)) (by decide) rfl ?_
  intro p e s m args below meth c s₁ B hml hv
  obtain ⟨hargs, hsz, hP, hK, hD0, hEV⟩ := hv
  subst hsz
  have hx := B.exec
  have hb := B.bytes
  have hr := B.returns
  have hts := atoms_spec (ws := v_wordX) B.pre
  have hown : s.vm.findClass RX13 = some m.cls := findClass_of_methodNamed B.named
  have hlocks := B.notSynchronized
  have hinX13 : ∀ w ∈ u_ws RX13 TX13 97, w ∈ v_wordX := fun w h => vA_in _ w (in_X13 w h)
  generalize hAe : va_A (WX 72 ad E) s.heap.size = A at hEV ⊢
  have hA : ∀ q : Nat, s.heap.size ≤ q → A q := fun q h => by rw [← hAe]; exact Or.inr h
  have hD : va_D A (WX 72 ad E) := by rw [← hAe]; exact hD0.self
  have hS : va_S A s.heap s.heap [] := va_S.rf
  have hI := hI0
  have hKp : Kp w_wordX E E := Kp.rf
  have hl := lv_entry ([.ref (ad 0), .int a0, .int a1, .int a2, .int a3, .int a4, .int a5, .int a6]) (n := 8) (Nat.le_of_ble_eq_true rfl)
  obtain ⟨Q, hQ⟩ : ∃ Q, Q = MQ below (va_Qi (S := Nat → va_E) (fun r u => IX cT shM spM 72 ad u ∧ Kp w_wordX E u ∧ ((((((0 ≤ a0.toInt ∧ a0.toInt < (xi (E 0) 46).toInt) ∧ (0 ≤ a1.toInt ∧ a1.toInt < (xi (E 0) 8).toInt) ∧ (xi (E 21) (16 * a0.toInt + a1.toInt).toNat).toInt ≤ (xi (E 0) 1).toInt ∧ (0 ≤ a2.toInt ∧ a2.toInt ≤ 100000) ∧ (0 ≤ a5.toInt ∧ a5.toInt ≤ 3) ∧ (1 ≤ a6.toInt ∧ a6.toInt ≤ 255) ∧ (0 ≤ a3.toInt ∧ a3.toInt ≤ 99 - a5.toInt) ∧ (0 ≤ a4.toInt ∧ a4.toInt ≤ 99 - a5.toInt) ∧ (xi (E 0) 74).toInt < 200) → (r.toInt = (xi (E 0) 74).toInt ∧ (xi (u 0) 74).toInt = (xi (E 0) 74).toInt + 1)) ∧ (¬ ((0 ≤ a0.toInt ∧ a0.toInt < (xi (E 0) 46).toInt) ∧ (0 ≤ a1.toInt ∧ a1.toInt < (xi (E 0) 8).toInt) ∧ (xi (E 21) (16 * a0.toInt + a1.toInt).toNat).toInt ≤ (xi (E 0) 1).toInt ∧ (0 ≤ a2.toInt ∧ a2.toInt ≤ 100000) ∧ (0 ≤ a5.toInt ∧ a5.toInt ≤ 3) ∧ (1 ≤ a6.toInt ∧ a6.toInt ≤ 255) ∧ (0 ≤ a3.toInt ∧ a3.toInt ≤ 99 - a5.toInt) ∧ (0 ≤ a4.toInt ∧ a4.toInt ≤ 99 - a5.toInt) ∧ (xi (E 0) 74).toInt < 200) → (r.toInt = -1 ∧ (xi (u 0) 74).toInt = (xi (E 0) 74).toInt)))))) (HB dC dI 72 ad) (A)) args s 0 0 (A) := ⟨_, rfl⟩
  rw [← hQ, show entryFrame m args 8 = _ from (congrArg (fun z => entryFrame m z 8) hargs).trans (lg_entry_eq _ _ _)]
  generalize (lg_sl ([.ref (ad 0), .int a0, .int a1, .int a2, .int a3, .int a4, .int a5, .int a6]) ++ List.replicate (8 - (lg_sl ([.ref (ad 0), .int a0, .int a1, .int a2, .int a3, .int a4, .int a5, .int a6])).length) Slot.unset).toArray = ls at hl ⊢
  have hl : lv_has ls 8 [(0, .ref (ad 0)), (1, .int a0), (2, .int a1), (3, .int a2), (4, .int a3), (5, .int a4), (6, .int a5), (7, .int a6)] := hl
  obtain ⟨y1, ey1⟩ : ∃ y, xi (E 0) 74 = y := ⟨_, rfl⟩
  have fy1 : xv (E 0) 74 = .int y1 := (hI.fi 0 (Nat.le_of_ble_eq_true rfl) rfl (Nat.le_of_ble_eq_true rfl) rfl).trans (congrArg Value.int ey1)
  have iy1 : 0 ≤ y1.toInt ∧ y1.toInt ≤ 200 := by rw [← ey1]; exact hI.iv 0 (Nat.le_of_ble_eq_true rfl) rfl (Nat.le_of_ble_eq_true rfl) rfl
  refine lv_aload_n hx hb dX13_word_0 rfl (lv_at hl 0 rfl) ?_
  refine lv_iconst (v := 0) hx hb dX13_word_1 (by decide) ?_
  refine th_put (ci := 14) (C := RX13) (T := TX13) (N := 97) (v := .int 0) (ty := .int) hx hb hts hinX13 tyX13 tyX13_ok nmX13 hown hK hP (WX_D hD) hS hI 0 (Nat.le_of_ble_eq_true rfl) rfl rfl 0 (Nat.le_of_ble_eq_true rfl) (hts _ (vA_in _ _ (in_24 _ (List.mem_of_getElem? (i := 10) rfl)))) (fun _ h9 => h9) rfl (by decide +kernel) rfl rfl (okI rfl (iv_w ln_0 (by decide))) dX13_word_2 (fun H locs E2 pw3 hI hP hS => ?_)
  have hKp := hKp.pw pw3 rfl
  refine lv_aload_n hx hb dX13_word_5 rfl (lv_at hl 0 rfl) ?_
  refine th_get (ci := 14) (C := RX13) (T := TX13) (N := 97) (v := .int y1) hx hb hts hinX13 hown hK hP hI 0 (Nat.le_of_ble_eq_true rfl) rfl rfl 74 (Nat.le_of_ble_eq_true rfl) (hts _ (vA_in _ _ (in_25 _ (List.mem_of_getElem? (i := 11) rfl)))) (fun _ h9 => h9) ((pw3.2 0 74 (fun q9 => absurd q9.2 (Nat.ne_of_beq_eq_false rfl))).trans fy1) dX13_word_6 ?_
  refine lv_sipush (v := 200) hx hb dX13_word_9 (by decide) ?_
  refine lv_icmp_eq (tgt := 85) hx hb dX13_word_12 (by decide) (fun c4 => ?_) (fun c4 => ?_)
  · --12 taken
    have t5 : y1.toInt = 200 := ti_eq c4
    have i6 : 200 ≤ y1.toInt ∧ y1.toInt ≤ 200 := iv_eqi t5 iy1 (il_ 200) (by decide)
    refine lv_iconst (v := -1) hx hb dX13_word_85 (by decide) ?_
    rw [hQ]
    exact W.iret (v := (-1)) hx hb hr (fun t ht hW => ⟨⟨(-1), E2, rfl, ⟨hI, hKp, (by have h8 := ln_m1; (try rw [(show xi (E2 0) 74 = y1 from vi_e ((pw3.2 0 74 (fun q9 => absurd q9.2 (Nat.ne_of_beq_eq_false rfl))).trans fy1))]); (try rw [ey1]); all_goals omega)⟩, by show va_P (dC, dI) vwCl (WX 72 ad E2) t.heap; rw [ht]; exact hP⟩, hS.F ht⟩) hS.2.2 dX13_word_86
  · --12 not
    have t7 : ¬ y1.toInt = 200 := ti_ne c4
    have i8 : 0 ≤ y1.toInt ∧ y1.toInt ≤ 199 := iv_ne_r t7 iy1 (il_ 200)
    refine lv_aload_n hx hb dX13_word_15 rfl (lv_at hl 0 rfl) ?_
    refine lv_iload_n hx hb dX13_word_16 rfl (lv_at hl 1 rfl) ?_
    refine lv_iload_n hx hb dX13_word_17 rfl (lv_at hl 2 rfl) ?_
    refine th_ri (va_runV (As := [.int a0, .int a1]) (rest := []) ⟨hx, hb, hml, hown, hts⟩ (q_isEntry l dC dI cT ad E2 H.size a0 a1 hI) (cwV 2 hts (gi_V (in_33 _ (List.mem_of_getElem? (i := 8) rfl)) (in_33 _ (List.mem_of_getElem? (i := 9) rfl)) (in_33 _ (List.mem_of_getElem? (i := 10) rfl)) (in_24 _ (List.mem_of_getElem? (i := 15) rfl)) (in_32 _ (List.mem_of_getElem? (i := 24) rfl))) rfl rfl rfl (by decide +kernel) ⟨Nat.le_of_ble_eq_true rfl, Nat.le_of_ble_eq_true rfl⟩) ⟨HW_bl, va_recv hK hP (ci := 14) (q0 := 0) rfl (hI.ob 0 (Nat.le_of_ble_eq_true rfl) rfl), (HW_wi hP hK (WX_D hD) hS hA hEV)⟩ rfl rfl hl.1 rfl (lv_room (Nat.le_of_ble_eq_true rfl)) dX13_word_18 ⟨Nat.le_of_ble_eq_true rfl, Nat.le_of_ble_eq_true rfl⟩) hS hP (fun r9 H locs hw hP hS => ?_)
    rcases hw with hw | hw
    · -- isEntry, case 0
      obtain ⟨rfl, f10, f11, f12⟩ := hw
      have i13 : 0 ≤ (xi (E 0) 46).toInt ∧ (xi (E 0) 46).toInt ≤ 20 := (show 0 ≤ (xi (E 0) 46).toInt ∧ (xi (E 0) 46).toInt ≤ 20 from hI0.iv 0 (Nat.le_of_ble_eq_true rfl) rfl (Nat.le_of_ble_eq_true rfl) rfl)
      have i14 : 0 ≤ (xi (E 0) 8).toInt ∧ (xi (E 0) 8).toInt ≤ 16 := (show 0 ≤ (xi (E 0) 8).toInt ∧ (xi (E 0) 8).toInt ≤ 16 from hI0.iv 0 (Nat.le_of_ble_eq_true rfl) rfl (Nat.le_of_ble_eq_true rfl) rfl)
      have i15 : 0 ≤ (xi (E 0) 1).toInt ∧ (xi (E 0) 1).toInt ≤ 400 := (show 0 ≤ (xi (E 0) 1).toInt ∧ (xi (E 0) 1).toInt ≤ 400 from hI0.iv 0 (Nat.le_of_ble_eq_true rfl) rfl (Nat.le_of_ble_eq_true rfl) rfl)
      try rw [hKp.ei 0 46 rfl] at f10
      try rw [hKp.ei 0 8 rfl] at f10
      try rw [hKp.ei 0 1 rfl] at f10
      try rw [hKp.ef 21 (fun _ => rfl)] at f10
      refine lv_if_eq (tgt := 85) hx hb dX13_word_21 (by decide) (fun c16 => ?_) (fun c16 => ?_)
      · --21 taken
        exact absurd c16 (by decide)
      · --21 not
        refine lv_iload_n hx hb dX13_word_24 rfl (lv_at hl 3 rfl) ?_
        refine lv_iconst (v := 0) hx hb dX13_word_25 (by decide) ?_
        refine lv_ldcw hx hb hown (hts _ (vA_in _ _ (in_33 _ (List.mem_of_getElem? (i := 7) rfl)))) dX13_word_26 ?_
        refine th_pi (va_runS (As := [.int a2, .int 0, .int 100000]) (rest := []) ⟨hx, hb, hml, hown, hts⟩ (q_isIn l a2 (0 : Int32) (100000 : Int32)) (va_cwS 3 hts (gi_S (in_24 _ (List.mem_of_getElem? (i := 28) rfl)) (in_24 _ (List.mem_of_getElem? (i := 29) rfl)) (in_24 _ (List.mem_of_getElem? (i := 15) rfl)) (in_24 _ (List.mem_of_getElem? (i := 30) rfl))) rfl rfl rfl (by decide +kernel) ⟨Nat.le_of_ble_eq_true rfl, Nat.le_of_ble_eq_true rfl⟩) ⟨fun _ _ _ _ q => q, fun _ _ _ => ⟨rfl, trivial⟩⟩ rfl rfl hl.1 rfl (lv_room (Nat.le_of_ble_eq_true rfl)) dX13_word_29 ⟨Nat.le_of_ble_eq_true rfl, Nat.le_of_ble_eq_true rfl⟩) hS (fun r17 H1 locs1 hw hk1 hS => ?_)
        have hP := ub_keep hP hk1
        generalize H1 = H at hP hS ⊢
        generalize locs1 = locs at hS ⊢
        rcases hw with hw | hw
        · -- isIn, case 0
          obtain ⟨rfl, f18⟩ := hw
          have t19 : (0 : Int) ≤ a2.toInt := f18.1
          have t20 : a2.toInt ≤ 100000 := f18.2
          have i21 : 0 ≤ a2.toInt ∧ a2.toInt ≤ 2147483647 := iv_le_r t19 (il_ 0) (iv_all _) (by decide)
          have i22 : 0 ≤ a2.toInt ∧ a2.toInt ≤ 100000 := iv_le_l t20 i21 (il_ 100000) (by decide)
          refine lv_if_eq (tgt := 85) hx hb dX13_word_32 (by decide) (fun c23 => ?_) (fun c23 => ?_)
          · --32 taken
            exact absurd c23 (by decide)
          · --32 not
            refine lv_iload hx hb dX13_word_35 (lv_at hl 6 rfl) ?_
            refine lv_iconst (v := 0) hx hb dX13_word_37 (by decide) ?_
            refine lv_iconst (v := 3) hx hb dX13_word_38 (by decide) ?_
            refine th_pi (va_runS (As := [.int a5, .int 0, .int 3]) (rest := []) ⟨hx, hb, hml, hown, hts⟩ (q_isIn l a5 (0 : Int32) (3 : Int32)) (va_cwS 3 hts (gi_S (in_24 _ (List.mem_of_getElem? (i := 28) rfl)) (in_24 _ (List.mem_of_getElem? (i := 29) rfl)) (in_24 _ (List.mem_of_getElem? (i := 15) rfl)) (in_24 _ (List.mem_of_getElem? (i := 30) rfl))) rfl rfl rfl (by decide +kernel) ⟨Nat.le_of_ble_eq_true rfl, Nat.le_of_ble_eq_true rfl⟩) ⟨fun _ _ _ _ q => q, fun _ _ _ => ⟨rfl, trivial⟩⟩ rfl rfl hl.1 rfl (lv_room (Nat.le_of_ble_eq_true rfl)) dX13_word_39 ⟨Nat.le_of_ble_eq_true rfl, Nat.le_of_ble_eq_true rfl⟩) hS (fun r24 H1 locs1 hw hk1 hS => ?_)
            have hP := ub_keep hP hk1
            generalize H1 = H at hP hS ⊢
            generalize locs1 = locs at hS ⊢
            rcases hw with hw | hw
            · -- isIn, case 0
              obtain ⟨rfl, f25⟩ := hw
              have t26 : (0 : Int) ≤ a5.toInt := f25.1
              have t27 : a5.toInt ≤ 3 := f25.2
              have i28 : 0 ≤ a5.toInt ∧ a5.toInt ≤ 2147483647 := iv_le_r t26 (il_ 0) (iv_all _) (by decide)
              have i29 : 0 ≤ a5.toInt ∧ a5.toInt ≤ 3 := iv_le_l t27 i28 (il_ 3) (by decide)
              refine lv_if_eq (tgt := 85) hx hb dX13_word_42 (by decide) (fun c30 => ?_) (fun c30 => ?_)
              · --42 taken
                exact absurd c30 (by decide)
              · --42 not
                refine lv_iload hx hb dX13_word_45 (lv_at hl 4 rfl) ?_
                refine lv_iconst (v := 0) hx hb dX13_word_47 (by decide) ?_
                refine lv_bipush (v := 99) hx hb dX13_word_48 (by decide) ?_
                refine lv_iload hx hb dX13_word_50 (lv_at hl 6 rfl) ?_
                refine lv_isub hx hb dX13_word_52 ?_
                refine lv_topi (fun y31 ey31 => ?_)
                obtain ⟨ty31, iy31⟩ := ti_sub (e := 96) (f := 99) ln_99 i29 ey31 (by decide)
                have ty31 : y31.toInt = 99 - a5.toInt := ty31
                have iy31 : 96 ≤ y31.toInt ∧ y31.toInt ≤ 99 := iy31
                refine th_pi (va_runS (As := [.int a3, .int 0, .int y31]) (rest := []) ⟨hx, hb, hml, hown, hts⟩ (q_isIn l a3 (0 : Int32) y31) (va_cwS 3 hts (gi_S (in_24 _ (List.mem_of_getElem? (i := 28) rfl)) (in_24 _ (List.mem_of_getElem? (i := 29) rfl)) (in_24 _ (List.mem_of_getElem? (i := 15) rfl)) (in_24 _ (List.mem_of_getElem? (i := 30) rfl))) rfl rfl rfl (by decide +kernel) ⟨Nat.le_of_ble_eq_true rfl, Nat.le_of_ble_eq_true rfl⟩) ⟨fun _ _ _ _ q => q, fun _ _ _ => ⟨rfl, trivial⟩⟩ rfl rfl hl.1 rfl (lv_room (Nat.le_of_ble_eq_true rfl)) dX13_word_53 ⟨Nat.le_of_ble_eq_true rfl, Nat.le_of_ble_eq_true rfl⟩) hS (fun r32 H1 locs1 hw hk1 hS => ?_)
                have hP := ub_keep hP hk1
                generalize H1 = H at hP hS ⊢
                generalize locs1 = locs at hS ⊢
                rcases hw with hw | hw
                · -- isIn, case 0
                  obtain ⟨rfl, f33⟩ := hw
                  have t34 : (0 : Int) ≤ a3.toInt := f33.1
                  have t35 : a3.toInt ≤ y31.toInt := f33.2
                  have i36 : 0 ≤ a3.toInt ∧ a3.toInt ≤ 2147483647 := iv_le_r t34 (il_ 0) (iv_all _) (by decide)
                  have i37 : 0 ≤ a3.toInt ∧ a3.toInt ≤ 99 := iv_le_l t35 i36 iy31 (by decide)
                  refine lv_if_eq (tgt := 85) hx hb dX13_word_56 (by decide) (fun c38 => ?_) (fun c38 => ?_)
                  · --56 taken
                    exact absurd c38 (by decide)
                  · --56 not
                    refine lv_iload hx hb dX13_word_59 (lv_at hl 5 rfl) ?_
                    refine lv_iconst (v := 0) hx hb dX13_word_61 (by decide) ?_
                    refine lv_bipush (v := 99) hx hb dX13_word_62 (by decide) ?_
                    refine lv_iload hx hb dX13_word_64 (lv_at hl 6 rfl) ?_
                    refine lv_isub hx hb dX13_word_66 ?_
                    refine lv_topi (fun y39 ey39 => ?_)
                    obtain ⟨ty39, iy39⟩ := ti_sub (e := 96) (f := 99) ln_99 i29 ey39 (by decide)
                    have ty39 : y39.toInt = 99 - a5.toInt := ty39
                    have iy39 : 96 ≤ y39.toInt ∧ y39.toInt ≤ 99 := iy39
                    refine th_pi (va_runS (As := [.int a4, .int 0, .int y39]) (rest := []) ⟨hx, hb, hml, hown, hts⟩ (q_isIn l a4 (0 : Int32) y39) (va_cwS 3 hts (gi_S (in_24 _ (List.mem_of_getElem? (i := 28) rfl)) (in_24 _ (List.mem_of_getElem? (i := 29) rfl)) (in_24 _ (List.mem_of_getElem? (i := 15) rfl)) (in_24 _ (List.mem_of_getElem? (i := 30) rfl))) rfl rfl rfl (by decide +kernel) ⟨Nat.le_of_ble_eq_true rfl, Nat.le_of_ble_eq_true rfl⟩) ⟨fun _ _ _ _ q => q, fun _ _ _ => ⟨rfl, trivial⟩⟩ rfl rfl hl.1 rfl (lv_room (Nat.le_of_ble_eq_true rfl)) dX13_word_67 ⟨Nat.le_of_ble_eq_true rfl, Nat.le_of_ble_eq_true rfl⟩) hS (fun r40 H1 locs1 hw hk1 hS => ?_)
                    have hP := ub_keep hP hk1
                    generalize H1 = H at hP hS ⊢
                    generalize locs1 = locs at hS ⊢
                    rcases hw with hw | hw
                    · -- isIn, case 0
                      obtain ⟨rfl, f41⟩ := hw
                      have t42 : (0 : Int) ≤ a4.toInt := f41.1
                      have t43 : a4.toInt ≤ y39.toInt := f41.2
                      have i44 : 0 ≤ a4.toInt ∧ a4.toInt ≤ 2147483647 := iv_le_r t42 (il_ 0) (iv_all _) (by decide)
                      have i45 : 0 ≤ a4.toInt ∧ a4.toInt ≤ 99 := iv_le_l t43 i44 iy39 (by decide)
                      refine lv_if_eq (tgt := 85) hx hb dX13_word_70 (by decide) (fun c46 => ?_) (fun c46 => ?_)
                      · --70 taken
                        exact absurd c46 (by decide)
                      · --70 not
                        refine lv_iload hx hb dX13_word_73 (lv_at hl 7 rfl) ?_
                        refine lv_iconst (v := 1) hx hb dX13_word_75 (by decide) ?_
                        refine lv_sipush (v := 255) hx hb dX13_word_76 (by decide) ?_
                        refine th_pi (va_runS (As := [.int a6, .int 1, .int 255]) (rest := []) ⟨hx, hb, hml, hown, hts⟩ (q_isIn l a6 (1 : Int32) (255 : Int32)) (va_cwS 3 hts (gi_S (in_24 _ (List.mem_of_getElem? (i := 28) rfl)) (in_24 _ (List.mem_of_getElem? (i := 29) rfl)) (in_24 _ (List.mem_of_getElem? (i := 15) rfl)) (in_24 _ (List.mem_of_getElem? (i := 30) rfl))) rfl rfl rfl (by decide +kernel) ⟨Nat.le_of_ble_eq_true rfl, Nat.le_of_ble_eq_true rfl⟩) ⟨fun _ _ _ _ q => q, fun _ _ _ => ⟨rfl, trivial⟩⟩ rfl rfl hl.1 rfl (lv_room (Nat.le_of_ble_eq_true rfl)) dX13_word_79 ⟨Nat.le_of_ble_eq_true rfl, Nat.le_of_ble_eq_true rfl⟩) hS (fun r47 H1 locs1 hw hk1 hS => ?_)
                        have hP := ub_keep hP hk1
                        generalize H1 = H at hP hS ⊢
                        generalize locs1 = locs at hS ⊢
                        rcases hw with hw | hw
                        · -- isIn, case 0
                          obtain ⟨rfl, f48⟩ := hw
                          have t49 : (1 : Int) ≤ a6.toInt := f48.1
                          have t50 : a6.toInt ≤ 255 := f48.2
                          have i51 : 1 ≤ a6.toInt ∧ a6.toInt ≤ 2147483647 := iv_le_r t49 (il_ 1) (iv_all _) (by decide)
                          have i52 : 1 ≤ a6.toInt ∧ a6.toInt ≤ 255 := iv_le_l t50 i51 (il_ 255) (by decide)
                          refine lv_if_ne (tgt := 87) hx hb dX13_word_82 (by decide) (fun c53 => ?_) (fun c53 => ?_)
                          · --82 taken
                            refine lv_aload_n hx hb dX13_word_87 rfl (lv_at hl 0 rfl) ?_
                            refine th_get (ci := 14) (C := RX13) (T := TX13) (N := 97) (v := .ref (ad 38)) hx hb hts hinX13 hown hK hP hI 0 (Nat.le_of_ble_eq_true rfl) rfl rfl 56 (Nat.le_of_ble_eq_true rfl) (hts _ (vA_in _ _ (in_25 _ (List.mem_of_getElem? (i := 12) rfl)))) (fun _ h9 => h9) (hI.fr 0 (Nat.le_of_ble_eq_true rfl) rfl (Nat.le_of_ble_eq_true rfl) 38 rfl) dX13_word_88 ?_
                            refine lv_aload_n hx hb dX13_word_91 rfl (lv_at hl 0 rfl) ?_
                            refine th_get (ci := 14) (C := RX13) (T := TX13) (N := 97) (v := .int y1) hx hb hts hinX13 hown hK hP hI 0 (Nat.le_of_ble_eq_true rfl) rfl rfl 74 (Nat.le_of_ble_eq_true rfl) (hts _ (vA_in _ _ (in_25 _ (List.mem_of_getElem? (i := 11) rfl)))) (fun _ h9 => h9) ((pw3.2 0 74 (fun q9 => absurd q9.2 (Nat.ne_of_beq_eq_false rfl))).trans fy1) dX13_word_92 ?_
                            refine lv_iload_n hx hb dX13_word_95 rfl (lv_at hl 1 rfl) ?_
                            have n54 : vp_in y1 200 := (iv_in (n := 200) i8 (by decide))
                            refine th_iast hx hb hK hP (WX_D hD) hS hI 38 (Nat.le_of_ble_eq_true rfl) rfl rfl n54 (okI rfl f11) dX13_word_96 (fun H locs E55 pw56 hI hP hS => ?_)
                            have hKp := hKp.pw pw56 rfl
                            refine lv_aload_n hx hb dX13_word_97 rfl (lv_at hl 0 rfl) ?_
                            refine th_get (ci := 14) (C := RX13) (T := TX13) (N := 97) (v := .ref (ad 39)) hx hb hts hinX13 hown hK hP hI 0 (Nat.le_of_ble_eq_true rfl) rfl rfl 57 (Nat.le_of_ble_eq_true rfl) (hts _ (vA_in _ _ (in_25 _ (List.mem_of_getElem? (i := 13) rfl)))) (fun _ h9 => h9) (hI.fr 0 (Nat.le_of_ble_eq_true rfl) rfl (Nat.le_of_ble_eq_true rfl) 39 rfl) dX13_word_98 ?_
                            refine lv_aload_n hx hb dX13_word_101 rfl (lv_at hl 0 rfl) ?_
                            refine th_get (ci := 14) (C := RX13) (T := TX13) (N := 97) (v := .int y1) hx hb hts hinX13 hown hK hP hI 0 (Nat.le_of_ble_eq_true rfl) rfl rfl 74 (Nat.le_of_ble_eq_true rfl) (hts _ (vA_in _ _ (in_25 _ (List.mem_of_getElem? (i := 11) rfl)))) (fun _ h9 => h9) ((pw56.2 0 74 (fun q9 => absurd q9.1 (Nat.ne_of_beq_eq_false rfl))).trans ((pw3.2 0 74 (fun q9 => absurd q9.2 (Nat.ne_of_beq_eq_false rfl))).trans fy1)) dX13_word_102 ?_
                            refine lv_iload_n hx hb dX13_word_105 rfl (lv_at hl 2 rfl) ?_
                            have n57 : vp_in y1 200 := (iv_in (n := 200) i8 (by decide))
                            refine th_iast hx hb hK hP (WX_D hD) hS hI 39 (Nat.le_of_ble_eq_true rfl) rfl rfl n57 (okI rfl f12) dX13_word_106 (fun H locs E58 pw59 hI hP hS => ?_)
                            have hKp := hKp.pw pw59 rfl
                            refine lv_aload_n hx hb dX13_word_107 rfl (lv_at hl 0 rfl) ?_
                            refine th_get (ci := 14) (C := RX13) (T := TX13) (N := 97) (v := .ref (ad 40)) hx hb hts hinX13 hown hK hP hI 0 (Nat.le_of_ble_eq_true rfl) rfl rfl 58 (Nat.le_of_ble_eq_true rfl) (hts _ (vA_in _ _ (in_25 _ (List.mem_of_getElem? (i := 15) rfl)))) (fun _ h9 => h9) (hI.fr 0 (Nat.le_of_ble_eq_true rfl) rfl (Nat.le_of_ble_eq_true rfl) 40 rfl) dX13_word_108 ?_
                            refine lv_aload_n hx hb dX13_word_111 rfl (lv_at hl 0 rfl) ?_
                            refine th_get (ci := 14) (C := RX13) (T := TX13) (N := 97) (v := .int y1) hx hb hts hinX13 hown hK hP hI 0 (Nat.le_of_ble_eq_true rfl) rfl rfl 74 (Nat.le_of_ble_eq_true rfl) (hts _ (vA_in _ _ (in_25 _ (List.mem_of_getElem? (i := 11) rfl)))) (fun _ h9 => h9) ((pw59.2 0 74 (fun q9 => absurd q9.1 (Nat.ne_of_beq_eq_false rfl))).trans ((pw56.2 0 74 (fun q9 => absurd q9.1 (Nat.ne_of_beq_eq_false rfl))).trans ((pw3.2 0 74 (fun q9 => absurd q9.2 (Nat.ne_of_beq_eq_false rfl))).trans fy1))) dX13_word_112 ?_
                            refine lv_iload_n hx hb dX13_word_115 rfl (lv_at hl 3 rfl) ?_
                            have n60 : vp_in y1 200 := (iv_in (n := 200) i8 (by decide))
                            refine th_iast hx hb hK hP (WX_D hD) hS hI 40 (Nat.le_of_ble_eq_true rfl) rfl rfl n60 (okI rfl i22) dX13_word_116 (fun H locs E61 pw62 hI hP hS => ?_)
                            have hKp := hKp.pw pw62 rfl
                            refine lv_aload_n hx hb dX13_word_117 rfl (lv_at hl 0 rfl) ?_
                            refine th_get (ci := 14) (C := RX13) (T := TX13) (N := 97) (v := .ref (ad 41)) hx hb hts hinX13 hown hK hP hI 0 (Nat.le_of_ble_eq_true rfl) rfl rfl 59 (Nat.le_of_ble_eq_true rfl) (hts _ (vA_in _ _ (in_25 _ (List.mem_of_getElem? (i := 25) rfl)))) (fun _ h9 => h9) (hI.fr 0 (Nat.le_of_ble_eq_true rfl) rfl (Nat.le_of_ble_eq_true rfl) 41 rfl) dX13_word_118 ?_
                            refine lv_aload_n hx hb dX13_word_121 rfl (lv_at hl 0 rfl) ?_
                            refine th_get (ci := 14) (C := RX13) (T := TX13) (N := 97) (v := .int y1) hx hb hts hinX13 hown hK hP hI 0 (Nat.le_of_ble_eq_true rfl) rfl rfl 74 (Nat.le_of_ble_eq_true rfl) (hts _ (vA_in _ _ (in_25 _ (List.mem_of_getElem? (i := 11) rfl)))) (fun _ h9 => h9) ((pw62.2 0 74 (fun q9 => absurd q9.1 (Nat.ne_of_beq_eq_false rfl))).trans ((pw59.2 0 74 (fun q9 => absurd q9.1 (Nat.ne_of_beq_eq_false rfl))).trans ((pw56.2 0 74 (fun q9 => absurd q9.1 (Nat.ne_of_beq_eq_false rfl))).trans ((pw3.2 0 74 (fun q9 => absurd q9.2 (Nat.ne_of_beq_eq_false rfl))).trans fy1)))) dX13_word_122 ?_
                            refine lv_iload hx hb dX13_word_125 (lv_at hl 4 rfl) ?_
                            have n63 : vp_in y1 200 := (iv_in (n := 200) i8 (by decide))
                            refine th_iast hx hb hK hP (WX_D hD) hS hI 41 (Nat.le_of_ble_eq_true rfl) rfl rfl n63 (okI rfl i37) dX13_word_127 (fun H locs E64 pw65 hI hP hS => ?_)
                            have hKp := hKp.pw pw65 rfl
                            refine lv_aload_n hx hb dX13_word_128 rfl (lv_at hl 0 rfl) ?_
                            refine th_get (ci := 14) (C := RX13) (T := TX13) (N := 97) (v := .ref (ad 42)) hx hb hts hinX13 hown hK hP hI 0 (Nat.le_of_ble_eq_true rfl) rfl rfl 60 (Nat.le_of_ble_eq_true rfl) (hts _ (vA_in _ _ (in_25 _ (List.mem_of_getElem? (i := 28) rfl)))) (fun _ h9 => h9) (hI.fr 0 (Nat.le_of_ble_eq_true rfl) rfl (Nat.le_of_ble_eq_true rfl) 42 rfl) dX13_word_129 ?_
                            refine lv_aload_n hx hb dX13_word_132 rfl (lv_at hl 0 rfl) ?_
                            refine th_get (ci := 14) (C := RX13) (T := TX13) (N := 97) (v := .int y1) hx hb hts hinX13 hown hK hP hI 0 (Nat.le_of_ble_eq_true rfl) rfl rfl 74 (Nat.le_of_ble_eq_true rfl) (hts _ (vA_in _ _ (in_25 _ (List.mem_of_getElem? (i := 11) rfl)))) (fun _ h9 => h9) ((pw65.2 0 74 (fun q9 => absurd q9.1 (Nat.ne_of_beq_eq_false rfl))).trans ((pw62.2 0 74 (fun q9 => absurd q9.1 (Nat.ne_of_beq_eq_false rfl))).trans ((pw59.2 0 74 (fun q9 => absurd q9.1 (Nat.ne_of_beq_eq_false rfl))).trans ((pw56.2 0 74 (fun q9 => absurd q9.1 (Nat.ne_of_beq_eq_false rfl))).trans ((pw3.2 0 74 (fun q9 => absurd q9.2 (Nat.ne_of_beq_eq_false rfl))).trans fy1))))) dX13_word_133 ?_
                            refine lv_iload hx hb dX13_word_136 (lv_at hl 5 rfl) ?_
                            have n66 : vp_in y1 200 := (iv_in (n := 200) i8 (by decide))
                            refine th_iast hx hb hK hP (WX_D hD) hS hI 42 (Nat.le_of_ble_eq_true rfl) rfl rfl n66 (okI rfl i45) dX13_word_138 (fun H locs E67 pw68 hI hP hS => ?_)
                            have hKp := hKp.pw pw68 rfl
                            refine lv_aload_n hx hb dX13_word_139 rfl (lv_at hl 0 rfl) ?_
                            refine th_get (ci := 14) (C := RX13) (T := TX13) (N := 97) (v := .ref (ad 43)) hx hb hts hinX13 hown hK hP hI 0 (Nat.le_of_ble_eq_true rfl) rfl rfl 61 (Nat.le_of_ble_eq_true rfl) (hts _ (vA_in _ _ (in_25 _ (List.mem_of_getElem? (i := 26) rfl)))) (fun _ h9 => h9) (hI.fr 0 (Nat.le_of_ble_eq_true rfl) rfl (Nat.le_of_ble_eq_true rfl) 43 rfl) dX13_word_140 ?_
                            refine lv_aload_n hx hb dX13_word_143 rfl (lv_at hl 0 rfl) ?_
                            refine th_get (ci := 14) (C := RX13) (T := TX13) (N := 97) (v := .int y1) hx hb hts hinX13 hown hK hP hI 0 (Nat.le_of_ble_eq_true rfl) rfl rfl 74 (Nat.le_of_ble_eq_true rfl) (hts _ (vA_in _ _ (in_25 _ (List.mem_of_getElem? (i := 11) rfl)))) (fun _ h9 => h9) ((pw68.2 0 74 (fun q9 => absurd q9.1 (Nat.ne_of_beq_eq_false rfl))).trans ((pw65.2 0 74 (fun q9 => absurd q9.1 (Nat.ne_of_beq_eq_false rfl))).trans ((pw62.2 0 74 (fun q9 => absurd q9.1 (Nat.ne_of_beq_eq_false rfl))).trans ((pw59.2 0 74 (fun q9 => absurd q9.1 (Nat.ne_of_beq_eq_false rfl))).trans ((pw56.2 0 74 (fun q9 => absurd q9.1 (Nat.ne_of_beq_eq_false rfl))).trans ((pw3.2 0 74 (fun q9 => absurd q9.2 (Nat.ne_of_beq_eq_false rfl))).trans fy1)))))) dX13_word_144 ?_
                            refine lv_iload hx hb dX13_word_147 (lv_at hl 6 rfl) ?_
                            have n69 : vp_in y1 200 := (iv_in (n := 200) i8 (by decide))
                            refine th_iast hx hb hK hP (WX_D hD) hS hI 43 (Nat.le_of_ble_eq_true rfl) rfl rfl n69 (okI rfl i29) dX13_word_149 (fun H locs E70 pw71 hI hP hS => ?_)
                            have hKp := hKp.pw pw71 rfl
                            refine lv_aload_n hx hb dX13_word_150 rfl (lv_at hl 0 rfl) ?_
                            refine th_get (ci := 14) (C := RX13) (T := TX13) (N := 97) (v := .ref (ad 44)) hx hb hts hinX13 hown hK hP hI 0 (Nat.le_of_ble_eq_true rfl) rfl rfl 62 (Nat.le_of_ble_eq_true rfl) (hts _ (vA_in _ _ (in_25 _ (List.mem_of_getElem? (i := 16) rfl)))) (fun _ h9 => h9) (hI.fr 0 (Nat.le_of_ble_eq_true rfl) rfl (Nat.le_of_ble_eq_true rfl) 44 rfl) dX13_word_151 ?_
                            refine lv_aload_n hx hb dX13_word_154 rfl (lv_at hl 0 rfl) ?_
                            refine th_get (ci := 14) (C := RX13) (T := TX13) (N := 97) (v := .int y1) hx hb hts hinX13 hown hK hP hI 0 (Nat.le_of_ble_eq_true rfl) rfl rfl 74 (Nat.le_of_ble_eq_true rfl) (hts _ (vA_in _ _ (in_25 _ (List.mem_of_getElem? (i := 11) rfl)))) (fun _ h9 => h9) ((pw71.2 0 74 (fun q9 => absurd q9.1 (Nat.ne_of_beq_eq_false rfl))).trans ((pw68.2 0 74 (fun q9 => absurd q9.1 (Nat.ne_of_beq_eq_false rfl))).trans ((pw65.2 0 74 (fun q9 => absurd q9.1 (Nat.ne_of_beq_eq_false rfl))).trans ((pw62.2 0 74 (fun q9 => absurd q9.1 (Nat.ne_of_beq_eq_false rfl))).trans ((pw59.2 0 74 (fun q9 => absurd q9.1 (Nat.ne_of_beq_eq_false rfl))).trans ((pw56.2 0 74 (fun q9 => absurd q9.1 (Nat.ne_of_beq_eq_false rfl))).trans ((pw3.2 0 74 (fun q9 => absurd q9.2 (Nat.ne_of_beq_eq_false rfl))).trans fy1))))))) dX13_word_155 ?_
                            refine lv_iload hx hb dX13_word_158 (lv_at hl 7 rfl) ?_
                            have n72 : vp_in y1 200 := (iv_in (n := 200) i8 (by decide))
                            refine th_iast hx hb hK hP (WX_D hD) hS hI 44 (Nat.le_of_ble_eq_true rfl) rfl rfl n72 (okI rfl (iv_w i52 (by decide))) dX13_word_160 (fun H locs E73 pw74 hI hP hS => ?_)
                            have hKp := hKp.pw pw74 rfl
                            refine lv_aload_n hx hb dX13_word_161 rfl (lv_at hl 0 rfl) ?_
                            refine th_get (ci := 14) (C := RX13) (T := TX13) (N := 97) (v := .ref (ad 45)) hx hb hts hinX13 hown hK hP hI 0 (Nat.le_of_ble_eq_true rfl) rfl rfl 63 (Nat.le_of_ble_eq_true rfl) (hts _ (vA_in _ _ (in_25 _ (List.mem_of_getElem? (i := 14) rfl)))) (fun _ h9 => h9) (hI.fr 0 (Nat.le_of_ble_eq_true rfl) rfl (Nat.le_of_ble_eq_true rfl) 45 rfl) dX13_word_162 ?_
                            refine lv_aload_n hx hb dX13_word_165 rfl (lv_at hl 0 rfl) ?_
                            refine th_get (ci := 14) (C := RX13) (T := TX13) (N := 97) (v := .int y1) hx hb hts hinX13 hown hK hP hI 0 (Nat.le_of_ble_eq_true rfl) rfl rfl 74 (Nat.le_of_ble_eq_true rfl) (hts _ (vA_in _ _ (in_25 _ (List.mem_of_getElem? (i := 11) rfl)))) (fun _ h9 => h9) ((pw74.2 0 74 (fun q9 => absurd q9.1 (Nat.ne_of_beq_eq_false rfl))).trans ((pw71.2 0 74 (fun q9 => absurd q9.1 (Nat.ne_of_beq_eq_false rfl))).trans ((pw68.2 0 74 (fun q9 => absurd q9.1 (Nat.ne_of_beq_eq_false rfl))).trans ((pw65.2 0 74 (fun q9 => absurd q9.1 (Nat.ne_of_beq_eq_false rfl))).trans ((pw62.2 0 74 (fun q9 => absurd q9.1 (Nat.ne_of_beq_eq_false rfl))).trans ((pw59.2 0 74 (fun q9 => absurd q9.1 (Nat.ne_of_beq_eq_false rfl))).trans ((pw56.2 0 74 (fun q9 => absurd q9.1 (Nat.ne_of_beq_eq_false rfl))).trans ((pw3.2 0 74 (fun q9 => absurd q9.2 (Nat.ne_of_beq_eq_false rfl))).trans fy1)))))))) dX13_word_166 ?_
                            refine lv_aload_n hx hb dX13_word_169 rfl (lv_at hl 0 rfl) ?_
                            refine th_get (ci := 14) (C := RX13) (T := TX13) (N := 97) (v := .int (xi (E 0) 1)) hx hb hts hinX13 hown hK hP hI 0 (Nat.le_of_ble_eq_true rfl) rfl rfl 1 (Nat.le_of_ble_eq_true rfl) (hts _ (vA_in _ _ (in_24 _ (List.mem_of_getElem? (i := 27) rfl)))) (fun _ h9 => h9) (th_v0 hKp hI0 0 (Nat.le_of_ble_eq_true rfl) rfl (Nat.le_of_ble_eq_true rfl) rfl rfl) dX13_word_170 ?_
                            have n75 : vp_in y1 200 := (iv_in (n := 200) i8 (by decide))
                            refine th_iast hx hb hK hP (WX_D hD) hS hI 45 (Nat.le_of_ble_eq_true rfl) rfl rfl n75 (okI rfl i15) dX13_word_173 (fun H locs E76 pw77 hI hP hS => ?_)
                            have hKp := hKp.pw pw77 rfl
                            refine lv_aload_n hx hb dX13_word_174 rfl (lv_at hl 0 rfl) ?_
                            refine lv_dup hx hb dX13_word_175 rfl ?_
                            refine th_get (ci := 14) (C := RX13) (T := TX13) (N := 97) (v := .int y1) hx hb hts hinX13 hown hK hP hI 0 (Nat.le_of_ble_eq_true rfl) rfl rfl 74 (Nat.le_of_ble_eq_true rfl) (hts _ (vA_in _ _ (in_25 _ (List.mem_of_getElem? (i := 11) rfl)))) (fun _ h9 => h9) ((pw77.2 0 74 (fun q9 => absurd q9.1 (Nat.ne_of_beq_eq_false rfl))).trans ((pw74.2 0 74 (fun q9 => absurd q9.1 (Nat.ne_of_beq_eq_false rfl))).trans ((pw71.2 0 74 (fun q9 => absurd q9.1 (Nat.ne_of_beq_eq_false rfl))).trans ((pw68.2 0 74 (fun q9 => absurd q9.1 (Nat.ne_of_beq_eq_false rfl))).trans ((pw65.2 0 74 (fun q9 => absurd q9.1 (Nat.ne_of_beq_eq_false rfl))).trans ((pw62.2 0 74 (fun q9 => absurd q9.1 (Nat.ne_of_beq_eq_false rfl))).trans ((pw59.2 0 74 (fun q9 => absurd q9.1 (Nat.ne_of_beq_eq_false rfl))).trans ((pw56.2 0 74 (fun q9 => absurd q9.1 (Nat.ne_of_beq_eq_false rfl))).trans ((pw3.2 0 74 (fun q9 => absurd q9.2 (Nat.ne_of_beq_eq_false rfl))).trans fy1))))))))) dX13_word_176 ?_
                            refine lv_iconst (v := 1) hx hb dX13_word_179 (by decide) ?_
                            refine lv_iadd hx hb dX13_word_180 ?_
                            refine lv_topi (fun y78 ey78 => ?_)
                            obtain ⟨ty78, iy78⟩ := ti_add (e := 1) (f := 200) i8 ln_1 ey78 (by decide)
                            have ty78 : y78.toInt = y1.toInt + 1 := ty78
                            have iy78 : 1 ≤ y78.toInt ∧ y78.toInt ≤ 200 := iy78
                            refine th_put (ci := 14) (C := RX13) (T := TX13) (N := 97) (v := .int y78) (ty := .int) hx hb hts hinX13 tyX13 tyX13_ok nmX13 hown hK hP (WX_D hD) hS hI 0 (Nat.le_of_ble_eq_true rfl) rfl rfl 74 (Nat.le_of_ble_eq_true rfl) (hts _ (vA_in _ _ (in_25 _ (List.mem_of_getElem? (i := 11) rfl)))) (fun _ h9 => h9) rfl (by decide +kernel) rfl rfl (okI rfl (iv_w iy78 (by decide))) dX13_word_181 (fun H locs E79 pw80 hI hP hS => ?_)
                            have hKp := hKp.pw pw80 rfl
                            refine lv_aload_n hx hb dX13_word_184 rfl (lv_at hl 0 rfl) ?_
                            refine th_get (ci := 14) (C := RX13) (T := TX13) (N := 97) (v := .int y78) hx hb hts hinX13 hown hK hP hI 0 (Nat.le_of_ble_eq_true rfl) rfl rfl 74 (Nat.le_of_ble_eq_true rfl) (hts _ (vA_in _ _ (in_25 _ (List.mem_of_getElem? (i := 11) rfl)))) (fun _ h9 => h9) pw80.1 dX13_word_185 ?_
                            refine lv_iconst (v := 1) hx hb dX13_word_188 (by decide) ?_
                            refine lv_isub hx hb dX13_word_189 ?_
                            refine lv_topi (fun y81 ey81 => ?_)
                            obtain ⟨ty81, iy81⟩ := ti_sub (e := 0) (f := 199) iy78 ln_1 ey81 (by decide)
                            have ty81 : y81.toInt = y78.toInt - 1 := ty81
                            have iy81 : 0 ≤ y81.toInt ∧ y81.toInt ≤ 199 := iy81
                            rw [hQ]
                            exact W.iret (v := y81) hx hb hr (fun t ht hW => ⟨⟨y81, E79, rfl, ⟨hI, hKp, (by (try rw [(show xi (E79 0) 74 = y78 from vi_e pw80.1)]); (try rw [ey1]); all_goals omega)⟩, by show va_P (dC, dI) vwCl (WX 72 ad E79) t.heap; rw [ht]; exact hP⟩, hS.F ht⟩) hS.2.2 dX13_word_190
                          · --82 not
                            exact absurd c53 (by decide)
                        · -- isIn, case 1
                          obtain ⟨rfl, f82⟩ := hw
                          have t83 : ¬ ((1 : Int) ≤ a6.toInt ∧ a6.toInt ≤ 255) := f82
                          refine lv_if_ne (tgt := 87) hx hb dX13_word_82 (by decide) (fun c84 => ?_) (fun c84 => ?_)
                          · --82 taken
                            exact absurd c84 (by decide)
                          · --82 not
                            refine lv_iconst (v := -1) hx hb dX13_word_85 (by decide) ?_
                            rw [hQ]
                            exact W.iret (v := (-1)) hx hb hr (fun t ht hW => ⟨⟨(-1), E2, rfl, ⟨hI, hKp, (by have h8 := ln_m1; (try rw [(show xi (E2 0) 74 = y1 from vi_e ((pw3.2 0 74 (fun q9 => absurd q9.2 (Nat.ne_of_beq_eq_false rfl))).trans fy1))]); (try rw [ey1]); all_goals omega)⟩, by show va_P (dC, dI) vwCl (WX 72 ad E2) t.heap; rw [ht]; exact hP⟩, hS.F ht⟩) hS.2.2 dX13_word_86
                    · -- isIn, case 1
                      obtain ⟨rfl, f85⟩ := hw
                      have t86 : ¬ ((0 : Int) ≤ a4.toInt ∧ a4.toInt ≤ y39.toInt) := f85
                      refine lv_if_eq (tgt := 85) hx hb dX13_word_70 (by decide) (fun c87 => ?_) (fun c87 => ?_)
                      · --70 taken
                        refine lv_iconst (v := -1) hx hb dX13_word_85 (by decide) ?_
                        rw [hQ]
                        exact W.iret (v := (-1)) hx hb hr (fun t ht hW => ⟨⟨(-1), E2, rfl, ⟨hI, hKp, (by have h8 := ln_m1; (try rw [(show xi (E2 0) 74 = y1 from vi_e ((pw3.2 0 74 (fun q9 => absurd q9.2 (Nat.ne_of_beq_eq_false rfl))).trans fy1))]); (try rw [ey1]); all_goals omega)⟩, by show va_P (dC, dI) vwCl (WX 72 ad E2) t.heap; rw [ht]; exact hP⟩, hS.F ht⟩) hS.2.2 dX13_word_86
                      · --70 not
                        exact absurd c87 (by decide)
                · -- isIn, case 1
                  obtain ⟨rfl, f88⟩ := hw
                  have t89 : ¬ ((0 : Int) ≤ a3.toInt ∧ a3.toInt ≤ y31.toInt) := f88
                  refine lv_if_eq (tgt := 85) hx hb dX13_word_56 (by decide) (fun c90 => ?_) (fun c90 => ?_)
                  · --56 taken
                    refine lv_iconst (v := -1) hx hb dX13_word_85 (by decide) ?_
                    rw [hQ]
                    exact W.iret (v := (-1)) hx hb hr (fun t ht hW => ⟨⟨(-1), E2, rfl, ⟨hI, hKp, (by have h8 := ln_m1; (try rw [(show xi (E2 0) 74 = y1 from vi_e ((pw3.2 0 74 (fun q9 => absurd q9.2 (Nat.ne_of_beq_eq_false rfl))).trans fy1))]); (try rw [ey1]); all_goals omega)⟩, by show va_P (dC, dI) vwCl (WX 72 ad E2) t.heap; rw [ht]; exact hP⟩, hS.F ht⟩) hS.2.2 dX13_word_86
                  · --56 not
                    exact absurd c90 (by decide)
            · -- isIn, case 1
              obtain ⟨rfl, f91⟩ := hw
              have t92 : ¬ ((0 : Int) ≤ a5.toInt ∧ a5.toInt ≤ 3) := f91
              refine lv_if_eq (tgt := 85) hx hb dX13_word_42 (by decide) (fun c93 => ?_) (fun c93 => ?_)
              · --42 taken
                refine lv_iconst (v := -1) hx hb dX13_word_85 (by decide) ?_
                rw [hQ]
                exact W.iret (v := (-1)) hx hb hr (fun t ht hW => ⟨⟨(-1), E2, rfl, ⟨hI, hKp, (by have h8 := ln_m1; (try rw [(show xi (E2 0) 74 = y1 from vi_e ((pw3.2 0 74 (fun q9 => absurd q9.2 (Nat.ne_of_beq_eq_false rfl))).trans fy1))]); (try rw [ey1]); all_goals omega)⟩, by show va_P (dC, dI) vwCl (WX 72 ad E2) t.heap; rw [ht]; exact hP⟩, hS.F ht⟩) hS.2.2 dX13_word_86
              · --42 not
                exact absurd c93 (by decide)
        · -- isIn, case 1
          obtain ⟨rfl, f94⟩ := hw
          have t95 : ¬ ((0 : Int) ≤ a2.toInt ∧ a2.toInt ≤ 100000) := f94
          refine lv_if_eq (tgt := 85) hx hb dX13_word_32 (by decide) (fun c96 => ?_) (fun c96 => ?_)
          · --32 taken
            refine lv_iconst (v := -1) hx hb dX13_word_85 (by decide) ?_
            rw [hQ]
            exact W.iret (v := (-1)) hx hb hr (fun t ht hW => ⟨⟨(-1), E2, rfl, ⟨hI, hKp, (by have h8 := ln_m1; (try rw [(show xi (E2 0) 74 = y1 from vi_e ((pw3.2 0 74 (fun q9 => absurd q9.2 (Nat.ne_of_beq_eq_false rfl))).trans fy1))]); (try rw [ey1]); all_goals omega)⟩, by show va_P (dC, dI) vwCl (WX 72 ad E2) t.heap; rw [ht]; exact hP⟩, hS.F ht⟩) hS.2.2 dX13_word_86
          · --32 not
            exact absurd c96 (by decide)
    · -- isEntry, case 1
      obtain ⟨rfl, f97⟩ := hw
      have i98 : 0 ≤ (xi (E 0) 46).toInt ∧ (xi (E 0) 46).toInt ≤ 20 := (show 0 ≤ (xi (E 0) 46).toInt ∧ (xi (E 0) 46).toInt ≤ 20 from hI0.iv 0 (Nat.le_of_ble_eq_true rfl) rfl (Nat.le_of_ble_eq_true rfl) rfl)
      have i99 : 0 ≤ (xi (E 0) 8).toInt ∧ (xi (E 0) 8).toInt ≤ 16 := (show 0 ≤ (xi (E 0) 8).toInt ∧ (xi (E 0) 8).toInt ≤ 16 from hI0.iv 0 (Nat.le_of_ble_eq_true rfl) rfl (Nat.le_of_ble_eq_true rfl) rfl)
      have i100 : 0 ≤ (xi (E 0) 1).toInt ∧ (xi (E 0) 1).toInt ≤ 400 := (show 0 ≤ (xi (E 0) 1).toInt ∧ (xi (E 0) 1).toInt ≤ 400 from hI0.iv 0 (Nat.le_of_ble_eq_true rfl) rfl (Nat.le_of_ble_eq_true rfl) rfl)
      try rw [hKp.ei 0 46 rfl] at f97
      try rw [hKp.ei 0 8 rfl] at f97
      try rw [hKp.ei 0 1 rfl] at f97
      try rw [hKp.ef 21 (fun _ => rfl)] at f97
      refine lv_if_eq (tgt := 85) hx hb dX13_word_21 (by decide) (fun c101 => ?_) (fun c101 => ?_)
      · --21 taken
        refine lv_iconst (v := -1) hx hb dX13_word_85 (by decide) ?_
        rw [hQ]
        exact W.iret (v := (-1)) hx hb hr (fun t ht hW => ⟨⟨(-1), E2, rfl, ⟨hI, hKp, (by have h8 := ln_m1; (try rw [(show xi (E2 0) 74 = y1 from vi_e ((pw3.2 0 74 (fun q9 => absurd q9.2 (Nat.ne_of_beq_eq_false rfl))).trans fy1))]); (try rw [ey1]); all_goals omega)⟩, by show va_P (dC, dI) vwCl (WX 72 ad E2) t.heap; rw [ht]; exact hP⟩, hS.F ht⟩) hS.2.2 dX13_word_86
      · --21 not
        exact absurd c101 (by decide)
def v_protestX : List Cond := .code yX13_protest cX13_protest 5 (some .int) :: vA
abbrev rm_protestX : Room := { frames := 2, cells := 0, slots := 0, locals := 80 }
def w_protestX : Nat → Nat → Bool := wl [46, 47, 48, 49, 50] [(0, 0), (0, 75)]
set_option maxHeartbeats 4000000 in
set_option maxRecDepth 100000 in
theorem q_protestX (l : Launch) (dC : Nat → ClassId) (dI : Nat → Nat → Nat) (cT : Nat → ClassId) (ad : Nat → Nat) (E : Nat → va_E) (sz : Nat) (a0 : Int32) (a1 : Int32) (a2 : Int32) (a3 : Int32) (hI0 : IX cT shM spM 72 ad E)  : Met l yX13_protest v_protestX rm_protestX (va_Pc [.ref (ad 0), .int a0, .int a1, .int a2, .int a3] (HW dC dI (TYM cT) 72 ad E sz)) (va_Qi (S := Nat → va_E) (fun r u => IX cT shM spM 72 ad u ∧ Kp w_protestX E u ∧ (((((((0 ≤ a0.toInt ∧ a0.toInt < (xi (E 0) 46).toInt) ∧ (0 ≤ a1.toInt ∧ a1.toInt < (xi (E 0) 8).toInt) ∧ (xi (E 21) (16 * a0.toInt + a1.toInt).toNat).toInt ≤ (xi (E 0) 1).toInt) ∧ ((0 ≤ a0.toInt ∧ a0.toInt < (xi (E 0) 46).toInt) ∧ (0 ≤ a2.toInt ∧ a2.toInt < (xi (E 0) 8).toInt) ∧ (xi (E 21) (16 * a0.toInt + a2.toInt).toNat).toInt ≤ (xi (E 0) 1).toInt) ∧ ¬ a1.toInt = a2.toInt ∧ (0 ≤ a3.toInt ∧ a3.toInt ≤ 100000) ∧ (xi (E 0) 75).toInt < 30) → (r.toInt = (xi (E 0) 75).toInt ∧ (xi (u 0) 75).toInt = (xi (E 0) 75).toInt + 1)) ∧ (¬ (((0 ≤ a0.toInt ∧ a0.toInt < (xi (E 0) 46).toInt) ∧ (0 ≤ a1.toInt ∧ a1.toInt < (xi (E 0) 8).toInt) ∧ (xi (E 21) (16 * a0.toInt + a1.toInt).toNat).toInt ≤ (xi (E 0) 1).toInt) ∧ ((0 ≤ a0.toInt ∧ a0.toInt < (xi (E 0) 46).toInt) ∧ (0 ≤ a2.toInt ∧ a2.toInt < (xi (E 0) 8).toInt) ∧ (xi (E 21) (16 * a0.toInt + a2.toInt).toNat).toInt ≤ (xi (E 0) 1).toInt) ∧ ¬ a1.toInt = a2.toInt ∧ (0 ≤ a3.toInt ∧ a3.toInt ≤ 100000) ∧ (xi (E 0) 75).toInt < 30) → (r.toInt = -1 ∧ (xi (u 0) 75).toInt = (xi (E 0) 75).toInt)))))) (HB dC dI 72 ad) (va_A (WX 72 ad E) sz)) 0 0 (va_A (WX 72 ad E) sz) := by
  refine Met.ofW (cc := cX13_protest) (maxL := 5) (ret := (some .int)) (by decide) rfl ?_
  intro p e s m args below meth c s₁ B hml hv
  obtain ⟨hargs, hsz, hP, hK, hD0, hEV⟩ := hv
  subst hsz
  have hx := B.exec
  have hb := B.bytes
  have hr := B.returns
  have hts := atoms_spec (ws := v_protestX) B.pre
  have hown : s.vm.findClass RX13 = some m.cls := findClass_of_methodNamed B.named
  have hlocks := B.notSynchronized
  have hinX13 : ∀ w ∈ u_ws RX13 TX13 97, w ∈ v_protestX := fun w h => vA_in _ w (in_X13 w h)
  generalize hAe : va_A (WX 72 ad E) s.heap.size = A at hEV ⊢
  have hA : ∀ q : Nat, s.heap.size ≤ q → A q := fun q h => by rw [← hAe]; exact Or.inr h
  have hD : va_D A (WX 72 ad E) := by rw [← hAe]; exact hD0.self
  have hS : va_S A s.heap s.heap [] := va_S.rf
  have hI := hI0
  have hKp : Kp w_protestX E E := Kp.rf
  have hl := lv_entry ([.ref (ad 0), .int a0, .int a1, .int a2, .int a3]) (n := 5) (Nat.le_of_ble_eq_true rfl)
  obtain ⟨Q, hQ⟩ : ∃ Q, Q = MQ below (va_Qi (S := Nat → va_E) (fun r u => IX cT shM spM 72 ad u ∧ Kp w_protestX E u ∧ (((((((0 ≤ a0.toInt ∧ a0.toInt < (xi (E 0) 46).toInt) ∧ (0 ≤ a1.toInt ∧ a1.toInt < (xi (E 0) 8).toInt) ∧ (xi (E 21) (16 * a0.toInt + a1.toInt).toNat).toInt ≤ (xi (E 0) 1).toInt) ∧ ((0 ≤ a0.toInt ∧ a0.toInt < (xi (E 0) 46).toInt) ∧ (0 ≤ a2.toInt ∧ a2.toInt < (xi (E 0) 8).toInt) ∧ (xi (E 21) (16 * a0.toInt + a2.toInt).toNat).toInt ≤ (xi (E 0) 1).toInt) ∧ ¬ a1.toInt = a2.toInt ∧ (0 ≤ a3.toInt ∧ a3.toInt ≤ 100000) ∧ (xi (E 0) 75).toInt < 30) → (r.toInt = (xi (E 0) 75).toInt ∧ (xi (u 0) 75).toInt = (xi (E 0) 75).toInt + 1)) ∧ (¬ (((0 ≤ a0.toInt ∧ a0.toInt < (xi (E 0) 46).toInt) ∧ (0 ≤ a1.toInt ∧ a1.toInt < (xi (E 0) 8).toInt) ∧ (xi (E 21) (16 * a0.toInt + a1.toInt).toNat).toInt ≤ (xi (E 0) 1).toInt) ∧ ((0 ≤ a0.toInt ∧ a0.toInt < (xi (E 0) 46).toInt) ∧ (0 ≤ a2.toInt ∧ a2.toInt < (xi (E 0) 8).toInt) ∧ (xi (E 21) (16 * a0.toInt + a2.toInt).toNat).toInt ≤ (xi (E 0) 1).toInt) ∧ ¬ a1.toInt = a2.toInt ∧ (0 ≤ a3.toInt ∧ a3.toInt ≤ 100000) ∧ (xi (E 0) 75).toInt < 30) → (r.toInt = -1 ∧ (xi (u 0) 75).toInt = (xi (E 0) 75).toInt)))))) (HB dC dI 72 ad) (A)) args s 0 0 (A) := ⟨_, rfl⟩
  rw [← hQ, show entryFrame m args 5 = _ from (congrArg (fun z => entryFrame m z 5) hargs).trans (lg_entry_eq _ _ _)]
  generalize (lg_sl ([.ref (ad 0), .int a0, .int a1, .int a2, .int a3]) ++ List.replicate (5 - (lg_sl ([.ref (ad 0), .int a0, .int a1, .int a2, .int a3])).length) Slot.unset).toArray = ls at hl ⊢
  have hl : lv_has ls 5 [(0, .ref (ad 0)), (1, .int a0), (2, .int a1), (3, .int a2), (4, .int a3)] := hl
  obtain ⟨y1, ey1⟩ : ∃ y, xi (E 0) 75 = y := ⟨_, rfl⟩
  have fy1 : xv (E 0) 75 = .int y1 := (hI.fi 0 (Nat.le_of_ble_eq_true rfl) rfl (Nat.le_of_ble_eq_true rfl) rfl).trans (congrArg Value.int ey1)
  have iy1 : 0 ≤ y1.toInt ∧ y1.toInt ≤ 30 := by rw [← ey1]; exact hI.iv 0 (Nat.le_of_ble_eq_true rfl) rfl (Nat.le_of_ble_eq_true rfl) rfl
  refine lv_aload_n hx hb dX13_protest_0 rfl (lv_at hl 0 rfl) ?_
  refine lv_iconst (v := 0) hx hb dX13_protest_1 (by decide) ?_
  refine th_put (ci := 14) (C := RX13) (T := TX13) (N := 97) (v := .int 0) (ty := .int) hx hb hts hinX13 tyX13 tyX13_ok nmX13 hown hK hP (WX_D hD) hS hI 0 (Nat.le_of_ble_eq_true rfl) rfl rfl 0 (Nat.le_of_ble_eq_true rfl) (hts _ (vA_in _ _ (in_24 _ (List.mem_of_getElem? (i := 10) rfl)))) (fun _ h9 => h9) rfl (by decide +kernel) rfl rfl (okI rfl (iv_w ln_0 (by decide))) dX13_protest_2 (fun H locs E2 pw3 hI hP hS => ?_)
  have hKp := hKp.pw pw3 rfl
  refine lv_aload_n hx hb dX13_protest_5 rfl (lv_at hl 0 rfl) ?_
  refine th_get (ci := 14) (C := RX13) (T := TX13) (N := 97) (v := .int y1) hx hb hts hinX13 hown hK hP hI 0 (Nat.le_of_ble_eq_true rfl) rfl rfl 75 (Nat.le_of_ble_eq_true rfl) (hts _ (vA_in _ _ (in_25 _ (List.mem_of_getElem? (i := 1) rfl)))) (fun _ h9 => h9) ((pw3.2 0 75 (fun q9 => absurd q9.2 (Nat.ne_of_beq_eq_false rfl))).trans fy1) dX13_protest_6 ?_
  refine lv_bipush (v := 30) hx hb dX13_protest_9 (by decide) ?_
  refine lv_icmp_eq (tgt := 49) hx hb dX13_protest_11 (by decide) (fun c4 => ?_) (fun c4 => ?_)
  · --11 taken
    have t5 : y1.toInt = 30 := ti_eq c4
    have i6 : 30 ≤ y1.toInt ∧ y1.toInt ≤ 30 := iv_eqi t5 iy1 (il_ 30) (by decide)
    refine lv_iconst (v := -1) hx hb dX13_protest_49 (by decide) ?_
    rw [hQ]
    exact W.iret (v := (-1)) hx hb hr (fun t ht hW => ⟨⟨(-1), E2, rfl, ⟨hI, hKp, (by have h8 := ln_m1; (try rw [(show xi (E2 0) 75 = y1 from vi_e ((pw3.2 0 75 (fun q9 => absurd q9.2 (Nat.ne_of_beq_eq_false rfl))).trans fy1))]); (try rw [ey1]); all_goals omega)⟩, by show va_P (dC, dI) vwCl (WX 72 ad E2) t.heap; rw [ht]; exact hP⟩, hS.F ht⟩) hS.2.2 dX13_protest_50
  · --11 not
    have t7 : ¬ y1.toInt = 30 := ti_ne c4
    have i8 : 0 ≤ y1.toInt ∧ y1.toInt ≤ 29 := iv_ne_r t7 iy1 (il_ 30)
    refine lv_aload_n hx hb dX13_protest_14 rfl (lv_at hl 0 rfl) ?_
    refine lv_iload_n hx hb dX13_protest_15 rfl (lv_at hl 1 rfl) ?_
    refine lv_iload_n hx hb dX13_protest_16 rfl (lv_at hl 2 rfl) ?_
    refine th_ri (va_runV (As := [.int a0, .int a1]) (rest := []) ⟨hx, hb, hml, hown, hts⟩ (q_isEntry l dC dI cT ad E2 H.size a0 a1 hI) (cwV 2 hts (gi_V (in_33 _ (List.mem_of_getElem? (i := 8) rfl)) (in_33 _ (List.mem_of_getElem? (i := 9) rfl)) (in_33 _ (List.mem_of_getElem? (i := 10) rfl)) (in_24 _ (List.mem_of_getElem? (i := 15) rfl)) (in_32 _ (List.mem_of_getElem? (i := 24) rfl))) rfl rfl rfl (by decide +kernel) ⟨Nat.le_of_ble_eq_true rfl, Nat.le_of_ble_eq_true rfl⟩) ⟨HW_bl, va_recv hK hP (ci := 14) (q0 := 0) rfl (hI.ob 0 (Nat.le_of_ble_eq_true rfl) rfl), (HW_wi hP hK (WX_D hD) hS hA hEV)⟩ rfl rfl hl.1 rfl (lv_room (Nat.le_of_ble_eq_true rfl)) dX13_protest_17 ⟨Nat.le_of_ble_eq_true rfl, Nat.le_of_ble_eq_true rfl⟩) hS hP (fun r9 H locs hw hP hS => ?_)
    rcases hw with hw | hw
    · -- isEntry, case 0
      obtain ⟨rfl, f10, f11, f12⟩ := hw
      have i13 : 0 ≤ (xi (E 0) 46).toInt ∧ (xi (E 0) 46).toInt ≤ 20 := (show 0 ≤ (xi (E 0) 46).toInt ∧ (xi (E 0) 46).toInt ≤ 20 from hI0.iv 0 (Nat.le_of_ble_eq_true rfl) rfl (Nat.le_of_ble_eq_true rfl) rfl)
      have i14 : 0 ≤ (xi (E 0) 8).toInt ∧ (xi (E 0) 8).toInt ≤ 16 := (show 0 ≤ (xi (E 0) 8).toInt ∧ (xi (E 0) 8).toInt ≤ 16 from hI0.iv 0 (Nat.le_of_ble_eq_true rfl) rfl (Nat.le_of_ble_eq_true rfl) rfl)
      have i15 : 0 ≤ (xi (E 0) 1).toInt ∧ (xi (E 0) 1).toInt ≤ 400 := (show 0 ≤ (xi (E 0) 1).toInt ∧ (xi (E 0) 1).toInt ≤ 400 from hI0.iv 0 (Nat.le_of_ble_eq_true rfl) rfl (Nat.le_of_ble_eq_true rfl) rfl)
      try rw [hKp.ei 0 46 rfl] at f10
      try rw [hKp.ei 0 8 rfl] at f10
      try rw [hKp.ei 0 1 rfl] at f10
      try rw [hKp.ef 21 (fun _ => rfl)] at f10
      refine lv_if_eq (tgt := 49) hx hb dX13_protest_20 (by decide) (fun c16 => ?_) (fun c16 => ?_)
      · --20 taken
        exact absurd c16 (by decide)
      · --20 not
        refine lv_aload_n hx hb dX13_protest_23 rfl (lv_at hl 0 rfl) ?_
        refine lv_iload_n hx hb dX13_protest_24 rfl (lv_at hl 1 rfl) ?_
        refine lv_iload_n hx hb dX13_protest_25 rfl (lv_at hl 3 rfl) ?_
        refine th_ri (va_runV (As := [.int a0, .int a2]) (rest := []) ⟨hx, hb, hml, hown, hts⟩ (q_isEntry l dC dI cT ad E2 H.size a0 a2 hI) (cwV 2 hts (gi_V (in_33 _ (List.mem_of_getElem? (i := 8) rfl)) (in_33 _ (List.mem_of_getElem? (i := 9) rfl)) (in_33 _ (List.mem_of_getElem? (i := 10) rfl)) (in_24 _ (List.mem_of_getElem? (i := 15) rfl)) (in_32 _ (List.mem_of_getElem? (i := 24) rfl))) rfl rfl rfl (by decide +kernel) ⟨Nat.le_of_ble_eq_true rfl, Nat.le_of_ble_eq_true rfl⟩) ⟨HW_bl, va_recv hK hP (ci := 14) (q0 := 0) rfl (hI.ob 0 (Nat.le_of_ble_eq_true rfl) rfl), (HW_wi hP hK (WX_D hD) hS hA hEV)⟩ rfl rfl hl.1 rfl (lv_room (Nat.le_of_ble_eq_true rfl)) dX13_protest_26 ⟨Nat.le_of_ble_eq_true rfl, Nat.le_of_ble_eq_true rfl⟩) hS hP (fun r17 H locs hw hP hS => ?_)
        rcases hw with hw | hw
        · -- isEntry, case 0
          obtain ⟨rfl, f18, f19, f20⟩ := hw
          try rw [hKp.ei 0 46 rfl] at f18
          try rw [hKp.ei 0 8 rfl] at f18
          try rw [hKp.ei 0 1 rfl] at f18
          try rw [hKp.ef 21 (fun _ => rfl)] at f18
          refine lv_if_eq (tgt := 49) hx hb dX13_protest_29 (by decide) (fun c21 => ?_) (fun c21 => ?_)
          · --29 taken
            exact absurd c21 (by decide)
          · --29 not
            refine lv_iload_n hx hb dX13_protest_32 rfl (lv_at hl 2 rfl) ?_
            refine lv_iload_n hx hb dX13_protest_33 rfl (lv_at hl 3 rfl) ?_
            refine lv_icmp_eq (tgt := 49) hx hb dX13_protest_34 (by decide) (fun c22 => ?_) (fun c22 => ?_)
            · --34 taken
              have t23 : a1.toInt = a2.toInt := ti_eq c22
              refine lv_iconst (v := -1) hx hb dX13_protest_49 (by decide) ?_
              rw [hQ]
              exact W.iret (v := (-1)) hx hb hr (fun t ht hW => ⟨⟨(-1), E2, rfl, ⟨hI, hKp, (by have h8 := ln_m1; (try rw [(show xi (E2 0) 75 = y1 from vi_e ((pw3.2 0 75 (fun q9 => absurd q9.2 (Nat.ne_of_beq_eq_false rfl))).trans fy1))]); (try rw [ey1]); all_goals omega)⟩, by show va_P (dC, dI) vwCl (WX 72 ad E2) t.heap; rw [ht]; exact hP⟩, hS.F ht⟩) hS.2.2 dX13_protest_50
            · --34 not
              have t24 : ¬ a1.toInt = a2.toInt := ti_ne c22
              refine lv_iload hx hb dX13_protest_37 (lv_at hl 4 rfl) ?_
              refine lv_iconst (v := 0) hx hb dX13_protest_39 (by decide) ?_
              refine lv_ldcw hx hb hown (hts _ (vA_in _ _ (in_33 _ (List.mem_of_getElem? (i := 7) rfl)))) dX13_protest_40 ?_
              refine th_pi (va_runS (As := [.int a3, .int 0, .int 100000]) (rest := []) ⟨hx, hb, hml, hown, hts⟩ (q_isIn l a3 (0 : Int32) (100000 : Int32)) (va_cwS 3 hts (gi_S (in_24 _ (List.mem_of_getElem? (i := 28) rfl)) (in_24 _ (List.mem_of_getElem? (i := 29) rfl)) (in_24 _ (List.mem_of_getElem? (i := 15) rfl)) (in_24 _ (List.mem_of_getElem? (i := 30) rfl))) rfl rfl rfl (by decide +kernel) ⟨Nat.le_of_ble_eq_true rfl, Nat.le_of_ble_eq_true rfl⟩) ⟨fun _ _ _ _ q => q, fun _ _ _ => ⟨rfl, trivial⟩⟩ rfl rfl hl.1 rfl (lv_room (Nat.le_of_ble_eq_true rfl)) dX13_protest_43 ⟨Nat.le_of_ble_eq_true rfl, Nat.le_of_ble_eq_true rfl⟩) hS (fun r25 H1 locs1 hw hk1 hS => ?_)
              have hP := ub_keep hP hk1
              generalize H1 = H at hP hS ⊢
              generalize locs1 = locs at hS ⊢
              rcases hw with hw | hw
              · -- isIn, case 0
                obtain ⟨rfl, f26⟩ := hw
                have t27 : (0 : Int) ≤ a3.toInt := f26.1
                have t28 : a3.toInt ≤ 100000 := f26.2
                have i29 : 0 ≤ a3.toInt ∧ a3.toInt ≤ 2147483647 := iv_le_r t27 (il_ 0) (iv_all _) (by decide)
                have i30 : 0 ≤ a3.toInt ∧ a3.toInt ≤ 100000 := iv_le_l t28 i29 (il_ 100000) (by decide)
                refine lv_if_ne (tgt := 51) hx hb dX13_protest_46 (by decide) (fun c31 => ?_) (fun c31 => ?_)
                · --46 taken
                  refine lv_aload_n hx hb dX13_protest_51 rfl (lv_at hl 0 rfl) ?_
                  refine th_get (ci := 14) (C := RX13) (T := TX13) (N := 97) (v := .ref (ad 46)) hx hb hts hinX13 hown hK hP hI 0 (Nat.le_of_ble_eq_true rfl) rfl rfl 64 (Nat.le_of_ble_eq_true rfl) (hts _ (vA_in _ _ (in_25 _ (List.mem_of_getElem? (i := 3) rfl)))) (fun _ h9 => h9) (hI.fr 0 (Nat.le_of_ble_eq_true rfl) rfl (Nat.le_of_ble_eq_true rfl) 46 rfl) dX13_protest_52 ?_
                  refine lv_aload_n hx hb dX13_protest_55 rfl (lv_at hl 0 rfl) ?_
                  refine th_get (ci := 14) (C := RX13) (T := TX13) (N := 97) (v := .int y1) hx hb hts hinX13 hown hK hP hI 0 (Nat.le_of_ble_eq_true rfl) rfl rfl 75 (Nat.le_of_ble_eq_true rfl) (hts _ (vA_in _ _ (in_25 _ (List.mem_of_getElem? (i := 1) rfl)))) (fun _ h9 => h9) ((pw3.2 0 75 (fun q9 => absurd q9.2 (Nat.ne_of_beq_eq_false rfl))).trans fy1) dX13_protest_56 ?_
                  refine lv_iload_n hx hb dX13_protest_59 rfl (lv_at hl 1 rfl) ?_
                  have n32 : vp_in y1 30 := (iv_in (n := 30) i8 (by decide))
                  refine th_iast hx hb hK hP (WX_D hD) hS hI 46 (Nat.le_of_ble_eq_true rfl) rfl rfl n32 (okI rfl f11) dX13_protest_60 (fun H locs E33 pw34 hI hP hS => ?_)
                  have hKp := hKp.pw pw34 rfl
                  refine lv_aload_n hx hb dX13_protest_61 rfl (lv_at hl 0 rfl) ?_
                  refine th_get (ci := 14) (C := RX13) (T := TX13) (N := 97) (v := .ref (ad 47)) hx hb hts hinX13 hown hK hP hI 0 (Nat.le_of_ble_eq_true rfl) rfl rfl 65 (Nat.le_of_ble_eq_true rfl) (hts _ (vA_in _ _ (in_25 _ (List.mem_of_getElem? (i := 4) rfl)))) (fun _ h9 => h9) (hI.fr 0 (Nat.le_of_ble_eq_true rfl) rfl (Nat.le_of_ble_eq_true rfl) 47 rfl) dX13_protest_62 ?_
                  refine lv_aload_n hx hb dX13_protest_65 rfl (lv_at hl 0 rfl) ?_
                  refine th_get (ci := 14) (C := RX13) (T := TX13) (N := 97) (v := .int y1) hx hb hts hinX13 hown hK hP hI 0 (Nat.le_of_ble_eq_true rfl) rfl rfl 75 (Nat.le_of_ble_eq_true rfl) (hts _ (vA_in _ _ (in_25 _ (List.mem_of_getElem? (i := 1) rfl)))) (fun _ h9 => h9) ((pw34.2 0 75 (fun q9 => absurd q9.1 (Nat.ne_of_beq_eq_false rfl))).trans ((pw3.2 0 75 (fun q9 => absurd q9.2 (Nat.ne_of_beq_eq_false rfl))).trans fy1)) dX13_protest_66 ?_
                  refine lv_iload_n hx hb dX13_protest_69 rfl (lv_at hl 2 rfl) ?_
                  have n35 : vp_in y1 30 := (iv_in (n := 30) i8 (by decide))
                  refine th_iast hx hb hK hP (WX_D hD) hS hI 47 (Nat.le_of_ble_eq_true rfl) rfl rfl n35 (okI rfl f12) dX13_protest_70 (fun H locs E36 pw37 hI hP hS => ?_)
                  have hKp := hKp.pw pw37 rfl
                  refine lv_aload_n hx hb dX13_protest_71 rfl (lv_at hl 0 rfl) ?_
                  refine th_get (ci := 14) (C := RX13) (T := TX13) (N := 97) (v := .ref (ad 48)) hx hb hts hinX13 hown hK hP hI 0 (Nat.le_of_ble_eq_true rfl) rfl rfl 66 (Nat.le_of_ble_eq_true rfl) (hts _ (vA_in _ _ (in_25 _ (List.mem_of_getElem? (i := 6) rfl)))) (fun _ h9 => h9) (hI.fr 0 (Nat.le_of_ble_eq_true rfl) rfl (Nat.le_of_ble_eq_true rfl) 48 rfl) dX13_protest_72 ?_
                  refine lv_aload_n hx hb dX13_protest_75 rfl (lv_at hl 0 rfl) ?_
                  refine th_get (ci := 14) (C := RX13) (T := TX13) (N := 97) (v := .int y1) hx hb hts hinX13 hown hK hP hI 0 (Nat.le_of_ble_eq_true rfl) rfl rfl 75 (Nat.le_of_ble_eq_true rfl) (hts _ (vA_in _ _ (in_25 _ (List.mem_of_getElem? (i := 1) rfl)))) (fun _ h9 => h9) ((pw37.2 0 75 (fun q9 => absurd q9.1 (Nat.ne_of_beq_eq_false rfl))).trans ((pw34.2 0 75 (fun q9 => absurd q9.1 (Nat.ne_of_beq_eq_false rfl))).trans ((pw3.2 0 75 (fun q9 => absurd q9.2 (Nat.ne_of_beq_eq_false rfl))).trans fy1))) dX13_protest_76 ?_
                  refine lv_iload_n hx hb dX13_protest_79 rfl (lv_at hl 3 rfl) ?_
                  have n38 : vp_in y1 30 := (iv_in (n := 30) i8 (by decide))
                  refine th_iast hx hb hK hP (WX_D hD) hS hI 48 (Nat.le_of_ble_eq_true rfl) rfl rfl n38 (okI rfl f20) dX13_protest_80 (fun H locs E39 pw40 hI hP hS => ?_)
                  have hKp := hKp.pw pw40 rfl
                  refine lv_aload_n hx hb dX13_protest_81 rfl (lv_at hl 0 rfl) ?_
                  refine th_get (ci := 14) (C := RX13) (T := TX13) (N := 97) (v := .ref (ad 49)) hx hb hts hinX13 hown hK hP hI 0 (Nat.le_of_ble_eq_true rfl) rfl rfl 67 (Nat.le_of_ble_eq_true rfl) (hts _ (vA_in _ _ (in_25 _ (List.mem_of_getElem? (i := 5) rfl)))) (fun _ h9 => h9) (hI.fr 0 (Nat.le_of_ble_eq_true rfl) rfl (Nat.le_of_ble_eq_true rfl) 49 rfl) dX13_protest_82 ?_
                  refine lv_aload_n hx hb dX13_protest_85 rfl (lv_at hl 0 rfl) ?_
                  refine th_get (ci := 14) (C := RX13) (T := TX13) (N := 97) (v := .int y1) hx hb hts hinX13 hown hK hP hI 0 (Nat.le_of_ble_eq_true rfl) rfl rfl 75 (Nat.le_of_ble_eq_true rfl) (hts _ (vA_in _ _ (in_25 _ (List.mem_of_getElem? (i := 1) rfl)))) (fun _ h9 => h9) ((pw40.2 0 75 (fun q9 => absurd q9.1 (Nat.ne_of_beq_eq_false rfl))).trans ((pw37.2 0 75 (fun q9 => absurd q9.1 (Nat.ne_of_beq_eq_false rfl))).trans ((pw34.2 0 75 (fun q9 => absurd q9.1 (Nat.ne_of_beq_eq_false rfl))).trans ((pw3.2 0 75 (fun q9 => absurd q9.2 (Nat.ne_of_beq_eq_false rfl))).trans fy1)))) dX13_protest_86 ?_
                  refine lv_iload hx hb dX13_protest_89 (lv_at hl 4 rfl) ?_
                  have n41 : vp_in y1 30 := (iv_in (n := 30) i8 (by decide))
                  refine th_iast hx hb hK hP (WX_D hD) hS hI 49 (Nat.le_of_ble_eq_true rfl) rfl rfl n41 (okI rfl i30) dX13_protest_91 (fun H locs E42 pw43 hI hP hS => ?_)
                  have hKp := hKp.pw pw43 rfl
                  refine lv_aload_n hx hb dX13_protest_92 rfl (lv_at hl 0 rfl) ?_
                  refine th_get (ci := 14) (C := RX13) (T := TX13) (N := 97) (v := .ref (ad 50)) hx hb hts hinX13 hown hK hP hI 0 (Nat.le_of_ble_eq_true rfl) rfl rfl 68 (Nat.le_of_ble_eq_true rfl) (hts _ (vA_in _ _ (in_25 _ (List.mem_of_getElem? (i := 2) rfl)))) (fun _ h9 => h9) (hI.fr 0 (Nat.le_of_ble_eq_true rfl) rfl (Nat.le_of_ble_eq_true rfl) 50 rfl) dX13_protest_93 ?_
                  refine lv_aload_n hx hb dX13_protest_96 rfl (lv_at hl 0 rfl) ?_
                  refine th_get (ci := 14) (C := RX13) (T := TX13) (N := 97) (v := .int y1) hx hb hts hinX13 hown hK hP hI 0 (Nat.le_of_ble_eq_true rfl) rfl rfl 75 (Nat.le_of_ble_eq_true rfl) (hts _ (vA_in _ _ (in_25 _ (List.mem_of_getElem? (i := 1) rfl)))) (fun _ h9 => h9) ((pw43.2 0 75 (fun q9 => absurd q9.1 (Nat.ne_of_beq_eq_false rfl))).trans ((pw40.2 0 75 (fun q9 => absurd q9.1 (Nat.ne_of_beq_eq_false rfl))).trans ((pw37.2 0 75 (fun q9 => absurd q9.1 (Nat.ne_of_beq_eq_false rfl))).trans ((pw34.2 0 75 (fun q9 => absurd q9.1 (Nat.ne_of_beq_eq_false rfl))).trans ((pw3.2 0 75 (fun q9 => absurd q9.2 (Nat.ne_of_beq_eq_false rfl))).trans fy1))))) dX13_protest_97 ?_
                  refine lv_aload_n hx hb dX13_protest_100 rfl (lv_at hl 0 rfl) ?_
                  refine th_get (ci := 14) (C := RX13) (T := TX13) (N := 97) (v := .int (xi (E 0) 1)) hx hb hts hinX13 hown hK hP hI 0 (Nat.le_of_ble_eq_true rfl) rfl rfl 1 (Nat.le_of_ble_eq_true rfl) (hts _ (vA_in _ _ (in_24 _ (List.mem_of_getElem? (i := 27) rfl)))) (fun _ h9 => h9) (th_v0 hKp hI0 0 (Nat.le_of_ble_eq_true rfl) rfl (Nat.le_of_ble_eq_true rfl) rfl rfl) dX13_protest_101 ?_
                  have n44 : vp_in y1 30 := (iv_in (n := 30) i8 (by decide))
                  refine th_iast hx hb hK hP (WX_D hD) hS hI 50 (Nat.le_of_ble_eq_true rfl) rfl rfl n44 (okI rfl i15) dX13_protest_104 (fun H locs E45 pw46 hI hP hS => ?_)
                  have hKp := hKp.pw pw46 rfl
                  refine lv_aload_n hx hb dX13_protest_105 rfl (lv_at hl 0 rfl) ?_
                  refine lv_dup hx hb dX13_protest_106 rfl ?_
                  refine th_get (ci := 14) (C := RX13) (T := TX13) (N := 97) (v := .int y1) hx hb hts hinX13 hown hK hP hI 0 (Nat.le_of_ble_eq_true rfl) rfl rfl 75 (Nat.le_of_ble_eq_true rfl) (hts _ (vA_in _ _ (in_25 _ (List.mem_of_getElem? (i := 1) rfl)))) (fun _ h9 => h9) ((pw46.2 0 75 (fun q9 => absurd q9.1 (Nat.ne_of_beq_eq_false rfl))).trans ((pw43.2 0 75 (fun q9 => absurd q9.1 (Nat.ne_of_beq_eq_false rfl))).trans ((pw40.2 0 75 (fun q9 => absurd q9.1 (Nat.ne_of_beq_eq_false rfl))).trans ((pw37.2 0 75 (fun q9 => absurd q9.1 (Nat.ne_of_beq_eq_false rfl))).trans ((pw34.2 0 75 (fun q9 => absurd q9.1 (Nat.ne_of_beq_eq_false rfl))).trans ((pw3.2 0 75 (fun q9 => absurd q9.2 (Nat.ne_of_beq_eq_false rfl))).trans fy1)))))) dX13_protest_107 ?_
                  refine lv_iconst (v := 1) hx hb dX13_protest_110 (by decide) ?_
                  refine lv_iadd hx hb dX13_protest_111 ?_
                  refine lv_topi (fun y47 ey47 => ?_)
                  obtain ⟨ty47, iy47⟩ := ti_add (e := 1) (f := 30) i8 ln_1 ey47 (by decide)
                  have ty47 : y47.toInt = y1.toInt + 1 := ty47
                  have iy47 : 1 ≤ y47.toInt ∧ y47.toInt ≤ 30 := iy47
                  refine th_put (ci := 14) (C := RX13) (T := TX13) (N := 97) (v := .int y47) (ty := .int) hx hb hts hinX13 tyX13 tyX13_ok nmX13 hown hK hP (WX_D hD) hS hI 0 (Nat.le_of_ble_eq_true rfl) rfl rfl 75 (Nat.le_of_ble_eq_true rfl) (hts _ (vA_in _ _ (in_25 _ (List.mem_of_getElem? (i := 1) rfl)))) (fun _ h9 => h9) rfl (by decide +kernel) rfl rfl (okI rfl (iv_w iy47 (by decide))) dX13_protest_112 (fun H locs E48 pw49 hI hP hS => ?_)
                  have hKp := hKp.pw pw49 rfl
                  refine lv_aload_n hx hb dX13_protest_115 rfl (lv_at hl 0 rfl) ?_
                  refine th_get (ci := 14) (C := RX13) (T := TX13) (N := 97) (v := .int y47) hx hb hts hinX13 hown hK hP hI 0 (Nat.le_of_ble_eq_true rfl) rfl rfl 75 (Nat.le_of_ble_eq_true rfl) (hts _ (vA_in _ _ (in_25 _ (List.mem_of_getElem? (i := 1) rfl)))) (fun _ h9 => h9) pw49.1 dX13_protest_116 ?_
                  refine lv_iconst (v := 1) hx hb dX13_protest_119 (by decide) ?_
                  refine lv_isub hx hb dX13_protest_120 ?_
                  refine lv_topi (fun y50 ey50 => ?_)
                  obtain ⟨ty50, iy50⟩ := ti_sub (e := 0) (f := 29) iy47 ln_1 ey50 (by decide)
                  have ty50 : y50.toInt = y47.toInt - 1 := ty50
                  have iy50 : 0 ≤ y50.toInt ∧ y50.toInt ≤ 29 := iy50
                  rw [hQ]
                  exact W.iret (v := y50) hx hb hr (fun t ht hW => ⟨⟨y50, E48, rfl, ⟨hI, hKp, (by (try rw [(show xi (E48 0) 75 = y47 from vi_e pw49.1)]); (try rw [ey1]); all_goals omega)⟩, by show va_P (dC, dI) vwCl (WX 72 ad E48) t.heap; rw [ht]; exact hP⟩, hS.F ht⟩) hS.2.2 dX13_protest_121
                · --46 not
                  exact absurd c31 (by decide)
              · -- isIn, case 1
                obtain ⟨rfl, f51⟩ := hw
                have t52 : ¬ ((0 : Int) ≤ a3.toInt ∧ a3.toInt ≤ 100000) := f51
                refine lv_if_ne (tgt := 51) hx hb dX13_protest_46 (by decide) (fun c53 => ?_) (fun c53 => ?_)
                · --46 taken
                  exact absurd c53 (by decide)
                · --46 not
                  refine lv_iconst (v := -1) hx hb dX13_protest_49 (by decide) ?_
                  rw [hQ]
                  exact W.iret (v := (-1)) hx hb hr (fun t ht hW => ⟨⟨(-1), E2, rfl, ⟨hI, hKp, (by have h8 := ln_m1; (try rw [(show xi (E2 0) 75 = y1 from vi_e ((pw3.2 0 75 (fun q9 => absurd q9.2 (Nat.ne_of_beq_eq_false rfl))).trans fy1))]); (try rw [ey1]); all_goals omega)⟩, by show va_P (dC, dI) vwCl (WX 72 ad E2) t.heap; rw [ht]; exact hP⟩, hS.F ht⟩) hS.2.2 dX13_protest_50
        · -- isEntry, case 1
          obtain ⟨rfl, f54⟩ := hw
          try rw [hKp.ei 0 46 rfl] at f54
          try rw [hKp.ei 0 8 rfl] at f54
          try rw [hKp.ei 0 1 rfl] at f54
          try rw [hKp.ef 21 (fun _ => rfl)] at f54
          refine lv_if_eq (tgt := 49) hx hb dX13_protest_29 (by decide) (fun c55 => ?_) (fun c55 => ?_)
          · --29 taken
            refine lv_iconst (v := -1) hx hb dX13_protest_49 (by decide) ?_
            rw [hQ]
            exact W.iret (v := (-1)) hx hb hr (fun t ht hW => ⟨⟨(-1), E2, rfl, ⟨hI, hKp, (by have h8 := ln_m1; (try rw [(show xi (E2 0) 75 = y1 from vi_e ((pw3.2 0 75 (fun q9 => absurd q9.2 (Nat.ne_of_beq_eq_false rfl))).trans fy1))]); (try rw [ey1]); all_goals omega)⟩, by show va_P (dC, dI) vwCl (WX 72 ad E2) t.heap; rw [ht]; exact hP⟩, hS.F ht⟩) hS.2.2 dX13_protest_50
          · --29 not
            exact absurd c55 (by decide)
    · -- isEntry, case 1
      obtain ⟨rfl, f56⟩ := hw
      have i57 : 0 ≤ (xi (E 0) 46).toInt ∧ (xi (E 0) 46).toInt ≤ 20 := (show 0 ≤ (xi (E 0) 46).toInt ∧ (xi (E 0) 46).toInt ≤ 20 from hI0.iv 0 (Nat.le_of_ble_eq_true rfl) rfl (Nat.le_of_ble_eq_true rfl) rfl)
      have i58 : 0 ≤ (xi (E 0) 8).toInt ∧ (xi (E 0) 8).toInt ≤ 16 := (show 0 ≤ (xi (E 0) 8).toInt ∧ (xi (E 0) 8).toInt ≤ 16 from hI0.iv 0 (Nat.le_of_ble_eq_true rfl) rfl (Nat.le_of_ble_eq_true rfl) rfl)
      have i59 : 0 ≤ (xi (E 0) 1).toInt ∧ (xi (E 0) 1).toInt ≤ 400 := (show 0 ≤ (xi (E 0) 1).toInt ∧ (xi (E 0) 1).toInt ≤ 400 from hI0.iv 0 (Nat.le_of_ble_eq_true rfl) rfl (Nat.le_of_ble_eq_true rfl) rfl)
      try rw [hKp.ei 0 46 rfl] at f56
      try rw [hKp.ei 0 8 rfl] at f56
      try rw [hKp.ei 0 1 rfl] at f56
      try rw [hKp.ef 21 (fun _ => rfl)] at f56
      refine lv_if_eq (tgt := 49) hx hb dX13_protest_20 (by decide) (fun c60 => ?_) (fun c60 => ?_)
      · --20 taken
        refine lv_iconst (v := -1) hx hb dX13_protest_49 (by decide) ?_
        rw [hQ]
        exact W.iret (v := (-1)) hx hb hr (fun t ht hW => ⟨⟨(-1), E2, rfl, ⟨hI, hKp, (by have h8 := ln_m1; (try rw [(show xi (E2 0) 75 = y1 from vi_e ((pw3.2 0 75 (fun q9 => absurd q9.2 (Nat.ne_of_beq_eq_false rfl))).trans fy1))]); (try rw [ey1]); all_goals omega)⟩, by show va_P (dC, dI) vwCl (WX 72 ad E2) t.heap; rw [ht]; exact hP⟩, hS.F ht⟩) hS.2.2 dX13_protest_50
      · --20 not
        exact absurd c60 (by decide)
def v_startX : List Cond := .code yX13_start cX13_start 5 (some .boolean) :: vA
abbrev rm_startX : Room := { frames := 2, cells := 0, slots := 0, locals := 80 }
def w_startX : Nat → Nat → Bool := wl [22, 23] [(0, 0)]
set_option maxHeartbeats 4000000 in
set_option maxRecDepth 100000 in
theorem q_startX (l : Launch) (dC : Nat → ClassId) (dI : Nat → Nat → Nat) (cT : Nat → ClassId) (ad : Nat → Nat) (E : Nat → va_E) (sz : Nat) (a0 : Int32) (a1 : Int32) (a2 : Int32) (a3 : Int32) (hI0 : IX cT shM spM 72 ad E)  : Met l yX13_start v_startX rm_startX (va_Pc [.ref (ad 0), .int a0, .int a1, .int a2, .int a3] (HW dC dI (TYM cT) 72 ad E sz)) (va_Qi (S := Nat → va_E) (fun r u => IX cT shM spM 72 ad u ∧ Kp w_startX E u ∧ ((((((0 ≤ a0.toInt ∧ a0.toInt < (xi (E 0) 46).toInt) ∧ (0 ≤ a1.toInt ∧ a1.toInt < (xi (E 0) 8).toInt) ∧ (xi (E 21) (16 * a0.toInt + a1.toInt).toNat).toInt ≤ (xi (E 0) 1).toInt ∧ (0 ≤ a2.toInt ∧ a2.toInt ≤ 9) ∧ (0 ≤ a3.toInt ∧ a3.toInt ≤ 600)) → (r.toInt = 1)) ∧ (¬ ((0 ≤ a0.toInt ∧ a0.toInt < (xi (E 0) 46).toInt) ∧ (0 ≤ a1.toInt ∧ a1.toInt < (xi (E 0) 8).toInt) ∧ (xi (E 21) (16 * a0.toInt + a1.toInt).toNat).toInt ≤ (xi (E 0) 1).toInt ∧ (0 ≤ a2.toInt ∧ a2.toInt ≤ 9) ∧ (0 ≤ a3.toInt ∧ a3.toInt ≤ 600)) → (r.toInt = 0)))))) (HB dC dI 72 ad) (va_A (WX 72 ad E) sz)) 0 0 (va_A (WX 72 ad E) sz) := by
  refine Met.ofW (cc := cX13_start) (maxL := 5) (ret := (some .boolean)) (by decide) rfl ?_
  intro p e s m args below meth c s₁ B hml hv
  obtain ⟨hargs, hsz, hP, hK, hD0, hEV⟩ := hv
  subst hsz
  have hx := B.exec
  have hb := B.bytes
  have hr := B.returns
  have hts := atoms_spec (ws := v_startX) B.pre
  have hown : s.vm.findClass RX13 = some m.cls := findClass_of_methodNamed B.named
  have hlocks := B.notSynchronized
  have hinX13 : ∀ w ∈ u_ws RX13 TX13 97, w ∈ v_startX := fun w h => vA_in _ w (in_X13 w h)
  generalize hAe : va_A (WX 72 ad E) s.heap.size = A at hEV ⊢
  have hA : ∀ q : Nat, s.heap.size ≤ q → A q := fun q h => by rw [← hAe]; exact Or.inr h
  have hD : va_D A (WX 72 ad E) := by rw [← hAe]; exact hD0.self
  have hS : va_S A s.heap s.heap [] := va_S.rf
  have hI := hI0
  have hKp : Kp w_startX E E := Kp.rf
  have hl := lv_entry ([.ref (ad 0), .int a0, .int a1, .int a2, .int a3]) (n := 5) (Nat.le_of_ble_eq_true rfl)
  obtain ⟨Q, hQ⟩ : ∃ Q, Q = MQ below (va_Qi (S := Nat → va_E) (fun r u => IX cT shM spM 72 ad u ∧ Kp w_startX E u ∧ ((((((0 ≤ a0.toInt ∧ a0.toInt < (xi (E 0) 46).toInt) ∧ (0 ≤ a1.toInt ∧ a1.toInt < (xi (E 0) 8).toInt) ∧ (xi (E 21) (16 * a0.toInt + a1.toInt).toNat).toInt ≤ (xi (E 0) 1).toInt ∧ (0 ≤ a2.toInt ∧ a2.toInt ≤ 9) ∧ (0 ≤ a3.toInt ∧ a3.toInt ≤ 600)) → (r.toInt = 1)) ∧ (¬ ((0 ≤ a0.toInt ∧ a0.toInt < (xi (E 0) 46).toInt) ∧ (0 ≤ a1.toInt ∧ a1.toInt < (xi (E 0) 8).toInt) ∧ (xi (E 21) (16 * a0.toInt + a1.toInt).toNat).toInt ≤ (xi (E 0) 1).toInt ∧ (0 ≤ a2.toInt ∧ a2.toInt ≤ 9) ∧ (0 ≤ a3.toInt ∧ a3.toInt ≤ 600)) → (r.toInt = 0)))))) (HB dC dI 72 ad) (A)) args s 0 0 (A) := ⟨_, rfl⟩
  rw [← hQ, show entryFrame m args 5 = _ from (congrArg (fun z => entryFrame m z 5) hargs).trans (lg_entry_eq _ _ _)]
  generalize (lg_sl ([.ref (ad 0), .int a0, .int a1, .int a2, .int a3]) ++ List.replicate (5 - (lg_sl ([.ref (ad 0), .int a0, .int a1, .int a2, .int a3])).length) Slot.unset).toArray = ls at hl ⊢
  have hl : lv_has ls 5 [(0, .ref (ad 0)), (1, .int a0), (2, .int a1), (3, .int a2), (4, .int a3)] := hl
  refine lv_aload_n hx hb dX13_start_0 rfl (lv_at hl 0 rfl) ?_
  refine lv_iconst (v := 0) hx hb dX13_start_1 (by decide) ?_
  refine th_put (ci := 14) (C := RX13) (T := TX13) (N := 97) (v := .int 0) (ty := .int) hx hb hts hinX13 tyX13 tyX13_ok nmX13 hown hK hP (WX_D hD) hS hI 0 (Nat.le_of_ble_eq_true rfl) rfl rfl 0 (Nat.le_of_ble_eq_true rfl) (hts _ (vA_in _ _ (in_24 _ (List.mem_of_getElem? (i := 10) rfl)))) (fun _ h9 => h9) rfl (by decide +kernel) rfl rfl (okI rfl (iv_w ln_0 (by decide))) dX13_start_2 (fun H locs E1 pw2 hI hP hS => ?_)
  have hKp := hKp.pw pw2 rfl
  refine lv_aload_n hx hb dX13_start_5 rfl (lv_at hl 0 rfl) ?_
  refine lv_iload_n hx hb dX13_start_6 rfl (lv_at hl 1 rfl) ?_
  refine lv_iload_n hx hb dX13_start_7 rfl (lv_at hl 2 rfl) ?_
  refine th_ri (va_runV (As := [.int a0, .int a1]) (rest := []) ⟨hx, hb, hml, hown, hts⟩ (q_isEntry l dC dI cT ad E1 H.size a0 a1 hI) (cwV 2 hts (gi_V (in_33 _ (List.mem_of_getElem? (i := 8) rfl)) (in_33 _ (List.mem_of_getElem? (i := 9) rfl)) (in_33 _ (List.mem_of_getElem? (i := 10) rfl)) (in_24 _ (List.mem_of_getElem? (i := 15) rfl)) (in_32 _ (List.mem_of_getElem? (i := 24) rfl))) rfl rfl rfl (by decide +kernel) ⟨Nat.le_of_ble_eq_true rfl, Nat.le_of_ble_eq_true rfl⟩) ⟨HW_bl, va_recv hK hP (ci := 14) (q0 := 0) rfl (hI.ob 0 (Nat.le_of_ble_eq_true rfl) rfl), (HW_wi hP hK (WX_D hD) hS hA hEV)⟩ rfl rfl hl.1 rfl (lv_room (Nat.le_of_ble_eq_true rfl)) dX13_start_8 ⟨Nat.le_of_ble_eq_true rfl, Nat.le_of_ble_eq_true rfl⟩) hS hP (fun r3 H locs hw hP hS => ?_)
  rcases hw with hw | hw
  · -- isEntry, case 0
    obtain ⟨rfl, f4, f5, f6⟩ := hw
    have i7 : 0 ≤ (xi (E 0) 46).toInt ∧ (xi (E 0) 46).toInt ≤ 20 := (show 0 ≤ (xi (E 0) 46).toInt ∧ (xi (E 0) 46).toInt ≤ 20 from hI0.iv 0 (Nat.le_of_ble_eq_true rfl) rfl (Nat.le_of_ble_eq_true rfl) rfl)
    have i8 : 0 ≤ (xi (E 0) 8).toInt ∧ (xi (E 0) 8).toInt ≤ 16 := (show 0 ≤ (xi (E 0) 8).toInt ∧ (xi (E 0) 8).toInt ≤ 16 from hI0.iv 0 (Nat.le_of_ble_eq_true rfl) rfl (Nat.le_of_ble_eq_true rfl) rfl)
    have i9 : 0 ≤ (xi (E 0) 1).toInt ∧ (xi (E 0) 1).toInt ≤ 400 := (show 0 ≤ (xi (E 0) 1).toInt ∧ (xi (E 0) 1).toInt ≤ 400 from hI0.iv 0 (Nat.le_of_ble_eq_true rfl) rfl (Nat.le_of_ble_eq_true rfl) rfl)
    try rw [hKp.ei 0 46 rfl] at f4
    try rw [hKp.ei 0 8 rfl] at f4
    try rw [hKp.ei 0 1 rfl] at f4
    try rw [hKp.ef 21 (fun _ => rfl)] at f4
    refine lv_if_eq (tgt := 36) hx hb dX13_start_11 (by decide) (fun c10 => ?_) (fun c10 => ?_)
    · --11 taken
      exact absurd c10 (by decide)
    · --11 not
      refine lv_iload_n hx hb dX13_start_14 rfl (lv_at hl 3 rfl) ?_
      refine lv_iconst (v := 0) hx hb dX13_start_15 (by decide) ?_
      refine lv_bipush (v := 9) hx hb dX13_start_16 (by decide) ?_
      refine th_pi (va_runS (As := [.int a2, .int 0, .int 9]) (rest := []) ⟨hx, hb, hml, hown, hts⟩ (q_isIn l a2 (0 : Int32) (9 : Int32)) (va_cwS 3 hts (gi_S (in_24 _ (List.mem_of_getElem? (i := 28) rfl)) (in_24 _ (List.mem_of_getElem? (i := 29) rfl)) (in_24 _ (List.mem_of_getElem? (i := 15) rfl)) (in_24 _ (List.mem_of_getElem? (i := 30) rfl))) rfl rfl rfl (by decide +kernel) ⟨Nat.le_of_ble_eq_true rfl, Nat.le_of_ble_eq_true rfl⟩) ⟨fun _ _ _ _ q => q, fun _ _ _ => ⟨rfl, trivial⟩⟩ rfl rfl hl.1 rfl (lv_room (Nat.le_of_ble_eq_true rfl)) dX13_start_18 ⟨Nat.le_of_ble_eq_true rfl, Nat.le_of_ble_eq_true rfl⟩) hS (fun r11 H1 locs1 hw hk1 hS => ?_)
      have hP := ub_keep hP hk1
      generalize H1 = H at hP hS ⊢
      generalize locs1 = locs at hS ⊢
      rcases hw with hw | hw
      · -- isIn, case 0
        obtain ⟨rfl, f12⟩ := hw
        have t13 : (0 : Int) ≤ a2.toInt := f12.1
        have t14 : a2.toInt ≤ 9 := f12.2
        have i15 : 0 ≤ a2.toInt ∧ a2.toInt ≤ 2147483647 := iv_le_r t13 (il_ 0) (iv_all _) (by decide)
        have i16 : 0 ≤ a2.toInt ∧ a2.toInt ≤ 9 := iv_le_l t14 i15 (il_ 9) (by decide)
        refine lv_if_eq (tgt := 36) hx hb dX13_start_21 (by decide) (fun c17 => ?_) (fun c17 => ?_)
        · --21 taken
          exact absurd c17 (by decide)
        · --21 not
          refine lv_iload hx hb dX13_start_24 (lv_at hl 4 rfl) ?_
          refine lv_iconst (v := 0) hx hb dX13_start_26 (by decide) ?_
          refine lv_sipush (v := 600) hx hb dX13_start_27 (by decide) ?_
          refine th_pi (va_runS (As := [.int a3, .int 0, .int 600]) (rest := []) ⟨hx, hb, hml, hown, hts⟩ (q_isIn l a3 (0 : Int32) (600 : Int32)) (va_cwS 3 hts (gi_S (in_24 _ (List.mem_of_getElem? (i := 28) rfl)) (in_24 _ (List.mem_of_getElem? (i := 29) rfl)) (in_24 _ (List.mem_of_getElem? (i := 15) rfl)) (in_24 _ (List.mem_of_getElem? (i := 30) rfl))) rfl rfl rfl (by decide +kernel) ⟨Nat.le_of_ble_eq_true rfl, Nat.le_of_ble_eq_true rfl⟩) ⟨fun _ _ _ _ q => q, fun _ _ _ => ⟨rfl, trivial⟩⟩ rfl rfl hl.1 rfl (lv_room (Nat.le_of_ble_eq_true rfl)) dX13_start_30 ⟨Nat.le_of_ble_eq_true rfl, Nat.le_of_ble_eq_true rfl⟩) hS (fun r18 H1 locs1 hw hk1 hS => ?_)
          have hP := ub_keep hP hk1
          generalize H1 = H at hP hS ⊢
          generalize locs1 = locs at hS ⊢
          rcases hw with hw | hw
          · -- isIn, case 0
            obtain ⟨rfl, f19⟩ := hw
            have t20 : (0 : Int) ≤ a3.toInt := f19.1
            have t21 : a3.toInt ≤ 600 := f19.2
            have i22 : 0 ≤ a3.toInt ∧ a3.toInt ≤ 2147483647 := iv_le_r t20 (il_ 0) (iv_all _) (by decide)
            have i23 : 0 ≤ a3.toInt ∧ a3.toInt ≤ 600 := iv_le_l t21 i22 (il_ 600) (by decide)
            refine lv_if_ne (tgt := 38) hx hb dX13_start_33 (by decide) (fun c24 => ?_) (fun c24 => ?_)
            · --33 taken
              refine lv_aload_n hx hb dX13_start_38 rfl (lv_at hl 0 rfl) ?_
              refine th_get (ci := 14) (C := RX13) (T := TX13) (N := 97) (v := .ref (ad 22)) hx hb hts hinX13 hown hK hP hI 0 (Nat.le_of_ble_eq_true rfl) rfl rfl 36 (Nat.le_of_ble_eq_true rfl) (hts _ (vA_in _ _ (in_32 _ (List.mem_of_getElem? (i := 7) rfl)))) (fun _ h9 => h9) (hI.fr 0 (Nat.le_of_ble_eq_true rfl) rfl (Nat.le_of_ble_eq_true rfl) 22 rfl) dX13_start_39 ?_
              refine lv_bipush (v := 16) hx hb dX13_start_42 (by decide) ?_
              refine lv_iload_n hx hb dX13_start_44 rfl (lv_at hl 1 rfl) ?_
              refine lv_imul hx hb dX13_start_45 ?_
              refine lv_topi (fun y25 ey25 => ?_)
              obtain ⟨ty25, iy25⟩ := ti_mul (e := 0) (f := 304) ln_16 f5 ey25 (by decide)
              have ty25 : y25.toInt = 16 * a0.toInt := ty25
              have iy25 : 0 ≤ y25.toInt ∧ y25.toInt ≤ 304 := iy25
              refine lv_iload_n hx hb dX13_start_46 rfl (lv_at hl 2 rfl) ?_
              refine lv_iadd hx hb dX13_start_47 ?_
              refine lv_topi (fun y26 ey26 => ?_)
              obtain ⟨ty26, iy26⟩ := ti_add (e := 0) (f := 319) iy25 f6 ey26 (by decide)
              have ty26 : y26.toInt = y25.toInt + a1.toInt := ty26
              have iy26 : 0 ≤ y26.toInt ∧ y26.toInt ≤ 319 := iy26
              refine lv_iload_n hx hb dX13_start_48 rfl (lv_at hl 3 rfl) ?_
              have n27 : vp_in y26 320 := (iv_in (n := 320) iy26 (by decide))
              refine th_iast hx hb hK hP (WX_D hD) hS hI 22 (Nat.le_of_ble_eq_true rfl) rfl rfl n27 (okI rfl (iv_w i16 (by decide))) dX13_start_49 (fun H locs E28 pw29 hI hP hS => ?_)
              have hKp := hKp.pw pw29 rfl
              refine lv_aload_n hx hb dX13_start_50 rfl (lv_at hl 0 rfl) ?_
              refine th_get (ci := 14) (C := RX13) (T := TX13) (N := 97) (v := .ref (ad 23)) hx hb hts hinX13 hown hK hP hI 0 (Nat.le_of_ble_eq_true rfl) rfl rfl 37 (Nat.le_of_ble_eq_true rfl) (hts _ (vA_in _ _ (in_32 _ (List.mem_of_getElem? (i := 8) rfl)))) (fun _ h9 => h9) (hI.fr 0 (Nat.le_of_ble_eq_true rfl) rfl (Nat.le_of_ble_eq_true rfl) 23 rfl) dX13_start_51 ?_
              refine lv_bipush (v := 16) hx hb dX13_start_54 (by decide) ?_
              refine lv_iload_n hx hb dX13_start_56 rfl (lv_at hl 1 rfl) ?_
              refine lv_imul hx hb dX13_start_57 ?_
              refine lv_topi (fun y30 ey30 => ?_)
              obtain ⟨ty30, iy30⟩ := ti_mul (e := 0) (f := 304) ln_16 f5 ey30 (by decide)
              have ty30 : y30.toInt = 16 * a0.toInt := ty30
              have iy30 : 0 ≤ y30.toInt ∧ y30.toInt ≤ 304 := iy30
              refine lv_iload_n hx hb dX13_start_58 rfl (lv_at hl 2 rfl) ?_
              refine lv_iadd hx hb dX13_start_59 ?_
              refine lv_topi (fun y31 ey31 => ?_)
              obtain ⟨ty31, iy31⟩ := ti_add (e := 0) (f := 319) iy30 f6 ey31 (by decide)
              have ty31 : y31.toInt = y30.toInt + a1.toInt := ty31
              have iy31 : 0 ≤ y31.toInt ∧ y31.toInt ≤ 319 := iy31
              refine lv_iload hx hb dX13_start_60 (lv_at hl 4 rfl) ?_
              have n32 : vp_in y31 320 := (iv_in (n := 320) iy31 (by decide))
              refine th_iast hx hb hK hP (WX_D hD) hS hI 23 (Nat.le_of_ble_eq_true rfl) rfl rfl n32 (okI rfl i23) dX13_start_62 (fun H locs E33 pw34 hI hP hS => ?_)
              have hKp := hKp.pw pw34 rfl
              refine lv_iconst (v := 1) hx hb dX13_start_63 (by decide) ?_
              rw [hQ]
              exact W.zret (v := 1) hx hb hr rfl (fun t ht hW => ⟨⟨1, E33, rfl, ⟨hI, hKp, (by have h8 := ln_1; all_goals omega)⟩, by show va_P (dC, dI) vwCl (WX 72 ad E33) t.heap; rw [ht]; exact hP⟩, hS.F ht⟩) hS.2.2 dX13_start_64
            · --33 not
              exact absurd c24 (by decide)
          · -- isIn, case 1
            obtain ⟨rfl, f35⟩ := hw
            have t36 : ¬ ((0 : Int) ≤ a3.toInt ∧ a3.toInt ≤ 600) := f35
            refine lv_if_ne (tgt := 38) hx hb dX13_start_33 (by decide) (fun c37 => ?_) (fun c37 => ?_)
            · --33 taken
              exact absurd c37 (by decide)
            · --33 not
              refine lv_iconst (v := 0) hx hb dX13_start_36 (by decide) ?_
              rw [hQ]
              exact W.zret (v := 0) hx hb hr rfl (fun t ht hW => ⟨⟨0, E1, rfl, ⟨hI, hKp, (by have h8 := ln_0; all_goals omega)⟩, by show va_P (dC, dI) vwCl (WX 72 ad E1) t.heap; rw [ht]; exact hP⟩, hS.F ht⟩) hS.2.2 dX13_start_37
      · -- isIn, case 1
        obtain ⟨rfl, f38⟩ := hw
        have t39 : ¬ ((0 : Int) ≤ a2.toInt ∧ a2.toInt ≤ 9) := f38
        refine lv_if_eq (tgt := 36) hx hb dX13_start_21 (by decide) (fun c40 => ?_) (fun c40 => ?_)
        · --21 taken
          refine lv_iconst (v := 0) hx hb dX13_start_36 (by decide) ?_
          rw [hQ]
          exact W.zret (v := 0) hx hb hr rfl (fun t ht hW => ⟨⟨0, E1, rfl, ⟨hI, hKp, (by have h8 := ln_0; all_goals omega)⟩, by show va_P (dC, dI) vwCl (WX 72 ad E1) t.heap; rw [ht]; exact hP⟩, hS.F ht⟩) hS.2.2 dX13_start_37
        · --21 not
          exact absurd c40 (by decide)
  · -- isEntry, case 1
    obtain ⟨rfl, f41⟩ := hw
    have i42 : 0 ≤ (xi (E 0) 46).toInt ∧ (xi (E 0) 46).toInt ≤ 20 := (show 0 ≤ (xi (E 0) 46).toInt ∧ (xi (E 0) 46).toInt ≤ 20 from hI0.iv 0 (Nat.le_of_ble_eq_true rfl) rfl (Nat.le_of_ble_eq_true rfl) rfl)
    have i43 : 0 ≤ (xi (E 0) 8).toInt ∧ (xi (E 0) 8).toInt ≤ 16 := (show 0 ≤ (xi (E 0) 8).toInt ∧ (xi (E 0) 8).toInt ≤ 16 from hI0.iv 0 (Nat.le_of_ble_eq_true rfl) rfl (Nat.le_of_ble_eq_true rfl) rfl)
    have i44 : 0 ≤ (xi (E 0) 1).toInt ∧ (xi (E 0) 1).toInt ≤ 400 := (show 0 ≤ (xi (E 0) 1).toInt ∧ (xi (E 0) 1).toInt ≤ 400 from hI0.iv 0 (Nat.le_of_ble_eq_true rfl) rfl (Nat.le_of_ble_eq_true rfl) rfl)
    try rw [hKp.ei 0 46 rfl] at f41
    try rw [hKp.ei 0 8 rfl] at f41
    try rw [hKp.ei 0 1 rfl] at f41
    try rw [hKp.ef 21 (fun _ => rfl)] at f41
    refine lv_if_eq (tgt := 36) hx hb dX13_start_11 (by decide) (fun c45 => ?_) (fun c45 => ?_)
    · --11 taken
      refine lv_iconst (v := 0) hx hb dX13_start_36 (by decide) ?_
      rw [hQ]
      exact W.zret (v := 0) hx hb hr rfl (fun t ht hW => ⟨⟨0, E1, rfl, ⟨hI, hKp, (by have h8 := ln_0; all_goals omega)⟩, by show va_P (dC, dI) vwCl (WX 72 ad E1) t.heap; rw [ht]; exact hP⟩, hS.F ht⟩) hS.2.2 dX13_start_37
    · --11 not
      exact absurd c45 (by decide)
def v_u_swiftX : List Cond := .code yX12_swift cX12_swift 3 (some .boolean) :: vA
abbrev rm_u_swiftX : Room := { frames := 3, cells := 0, slots := 0, locals := 120 }
set_option maxHeartbeats 4000000 in
set_option maxRecDepth 100000 in
theorem q_u_swiftX (l : Launch) (dC : Nat → ClassId) (dI : Nat → Nat → Nat) (cT : Nat → ClassId) (cf : Nat → Nat) (hC : CF cf) (ad : Nat → Nat) (E : Nat → va_E) (sz : Nat) (a0 : Int32) (a1 : Int32) (hI0 : IXL cT (shC cf) (spC cf) (LC cf) ad E)  : Met l yX12_swift v_u_swiftX rm_u_swiftX (va_Pc [.ref (ad 0), .int a0, .int a1] (HWL dC dI (TYC cT) cf ad E sz)) (va_Qi (S := Nat → va_E) (fun r u => IXL cT (shC cf) (spC cf) (LC cf) ad u ∧ Kp (wl [64 * (a0.toNatClampNeg + 1) + 11] []) E u ∧ ((((((0 ≤ a0.toInt ∧ a0.toInt < ((cf 2 : Nat) : Int)) ∧ (1 ≤ a1.toInt ∧ a1.toInt ≤ 9)) → (r.toInt = 1)) ∧ (¬ ((0 ≤ a0.toInt ∧ a0.toInt < ((cf 2 : Nat) : Int)) ∧ (1 ≤ a1.toInt ∧ a1.toInt ≤ 9)) → (r.toInt = 0)))))) (HBL dC dI (LC cf) ad) (va_A (WL (LC cf) ad E) sz)) 0 0 (va_A (WL (LC cf) ad E) sz) := by
  obtain ⟨⟨hc0, hc1, hc2, hc3, hc4, hc5⟩, hcr⟩ := id hC
  refine Met.ofW (cc := cX12_swift) (maxL := 3) (ret := (some .boolean)) (by decide) rfl ?_
  intro p e s m args below meth c s₁ B hml hv
  obtain ⟨hargs, hsz, hP, hK, hD0, hEV⟩ := hv
  subst hsz
  have hx := B.exec
  have hb := B.bytes
  have hr := B.returns
  have hts := atoms_spec (ws := v_u_swiftX) B.pre
  have hown : s.vm.findClass RX12 = some m.cls := findClass_of_methodNamed B.named
  have hlocks := B.notSynchronized
  have hinX0 : ∀ w ∈ u_ws RX0 TX0 11, w ∈ v_u_swiftX := fun w h => vA_in _ w (in_X0 w h)
  have hinX12 : ∀ w ∈ u_ws RX12 TX12 6, w ∈ v_u_swiftX := fun w h => vA_in _ w (in_X12 w h)
  have hinX5 : ∀ w ∈ u_ws RX5 TX5 12, w ∈ v_u_swiftX := fun w h => vA_in _ w (in_X5 w h)
  generalize hAe : va_A (WL (LC cf) ad E) s.heap.size = A at hEV ⊢
  have hA : ∀ q : Nat, s.heap.size ≤ q → A q := fun q h => by rw [← hAe]; exact Or.inr h
  have hD : va_D A (WL (LC cf) ad E) := by rw [← hAe]; exact hD0.self
  have hS : va_S A s.heap s.heap [] := va_S.rf
  have hI := hI0
  have hKp : Kp (wl [64 * (a0.toNatClampNeg + 1) + 11] []) E E := Kp.rf
  have hl := lv_entry ([.ref (ad 0), .int a0, .int a1]) (n := 3) (Nat.le_of_ble_eq_true rfl)
  obtain ⟨Q, hQ⟩ : ∃ Q, Q = MQ below (va_Qi (S := Nat → va_E) (fun r u => IXL cT (shC cf) (spC cf) (LC cf) ad u ∧ Kp (wl [64 * (a0.toNatClampNeg + 1) + 11] []) E u ∧ ((((((0 ≤ a0.toInt ∧ a0.toInt < ((cf 2 : Nat) : Int)) ∧ (1 ≤ a1.toInt ∧ a1.toInt ≤ 9)) → (r.toInt = 1)) ∧ (¬ ((0 ≤ a0.toInt ∧ a0.toInt < ((cf 2 : Nat) : Int)) ∧ (1 ≤ a1.toInt ∧ a1.toInt ≤ 9)) → (r.toInt = 0)))))) (HBL dC dI (LC cf) ad) (A)) args s 0 0 (A) := ⟨_, rfl⟩
  rw [← hQ, show entryFrame m args 3 = _ from (congrArg (fun z => entryFrame m z 3) hargs).trans (lg_entry_eq _ _ _)]
  generalize (lg_sl ([.ref (ad 0), .int a0, .int a1]) ++ List.replicate (3 - (lg_sl ([.ref (ad 0), .int a0, .int a1])).length) Slot.unset).toArray = ls at hl ⊢
  have hl : lv_has ls 3 [(0, .ref (ad 0)), (1, .int a0), (2, .int a1)] := hl
  refine lv_aload_n hx hb dX12_swift_0 rfl (lv_at hl 0 rfl) ?_
  refine th_getL (ci := 13) (C := RX12) (T := TX12) (N := 6) (v := .ref (ad 1)) hx hb hts hinX12 hown hK hP hI 0 (mF 0 rfl) rfl rfl 0 (Nat.le_of_ble_eq_true rfl) (hts _ (vA_in _ _ (in_10 _ (List.mem_of_getElem? (i := 17) rfl)))) (fun _ h9 => h9) (hI.fr 0 (mF 0 rfl) rfl (Nat.le_of_ble_eq_true rfl) 1 rfl) dX12_swift_1 ?_
  refine lv_iload_n hx hb dX12_swift_4 rfl (lv_at hl 1 rfl) ?_
  refine th_riL (va_runV (As := [.int a0]) (rest := []) ⟨hx, hb, hml, hown, hts⟩ (q_isRaceC l dC dI cT cf hC ad E s.heap.size a0 hI) (cwV 1 hts (gi_V (in_18 _ (List.mem_of_getElem? (i := 0) rfl)) (in_6 _ (List.mem_of_getElem? (i := 7) rfl)) (in_6 _ (List.mem_of_getElem? (i := 8) rfl)) (in_5 _ (List.mem_of_getElem? (i := 6) rfl)) (in_6 _ (List.mem_of_getElem? (i := 9) rfl))) rfl rfl rfl (by decide +kernel) ⟨Nat.le_of_ble_eq_true rfl, Nat.le_of_ble_eq_true rfl⟩) ⟨HWL_bl, va_recv hK hP (ci := 1) (q0 := posL 1 (LC cf)) rfl (hI.ob 1 (mF 1 rfl) rfl), (HWL_wi hP hK (WL_D hD) hS hA hEV)⟩ rfl rfl hl.1 rfl (lv_room (Nat.le_of_ble_eq_true rfl)) dX12_swift_5 ⟨Nat.le_of_ble_eq_true rfl, Nat.le_of_ble_eq_true rfl⟩) hS hP (fun r1 H locs hw hP hS => ?_)
  rcases hw with hw | hw
  · -- isRaceC, case 0
    obtain ⟨rfl, f2, f3⟩ := hw
    refine lv_if_eq (tgt := 21) hx hb dX12_swift_8 (by decide) (fun c4 => ?_) (fun c4 => ?_)
    · --8 taken
      exact absurd c4 (by decide)
    · --8 not
      refine lv_iload_n hx hb dX12_swift_11 rfl (lv_at hl 2 rfl) ?_
      refine lv_iconst (v := 1) hx hb dX12_swift_12 (by decide) ?_
      refine lv_bipush (v := 9) hx hb dX12_swift_13 (by decide) ?_
      refine th_pi (va_runS (As := [.int a1, .int 1, .int 9]) (rest := []) ⟨hx, hb, hml, hown, hts⟩ (q_cwithin l a1 (1 : Int32) (9 : Int32)) (va_cwS 3 hts (gi_S (in_10 _ (List.mem_of_getElem? (i := 31) rfl)) (in_4 _ (List.mem_of_getElem? (i := 22) rfl)) (in_4 _ (List.mem_of_getElem? (i := 23) rfl)) (in_4 _ (List.mem_of_getElem? (i := 24) rfl))) rfl rfl rfl (by decide +kernel) ⟨Nat.le_of_ble_eq_true rfl, Nat.le_of_ble_eq_true rfl⟩) ⟨fun _ _ _ _ q => q, fun _ _ _ => ⟨rfl, trivial⟩⟩ rfl rfl hl.1 rfl (lv_room (Nat.le_of_ble_eq_true rfl)) dX12_swift_15 ⟨Nat.le_of_ble_eq_true rfl, Nat.le_of_ble_eq_true rfl⟩) hS (fun r5 H1 locs1 hw hk1 hS => ?_)
      have hP := ub_keep hP hk1
      generalize H1 = H at hP hS ⊢
      generalize locs1 = locs at hS ⊢
      rcases hw with hw | hw
      · -- cwithin, case 0
        obtain ⟨rfl, f6⟩ := hw
        have t7 : (1 : Int) ≤ a1.toInt := f6.1
        have t8 : a1.toInt ≤ 9 := f6.2
        have i9 : 1 ≤ a1.toInt ∧ a1.toInt ≤ 2147483647 := iv_le_r t7 (il_ 1) (iv_all _) (by decide)
        have i10 : 1 ≤ a1.toInt ∧ a1.toInt ≤ 9 := iv_le_l t8 i9 (il_ 9) (by decide)
        refine lv_if_ne (tgt := 23) hx hb dX12_swift_18 (by decide) (fun c11 => ?_) (fun c11 => ?_)
        · --18 taken
          refine lv_aload_n hx hb dX12_swift_23 rfl (lv_at hl 0 rfl) ?_
          refine th_getL (ci := 13) (C := RX12) (T := TX12) (N := 6) (v := .ref (ad 1)) hx hb hts hinX12 hown hK hP hI 0 (mF 0 rfl) rfl rfl 0 (Nat.le_of_ble_eq_true rfl) (hts _ (vA_in _ _ (in_10 _ (List.mem_of_getElem? (i := 17) rfl)))) (fun _ h9 => h9) (hI.fr 0 (mF 0 rfl) rfl (Nat.le_of_ble_eq_true rfl) 1 rfl) dX12_swift_24 ?_
          refine th_getL (ci := 1) (C := RX0) (T := TX0) (N := 11) (v := .ref (ad 9)) hx hb hts hinX0 hown hK hP hI 1 (mF 1 rfl) rfl rfl 5 (Nat.le_of_ble_eq_true rfl) (hts _ (vA_in _ _ (in_14 _ (List.mem_of_getElem? (i := 7) rfl)))) (fun _ h9 => h9) (hI.fr 1 (mF 1 rfl) rfl (Nat.le_of_ble_eq_true rfl) 9 rfl) dX12_swift_27 ?_
          refine lv_iload_n hx hb dX12_swift_30 rfl (lv_at hl 1 rfl) ?_
          refine th_rrL (va_runV (As := [.int a0]) (rest := []) ⟨hx, hb, hml, hown, hts⟩ (q_get2 l dC dI cT cf hC ad E H.size a0 hI (by omega)) (cwV 1 hts (gi_V (in_14 _ (List.mem_of_getElem? (i := 24) rfl)) (in_4 _ (List.mem_of_getElem? (i := 38) rfl)) (in_4 _ (List.mem_of_getElem? (i := 39) rfl)) (in_3 _ (List.mem_of_getElem? (i := 18) rfl)) (in_3 _ (List.mem_of_getElem? (i := 39) rfl))) rfl rfl rfl (by decide +kernel) ⟨Nat.le_of_ble_eq_true rfl, Nat.le_of_ble_eq_true rfl⟩) ⟨HWL_bl, va_recv hK hP (ci := 0) (q0 := posL 9 (LC cf)) rfl (hI.ob 9 (mF 9 rfl) rfl), (HWL_wi hP hK (WL_D hD) hS hA hEV)⟩ rfl rfl hl.1 rfl (lv_room (Nat.le_of_ble_eq_true rfl)) dX12_swift_31 ⟨Nat.le_of_ble_eq_true rfl, Nat.le_of_ble_eq_true rfl⟩) hS hP (fun r12 H locs hw hP hS => ?_)
          obtain rfl := hw
          have lv13 : a0.toNatClampNeg < cf 2 := by rw [tn_]; omega
          refine va_castS (cC := dC 6) hx hb hown (hts _ (vA_in _ _ (in_17 _ (List.mem_of_getElem? (i := 38) rfl)))) (hK.1 6 _ rfl).2 (va_recv hK hP (ci := 6) (q0 := posL (64 * (a0.toNatClampNeg + 1) + 6) (LC cf)) rfl (hI.ob (64 * (a0.toNatClampNeg + 1) + 6) (mP 6 a0.toNatClampNeg (by decide) lv13 (kl_le hC 2 (by decide))) (shC_p 6 a0.toNatClampNeg (by decide)))) dX12_swift_34 ?_
          refine th_getL (ci := 6) (C := RX5) (T := TX5) (N := 12) (v := .ref (ad (64 * (a0.toNatClampNeg + 1) + 11))) hx hb hts hinX5 hown hK hP hI (64 * (a0.toNatClampNeg + 1) + 6) (mP 6 a0.toNatClampNeg (by decide) lv13 (kl_le hC 2 (by decide))) (shC_p 6 a0.toNatClampNeg (by decide)) rfl 11 (Nat.le_of_ble_eq_true rfl) (hts _ (vA_in _ _ (in_23 _ (List.mem_of_getElem? (i := 21) rfl)))) (fun _ h9 => h9) (hI.fr (64 * (a0.toNatClampNeg + 1) + 6) (mP 6 a0.toNatClampNeg (by decide) lv13 (kl_le hC 2 (by decide))) (shC_p 6 a0.toNatClampNeg (by decide)) (Nat.le_of_ble_eq_true rfl) (64 * (a0.toNatClampNeg + 1) + 11) (spC_p 6 a0.toNatClampNeg (by decide) 11)) dX12_swift_37 ?_
          refine lv_aload_n hx hb dX12_swift_40 rfl (lv_at hl 0 rfl) ?_
          refine th_getL (ci := 13) (C := RX12) (T := TX12) (N := 6) (v := .ref (ad 1)) hx hb hts hinX12 hown hK hP hI 0 (mF 0 rfl) rfl rfl 0 (Nat.le_of_ble_eq_true rfl) (hts _ (vA_in _ _ (in_10 _ (List.mem_of_getElem? (i := 17) rfl)))) (fun _ h9 => h9) (hI.fr 0 (mF 0 rfl) rfl (Nat.le_of_ble_eq_true rfl) 1 rfl) dX12_swift_41 ?_
          have i14 : 0 ≤ (xi (E 1) 0).toInt ∧ (xi (E 1) 0).toInt ≤ 400 := hI0.iv 1 (mF 1 rfl) rfl (Nat.le_of_ble_eq_true rfl) rfl
          refine th_getL (ci := 1) (C := RX0) (T := TX0) (N := 11) (v := .int (xi (E 1) 0)) hx hb hts hinX0 hown hK hP hI 1 (mF 1 rfl) rfl rfl 0 (Nat.le_of_ble_eq_true rfl) (hts _ (vA_in _ _ (in_10 _ (List.mem_of_getElem? (i := 26) rfl)))) (fun _ h9 => h9) (th_v0L hKp hI0 1 (mF 1 rfl) rfl (Nat.le_of_ble_eq_true rfl) rfl rfl) dX12_swift_44 ?_
          refine lv_iload_n hx hb dX12_swift_47 rfl (lv_at hl 2 rfl) ?_
          have n15 : vp_in (xi (E 1) 0) 401 := (iv_in (n := 401) i14 (by decide))
          refine th_iastL hx hb hK hP (WL_D hD) hS hI (64 * (a0.toNatClampNeg + 1) + 11) (mP 11 a0.toNatClampNeg (by decide) lv13 (kl_le hC 2 (by decide))) (shC_p 11 a0.toNatClampNeg (by decide)) rfl n15 (okI (spC_p 11 a0.toNatClampNeg (by decide) _) (iv_w i10 (by decide))) dX12_swift_48 (fun H locs E16 pw17 hI hP hS => ?_)
          have hKp := hKp.pw pw17 (by simp [wl])
          refine lv_iconst (v := 1) hx hb dX12_swift_49 (by decide) ?_
          rw [hQ]
          exact W.zret (v := 1) hx hb hr rfl (fun t ht hW => ⟨⟨1, E16, rfl, ⟨hI, hKp, (by have h8 := ln_1; all_goals omega)⟩, by show va_P (dC, dI) vwCl (WL (LC cf) ad E16) t.heap; rw [ht]; exact hP⟩, hS.F ht⟩) hS.2.2 dX12_swift_50
        · --18 not
          exact absurd c11 (by decide)
      · -- cwithin, case 1
        obtain ⟨rfl, f18⟩ := hw
        have t19 : ¬ ((1 : Int) ≤ a1.toInt ∧ a1.toInt ≤ 9) := f18
        refine lv_if_ne (tgt := 23) hx hb dX12_swift_18 (by decide) (fun c20 => ?_) (fun c20 => ?_)
        · --18 taken
          exact absurd c20 (by decide)
        · --18 not
          refine lv_iconst (v := 0) hx hb dX12_swift_21 (by decide) ?_
          rw [hQ]
          exact W.zret (v := 0) hx hb hr rfl (fun t ht hW => ⟨⟨0, E, rfl, ⟨hI, hKp, (by have h8 := ln_0; all_goals omega)⟩, by show va_P (dC, dI) vwCl (WL (LC cf) ad E) t.heap; rw [ht]; exact hP⟩, hS.F ht⟩) hS.2.2 dX12_swift_22
  · -- isRaceC, case 1
    obtain ⟨rfl, f21⟩ := hw
    refine lv_if_eq (tgt := 21) hx hb dX12_swift_8 (by decide) (fun c22 => ?_) (fun c22 => ?_)
    · --8 taken
      refine lv_iconst (v := 0) hx hb dX12_swift_21 (by decide) ?_
      rw [hQ]
      exact W.zret (v := 0) hx hb hr rfl (fun t ht hW => ⟨⟨0, E, rfl, ⟨hI, hKp, (by have h8 := ln_0; all_goals omega)⟩, by show va_P (dC, dI) vwCl (WL (LC cf) ad E) t.heap; rw [ht]; exact hP⟩, hS.F ht⟩) hS.2.2 dX12_swift_22
    · --8 not
      exact absurd c22 (by decide)
def v_u_enterX : List Cond := .code yX12_enter cX12_enter 3 (some .boolean) :: vA
abbrev rm_u_enterX : Room := { frames := 4, cells := 0, slots := 0, locals := 160 }
set_option maxHeartbeats 4000000 in
set_option maxRecDepth 100000 in
theorem q_u_enterX (l : Launch) (dC : Nat → ClassId) (dI : Nat → Nat → Nat) (cT : Nat → ClassId) (cf : Nat → Nat) (hC : CF cf) (ad : Nat → Nat) (E : Nat → va_E) (sz : Nat) (a0 : Int32) (a1 : Int32) (hI0 : IXL cT (shC cf) (spC cf) (LC cf) ad E)  : Met l yX12_enter v_u_enterX rm_u_enterX (va_Pc [.ref (ad 0), .int a0, .int a1] (HWL dC dI (TYC cT) cf ad E sz)) (va_Qi (S := Nat → va_E) (fun r u => IXL cT (shC cf) (spC cf) (LC cf) ad u ∧ Kp (wl [64 * (a0.toNatClampNeg + 1) + 7] []) E u ∧ ((r = 1 ∧ ((0 ≤ a0.toInt ∧ a0.toInt < ((cf 2 : Nat) : Int)) ∧ (0 ≤ a1.toInt ∧ a1.toInt < (xi (E 1) 1).toInt) ∧ ¬ (¬ (xi (E (64 * (a0.toNatClampNeg + 1) + 7)) a1.toNatClampNeg).toInt = -1 ∧ (xi (E (64 * (a0.toNatClampNeg + 1) + 7)) a1.toNatClampNeg).toInt ≤ (xi (E 1) 0).toInt)) ∧ (xi (u (64 * (a0.toNatClampNeg + 1) + 7)) = upd (xi (E (64 * (a0.toNatClampNeg + 1) + 7))) a1.toNatClampNeg (xi (E 1) 0))) ∨ (r = 0 ∧ (¬ ((0 ≤ a0.toInt ∧ a0.toInt < ((cf 2 : Nat) : Int)) ∧ (0 ≤ a1.toInt ∧ a1.toInt < (xi (E 1) 1).toInt) ∧ ¬ (¬ (xi (E (64 * (a0.toNatClampNeg + 1) + 7)) a1.toNatClampNeg).toInt = -1 ∧ (xi (E (64 * (a0.toNatClampNeg + 1) + 7)) a1.toNatClampNeg).toInt ≤ (xi (E 1) 0).toInt))) ∧ (xi (u (64 * (a0.toNatClampNeg + 1) + 7)) = xi (E (64 * (a0.toNatClampNeg + 1) + 7)))))) (HBL dC dI (LC cf) ad) (va_A (WL (LC cf) ad E) sz)) 0 0 (va_A (WL (LC cf) ad E) sz) := by
  obtain ⟨⟨hc0, hc1, hc2, hc3, hc4, hc5⟩, hcr⟩ := id hC
  refine Met.ofW (cc := cX12_enter) (maxL := 3) (ret := (some .boolean)) (by decide) rfl ?_
  intro p e s m args below meth c s₁ B hml hv
  obtain ⟨hargs, hsz, hP, hK, hD0, hEV⟩ := hv
  subst hsz
  have hx := B.exec
  have hb := B.bytes
  have hr := B.returns
  have hts := atoms_spec (ws := v_u_enterX) B.pre
  have hown : s.vm.findClass RX12 = some m.cls := findClass_of_methodNamed B.named
  have hlocks := B.notSynchronized
  have hinX0 : ∀ w ∈ u_ws RX0 TX0 11, w ∈ v_u_enterX := fun w h => vA_in _ w (in_X0 w h)
  have hinX12 : ∀ w ∈ u_ws RX12 TX12 6, w ∈ v_u_enterX := fun w h => vA_in _ w (in_X12 w h)
  have hinX5 : ∀ w ∈ u_ws RX5 TX5 12, w ∈ v_u_enterX := fun w h => vA_in _ w (in_X5 w h)
  generalize hAe : va_A (WL (LC cf) ad E) s.heap.size = A at hEV ⊢
  have hA : ∀ q : Nat, s.heap.size ≤ q → A q := fun q h => by rw [← hAe]; exact Or.inr h
  have hD : va_D A (WL (LC cf) ad E) := by rw [← hAe]; exact hD0.self
  have hS : va_S A s.heap s.heap [] := va_S.rf
  have hI := hI0
  have hKp : Kp (wl [64 * (a0.toNatClampNeg + 1) + 7] []) E E := Kp.rf
  have hl := lv_entry ([.ref (ad 0), .int a0, .int a1]) (n := 3) (Nat.le_of_ble_eq_true rfl)
  obtain ⟨Q, hQ⟩ : ∃ Q, Q = MQ below (va_Qi (S := Nat → va_E) (fun r u => IXL cT (shC cf) (spC cf) (LC cf) ad u ∧ Kp (wl [64 * (a0.toNatClampNeg + 1) + 7] []) E u ∧ ((r = 1 ∧ ((0 ≤ a0.toInt ∧ a0.toInt < ((cf 2 : Nat) : Int)) ∧ (0 ≤ a1.toInt ∧ a1.toInt < (xi (E 1) 1).toInt) ∧ ¬ (¬ (xi (E (64 * (a0.toNatClampNeg + 1) + 7)) a1.toNatClampNeg).toInt = -1 ∧ (xi (E (64 * (a0.toNatClampNeg + 1) + 7)) a1.toNatClampNeg).toInt ≤ (xi (E 1) 0).toInt)) ∧ (xi (u (64 * (a0.toNatClampNeg + 1) + 7)) = upd (xi (E (64 * (a0.toNatClampNeg + 1) + 7))) a1.toNatClampNeg (xi (E 1) 0))) ∨ (r = 0 ∧ (¬ ((0 ≤ a0.toInt ∧ a0.toInt < ((cf 2 : Nat) : Int)) ∧ (0 ≤ a1.toInt ∧ a1.toInt < (xi (E 1) 1).toInt) ∧ ¬ (¬ (xi (E (64 * (a0.toNatClampNeg + 1) + 7)) a1.toNatClampNeg).toInt = -1 ∧ (xi (E (64 * (a0.toNatClampNeg + 1) + 7)) a1.toNatClampNeg).toInt ≤ (xi (E 1) 0).toInt))) ∧ (xi (u (64 * (a0.toNatClampNeg + 1) + 7)) = xi (E (64 * (a0.toNatClampNeg + 1) + 7)))))) (HBL dC dI (LC cf) ad) (A)) args s 0 0 (A) := ⟨_, rfl⟩
  rw [← hQ, show entryFrame m args 3 = _ from (congrArg (fun z => entryFrame m z 3) hargs).trans (lg_entry_eq _ _ _)]
  generalize (lg_sl ([.ref (ad 0), .int a0, .int a1]) ++ List.replicate (3 - (lg_sl ([.ref (ad 0), .int a0, .int a1])).length) Slot.unset).toArray = ls at hl ⊢
  have hl : lv_has ls 3 [(0, .ref (ad 0)), (1, .int a0), (2, .int a1)] := hl
  refine lv_aload_n hx hb dX12_enter_0 rfl (lv_at hl 0 rfl) ?_
  refine th_getL (ci := 13) (C := RX12) (T := TX12) (N := 6) (v := .ref (ad 1)) hx hb hts hinX12 hown hK hP hI 0 (mF 0 rfl) rfl rfl 0 (Nat.le_of_ble_eq_true rfl) (hts _ (vA_in _ _ (in_10 _ (List.mem_of_getElem? (i := 17) rfl)))) (fun _ h9 => h9) (hI.fr 0 (mF 0 rfl) rfl (Nat.le_of_ble_eq_true rfl) 1 rfl) dX12_enter_1 ?_
  refine lv_iload_n hx hb dX12_enter_4 rfl (lv_at hl 1 rfl) ?_
  refine th_riL (va_runV (As := [.int a0]) (rest := []) ⟨hx, hb, hml, hown, hts⟩ (q_isRaceC l dC dI cT cf hC ad E s.heap.size a0 hI) (cwV 1 hts (gi_V (in_18 _ (List.mem_of_getElem? (i := 0) rfl)) (in_6 _ (List.mem_of_getElem? (i := 7) rfl)) (in_6 _ (List.mem_of_getElem? (i := 8) rfl)) (in_5 _ (List.mem_of_getElem? (i := 6) rfl)) (in_6 _ (List.mem_of_getElem? (i := 9) rfl))) rfl rfl rfl (by decide +kernel) ⟨Nat.le_of_ble_eq_true rfl, Nat.le_of_ble_eq_true rfl⟩) ⟨HWL_bl, va_recv hK hP (ci := 1) (q0 := posL 1 (LC cf)) rfl (hI.ob 1 (mF 1 rfl) rfl), (HWL_wi hP hK (WL_D hD) hS hA hEV)⟩ rfl rfl hl.1 rfl (lv_room (Nat.le_of_ble_eq_true rfl)) dX12_enter_5 ⟨Nat.le_of_ble_eq_true rfl, Nat.le_of_ble_eq_true rfl⟩) hS hP (fun r1 H locs hw hP hS => ?_)
  rcases hw with hw | hw
  · -- isRaceC, case 0
    obtain ⟨rfl, f2, f3⟩ := hw
    refine lv_if_eq (tgt := 34) hx hb dX12_enter_8 (by decide) (fun c4 => ?_) (fun c4 => ?_)
    · --8 taken
      exact absurd c4 (by decide)
    · --8 not
      refine lv_aload_n hx hb dX12_enter_11 rfl (lv_at hl 0 rfl) ?_
      refine th_getL (ci := 13) (C := RX12) (T := TX12) (N := 6) (v := .ref (ad 1)) hx hb hts hinX12 hown hK hP hI 0 (mF 0 rfl) rfl rfl 0 (Nat.le_of_ble_eq_true rfl) (hts _ (vA_in _ _ (in_10 _ (List.mem_of_getElem? (i := 17) rfl)))) (fun _ h9 => h9) (hI.fr 0 (mF 0 rfl) rfl (Nat.le_of_ble_eq_true rfl) 1 rfl) dX12_enter_12 ?_
      refine lv_iload_n hx hb dX12_enter_15 rfl (lv_at hl 2 rfl) ?_
      refine th_riL (va_runV (As := [.int a1]) (rest := []) ⟨hx, hb, hml, hown, hts⟩ (q_isBoatC l dC dI cT cf hC ad E H.size a1 hI) (cwV 1 hts (gi_V (in_10 _ (List.mem_of_getElem? (i := 27) rfl)) (in_6 _ (List.mem_of_getElem? (i := 12) rfl)) (in_6 _ (List.mem_of_getElem? (i := 13) rfl)) (in_5 _ (List.mem_of_getElem? (i := 6) rfl)) (in_5 _ (List.mem_of_getElem? (i := 38) rfl))) rfl rfl rfl (by decide +kernel) ⟨Nat.le_of_ble_eq_true rfl, Nat.le_of_ble_eq_true rfl⟩) ⟨HWL_bl, va_recv hK hP (ci := 1) (q0 := posL 1 (LC cf)) rfl (hI.ob 1 (mF 1 rfl) rfl), (HWL_wi hP hK (WL_D hD) hS hA hEV)⟩ rfl rfl hl.1 rfl (lv_room (Nat.le_of_ble_eq_true rfl)) dX12_enter_16 ⟨Nat.le_of_ble_eq_true rfl, Nat.le_of_ble_eq_true rfl⟩) hS hP (fun r5 H locs hw hP hS => ?_)
      rcases hw with hw | hw
      · -- isBoatC, case 0
        obtain ⟨rfl, f6, f7⟩ := hw
        have i8 : 0 ≤ (xi (E 1) 1).toInt ∧ (xi (E 1) 1).toInt ≤ 16 := hI0.iv 1 (mF 1 rfl) rfl (Nat.le_of_ble_eq_true rfl) rfl
        refine lv_if_eq (tgt := 34) hx hb dX12_enter_19 (by decide) (fun c9 => ?_) (fun c9 => ?_)
        · --19 taken
          exact absurd c9 (by decide)
        · --19 not
          refine lv_aload_n hx hb dX12_enter_22 rfl (lv_at hl 0 rfl) ?_
          refine th_getL (ci := 13) (C := RX12) (T := TX12) (N := 6) (v := .ref (ad 1)) hx hb hts hinX12 hown hK hP hI 0 (mF 0 rfl) rfl rfl 0 (Nat.le_of_ble_eq_true rfl) (hts _ (vA_in _ _ (in_10 _ (List.mem_of_getElem? (i := 17) rfl)))) (fun _ h9 => h9) (hI.fr 0 (mF 0 rfl) rfl (Nat.le_of_ble_eq_true rfl) 1 rfl) dX12_enter_23 ?_
          refine lv_iload_n hx hb dX12_enter_26 rfl (lv_at hl 1 rfl) ?_
          refine lv_iload_n hx hb dX12_enter_27 rfl (lv_at hl 2 rfl) ?_
          refine th_riL (va_runV (As := [.int a0, .int a1]) (rest := []) ⟨hx, hb, hml, hown, hts⟩ (q_isEnteredC l dC dI cT cf hC ad E H.size a0 a1 hI) (cwV 2 hts (gi_V (in_18 _ (List.mem_of_getElem? (i := 1) rfl)) (in_18 _ (List.mem_of_getElem? (i := 2) rfl)) (in_18 _ (List.mem_of_getElem? (i := 3) rfl)) (in_5 _ (List.mem_of_getElem? (i := 6) rfl)) (in_6 _ (List.mem_of_getElem? (i := 10) rfl))) rfl rfl rfl (by decide +kernel) ⟨Nat.le_of_ble_eq_true rfl, Nat.le_of_ble_eq_true rfl⟩) ⟨HWL_bl, va_recv hK hP (ci := 1) (q0 := posL 1 (LC cf)) rfl (hI.ob 1 (mF 1 rfl) rfl), (HWL_wi hP hK (WL_D hD) hS hA hEV)⟩ rfl rfl hl.1 rfl (lv_room (Nat.le_of_ble_eq_true rfl)) dX12_enter_28 ⟨Nat.le_of_ble_eq_true rfl, Nat.le_of_ble_eq_true rfl⟩) hS hP (fun r10 H locs hw hP hS => ?_)
          rcases hw with hw | hw
          · -- isEnteredC, case 0
            obtain ⟨rfl, f11, f12, f13⟩ := hw
            have i14 : 0 ≤ (xi (E 1) 0).toInt ∧ (xi (E 1) 0).toInt ≤ 400 := hI0.iv 1 (mF 1 rfl) rfl (Nat.le_of_ble_eq_true rfl) rfl
            refine lv_if_eq (tgt := 36) hx hb dX12_enter_31 (by decide) (fun c15 => ?_) (fun c15 => ?_)
            · --31 taken
              exact absurd c15 (by decide)
            · --31 not
              refine lv_iconst (v := 0) hx hb dX12_enter_34 (by decide) ?_
              rw [hQ]
              exact W.zret (v := 0) hx hb hr rfl (fun t ht hW => ⟨⟨0, E, rfl, ⟨hI, hKp, Or.inr (⟨rfl, by have h8 := ln_0; all_goals omega, rfl⟩)⟩, by show va_P (dC, dI) vwCl (WL (LC cf) ad E) t.heap; rw [ht]; exact hP⟩, hS.F ht⟩) hS.2.2 dX12_enter_35
          · -- isEnteredC, case 1
            obtain ⟨rfl, f16⟩ := hw
            have i17 : 0 ≤ (xi (E 1) 0).toInt ∧ (xi (E 1) 0).toInt ≤ 400 := hI0.iv 1 (mF 1 rfl) rfl (Nat.le_of_ble_eq_true rfl) rfl
            refine lv_if_eq (tgt := 36) hx hb dX12_enter_31 (by decide) (fun c18 => ?_) (fun c18 => ?_)
            · --31 taken
              refine lv_aload_n hx hb dX12_enter_36 rfl (lv_at hl 0 rfl) ?_
              refine th_getL (ci := 13) (C := RX12) (T := TX12) (N := 6) (v := .ref (ad 1)) hx hb hts hinX12 hown hK hP hI 0 (mF 0 rfl) rfl rfl 0 (Nat.le_of_ble_eq_true rfl) (hts _ (vA_in _ _ (in_10 _ (List.mem_of_getElem? (i := 17) rfl)))) (fun _ h9 => h9) (hI.fr 0 (mF 0 rfl) rfl (Nat.le_of_ble_eq_true rfl) 1 rfl) dX12_enter_37 ?_
              refine th_getL (ci := 1) (C := RX0) (T := TX0) (N := 11) (v := .ref (ad 9)) hx hb hts hinX0 hown hK hP hI 1 (mF 1 rfl) rfl rfl 5 (Nat.le_of_ble_eq_true rfl) (hts _ (vA_in _ _ (in_14 _ (List.mem_of_getElem? (i := 7) rfl)))) (fun _ h9 => h9) (hI.fr 1 (mF 1 rfl) rfl (Nat.le_of_ble_eq_true rfl) 9 rfl) dX12_enter_40 ?_
              refine lv_iload_n hx hb dX12_enter_43 rfl (lv_at hl 1 rfl) ?_
              refine th_rrL (va_runV (As := [.int a0]) (rest := []) ⟨hx, hb, hml, hown, hts⟩ (q_get2 l dC dI cT cf hC ad E H.size a0 hI (by omega)) (cwV 1 hts (gi_V (in_14 _ (List.mem_of_getElem? (i := 24) rfl)) (in_4 _ (List.mem_of_getElem? (i := 38) rfl)) (in_4 _ (List.mem_of_getElem? (i := 39) rfl)) (in_3 _ (List.mem_of_getElem? (i := 18) rfl)) (in_3 _ (List.mem_of_getElem? (i := 39) rfl))) rfl rfl rfl (by decide +kernel) ⟨Nat.le_of_ble_eq_true rfl, Nat.le_of_ble_eq_true rfl⟩) ⟨HWL_bl, va_recv hK hP (ci := 0) (q0 := posL 9 (LC cf)) rfl (hI.ob 9 (mF 9 rfl) rfl), (HWL_wi hP hK (WL_D hD) hS hA hEV)⟩ rfl rfl hl.1 rfl (lv_room (Nat.le_of_ble_eq_true rfl)) dX12_enter_44 ⟨Nat.le_of_ble_eq_true rfl, Nat.le_of_ble_eq_true rfl⟩) hS hP (fun r19 H locs hw hP hS => ?_)
              obtain rfl := hw
              have lv20 : a0.toNatClampNeg < cf 2 := by rw [tn_]; omega
              refine va_castS (cC := dC 6) hx hb hown (hts _ (vA_in _ _ (in_17 _ (List.mem_of_getElem? (i := 38) rfl)))) (hK.1 6 _ rfl).2 (va_recv hK hP (ci := 6) (q0 := posL (64 * (a0.toNatClampNeg + 1) + 6) (LC cf)) rfl (hI.ob (64 * (a0.toNatClampNeg + 1) + 6) (mP 6 a0.toNatClampNeg (by decide) lv20 (kl_le hC 2 (by decide))) (shC_p 6 a0.toNatClampNeg (by decide)))) dX12_enter_47 ?_
              refine th_getL (ci := 6) (C := RX5) (T := TX5) (N := 12) (v := .ref (ad (64 * (a0.toNatClampNeg + 1) + 7))) hx hb hts hinX5 hown hK hP hI (64 * (a0.toNatClampNeg + 1) + 6) (mP 6 a0.toNatClampNeg (by decide) lv20 (kl_le hC 2 (by decide))) (shC_p 6 a0.toNatClampNeg (by decide)) rfl 7 (Nat.le_of_ble_eq_true rfl) (hts _ (vA_in _ _ (in_17 _ (List.mem_of_getElem? (i := 39) rfl)))) (fun _ h9 => h9) (hI.fr (64 * (a0.toNatClampNeg + 1) + 6) (mP 6 a0.toNatClampNeg (by decide) lv20 (kl_le hC 2 (by decide))) (shC_p 6 a0.toNatClampNeg (by decide)) (Nat.le_of_ble_eq_true rfl) (64 * (a0.toNatClampNeg + 1) + 7) (spC_p 6 a0.toNatClampNeg (by decide) 7)) dX12_enter_50 ?_
              refine lv_iload_n hx hb dX12_enter_53 rfl (lv_at hl 2 rfl) ?_
              refine lv_aload_n hx hb dX12_enter_54 rfl (lv_at hl 0 rfl) ?_
              refine th_getL (ci := 13) (C := RX12) (T := TX12) (N := 6) (v := .ref (ad 1)) hx hb hts hinX12 hown hK hP hI 0 (mF 0 rfl) rfl rfl 0 (Nat.le_of_ble_eq_true rfl) (hts _ (vA_in _ _ (in_10 _ (List.mem_of_getElem? (i := 17) rfl)))) (fun _ h9 => h9) (hI.fr 0 (mF 0 rfl) rfl (Nat.le_of_ble_eq_true rfl) 1 rfl) dX12_enter_55 ?_
              refine th_getL (ci := 1) (C := RX0) (T := TX0) (N := 11) (v := .int (xi (E 1) 0)) hx hb hts hinX0 hown hK hP hI 1 (mF 1 rfl) rfl rfl 0 (Nat.le_of_ble_eq_true rfl) (hts _ (vA_in _ _ (in_10 _ (List.mem_of_getElem? (i := 26) rfl)))) (fun _ h9 => h9) (th_v0L hKp hI0 1 (mF 1 rfl) rfl (Nat.le_of_ble_eq_true rfl) rfl rfl) dX12_enter_58 ?_
              have n21 : vp_in a1 16 := (iv_in (n := 16) f7 (by decide))
              refine th_iastL hx hb hK hP (WL_D hD) hS hI (64 * (a0.toNatClampNeg + 1) + 7) (mP 7 a0.toNatClampNeg (by decide) lv20 (kl_le hC 2 (by decide))) (shC_p 7 a0.toNatClampNeg (by decide)) rfl n21 (okI (spC_p 7 a0.toNatClampNeg (by decide) _) (iv_w i17 (by decide))) dX12_enter_61 (fun H locs E22 pw23 hI hP hS => ?_)
              have hKp := hKp.pw pw23 (by simp [wl])
              refine lv_iconst (v := 1) hx hb dX12_enter_62 (by decide) ?_
              rw [hQ]
              exact W.zret (v := 1) hx hb hr rfl (fun t ht hW => ⟨⟨1, E22, rfl, ⟨hI, hKp, Or.inl ⟨rfl, by have h8 := ln_1; all_goals omega, pw23.eu⟩⟩, by show va_P (dC, dI) vwCl (WL (LC cf) ad E22) t.heap; rw [ht]; exact hP⟩, hS.F ht⟩) hS.2.2 dX12_enter_63
            · --31 not
              exact absurd c18 (by decide)
      · -- isBoatC, case 1
        obtain ⟨rfl, f24⟩ := hw
        have i25 : 0 ≤ (xi (E 1) 1).toInt ∧ (xi (E 1) 1).toInt ≤ 16 := hI0.iv 1 (mF 1 rfl) rfl (Nat.le_of_ble_eq_true rfl) rfl
        refine lv_if_eq (tgt := 34) hx hb dX12_enter_19 (by decide) (fun c26 => ?_) (fun c26 => ?_)
        · --19 taken
          refine lv_iconst (v := 0) hx hb dX12_enter_34 (by decide) ?_
          rw [hQ]
          exact W.zret (v := 0) hx hb hr rfl (fun t ht hW => ⟨⟨0, E, rfl, ⟨hI, hKp, Or.inr (⟨rfl, by have h8 := ln_0; all_goals omega, rfl⟩)⟩, by show va_P (dC, dI) vwCl (WL (LC cf) ad E) t.heap; rw [ht]; exact hP⟩, hS.F ht⟩) hS.2.2 dX12_enter_35
        · --19 not
          exact absurd c26 (by decide)
  · -- isRaceC, case 1
    obtain ⟨rfl, f27⟩ := hw
    refine lv_if_eq (tgt := 34) hx hb dX12_enter_8 (by decide) (fun c28 => ?_) (fun c28 => ?_)
    · --8 taken
      refine lv_iconst (v := 0) hx hb dX12_enter_34 (by decide) ?_
      rw [hQ]
      exact W.zret (v := 0) hx hb hr rfl (fun t ht hW => ⟨⟨0, E, rfl, ⟨hI, hKp, Or.inr (⟨rfl, by have h8 := ln_0; all_goals omega, rfl⟩)⟩, by show va_P (dC, dI) vwCl (WL (LC cf) ad E) t.heap; rw [ht]; exact hP⟩, hS.F ht⟩) hS.2.2 dX12_enter_35
    · --8 not
      exact absurd c28 (by decide)
def v_u_startX : List Cond := .code yX12_start cX12_start 6 (some .boolean) :: vA
abbrev rm_u_startX : Room := { frames := 4, cells := 0, slots := 0, locals := 160 }
set_option maxHeartbeats 4000000 in
set_option maxRecDepth 100000 in
theorem q_u_startX (l : Launch) (dC : Nat → ClassId) (dI : Nat → Nat → Nat) (cT : Nat → ClassId) (cf : Nat → Nat) (hC : CF cf) (ad : Nat → Nat) (E : Nat → va_E) (sz : Nat) (a0 : Int32) (a1 : Int32) (a2 : Int32) (a3 : Int32) (hI0 : IXL cT (shC cf) (spC cf) (LC cf) ad E)  : Met l yX12_start v_u_startX rm_u_startX (va_Pc [.ref (ad 0), .int a0, .int a1, .int a2, .int a3] (HWL dC dI (TYC cT) cf ad E sz)) (va_Qi (S := Nat → va_E) (fun r u => IXL cT (shC cf) (spC cf) (LC cf) ad u ∧ Kp (wl [64 * (a0.toNatClampNeg + 1) + 10, 64 * (a0.toNatClampNeg + 1) + 9] []) E u ∧ ((((((0 ≤ a0.toInt ∧ a0.toInt < ((cf 2 : Nat) : Int)) ∧ (0 ≤ a1.toInt ∧ a1.toInt < (xi (E 1) 1).toInt) ∧ (¬ (xi (E (64 * (a0.toNatClampNeg + 1) + 7)) a1.toNatClampNeg).toInt = -1 ∧ (xi (E (64 * (a0.toNatClampNeg + 1) + 7)) a1.toNatClampNeg).toInt ≤ (xi (E 1) 0).toInt) ∧ (0 ≤ a2.toInt ∧ a2.toInt ≤ 9) ∧ (0 ≤ a3.toInt ∧ a3.toInt ≤ 600)) → (r.toInt = 1)) ∧ (¬ ((0 ≤ a0.toInt ∧ a0.toInt < ((cf 2 : Nat) : Int)) ∧ (0 ≤ a1.toInt ∧ a1.toInt < (xi (E 1) 1).toInt) ∧ (¬ (xi (E (64 * (a0.toNatClampNeg + 1) + 7)) a1.toNatClampNeg).toInt = -1 ∧ (xi (E (64 * (a0.toNatClampNeg + 1) + 7)) a1.toNatClampNeg).toInt ≤ (xi (E 1) 0).toInt) ∧ (0 ≤ a2.toInt ∧ a2.toInt ≤ 9) ∧ (0 ≤ a3.toInt ∧ a3.toInt ≤ 600)) → (r.toInt = 0)))))) (HBL dC dI (LC cf) ad) (va_A (WL (LC cf) ad E) sz)) 0 0 (va_A (WL (LC cf) ad E) sz) := by
  obtain ⟨⟨hc0, hc1, hc2, hc3, hc4, hc5⟩, hcr⟩ := id hC
  refine Met.ofW (cc := cX12_start) (maxL := 6) (ret := (some .boolean)) (by decide) rfl ?_
  intro p e s m args below meth c s₁ B hml hv
  obtain ⟨hargs, hsz, hP, hK, hD0, hEV⟩ := hv
  subst hsz
  have hx := B.exec
  have hb := B.bytes
  have hr := B.returns
  have hts := atoms_spec (ws := v_u_startX) B.pre
  have hown : s.vm.findClass RX12 = some m.cls := findClass_of_methodNamed B.named
  have hlocks := B.notSynchronized
  have hinX0 : ∀ w ∈ u_ws RX0 TX0 11, w ∈ v_u_startX := fun w h => vA_in _ w (in_X0 w h)
  have hinX12 : ∀ w ∈ u_ws RX12 TX12 6, w ∈ v_u_startX := fun w h => vA_in _ w (in_X12 w h)
  have hinX5 : ∀ w ∈ u_ws RX5 TX5 12, w ∈ v_u_startX := fun w h => vA_in _ w (in_X5 w h)
  generalize hAe : va_A (WL (LC cf) ad E) s.heap.size = A at hEV ⊢
  have hA : ∀ q : Nat, s.heap.size ≤ q → A q := fun q h => by rw [← hAe]; exact Or.inr h
  have hD : va_D A (WL (LC cf) ad E) := by rw [← hAe]; exact hD0.self
  have hS : va_S A s.heap s.heap [] := va_S.rf
  have hI := hI0
  have hKp : Kp (wl [64 * (a0.toNatClampNeg + 1) + 10, 64 * (a0.toNatClampNeg + 1) + 9] []) E E := Kp.rf
  have hl := lv_entry ([.ref (ad 0), .int a0, .int a1, .int a2, .int a3]) (n := 6) (Nat.le_of_ble_eq_true rfl)
  obtain ⟨Q, hQ⟩ : ∃ Q, Q = MQ below (va_Qi (S := Nat → va_E) (fun r u => IXL cT (shC cf) (spC cf) (LC cf) ad u ∧ Kp (wl [64 * (a0.toNatClampNeg + 1) + 10, 64 * (a0.toNatClampNeg + 1) + 9] []) E u ∧ ((((((0 ≤ a0.toInt ∧ a0.toInt < ((cf 2 : Nat) : Int)) ∧ (0 ≤ a1.toInt ∧ a1.toInt < (xi (E 1) 1).toInt) ∧ (¬ (xi (E (64 * (a0.toNatClampNeg + 1) + 7)) a1.toNatClampNeg).toInt = -1 ∧ (xi (E (64 * (a0.toNatClampNeg + 1) + 7)) a1.toNatClampNeg).toInt ≤ (xi (E 1) 0).toInt) ∧ (0 ≤ a2.toInt ∧ a2.toInt ≤ 9) ∧ (0 ≤ a3.toInt ∧ a3.toInt ≤ 600)) → (r.toInt = 1)) ∧ (¬ ((0 ≤ a0.toInt ∧ a0.toInt < ((cf 2 : Nat) : Int)) ∧ (0 ≤ a1.toInt ∧ a1.toInt < (xi (E 1) 1).toInt) ∧ (¬ (xi (E (64 * (a0.toNatClampNeg + 1) + 7)) a1.toNatClampNeg).toInt = -1 ∧ (xi (E (64 * (a0.toNatClampNeg + 1) + 7)) a1.toNatClampNeg).toInt ≤ (xi (E 1) 0).toInt) ∧ (0 ≤ a2.toInt ∧ a2.toInt ≤ 9) ∧ (0 ≤ a3.toInt ∧ a3.toInt ≤ 600)) → (r.toInt = 0)))))) (HBL dC dI (LC cf) ad) (A)) args s 0 0 (A) := ⟨_, rfl⟩
  rw [← hQ, show entryFrame m args 6 = _ from (congrArg (fun z => entryFrame m z 6) hargs).trans (lg_entry_eq _ _ _)]
  generalize (lg_sl ([.ref (ad 0), .int a0, .int a1, .int a2, .int a3]) ++ List.replicate (6 - (lg_sl ([.ref (ad 0), .int a0, .int a1, .int a2, .int a3])).length) Slot.unset).toArray = ls at hl ⊢
  have hl : lv_has ls 6 [(0, .ref (ad 0)), (1, .int a0), (2, .int a1), (3, .int a2), (4, .int a3)] := hl
  refine lv_aload_n hx hb dX12_start_0 rfl (lv_at hl 0 rfl) ?_
  refine th_getL (ci := 13) (C := RX12) (T := TX12) (N := 6) (v := .ref (ad 1)) hx hb hts hinX12 hown hK hP hI 0 (mF 0 rfl) rfl rfl 0 (Nat.le_of_ble_eq_true rfl) (hts _ (vA_in _ _ (in_10 _ (List.mem_of_getElem? (i := 17) rfl)))) (fun _ h9 => h9) (hI.fr 0 (mF 0 rfl) rfl (Nat.le_of_ble_eq_true rfl) 1 rfl) dX12_start_1 ?_
  refine lv_iload_n hx hb dX12_start_4 rfl (lv_at hl 1 rfl) ?_
  refine lv_iload_n hx hb dX12_start_5 rfl (lv_at hl 2 rfl) ?_
  refine th_riL (va_runV (As := [.int a0, .int a1]) (rest := []) ⟨hx, hb, hml, hown, hts⟩ (q_isEnteredC l dC dI cT cf hC ad E s.heap.size a0 a1 hI) (cwV 2 hts (gi_V (in_18 _ (List.mem_of_getElem? (i := 1) rfl)) (in_18 _ (List.mem_of_getElem? (i := 2) rfl)) (in_18 _ (List.mem_of_getElem? (i := 3) rfl)) (in_5 _ (List.mem_of_getElem? (i := 6) rfl)) (in_6 _ (List.mem_of_getElem? (i := 10) rfl))) rfl rfl rfl (by decide +kernel) ⟨Nat.le_of_ble_eq_true rfl, Nat.le_of_ble_eq_true rfl⟩) ⟨HWL_bl, va_recv hK hP (ci := 1) (q0 := posL 1 (LC cf)) rfl (hI.ob 1 (mF 1 rfl) rfl), (HWL_wi hP hK (WL_D hD) hS hA hEV)⟩ rfl rfl hl.1 rfl (lv_room (Nat.le_of_ble_eq_true rfl)) dX12_start_6 ⟨Nat.le_of_ble_eq_true rfl, Nat.le_of_ble_eq_true rfl⟩) hS hP (fun r1 H locs hw hP hS => ?_)
  rcases hw with hw | hw
  · -- isEnteredC, case 0
    obtain ⟨rfl, f2, f3, f4⟩ := hw
    have i5 : 0 ≤ (xi (E 1) 1).toInt ∧ (xi (E 1) 1).toInt ≤ 16 := hI0.iv 1 (mF 1 rfl) rfl (Nat.le_of_ble_eq_true rfl) rfl
    have i6 : 0 ≤ (xi (E 1) 0).toInt ∧ (xi (E 1) 0).toInt ≤ 400 := hI0.iv 1 (mF 1 rfl) rfl (Nat.le_of_ble_eq_true rfl) rfl
    refine lv_if_eq (tgt := 34) hx hb dX12_start_9 (by decide) (fun c7 => ?_) (fun c7 => ?_)
    · --9 taken
      exact absurd c7 (by decide)
    · --9 not
      refine lv_iload_n hx hb dX12_start_12 rfl (lv_at hl 3 rfl) ?_
      refine lv_iconst (v := 0) hx hb dX12_start_13 (by decide) ?_
      refine lv_bipush (v := 9) hx hb dX12_start_14 (by decide) ?_
      refine th_pi (va_runS (As := [.int a2, .int 0, .int 9]) (rest := []) ⟨hx, hb, hml, hown, hts⟩ (q_cwithin l a2 (0 : Int32) (9 : Int32)) (va_cwS 3 hts (gi_S (in_10 _ (List.mem_of_getElem? (i := 31) rfl)) (in_4 _ (List.mem_of_getElem? (i := 22) rfl)) (in_4 _ (List.mem_of_getElem? (i := 23) rfl)) (in_4 _ (List.mem_of_getElem? (i := 24) rfl))) rfl rfl rfl (by decide +kernel) ⟨Nat.le_of_ble_eq_true rfl, Nat.le_of_ble_eq_true rfl⟩) ⟨fun _ _ _ _ q => q, fun _ _ _ => ⟨rfl, trivial⟩⟩ rfl rfl hl.1 rfl (lv_room (Nat.le_of_ble_eq_true rfl)) dX12_start_16 ⟨Nat.le_of_ble_eq_true rfl, Nat.le_of_ble_eq_true rfl⟩) hS (fun r8 H1 locs1 hw hk1 hS => ?_)
      have hP := ub_keep hP hk1
      generalize H1 = H at hP hS ⊢
      generalize locs1 = locs at hS ⊢
      rcases hw with hw | hw
      · -- cwithin, case 0
        obtain ⟨rfl, f9⟩ := hw
        have t10 : (0 : Int) ≤ a2.toInt := f9.1
        have t11 : a2.toInt ≤ 9 := f9.2
        have i12 : 0 ≤ a2.toInt ∧ a2.toInt ≤ 2147483647 := iv_le_r t10 (il_ 0) (iv_all _) (by decide)
        have i13 : 0 ≤ a2.toInt ∧ a2.toInt ≤ 9 := iv_le_l t11 i12 (il_ 9) (by decide)
        refine lv_if_eq (tgt := 34) hx hb dX12_start_19 (by decide) (fun c14 => ?_) (fun c14 => ?_)
        · --19 taken
          exact absurd c14 (by decide)
        · --19 not
          refine lv_iload hx hb dX12_start_22 (lv_at hl 4 rfl) ?_
          refine lv_iconst (v := 0) hx hb dX12_start_24 (by decide) ?_
          refine lv_sipush (v := 600) hx hb dX12_start_25 (by decide) ?_
          refine th_pi (va_runS (As := [.int a3, .int 0, .int 600]) (rest := []) ⟨hx, hb, hml, hown, hts⟩ (q_cwithin l a3 (0 : Int32) (600 : Int32)) (va_cwS 3 hts (gi_S (in_10 _ (List.mem_of_getElem? (i := 31) rfl)) (in_4 _ (List.mem_of_getElem? (i := 22) rfl)) (in_4 _ (List.mem_of_getElem? (i := 23) rfl)) (in_4 _ (List.mem_of_getElem? (i := 24) rfl))) rfl rfl rfl (by decide +kernel) ⟨Nat.le_of_ble_eq_true rfl, Nat.le_of_ble_eq_true rfl⟩) ⟨fun _ _ _ _ q => q, fun _ _ _ => ⟨rfl, trivial⟩⟩ rfl rfl hl.1 rfl (lv_room (Nat.le_of_ble_eq_true rfl)) dX12_start_28 ⟨Nat.le_of_ble_eq_true rfl, Nat.le_of_ble_eq_true rfl⟩) hS (fun r15 H1 locs1 hw hk1 hS => ?_)
          have hP := ub_keep hP hk1
          generalize H1 = H at hP hS ⊢
          generalize locs1 = locs at hS ⊢
          rcases hw with hw | hw
          · -- cwithin, case 0
            obtain ⟨rfl, f16⟩ := hw
            have t17 : (0 : Int) ≤ a3.toInt := f16.1
            have t18 : a3.toInt ≤ 600 := f16.2
            have i19 : 0 ≤ a3.toInt ∧ a3.toInt ≤ 2147483647 := iv_le_r t17 (il_ 0) (iv_all _) (by decide)
            have i20 : 0 ≤ a3.toInt ∧ a3.toInt ≤ 600 := iv_le_l t18 i19 (il_ 600) (by decide)
            refine lv_if_ne (tgt := 36) hx hb dX12_start_31 (by decide) (fun c21 => ?_) (fun c21 => ?_)
            · --31 taken
              refine lv_aload_n hx hb dX12_start_36 rfl (lv_at hl 0 rfl) ?_
              refine th_getL (ci := 13) (C := RX12) (T := TX12) (N := 6) (v := .ref (ad 1)) hx hb hts hinX12 hown hK hP hI 0 (mF 0 rfl) rfl rfl 0 (Nat.le_of_ble_eq_true rfl) (hts _ (vA_in _ _ (in_10 _ (List.mem_of_getElem? (i := 17) rfl)))) (fun _ h9 => h9) (hI.fr 0 (mF 0 rfl) rfl (Nat.le_of_ble_eq_true rfl) 1 rfl) dX12_start_37 ?_
              refine th_getL (ci := 1) (C := RX0) (T := TX0) (N := 11) (v := .ref (ad 9)) hx hb hts hinX0 hown hK hP hI 1 (mF 1 rfl) rfl rfl 5 (Nat.le_of_ble_eq_true rfl) (hts _ (vA_in _ _ (in_14 _ (List.mem_of_getElem? (i := 7) rfl)))) (fun _ h9 => h9) (hI.fr 1 (mF 1 rfl) rfl (Nat.le_of_ble_eq_true rfl) 9 rfl) dX12_start_40 ?_
              refine lv_iload_n hx hb dX12_start_43 rfl (lv_at hl 1 rfl) ?_
              refine th_rrL (va_runV (As := [.int a0]) (rest := []) ⟨hx, hb, hml, hown, hts⟩ (q_get2 l dC dI cT cf hC ad E H.size a0 hI (by omega)) (cwV 1 hts (gi_V (in_14 _ (List.mem_of_getElem? (i := 24) rfl)) (in_4 _ (List.mem_of_getElem? (i := 38) rfl)) (in_4 _ (List.mem_of_getElem? (i := 39) rfl)) (in_3 _ (List.mem_of_getElem? (i := 18) rfl)) (in_3 _ (List.mem_of_getElem? (i := 39) rfl))) rfl rfl rfl (by decide +kernel) ⟨Nat.le_of_ble_eq_true rfl, Nat.le_of_ble_eq_true rfl⟩) ⟨HWL_bl, va_recv hK hP (ci := 0) (q0 := posL 9 (LC cf)) rfl (hI.ob 9 (mF 9 rfl) rfl), (HWL_wi hP hK (WL_D hD) hS hA hEV)⟩ rfl rfl hl.1 rfl (lv_room (Nat.le_of_ble_eq_true rfl)) dX12_start_44 ⟨Nat.le_of_ble_eq_true rfl, Nat.le_of_ble_eq_true rfl⟩) hS hP (fun r22 H locs hw hP hS => ?_)
              obtain rfl := hw
              have lv23 : a0.toNatClampNeg < cf 2 := by rw [tn_]; omega
              refine va_castS (cC := dC 6) hx hb hown (hts _ (vA_in _ _ (in_17 _ (List.mem_of_getElem? (i := 38) rfl)))) (hK.1 6 _ rfl).2 (va_recv hK hP (ci := 6) (q0 := posL (64 * (a0.toNatClampNeg + 1) + 6) (LC cf)) rfl (hI.ob (64 * (a0.toNatClampNeg + 1) + 6) (mP 6 a0.toNatClampNeg (by decide) lv23 (kl_le hC 2 (by decide))) (shC_p 6 a0.toNatClampNeg (by decide)))) dX12_start_47 ?_
              refine lv_astore (lv' := [(5, .ref (ad (64 * (a0.toNatClampNeg + 1) + 6))), (0, .ref (ad 0)), (1, .int a0), (2, .int a1), (3, .int a2), (4, .int a3)]) hx hb dX12_start_50 hl (by decide) rfl (fun ls hl => ?_)
              refine lv_aload hx hb dX12_start_52 (lv_at hl 0 rfl) ?_
              refine th_getL (ci := 6) (C := RX5) (T := TX5) (N := 12) (v := .ref (ad (64 * (a0.toNatClampNeg + 1) + 9))) hx hb hts hinX5 hown hK hP hI (64 * (a0.toNatClampNeg + 1) + 6) (mP 6 a0.toNatClampNeg (by decide) lv23 (kl_le hC 2 (by decide))) (shC_p 6 a0.toNatClampNeg (by decide)) rfl 9 (Nat.le_of_ble_eq_true rfl) (hts _ (vA_in _ _ (in_23 _ (List.mem_of_getElem? (i := 0) rfl)))) (fun _ h9 => h9) (hI.fr (64 * (a0.toNatClampNeg + 1) + 6) (mP 6 a0.toNatClampNeg (by decide) lv23 (kl_le hC 2 (by decide))) (shC_p 6 a0.toNatClampNeg (by decide)) (Nat.le_of_ble_eq_true rfl) (64 * (a0.toNatClampNeg + 1) + 9) (spC_p 6 a0.toNatClampNeg (by decide) 9)) dX12_start_54 ?_
              refine lv_iload_n hx hb dX12_start_57 rfl (lv_at hl 3 rfl) ?_
              refine lv_iload_n hx hb dX12_start_58 rfl (lv_at hl 4 rfl) ?_
              have n24 : vp_in a1 16 := (iv_in (n := 16) f4 (by decide))
              refine th_iastL hx hb hK hP (WL_D hD) hS hI (64 * (a0.toNatClampNeg + 1) + 9) (mP 9 a0.toNatClampNeg (by decide) lv23 (kl_le hC 2 (by decide))) (shC_p 9 a0.toNatClampNeg (by decide)) rfl n24 (okI (spC_p 9 a0.toNatClampNeg (by decide) _) (iv_w i13 (by decide))) dX12_start_59 (fun H locs E25 pw26 hI hP hS => ?_)
              have hKp := hKp.pw pw26 (by simp [wl])
              refine lv_aload hx hb dX12_start_60 (lv_at hl 0 rfl) ?_
              refine th_getL (ci := 6) (C := RX5) (T := TX5) (N := 12) (v := .ref (ad (64 * (a0.toNatClampNeg + 1) + 10))) hx hb hts hinX5 hown hK hP hI (64 * (a0.toNatClampNeg + 1) + 6) (mP 6 a0.toNatClampNeg (by decide) lv23 (kl_le hC 2 (by decide))) (shC_p 6 a0.toNatClampNeg (by decide)) rfl 10 (Nat.le_of_ble_eq_true rfl) (hts _ (vA_in _ _ (in_23 _ (List.mem_of_getElem? (i := 1) rfl)))) (fun _ h9 => h9) (hI.fr (64 * (a0.toNatClampNeg + 1) + 6) (mP 6 a0.toNatClampNeg (by decide) lv23 (kl_le hC 2 (by decide))) (shC_p 6 a0.toNatClampNeg (by decide)) (Nat.le_of_ble_eq_true rfl) (64 * (a0.toNatClampNeg + 1) + 10) (spC_p 6 a0.toNatClampNeg (by decide) 10)) dX12_start_62 ?_
              refine lv_iload_n hx hb dX12_start_65 rfl (lv_at hl 3 rfl) ?_
              refine lv_iload hx hb dX12_start_66 (lv_at hl 5 rfl) ?_
              have n27 : vp_in a1 16 := (iv_in (n := 16) f4 (by decide))
              refine th_iastL hx hb hK hP (WL_D hD) hS hI (64 * (a0.toNatClampNeg + 1) + 10) (mP 10 a0.toNatClampNeg (by decide) lv23 (kl_le hC 2 (by decide))) (shC_p 10 a0.toNatClampNeg (by decide)) rfl n27 (okI (spC_p 10 a0.toNatClampNeg (by decide) _) i20) dX12_start_68 (fun H locs E28 pw29 hI hP hS => ?_)
              have hKp := hKp.pw pw29 (by simp [wl])
              refine lv_iconst (v := 1) hx hb dX12_start_69 (by decide) ?_
              rw [hQ]
              exact W.zret (v := 1) hx hb hr rfl (fun t ht hW => ⟨⟨1, E28, rfl, ⟨hI, hKp, (by have h8 := ln_1; all_goals omega)⟩, by show va_P (dC, dI) vwCl (WL (LC cf) ad E28) t.heap; rw [ht]; exact hP⟩, hS.F ht⟩) hS.2.2 dX12_start_70
            · --31 not
              exact absurd c21 (by decide)
          · -- cwithin, case 1
            obtain ⟨rfl, f30⟩ := hw
            have t31 : ¬ ((0 : Int) ≤ a3.toInt ∧ a3.toInt ≤ 600) := f30
            refine lv_if_ne (tgt := 36) hx hb dX12_start_31 (by decide) (fun c32 => ?_) (fun c32 => ?_)
            · --31 taken
              exact absurd c32 (by decide)
            · --31 not
              refine lv_iconst (v := 0) hx hb dX12_start_34 (by decide) ?_
              rw [hQ]
              exact W.zret (v := 0) hx hb hr rfl (fun t ht hW => ⟨⟨0, E, rfl, ⟨hI, hKp, (by have h8 := ln_0; all_goals omega)⟩, by show va_P (dC, dI) vwCl (WL (LC cf) ad E) t.heap; rw [ht]; exact hP⟩, hS.F ht⟩) hS.2.2 dX12_start_35
      · -- cwithin, case 1
        obtain ⟨rfl, f33⟩ := hw
        have t34 : ¬ ((0 : Int) ≤ a2.toInt ∧ a2.toInt ≤ 9) := f33
        refine lv_if_eq (tgt := 34) hx hb dX12_start_19 (by decide) (fun c35 => ?_) (fun c35 => ?_)
        · --19 taken
          refine lv_iconst (v := 0) hx hb dX12_start_34 (by decide) ?_
          rw [hQ]
          exact W.zret (v := 0) hx hb hr rfl (fun t ht hW => ⟨⟨0, E, rfl, ⟨hI, hKp, (by have h8 := ln_0; all_goals omega)⟩, by show va_P (dC, dI) vwCl (WL (LC cf) ad E) t.heap; rw [ht]; exact hP⟩, hS.F ht⟩) hS.2.2 dX12_start_35
        · --19 not
          exact absurd c35 (by decide)
  · -- isEnteredC, case 1
    obtain ⟨rfl, f36⟩ := hw
    have i37 : 0 ≤ (xi (E 1) 1).toInt ∧ (xi (E 1) 1).toInt ≤ 16 := hI0.iv 1 (mF 1 rfl) rfl (Nat.le_of_ble_eq_true rfl) rfl
    have i38 : 0 ≤ (xi (E 1) 0).toInt ∧ (xi (E 1) 0).toInt ≤ 400 := hI0.iv 1 (mF 1 rfl) rfl (Nat.le_of_ble_eq_true rfl) rfl
    refine lv_if_eq (tgt := 34) hx hb dX12_start_9 (by decide) (fun c39 => ?_) (fun c39 => ?_)
    · --9 taken
      refine lv_iconst (v := 0) hx hb dX12_start_34 (by decide) ?_
      rw [hQ]
      exact W.zret (v := 0) hx hb hr rfl (fun t ht hW => ⟨⟨0, E, rfl, ⟨hI, hKp, (by have h8 := ln_0; all_goals omega)⟩, by show va_P (dC, dI) vwCl (WL (LC cf) ad E) t.heap; rw [ht]; exact hP⟩, hS.F ht⟩) hS.2.2 dX12_start_35
    · --9 not
      exact absurd c39 (by decide)
