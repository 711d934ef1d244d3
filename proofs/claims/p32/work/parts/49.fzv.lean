set_option maxRecDepth 100000 in
theorem zh_dX13_middle_0_0 : zc cX13_middle 0 [42, 3, 181, 0, 228, 42, 27, 182, 1, 137, 153, 0, 20, 42, 28, 182] = true := by decide +kernel
set_option maxRecDepth 100000 in
theorem zh_dX13_middle_15_16 : zc cX13_middle 16 [0, 245, 153, 0, 12, 42, 27, 28, 182, 2, 16, 167, 0, 6, 19, 1] = true := by decide +kernel
set_option maxRecDepth 100000 in
theorem zh_dX13_middle_30_32 : zc cX13_middle 32 [175, 172] = true := by decide +kernel
theorem dX13_middle_0 : decode cX13_middle 0 = .ok (.aload_n 0, 1) := zo_42 (zi_at zh_dX13_middle_0_0 0 rfl)
theorem dX13_middle_1 : decode cX13_middle 1 = .ok (.iconst 0, 1) := zo_3 (zi_at zh_dX13_middle_0_0 1 rfl)
theorem dX13_middle_2 : decode cX13_middle 2 = .ok (.putfield 228, 3) := zo_181 (zi_at zh_dX13_middle_0_0 2 rfl) (zi_at zh_dX13_middle_0_0 3 rfl) (zi_at zh_dX13_middle_0_0 4 rfl) rfl
theorem dX13_middle_5 : decode cX13_middle 5 = .ok (.aload_n 0, 1) := zo_42 (zi_at zh_dX13_middle_0_0 5 rfl)
theorem dX13_middle_6 : decode cX13_middle 6 = .ok (.iload_n 1, 1) := zo_27 (zi_at zh_dX13_middle_0_0 6 rfl)
theorem dX13_middle_7 : decode cX13_middle 7 = .ok (.invokevirtual 393, 3) := zo_182 (zi_at zh_dX13_middle_0_0 7 rfl) (zi_at zh_dX13_middle_0_0 8 rfl) (zi_at zh_dX13_middle_0_0 9 rfl) rfl
theorem dX13_middle_10 : decode cX13_middle 10 = .ok (.ifCond .eq 20, 3) := zo_153 (zi_at zh_dX13_middle_0_0 10 rfl) (zi_at zh_dX13_middle_0_0 11 rfl) (zi_at zh_dX13_middle_0_0 12 rfl) rfl
theorem dX13_middle_13 : decode cX13_middle 13 = .ok (.aload_n 0, 1) := zo_42 (zi_at zh_dX13_middle_0_0 13 rfl)
theorem dX13_middle_14 : decode cX13_middle 14 = .ok (.iload_n 2, 1) := zo_28 (zi_at zh_dX13_middle_0_0 14 rfl)
theorem dX13_middle_15 : decode cX13_middle 15 = .ok (.invokevirtual 245, 3) := zo_182 (zi_at zh_dX13_middle_0_0 15 rfl) (zi_at zh_dX13_middle_15_16 0 rfl) (zi_at zh_dX13_middle_15_16 1 rfl) rfl
theorem dX13_middle_18 : decode cX13_middle 18 = .ok (.ifCond .eq 12, 3) := zo_153 (zi_at zh_dX13_middle_15_16 2 rfl) (zi_at zh_dX13_middle_15_16 3 rfl) (zi_at zh_dX13_middle_15_16 4 rfl) rfl
theorem dX13_middle_21 : decode cX13_middle 21 = .ok (.aload_n 0, 1) := zo_42 (zi_at zh_dX13_middle_15_16 5 rfl)
theorem dX13_middle_22 : decode cX13_middle 22 = .ok (.iload_n 1, 1) := zo_27 (zi_at zh_dX13_middle_15_16 6 rfl)
theorem dX13_middle_23 : decode cX13_middle 23 = .ok (.iload_n 2, 1) := zo_28 (zi_at zh_dX13_middle_15_16 7 rfl)
theorem dX13_middle_24 : decode cX13_middle 24 = .ok (.invokevirtual 528, 3) := zo_182 (zi_at zh_dX13_middle_15_16 8 rfl) (zi_at zh_dX13_middle_15_16 9 rfl) (zi_at zh_dX13_middle_15_16 10 rfl) rfl
theorem dX13_middle_27 : decode cX13_middle 27 = .ok (.goto 6, 3) := zo_167 (zi_at zh_dX13_middle_15_16 11 rfl) (zi_at zh_dX13_middle_15_16 12 rfl) (zi_at zh_dX13_middle_15_16 13 rfl) rfl
theorem dX13_middle_30 : decode cX13_middle 30 = .ok (.ldc_w 431, 3) := zo_19 (zi_at zh_dX13_middle_15_16 14 rfl) (zi_at zh_dX13_middle_15_16 15 rfl) (zi_at zh_dX13_middle_30_32 0 rfl) rfl
theorem dX13_middle_33 : decode cX13_middle 33 = .ok (.ireturn, 1) := zo_172 (zi_at zh_dX13_middle_30_32 1 rfl)

def v_middleOfM : List Cond := .code yX13_middleOf cX13_middleOf 7 (some .int) :: vA
abbrev rm_middleOfM : Room := { frames := 73, cells := 0, slots := 0, locals := 2920 }
def w_middleOfM : Nat → Nat → Bool := wl [12, 66] [(0, 18), (0, 19), (0, 20), (0, 21), (0, 22), (0, 23), (0, 24), (0, 25), (0, 26)]
set_option maxHeartbeats 4000000 in
set_option maxRecDepth 100000 in
theorem q_middleOfM (l : Launch) (dC : Nat → ClassId) (dI : Nat → Nat → Nat) (cT : Nat → ClassId) (ad : Nat → Nat) (E : Nat → va_E) (sz : Nat) (a0 : Int32) (a1 : Int32) (hI0 : IX cT shM spM 72 ad E) (hh0 : 0 ≤ a0.toInt ∧ a0.toInt ≤ 19) (hh1 : 0 ≤ a1.toInt ∧ a1.toInt ≤ 15) (hh2 : TXM E) : Met l yX13_middleOf v_middleOfM rm_middleOfM (va_Pc [.ref (ad 0), .int a0, .int a1] (HW dC dI (TYM cT) 72 ad E sz)) (va_Qi (S := Nat → va_E) (fun r u => IX cT shM spM 72 ad u ∧ Kp w_middleOfM E u ∧ ((MdV (fun o9 => CdM E a0 (nI o9) (xi (E 0) 1) 0) (tmM E a0 (xi (E 0) 1)) (xi (E 0) 8).toNatClampNeg a1.toNatClampNeg ((xi (E 15) a0.toNatClampNeg).toInt = 0 ∧ CdM E a0 a1 (xi (E 0) 1) 0) r))) (HB dC dI 72 ad) (va_A (WX 72 ad E) sz)) 0 0 (va_A (WX 72 ad E) sz) := by
  refine Met.ofW (cc := cX13_middleOf) (maxL := 7) (ret := (some .int)) (by decide) rfl ?_
  intro p e s m args below meth c s₁ B hml hv
  obtain ⟨hargs, hsz, hP, hK, hD0, hEV⟩ := hv
  subst hsz
  have hx := B.exec
  have hb := B.bytes
  have hr := B.returns
  have hts := atoms_spec (ws := v_middleOfM) B.pre
  have hown : s.vm.findClass RX13 = some m.cls := findClass_of_methodNamed B.named
  have hlocks := B.notSynchronized
  have hinX13 : ∀ w ∈ u_ws RX13 TX13 97, w ∈ v_middleOfM := fun w h => vA_in _ w (in_X13 w h)
  generalize hAe : va_A (WX 72 ad E) s.heap.size = A at hEV ⊢
  have hA : ∀ q : Nat, s.heap.size ≤ q → A q := fun q h => by rw [← hAe]; exact Or.inr h
  have hD : va_D A (WX 72 ad E) := by rw [← hAe]; exact hD0.self
  have hS : va_S A s.heap s.heap [] := va_S.rf
  have hI := hI0
  have hKp : Kp w_middleOfM E E := Kp.rf
  have hl := lv_entry ([.ref (ad 0), .int a0, .int a1]) (n := 7) (Nat.le_of_ble_eq_true rfl)
  obtain ⟨Q, hQ⟩ : ∃ Q, Q = MQ below (va_Qi (S := Nat → va_E) (fun r u => IX cT shM spM 72 ad u ∧ Kp w_middleOfM E u ∧ ((MdV (fun o9 => CdM E a0 (nI o9) (xi (E 0) 1) 0) (tmM E a0 (xi (E 0) 1)) (xi (E 0) 8).toNatClampNeg a1.toNatClampNeg ((xi (E 15) a0.toNatClampNeg).toInt = 0 ∧ CdM E a0 a1 (xi (E 0) 1) 0) r))) (HB dC dI 72 ad) (A)) args s 0 0 (A) := ⟨_, rfl⟩
  rw [← hQ, show entryFrame m args 7 = _ from (congrArg (fun z => entryFrame m z 7) hargs).trans (lg_entry_eq _ _ _)]
  generalize (lg_sl ([.ref (ad 0), .int a0, .int a1]) ++ List.replicate (7 - (lg_sl ([.ref (ad 0), .int a0, .int a1])).length) Slot.unset).toArray = ls at hl ⊢
  have hl : lv_has ls 7 [(0, .ref (ad 0)), (1, .int a0), (2, .int a1)] := hl
  obtain ⟨g1, hg1⟩ : ∃ g, xi (E 66) = g := ⟨_, rfl⟩
  have z0z : (0 : Int32).toInt = 0 := rfl
  have ib8 : 0 ≤ (xi (E 0) 8).toInt ∧ (xi (E 0) 8).toInt ≤ 16 := hI0.iv 0 (Nat.le_of_ble_eq_true rfl) rfl (Nat.le_of_ble_eq_true rfl) rfl
  have z0 := ln_0
  have z1 := ln_1
  refine lv_aload_n hx hb dX13_middleOf_0 rfl (lv_at hl 0 rfl) ?_
  refine th_get (ci := 14) (C := RX13) (T := TX13) (N := 97) (v := .ref (ad 15)) hx hb hts hinX13 hown hK hP hI 0 (Nat.le_of_ble_eq_true rfl) rfl rfl 29 (Nat.le_of_ble_eq_true rfl) (hts _ (vA_in _ _ (in_27 _ (zs16 (zs16 (zs1 (zs0))))))) (fun _ h9 => h9) (hI.fr 0 (Nat.le_of_ble_eq_true rfl) rfl (Nat.le_of_ble_eq_true rfl) 15 rfl) dX13_middleOf_1 ?_
  refine lv_iload_n hx hb dX13_middleOf_4 rfl (lv_at hl 1 rfl) ?_
  have n3 : vp_in a0 20 := (iv_in (n := 20) hh0 (by decide))
  refine th_iald hx hb hK hP hI 15 (Nat.le_of_ble_eq_true rfl) rfl rfl n3 dX13_middleOf_5 (fun y2 ey2 => ?_)
  have iy2 : 0 ≤ y2.toInt ∧ y2.toInt ≤ 1 := hI.el 15 (Nat.le_of_ble_eq_true rfl) rfl n3 (fun _ => rfl) ey2
  have ey2 := ey2.trans (hKp.ei 15 _ rfl)
  refine lv_if_ne (tgt := 22) hx hb dX13_middleOf_6 (by decide) (fun c4 => ?_) (fun c4 => ?_)
  · --6 taken
    have t5 : ¬ y2.toInt = 0 := ti_ne c4
    have i6 : 1 ≤ y2.toInt ∧ y2.toInt ≤ 1 := iv_ne_l t5 iy2 (il_ 0)
    refine lv_ldcw hx hb hown (hts _ (vA_in _ _ (in_27 _ (zs16 (zs4 (zs1 (zs0))))))) dX13_middleOf_22 ?_
    rw [hQ]
    exact W.iret (v := (-1000000000)) hx hb hr (fun t ht hW => ⟨⟨(-1000000000), E, rfl, ⟨hI, hKp, ⟨fun _ => rfl, fun q9 => by exfalso; have q8 : (xi (E 15) a0.toNatClampNeg).toInt = 0 := q9.1; rw [← ey2] at q8; omega⟩⟩, by show va_P (dC, dI) vwCl (WX 72 ad E) t.heap; rw [ht]; exact hP⟩, hS.F ht⟩) hS.2.2 dX13_middleOf_25
  · --6 not
    have t7 : y2.toInt = 0 := ti_eq c4
    have i8 : 0 ≤ y2.toInt ∧ y2.toInt ≤ 0 := iv_eqi t7 iy2 (il_ 0) (by decide)
    refine lv_aload_n hx hb dX13_middleOf_9 rfl (lv_at hl 0 rfl) ?_
    refine lv_iload_n hx hb dX13_middleOf_10 rfl (lv_at hl 1 rfl) ?_
    refine lv_iload_n hx hb dX13_middleOf_11 rfl (lv_at hl 2 rfl) ?_
    refine lv_aload_n hx hb dX13_middleOf_12 rfl (lv_at hl 0 rfl) ?_
    have i9 : 0 ≤ (xi (E 0) 1).toInt ∧ (xi (E 0) 1).toInt ≤ 400 := hI0.iv 0 (Nat.le_of_ble_eq_true rfl) rfl (Nat.le_of_ble_eq_true rfl) rfl
    refine th_get (ci := 14) (C := RX13) (T := TX13) (N := 97) (v := .int (xi (E 0) 1)) hx hb hts hinX13 hown hK hP hI 0 (Nat.le_of_ble_eq_true rfl) rfl rfl 1 (Nat.le_of_ble_eq_true rfl) (hts _ (vA_in _ _ (in_24 _ (zs16 (zs4 (zs4 (zs1 (zs1 (zs1 (zs0)))))))))) (fun _ h9 => h9) (th_v0 hKp hI0 0 (Nat.le_of_ble_eq_true rfl) rfl (Nat.le_of_ble_eq_true rfl) rfl rfl) dX13_middleOf_13 ?_
    refine th_ri (va_runV (As := [.int a0, .int a1, .int (xi (E 0) 1)]) (rest := []) ⟨hx, hb, hml, hown, hts⟩ (q_codeOfM l dC dI cT ad E s.heap.size a0 a1 (xi (E 0) 1) hI hh0 hh1) (cwV 3 hts (gi_V (in_27 _ (zs16 (zs16 (zs4 (zs0))))) (in_27 _ (zs16 (zs16 (zs4 (zs1 (zs0)))))) (in_27 _ (zs16 (zs16 (zs4 (zs1 (zs1 (zs0))))))) (in_24 _ (zs4 (zs4 (zs4 (zs1 (zs1 (zs1 (zs0)))))))) (in_27 _ (zs16 (zs16 (zs4 (zs1 (zs1 (zs1 (zs0))))))))) rfl rfl rfl ⟨rfl, hz_yX13_codeOf_3⟩ ⟨Nat.le_of_ble_eq_true rfl, Nat.le_of_ble_eq_true rfl⟩) ⟨HW_bl, va_recv hK hP (ci := 14) (q0 := 0) rfl (hI.ob 0 (Nat.le_of_ble_eq_true rfl) rfl), (HW_wi hP hK (WX_D hD) hS hA hEV)⟩ rfl rfl hl.1 rfl (lv_room (Nat.le_of_ble_eq_true rfl)) dX13_middleOf_16 ⟨Nat.le_of_ble_eq_true rfl, Nat.le_of_ble_eq_true rfl⟩) hS hP (fun r10 H locs hw hP hS => ?_)
    obtain ⟨f11, f12⟩ := hw
    have i13 : 0 ≤ (xi (E 0) 47).toInt ∧ (xi (E 0) 47).toInt ≤ 300 := (show 0 ≤ (xi (E 0) 47).toInt ∧ (xi (E 0) 47).toInt ≤ 300 from hI0.iv 0 (Nat.le_of_ble_eq_true rfl) rfl (Nat.le_of_ble_eq_true rfl) rfl)
    refine lv_if_eq (tgt := 26) hx hb dX13_middleOf_19 (by decide) (fun c14 => ?_) (fun c14 => ?_)
    · --19 taken
      have t15 : r10.toInt = 0 := ti_eq c14
      have i16 : 0 ≤ r10.toInt ∧ r10.toInt ≤ 0 := iv_eqi t15 f11 (il_ 0) (by decide)
      refine lv_iconst (v := 0) hx hb dX13_middleOf_26 (by decide) ?_
      refine lv_istore_n (lv' := [(3, .int 0), (0, .ref (ad 0)), (1, .int a0), (2, .int a1)]) hx hb dX13_middleOf_27 rfl hl (by decide) rfl (fun ls hl => ?_)
      refine lv_iconst (v := 0) hx hb dX13_middleOf_28 (by decide) ?_
      refine lv_istore (lv' := [(4, .int 0), (3, .int 0), (0, .ref (ad 0)), (1, .int a0), (2, .int a1)]) hx hb dX13_middleOf_29 hl (by decide) rfl (fun ls hl => ?_)
      have hL31 : ∀ d : Nat, ∀ (g31_66 : Nat → Int32) (v31_4 : Int32) (v31_3 : Int32) (E31_ : Nat → va_E) (H : Heap) (locs : List Loc) (ls : Array Slot), 0 ≤ v31_4.toInt ∧ v31_4.toInt ≤ 16 → 0 ≤ v31_3.toInt ∧ v31_3.toInt ≤ 16 → MR (fun o9 => CdM E a0 (nI o9) (xi (E 0) 1) 0) (tmM E a0 (xi (E 0) 1)) a1.toNatClampNeg v31_4.toNatClampNeg v31_3.toNatClampNeg g31_66 → v31_4.toInt ≤ (xi (E 0) 8).toInt → v31_3.toInt ≤ v31_4.toInt → 16 - v31_4.toInt < (d : Int) → IX cT shM spM 72 ad E31_ → Kp w_middleOfM E E31_ → xi (E31_ 66) = g31_66 → va_P (dC, dI) vwCl (WX 72 ad E31_) H → va_S A s.heap H locs → lv_has ls 7 [(4, .int v31_4), (3, .int v31_3), (0, .ref (ad 0)), (1, .int a0), (2, .int a1)] → W p l e (headSpec v_middleOfM rm_middleOfM).room s m args below meth c H locs 0 0 Q (F0 m 31 ls []) := by
        intro d
        induction d with
        | zero =>
          intro g31_66 v31_4 v31_3 E31_ H locs ls hv31_4 hv31_3 hx31_0 hx31_1 hx31_2 hx31_3 hI hKp hr31_66 hP hS hl
          exact absurd hx31_3 (by first | exact ms_zu hv31_4.2 | omega)
        | succ d ih31 =>
          intro g31_66 v31_4 v31_3 E31_ H locs ls hv31_4 hv31_3 hx31_0 hx31_1 hx31_2 hx31_3 hI hKp hr31_66 hP hS hl
          refine lv_iload hx hb dX13_middleOf_31 (lv_at hl 0 rfl) ?_
          refine lv_aload_n hx hb dX13_middleOf_33 rfl (lv_at hl 2 rfl) ?_
          have i17 : 0 ≤ (xi (E 0) 8).toInt ∧ (xi (E 0) 8).toInt ≤ 16 := hI0.iv 0 (Nat.le_of_ble_eq_true rfl) rfl (Nat.le_of_ble_eq_true rfl) rfl
          refine th_get (ci := 14) (C := RX13) (T := TX13) (N := 97) (v := .int (xi (E 0) 8)) hx hb hts hinX13 hown hK hP hI 0 (Nat.le_of_ble_eq_true rfl) rfl rfl 8 (Nat.le_of_ble_eq_true rfl) (hts _ (vA_in _ _ (in_24 _ (zs16 (zs4 (zs1 (zs1 (zs0)))))))) (fun _ h9 => h9) (th_v0 hKp hI0 0 (Nat.le_of_ble_eq_true rfl) rfl (Nat.le_of_ble_eq_true rfl) rfl rfl) dX13_middleOf_34 ?_
          refine lv_icmp_ge (tgt := 138) hx hb dX13_middleOf_37 (by decide) (fun c18 => ?_) (fun c18 => ?_)
          · --37 taken
            have t19 : (xi (E 0) 8).toInt ≤ v31_4.toInt := ti_le c18
            refine lv_iload_n hx hb dX13_middleOf_138 rfl (lv_at hl 1 rfl) ?_
            refine lv_if_ne (tgt := 148) hx hb dX13_middleOf_139 (by decide) (fun c20 => ?_) (fun c20 => ?_)
            · --139 taken
              have t21 : ¬ v31_3.toInt = 0 := ti_ne c20
              have i22 : 1 ≤ v31_3.toInt ∧ v31_3.toInt ≤ 16 := iv_ne_l t21 hv31_3 (il_ 0)
              refine lv_aload_n hx hb dX13_middleOf_148 rfl (lv_at hl 2 rfl) ?_
              refine th_get (ci := 14) (C := RX13) (T := TX13) (N := 97) (v := .ref (ad 66)) hx hb hts hinX13 hown hK hP hI 0 (Nat.le_of_ble_eq_true rfl) rfl rfl 90 (Nat.le_of_ble_eq_true rfl) (hts _ (vA_in _ _ (in_31 _ (zs16 (zs4 (zs4 (zs0))))))) (fun _ h9 => h9) (hI.fr 0 (Nat.le_of_ble_eq_true rfl) rfl (Nat.le_of_ble_eq_true rfl) 66 rfl) dX13_middleOf_149 ?_
              refine lv_iload_n hx hb dX13_middleOf_152 rfl (lv_at hl 1 rfl) ?_
              refine lv_iconst (v := 1) hx hb dX13_middleOf_153 (by decide) ?_
              refine lv_isub hx hb dX13_middleOf_154 ?_
              refine lv_topi (fun y23 ey23 => ?_)
              obtain ⟨ty23, iy23⟩ := ti_sub (e := 0) (f := 15) i22 ln_1 ey23 (by decide)
              have ty23 : y23.toInt = v31_3.toInt - 1 := ty23
              have iy23 : 0 ≤ y23.toInt ∧ y23.toInt ≤ 15 := iy23
              refine lv_iconst (v := 2) hx hb dX13_middleOf_155 (by decide) ?_
              refine lv_idiv hx hb dX13_middleOf_156 (by decide) ?_
              refine lv_topi (fun y24 ey24 => ?_)
              obtain ⟨ty24, iy24⟩ := ti_div (e := 0) (f := 7) iy23 ln_2 ey24 (by decide)
              have iy24 : 0 ≤ y24.toInt ∧ y24.toInt ≤ 7 := iy24
              have n26 : vp_in y24 16 := (iv_in (n := 16) iy24 (by decide))
              refine th_iald hx hb hK hP hI 66 (Nat.le_of_ble_eq_true rfl) rfl rfl n26 dX13_middleOf_157 (fun y25 ey25 => ?_)
              have ey25 := ey25.trans (congrFun hr31_66 _)
              rw [hQ]
              exact W.iret (v := y25) hx hb hr (fun t ht hW => ⟨⟨y25, E31_, rfl, ⟨hI, hKp, ⟨fun q9 => absurd (show (xi (E 15) a0.toNatClampNeg).toInt = 0 ∧ CdM E a0 a1 (xi (E 0) 1) 0 from ⟨by rw [← ey2]; omega, by have h9 := f12; rw [show r10.toInt = 0 by omega] at h9; exact h9⟩) q9, fun _ => by have h8 := hx31_0; rw [show v31_4.toNatClampNeg = (xi (E 0) 8).toNatClampNeg by rw [tn_, tn_]; omega] at h8; exact ⟨_, _, h8, fun z9 => by exfalso; rw [tn_] at z9; omega, fun _ => by rw [ey25, show y24.toNatClampNeg = (v31_3.toNatClampNeg - 1) / 2 by have q7 := ty24; rw [show (2 : Int32).toInt = 2 from rfl] at q7; rw [tn_ y24, tn_ v31_3]; omega]⟩⟩⟩, by show va_P (dC, dI) vwCl (WX 72 ad E31_) t.heap; rw [ht]; exact hP⟩, hS.F ht⟩) hS.2.2 dX13_middleOf_158
            · --139 not
              have t27 : v31_3.toInt = 0 := ti_eq c20
              have i28 : 0 ≤ v31_3.toInt ∧ v31_3.toInt ≤ 0 := iv_eqi t27 hv31_3 (il_ 0) (by decide)
              refine lv_ldcw hx hb hown (hts _ (vA_in _ _ (in_27 _ (zs16 (zs4 (zs1 (zs0))))))) dX13_middleOf_142 ?_
              refine lv_goto (tgt := 158) hx hb dX13_middleOf_145 (by decide) ?_
              rw [hQ]
              exact W.iret (v := (-1000000000)) hx hb hr (fun t ht hW => ⟨⟨(-1000000000), E31_, rfl, ⟨hI, hKp, ⟨fun q9 => absurd (show (xi (E 15) a0.toNatClampNeg).toInt = 0 ∧ CdM E a0 a1 (xi (E 0) 1) 0 from ⟨by rw [← ey2]; omega, by have h9 := f12; rw [show r10.toInt = 0 by omega] at h9; exact h9⟩) q9, fun _ => by have h8 := hx31_0; rw [show v31_4.toNatClampNeg = (xi (E 0) 8).toNatClampNeg by rw [tn_, tn_]; omega] at h8; exact ⟨_, _, h8, fun _ => rfl, fun z9 => by exfalso; rw [tn_] at z9; omega⟩⟩⟩, by show va_P (dC, dI) vwCl (WX 72 ad E31_) t.heap; rw [ht]; exact hP⟩, hS.F ht⟩) hS.2.2 dX13_middleOf_158
          · --37 not
            have t29 : v31_4.toInt < (xi (E 0) 8).toInt := ti_nle c18
            have i30 : 0 ≤ v31_4.toInt ∧ v31_4.toInt ≤ 15 := iv_lt_l t29 hv31_4 i17 (by decide)
            have i31 : 1 ≤ (xi (E 0) 8).toInt ∧ (xi (E 0) 8).toInt ≤ 16 := iv_lt_r t29 hv31_4 i17 (by decide)
            have i32 : 0 ≤ v31_3.toInt ∧ v31_3.toInt ≤ 15 := by omega
            refine lv_iload hx hb dX13_middleOf_40 (lv_at hl 0 rfl) ?_
            refine lv_iload_n hx hb dX13_middleOf_42 rfl (lv_at hl 4 rfl) ?_
            refine lv_icmp_eq (tgt := 132) hx hb dX13_middleOf_43 (by decide) (fun c33 => ?_) (fun c33 => ?_)
            · --43 taken
              have t34 : v31_4.toInt = a1.toInt := ti_eq c33
              obtain ⟨y35, ey35⟩ : ∃ y : Int32, y = v31_4 + (1 : Int32) := ⟨_, rfl⟩
              obtain ⟨ty35, iy35⟩ := ti_add (e := 1) (f := 16) i30 ln_1 ey35 (by decide)
              have ty35 : y35.toInt = v31_4.toInt + 1 := ty35
              have iy35 : 1 ≤ y35.toInt ∧ y35.toInt ≤ 16 := iy35
              refine lv_iinc (v := y35) (lv' := [(4, .int y35), (3, .int v31_3), (0, .ref (ad 0)), (1, .int a0), (2, .int a1)]) hx hb dX13_middleOf_132 hl (k := 0) rfl (by rw [ey35]; rfl) (by decide) rfl (fun ls hl => ?_)
              refine lv_goto (tgt := 31) hx hb dX13_middleOf_135 (by decide) ?_
              exact ih31 g31_66 y35 v31_3 E31_ _ _ _ (iv_w iy35 (by decide)) (iv_w i32 (by decide)) (hx31_0.no (fun q9 => q9.1 (by rw [tn_, tn_]; omega)) (by rw [tn_ y35, tn_ v31_4]; omega)) (by omega) (by omega) (by first | exact ms_su hx31_3 ty35 (by decide) | omega) hI hKp hr31_66 hP hS (lv_sub hl [0, 1, 2, 3, 4] rfl)
            · --43 not
              have t36 : ¬ v31_4.toInt = a1.toInt := ti_ne c33
              refine lv_aload_n hx hb dX13_middleOf_46 rfl (lv_at hl 2 rfl) ?_
              refine lv_iload_n hx hb dX13_middleOf_47 rfl (lv_at hl 3 rfl) ?_
              refine lv_iload hx hb dX13_middleOf_48 (lv_at hl 0 rfl) ?_
              refine lv_aload_n hx hb dX13_middleOf_50 rfl (lv_at hl 2 rfl) ?_
              refine th_get (ci := 14) (C := RX13) (T := TX13) (N := 97) (v := .int (xi (E 0) 1)) hx hb hts hinX13 hown hK hP hI 0 (Nat.le_of_ble_eq_true rfl) rfl rfl 1 (Nat.le_of_ble_eq_true rfl) (hts _ (vA_in _ _ (in_24 _ (zs16 (zs4 (zs4 (zs1 (zs1 (zs1 (zs0)))))))))) (fun _ h9 => h9) (th_v0 hKp hI0 0 (Nat.le_of_ble_eq_true rfl) rfl (Nat.le_of_ble_eq_true rfl) rfl rfl) dX13_middleOf_51 ?_
              refine th_ri (va_runV (As := [.int a0, .int v31_4, .int (xi (E 0) 1)]) (rest := []) ⟨hx, hb, hml, hown, hts⟩ (q_codeOfM l dC dI cT ad E31_ H.size a0 v31_4 (xi (E 0) 1) hI hh0 i30) (cwV 3 hts (gi_V (in_27 _ (zs16 (zs16 (zs4 (zs0))))) (in_27 _ (zs16 (zs16 (zs4 (zs1 (zs0)))))) (in_27 _ (zs16 (zs16 (zs4 (zs1 (zs1 (zs0))))))) (in_24 _ (zs4 (zs4 (zs4 (zs1 (zs1 (zs1 (zs0)))))))) (in_27 _ (zs16 (zs16 (zs4 (zs1 (zs1 (zs1 (zs0))))))))) rfl rfl rfl ⟨rfl, hz_yX13_codeOf_3⟩ ⟨Nat.le_of_ble_eq_true rfl, Nat.le_of_ble_eq_true rfl⟩) ⟨HW_bl, va_recv hK hP (ci := 14) (q0 := 0) rfl (hI.ob 0 (Nat.le_of_ble_eq_true rfl) rfl), (HW_wi hP hK (WX_D hD) hS hA hEV)⟩ rfl rfl hl.1 rfl (lv_room (Nat.le_of_ble_eq_true rfl)) dX13_middleOf_54 ⟨Nat.le_of_ble_eq_true rfl, Nat.le_of_ble_eq_true rfl⟩) hS hP (fun r37 H locs hw hP hS => ?_)
              obtain ⟨f38, f39⟩ := hw
              have k41 : KdN E E31_ := KdN.of hKp rfl rfl rfl rfl rfl
              have k40 : CdM E a0 (nI v31_4.toNatClampNeg) (xi (E 0) 1) r37.toInt := by rw [nI_tn (show 0 ≤ v31_4.toInt by omega)]; exact k41.cd.mp f39
              refine lv_if_eq (tgt := 63) hx hb dX13_middleOf_57 (by decide) (fun c42 => ?_) (fun c42 => ?_)
              · --57 taken
                have t43 : r37.toInt = 0 := ti_eq c42
                have i44 : 0 ≤ r37.toInt ∧ r37.toInt ≤ 0 := iv_eqi t43 f38 (il_ 0) (by decide)
                refine lv_aload_n hx hb dX13_middleOf_63 rfl (lv_at hl 2 rfl) ?_
                refine lv_iload_n hx hb dX13_middleOf_64 rfl (lv_at hl 3 rfl) ?_
                refine lv_iload hx hb dX13_middleOf_65 (lv_at hl 0 rfl) ?_
                refine lv_aload_n hx hb dX13_middleOf_67 rfl (lv_at hl 2 rfl) ?_
                refine th_get (ci := 14) (C := RX13) (T := TX13) (N := 97) (v := .int (xi (E 0) 1)) hx hb hts hinX13 hown hK hP hI 0 (Nat.le_of_ble_eq_true rfl) rfl rfl 1 (Nat.le_of_ble_eq_true rfl) (hts _ (vA_in _ _ (in_24 _ (zs16 (zs4 (zs4 (zs1 (zs1 (zs1 (zs0)))))))))) (fun _ h9 => h9) (th_v0 hKp hI0 0 (Nat.le_of_ble_eq_true rfl) rfl (Nat.le_of_ble_eq_true rfl) rfl rfl) dX13_middleOf_68 ?_
                refine th_i (va_runV (As := [.int a0, .int v31_4, .int (xi (E 0) 1)]) (rest := []) ⟨hx, hb, hml, hown, hts⟩ (q_correctedOfM l dC dI cT ad E31_ H.size a0 v31_4 (xi (E 0) 1) hI hh0 (by rw [k41.lr]; exact CdM_0 (by have h9 := k40; rw [nI_tn (show 0 ≤ v31_4.toInt by omega), show r37.toInt = 0 by omega] at h9; exact h9)) (by exact k41.txm hh2)) (cwV 3 hts (gi_V (in_30 _ (zs4 (zs4 (zs4 (zs0))))) (in_30 _ (zs4 (zs4 (zs4 (zs1 (zs0)))))) (in_30 _ (zs4 (zs4 (zs4 (zs1 (zs1 (zs0))))))) (in_24 _ (zs4 (zs4 (zs4 (zs1 (zs1 (zs1 (zs0)))))))) (in_30 _ (zs4 (zs4 (zs4 (zs1 (zs1 (zs1 (zs0))))))))) rfl rfl rfl ⟨rfl, hz_yX13_correctedOf_3⟩ ⟨Nat.le_of_ble_eq_true rfl, Nat.le_of_ble_eq_true rfl⟩) ⟨HW_bl, va_recv hK hP (ci := 14) (q0 := 0) rfl (hI.ob 0 (Nat.le_of_ble_eq_true rfl) rfl), (HW_wi hP hK (WX_D hD) hS hA hEV)⟩ rfl rfl hl.1 rfl (lv_room (Nat.le_of_ble_eq_true rfl)) dX13_middleOf_71 ⟨Nat.le_of_ble_eq_true rfl, Nat.le_of_ble_eq_true rfl⟩) (WX_D hD) hS hA (fun r45 E46 H locs hw hP hS => ?_)
                obtain ⟨hI, kq47, hw⟩ := hw
                have hKb := hKp
                have hKp := hKp.tr kq47 (wl_sub rfl rfl)
                have f48 := hw
                have k49 : r45 = tmM E a0 (xi (E 0) 1) v31_4.toNatClampNeg := by show r45 = tmB E a0 (nI v31_4.toNatClampNeg) (xi (E 0) 1); rw [nI_tn (show 0 ≤ v31_4.toInt by omega)]; exact f48.trans (k41.tm a0 v31_4 (xi (E 0) 1))
                refine lv_istore (lv' := [(5, .int r45), (4, .int v31_4), (3, .int v31_3), (0, .ref (ad 0)), (1, .int a0), (2, .int a1)]) hx hb dX13_middleOf_74 hl (by decide) rfl (fun ls hl => ?_)
                refine lv_iload_n hx hb dX13_middleOf_76 rfl (lv_at hl 2 rfl) ?_
                refine lv_istore (lv' := [(6, .int v31_3), (5, .int r45), (4, .int v31_4), (3, .int v31_3), (0, .ref (ad 0)), (1, .int a0), (2, .int a1)]) hx hb dX13_middleOf_77 hl (by decide) rfl (fun ls hl => ?_)
                have hL79 : ∀ d : Nat, ∀ (g79_66 : Nat → Int32) (v79_6 : Int32) (E79_ : Nat → va_E) (H : Heap) (locs : List Loc) (ls : Array Slot), 0 ≤ v79_6.toInt ∧ v79_6.toInt ≤ 15 → shf g31_66 r45 v31_3.toNatClampNeg = shf g79_66 r45 v79_6.toNatClampNeg → v79_6.toInt ≤ v31_3.toInt → v79_6.toInt - 0 < (d : Int) → IX cT shM spM 72 ad E79_ → Kp w_middleOfM E E79_ → xi (E79_ 66) = g79_66 → va_P (dC, dI) vwCl (WX 72 ad E79_) H → va_S A s.heap H locs → lv_has ls 7 [(6, .int v79_6), (5, .int r45), (4, .int v31_4), (3, .int v31_3), (0, .ref (ad 0)), (1, .int a0), (2, .int a1)] → W p l e (headSpec v_middleOfM rm_middleOfM).room s m args below meth c H locs 0 0 Q (F0 m 79 ls []) := by
                  intro d
                  induction d with
                  | zero =>
                    intro g79_66 v79_6 E79_ H locs ls hv79_6 hx79_0 hx79_1 hx79_2 hI hKp hr79_66 hP hS hl
                    exact absurd hx79_2 (by first | exact ms_zd hv79_6.1 | omega)
                  | succ d ih79 =>
                    intro g79_66 v79_6 E79_ H locs ls hv79_6 hx79_0 hx79_1 hx79_2 hI hKp hr79_66 hP hS hl
                    refine lv_iload hx hb dX13_middleOf_79 (lv_at hl 0 rfl) ?_
                    refine lv_if_le (tgt := 120) hx hb dX13_middleOf_81 (by decide) (fun c50 => ?_) (fun c50 => ?_)
                    · --81 taken
                      have t51 : v79_6.toInt ≤ 0 := ti_le c50
                      have i52 : 0 ≤ v79_6.toInt ∧ v79_6.toInt ≤ 0 := iv_le_l t51 hv79_6 (il_ 0) (by decide)
                      refine lv_aload_n hx hb dX13_middleOf_120 rfl (lv_at hl 4 rfl) ?_
                      refine th_get (ci := 14) (C := RX13) (T := TX13) (N := 97) (v := .ref (ad 66)) hx hb hts hinX13 hown hK hP hI 0 (Nat.le_of_ble_eq_true rfl) rfl rfl 90 (Nat.le_of_ble_eq_true rfl) (hts _ (vA_in _ _ (in_31 _ (zs16 (zs4 (zs4 (zs0))))))) (fun _ h9 => h9) (hI.fr 0 (Nat.le_of_ble_eq_true rfl) rfl (Nat.le_of_ble_eq_true rfl) 66 rfl) dX13_middleOf_121 ?_
                      refine lv_iload hx hb dX13_middleOf_124 (lv_at hl 0 rfl) ?_
                      refine lv_iload hx hb dX13_middleOf_126 (lv_at hl 1 rfl) ?_
                      have n53 : vp_in v79_6 16 := (iv_in (n := 16) i52 (by decide))
                      refine th_iast hx hb hK hP (WX_D hD) hS hI 66 (Nat.le_of_ble_eq_true rfl) rfl rfl n53 (okI rfl (iv_all _)) dX13_middleOf_128 (fun H locs E54 pw55 hI hP hS => ?_)
                      have hKp := hKp.pw pw55 rfl
                      obtain ⟨g56, eg56⟩ : ∃ z : Nat → Int32, z = upd g79_66 v79_6.toNatClampNeg r45 := ⟨_, rfl⟩
                      have hg56 : xi (E54 66) = g56 := by rw [pw55.eu, hr79_66, eg56]
                      obtain ⟨y57, ey57⟩ : ∃ y : Int32, y = v31_3 + (1 : Int32) := ⟨_, rfl⟩
                      obtain ⟨ty57, iy57⟩ := ti_add (e := 1) (f := 16) i32 ln_1 ey57 (by decide)
                      have ty57 : y57.toInt = v31_3.toInt + 1 := ty57
                      have iy57 : 1 ≤ y57.toInt ∧ y57.toInt ≤ 16 := iy57
                      refine lv_iinc (v := y57) (lv' := [(3, .int y57), (6, .int v79_6), (5, .int r45), (4, .int v31_4), (0, .ref (ad 0)), (1, .int a0), (2, .int a1)]) hx hb dX13_middleOf_129 hl (k := 3) rfl (by rw [ey57]; rfl) (by decide) rfl (fun ls hl => ?_)
                      obtain ⟨y58, ey58⟩ : ∃ y : Int32, y = v31_4 + (1 : Int32) := ⟨_, rfl⟩
                      obtain ⟨ty58, iy58⟩ := ti_add (e := 1) (f := 16) i30 ln_1 ey58 (by decide)
                      have ty58 : y58.toInt = v31_4.toInt + 1 := ty58
                      have iy58 : 1 ≤ y58.toInt ∧ y58.toInt ≤ 16 := iy58
                      refine lv_iinc (v := y58) (lv' := [(4, .int y58), (3, .int y57), (6, .int v79_6), (5, .int r45), (0, .ref (ad 0)), (1, .int a0), (2, .int a1)]) hx hb dX13_middleOf_132 hl (k := 3) rfl (by rw [ey58]; rfl) (by decide) rfl (fun ls hl => ?_)
                      refine lv_goto (tgt := 31) hx hb dX13_middleOf_135 (by decide) ?_
                      exact ih31 g56 y58 y57 E54 _ _ _ (iv_w iy58 (by decide)) (iv_w iy57 (by decide)) (hx31_0.one ⟨(fun q9 => by rw [tn_, tn_] at q9; omega), (by have h9 := k40; rw [show r37.toInt = 0 by omega] at h9; exact h9)⟩ (fun i9 _ => by rw [(show g56 = shf g31_66 r45 v31_3.toNatClampNeg by rw [eg56]; exact Eq.symm (by rw [hx79_0]; rw [show v79_6.toNatClampNeg = 0 by rw [tn_]; omega]; exact shf_0)), k49]) (by rw [tn_ y57, tn_ v31_3]; omega) (by rw [tn_ y58, tn_ v31_4]; omega)) (by omega) (by omega) (by first | exact ms_su hx31_3 ty58 (by decide) | omega) hI hKp hg56 hP hS (lv_sub hl [0, 1, 4, 5, 6] rfl)
                    · --81 not
                      have t59 : (0 : Int) < v79_6.toInt := ti_nle c50
                      have i60 : 1 ≤ v79_6.toInt ∧ v79_6.toInt ≤ 15 := iv_lt_r t59 (il_ 0) hv79_6 (by decide)
                      refine lv_aload_n hx hb dX13_middleOf_84 rfl (lv_at hl 4 rfl) ?_
                      refine th_get (ci := 14) (C := RX13) (T := TX13) (N := 97) (v := .ref (ad 66)) hx hb hts hinX13 hown hK hP hI 0 (Nat.le_of_ble_eq_true rfl) rfl rfl 90 (Nat.le_of_ble_eq_true rfl) (hts _ (vA_in _ _ (in_31 _ (zs16 (zs4 (zs4 (zs0))))))) (fun _ h9 => h9) (hI.fr 0 (Nat.le_of_ble_eq_true rfl) rfl (Nat.le_of_ble_eq_true rfl) 66 rfl) dX13_middleOf_85 ?_
                      refine lv_iload hx hb dX13_middleOf_88 (lv_at hl 0 rfl) ?_
                      refine lv_iconst (v := 1) hx hb dX13_middleOf_90 (by decide) ?_
                      refine lv_isub hx hb dX13_middleOf_91 ?_
                      refine lv_topi (fun y61 ey61 => ?_)
                      obtain ⟨ty61, iy61⟩ := ti_sub (e := 0) (f := 14) i60 ln_1 ey61 (by decide)
                      have ty61 : y61.toInt = v79_6.toInt - 1 := ty61
                      have iy61 : 0 ≤ y61.toInt ∧ y61.toInt ≤ 14 := iy61
                      have n63 : vp_in y61 16 := (iv_in (n := 16) iy61 (by decide))
                      refine th_iald hx hb hK hP hI 66 (Nat.le_of_ble_eq_true rfl) rfl rfl n63 dX13_middleOf_92 (fun y62 ey62 => ?_)
                      have ey62 := ey62.trans (congrFun hr79_66 _)
                      refine lv_iload hx hb dX13_middleOf_93 (lv_at hl 1 rfl) ?_
                      refine lv_icmp_le (tgt := 120) hx hb dX13_middleOf_95 (by decide) (fun c64 => ?_) (fun c64 => ?_)
                      · --95 taken
                        have t65 : y62.toInt ≤ r45.toInt := ti_le c64
                        refine lv_aload_n hx hb dX13_middleOf_120 rfl (lv_at hl 4 rfl) ?_
                        refine th_get (ci := 14) (C := RX13) (T := TX13) (N := 97) (v := .ref (ad 66)) hx hb hts hinX13 hown hK hP hI 0 (Nat.le_of_ble_eq_true rfl) rfl rfl 90 (Nat.le_of_ble_eq_true rfl) (hts _ (vA_in _ _ (in_31 _ (zs16 (zs4 (zs4 (zs0))))))) (fun _ h9 => h9) (hI.fr 0 (Nat.le_of_ble_eq_true rfl) rfl (Nat.le_of_ble_eq_true rfl) 66 rfl) dX13_middleOf_121 ?_
                        refine lv_iload hx hb dX13_middleOf_124 (lv_at hl 0 rfl) ?_
                        refine lv_iload hx hb dX13_middleOf_126 (lv_at hl 1 rfl) ?_
                        have n66 : vp_in v79_6 16 := (iv_in (n := 16) i60 (by decide))
                        refine th_iast hx hb hK hP (WX_D hD) hS hI 66 (Nat.le_of_ble_eq_true rfl) rfl rfl n66 (okI rfl (iv_all _)) dX13_middleOf_128 (fun H locs E67 pw68 hI hP hS => ?_)
                        have hKp := hKp.pw pw68 rfl
                        obtain ⟨g69, eg69⟩ : ∃ z : Nat → Int32, z = upd g79_66 v79_6.toNatClampNeg r45 := ⟨_, rfl⟩
                        have hg69 : xi (E67 66) = g69 := by rw [pw68.eu, hr79_66, eg69]
                        obtain ⟨y70, ey70⟩ : ∃ y : Int32, y = v31_3 + (1 : Int32) := ⟨_, rfl⟩
                        obtain ⟨ty70, iy70⟩ := ti_add (e := 1) (f := 16) i32 ln_1 ey70 (by decide)
                        have ty70 : y70.toInt = v31_3.toInt + 1 := ty70
                        have iy70 : 1 ≤ y70.toInt ∧ y70.toInt ≤ 16 := iy70
                        refine lv_iinc (v := y70) (lv' := [(3, .int y70), (6, .int v79_6), (5, .int r45), (4, .int v31_4), (0, .ref (ad 0)), (1, .int a0), (2, .int a1)]) hx hb dX13_middleOf_129 hl (k := 3) rfl (by rw [ey70]; rfl) (by decide) rfl (fun ls hl => ?_)
                        obtain ⟨y71, ey71⟩ : ∃ y : Int32, y = v31_4 + (1 : Int32) := ⟨_, rfl⟩
                        obtain ⟨ty71, iy71⟩ := ti_add (e := 1) (f := 16) i30 ln_1 ey71 (by decide)
                        have ty71 : y71.toInt = v31_4.toInt + 1 := ty71
                        have iy71 : 1 ≤ y71.toInt ∧ y71.toInt ≤ 16 := iy71
                        refine lv_iinc (v := y71) (lv' := [(4, .int y71), (3, .int y70), (6, .int v79_6), (5, .int r45), (0, .ref (ad 0)), (1, .int a0), (2, .int a1)]) hx hb dX13_middleOf_132 hl (k := 3) rfl (by rw [ey71]; rfl) (by decide) rfl (fun ls hl => ?_)
                        refine lv_goto (tgt := 31) hx hb dX13_middleOf_135 (by decide) ?_
                        exact ih31 g69 y71 y70 E67 _ _ _ (iv_w iy71 (by decide)) (iv_w iy70 (by decide)) (hx31_0.one ⟨(fun q9 => by rw [tn_, tn_] at q9; omega), (by have h9 := k40; rw [show r37.toInt = 0 by omega] at h9; exact h9)⟩ (fun i9 _ => by rw [(show g69 = shf g31_66 r45 v31_3.toNatClampNeg by rw [eg69]; exact Eq.symm (by rw [hx79_0]; rw [(show v79_6.toNatClampNeg = y61.toNatClampNeg + 1 by rw [tn_ v79_6, tn_ y61]; omega)]; exact shf_e (by rw [← ey62]; omega))), k49]) (by rw [tn_ y70, tn_ v31_3]; omega) (by rw [tn_ y71, tn_ v31_4]; omega)) (by omega) (by omega) (by first | exact ms_su hx31_3 ty71 (by decide) | omega) hI hKp hg69 hP hS (lv_sub hl [0, 1, 4, 5, 6] rfl)
                      · --95 not
                        have t72 : r45.toInt < y62.toInt := ti_nle c64
                        have i73 : -2147483648 ≤ r45.toInt ∧ r45.toInt ≤ 2147483646 := iv_lt_l t72 (iv_all _) (iv_all _) (by decide)
                        have i74 : -2147483647 ≤ y62.toInt ∧ y62.toInt ≤ 2147483647 := iv_lt_r t72 (iv_all _) (iv_all _) (by decide)
                        refine lv_aload_n hx hb dX13_middleOf_98 rfl (lv_at hl 4 rfl) ?_
                        refine th_get (ci := 14) (C := RX13) (T := TX13) (N := 97) (v := .ref (ad 66)) hx hb hts hinX13 hown hK hP hI 0 (Nat.le_of_ble_eq_true rfl) rfl rfl 90 (Nat.le_of_ble_eq_true rfl) (hts _ (vA_in _ _ (in_31 _ (zs16 (zs4 (zs4 (zs0))))))) (fun _ h9 => h9) (hI.fr 0 (Nat.le_of_ble_eq_true rfl) rfl (Nat.le_of_ble_eq_true rfl) 66 rfl) dX13_middleOf_99 ?_
                        refine lv_iload hx hb dX13_middleOf_102 (lv_at hl 0 rfl) ?_
                        refine lv_aload_n hx hb dX13_middleOf_104 rfl (lv_at hl 4 rfl) ?_
                        refine th_get (ci := 14) (C := RX13) (T := TX13) (N := 97) (v := .ref (ad 66)) hx hb hts hinX13 hown hK hP hI 0 (Nat.le_of_ble_eq_true rfl) rfl rfl 90 (Nat.le_of_ble_eq_true rfl) (hts _ (vA_in _ _ (in_31 _ (zs16 (zs4 (zs4 (zs0))))))) (fun _ h9 => h9) (hI.fr 0 (Nat.le_of_ble_eq_true rfl) rfl (Nat.le_of_ble_eq_true rfl) 66 rfl) dX13_middleOf_105 ?_
                        refine lv_iload hx hb dX13_middleOf_108 (lv_at hl 0 rfl) ?_
                        refine lv_iconst (v := 1) hx hb dX13_middleOf_110 (by decide) ?_
                        refine lv_isub hx hb dX13_middleOf_111 ?_
                        refine lv_topi (fun y75 ey75 => ?_)
                        obtain ⟨ty75, iy75⟩ := ti_sub (e := 0) (f := 14) i60 ln_1 ey75 (by decide)
                        have ty75 : y75.toInt = v79_6.toInt - 1 := ty75
                        have iy75 : 0 ≤ y75.toInt ∧ y75.toInt ≤ 14 := iy75
                        have n77 : vp_in y75 16 := (iv_in (n := 16) iy75 (by decide))
                        refine th_iald hx hb hK hP hI 66 (Nat.le_of_ble_eq_true rfl) rfl rfl n77 dX13_middleOf_112 (fun y76 ey76 => ?_)
                        have ey76 := ey76.trans (congrFun hr79_66 _)
                        have n78 : vp_in v79_6 16 := (iv_in (n := 16) i60 (by decide))
                        refine th_iast hx hb hK hP (WX_D hD) hS hI 66 (Nat.le_of_ble_eq_true rfl) rfl rfl n78 (okI rfl (iv_all _)) dX13_middleOf_113 (fun H locs E79 pw80 hI hP hS => ?_)
                        have hKp := hKp.pw pw80 rfl
                        obtain ⟨g81, eg81⟩ : ∃ z : Nat → Int32, z = upd g79_66 v79_6.toNatClampNeg y76 := ⟨_, rfl⟩
                        have hg81 : xi (E79 66) = g81 := by rw [pw80.eu, hr79_66, eg81]
                        obtain ⟨y82, ey82⟩ : ∃ y : Int32, y = v79_6 + (-1 : Int32) := ⟨_, rfl⟩
                        obtain ⟨ty82, iy82⟩ := ti_add (e := 0) (f := 14) i60 ln_m1 ey82 (by decide)
                        have ty82 : y82.toInt = v79_6.toInt + (-1) := ty82
                        have iy82 : 0 ≤ y82.toInt ∧ y82.toInt ≤ 14 := iy82
                        refine lv_iinc (v := y82) (lv' := [(6, .int y82), (5, .int r45), (4, .int v31_4), (3, .int v31_3), (0, .ref (ad 0)), (1, .int a0), (2, .int a1)]) hx hb dX13_middleOf_114 hl (k := 0) rfl (by rw [ey82]; rfl) (by decide) rfl (fun ls hl => ?_)
                        refine lv_goto (tgt := 79) hx hb dX13_middleOf_117 (by decide) ?_
                        exact ih79 g81 y82 E79 _ _ _ (iv_w iy82 (by decide)) (by rw [hx79_0, (show v79_6.toNatClampNeg = y82.toNatClampNeg + 1 by rw [tn_ v79_6, tn_ y82]; omega), shf_s (show r45.toInt < (g79_66 y82.toNatClampNeg).toInt by rw [← (show y61.toNatClampNeg = y82.toNatClampNeg by rw [tn_ y61, tn_ y82]; omega), ← ey62]; omega)]; congr 1; rw [eg81, (show v79_6.toNatClampNeg = y82.toNatClampNeg + 1 by rw [tn_ v79_6, tn_ y82]; omega), ey76, (show y75.toNatClampNeg = y82.toNatClampNeg by rw [tn_ y75, tn_ y82]; omega)]) (by omega) (by first | exact ms_sd hx79_2 ty82 (by decide) | exact ms_sd2 hx79_2 ty82 | omega) hI hKp hg81 hP hS (lv_sub hl [0, 1, 2, 3, 4, 5, 6] rfl)
                exact hL79 (16) g31_66 v31_3 E46 _ _ _ i32 rfl (by omega) (by have h9 := i32; first | exact ms_bd h9.2 (by decide) | omega) hI hKp ((kq47.ef 66 (fun _ => rfl)).trans hr31_66) hP hS (lv_sub hl [0, 1, 2, 3, 4, 5, 6] rfl)
              · --57 not
                have t83 : ¬ r37.toInt = 0 := ti_ne c42
                have i84 : 1 ≤ r37.toInt ∧ r37.toInt ≤ 5 := iv_ne_l t83 f38 (il_ 0)
                refine lv_goto (tgt := 132) hx hb dX13_middleOf_60 (by decide) ?_
                obtain ⟨y85, ey85⟩ : ∃ y : Int32, y = v31_4 + (1 : Int32) := ⟨_, rfl⟩
                obtain ⟨ty85, iy85⟩ := ti_add (e := 1) (f := 16) i30 ln_1 ey85 (by decide)
                have ty85 : y85.toInt = v31_4.toInt + 1 := ty85
                have iy85 : 1 ≤ y85.toInt ∧ y85.toInt ≤ 16 := iy85
                refine lv_iinc (v := y85) (lv' := [(4, .int y85), (3, .int v31_3), (0, .ref (ad 0)), (1, .int a0), (2, .int a1)]) hx hb dX13_middleOf_132 hl (k := 0) rfl (by rw [ey85]; rfl) (by decide) rfl (fun ls hl => ?_)
                refine lv_goto (tgt := 31) hx hb dX13_middleOf_135 (by decide) ?_
                exact ih31 g31_66 y85 v31_3 E31_ _ _ _ (iv_w iy85 (by decide)) (iv_w i32 (by decide)) (hx31_0.no (fun q9 => absurd (k40.fn q9.2) (by omega)) (by rw [tn_ y85, tn_ v31_4]; omega)) (by omega) (by omega) (by first | exact ms_su hx31_3 ty85 (by decide) | omega) hI hKp hr31_66 hP hS (lv_sub hl [0, 1, 2, 3, 4] rfl)
      exact hL31 (17) g1 (0 : Int32) (0 : Int32) E _ _ _ (iv_w ln_0 (by decide)) (iv_w ln_0 (by decide)) (show MR (fun o9 => CdM E a0 (nI o9) (xi (E 0) 1) 0) (tmM E a0 (xi (E 0) 1)) a1.toNatClampNeg 0 0 _ from rfl) (by have z9 := ln_0; omega) (by have z9 := ln_0; omega) (by have h9 := ln_0; first | exact ms_bu h9.1 (by decide) | omega) hI hKp hg1 hP hS (lv_sub hl [0, 1, 2, 3, 4] rfl)
    · --19 not
      have t86 : ¬ r10.toInt = 0 := ti_ne c14
      have i87 : 1 ≤ r10.toInt ∧ r10.toInt ≤ 5 := iv_ne_l t86 f11 (il_ 0)
      refine lv_ldcw hx hb hown (hts _ (vA_in _ _ (in_27 _ (zs16 (zs4 (zs1 (zs0))))))) dX13_middleOf_22 ?_
      rw [hQ]
      exact W.iret (v := (-1000000000)) hx hb hr (fun t ht hW => ⟨⟨(-1000000000), E, rfl, ⟨hI, hKp, ⟨fun _ => rfl, fun q9 => absurd (f12.fn q9.2) (by omega)⟩⟩, by show va_P (dC, dI) vwCl (WX 72 ad E) t.heap; rw [ht]; exact hP⟩, hS.F ht⟩) hS.2.2 dX13_middleOf_25
def v_middleM : List Cond := .code yX13_middle cX13_middle 3 (some .int) :: vA
abbrev rm_middleM : Room := { frames := 74, cells := 0, slots := 0, locals := 2960 }
def w_middleM : Nat → Nat → Bool := wl [12, 66] [(0, 0), (0, 18), (0, 19), (0, 20), (0, 21), (0, 22), (0, 23), (0, 24), (0, 25), (0, 26)]
set_option maxHeartbeats 4000000 in
set_option maxRecDepth 100000 in
theorem q_middleM (l : Launch) (dC : Nat → ClassId) (dI : Nat → Nat → Nat) (cT : Nat → ClassId) (ad : Nat → Nat) (E : Nat → va_E) (sz : Nat) (a0 : Int32) (a1 : Int32) (hI0 : IX cT shM spM 72 ad E) (hh0 : TXM E) : Met l yX13_middle v_middleM rm_middleM (va_Pc [.ref (ad 0), .int a0, .int a1] (HW dC dI (TYM cT) 72 ad E sz)) (va_Qi (S := Nat → va_E) (fun r u => IX cT shM spM 72 ad u ∧ Kp w_middleM E u ∧ ((((((0 ≤ a0.toInt ∧ a0.toInt < (xi (E 0) 46).toInt) ∧ (0 ≤ a1.toInt ∧ a1.toInt < (xi (E 0) 8).toInt)) → (MdV (fun o9 => CdM E a0 (nI o9) (xi (E 0) 1) 0) (tmM E a0 (xi (E 0) 1)) (xi (E 0) 8).toNatClampNeg a1.toNatClampNeg ((xi (E 15) a0.toNatClampNeg).toInt = 0 ∧ CdM E a0 a1 (xi (E 0) 1) 0) r)) ∧ (¬ ((0 ≤ a0.toInt ∧ a0.toInt < (xi (E 0) 46).toInt) ∧ (0 ≤ a1.toInt ∧ a1.toInt < (xi (E 0) 8).toInt)) → (r.toInt = -1000000000)))))) (HB dC dI 72 ad) (va_A (WX 72 ad E) sz)) 0 0 (va_A (WX 72 ad E) sz) := by
  refine Met.ofW (cc := cX13_middle) (maxL := 3) (ret := (some .int)) (by decide) rfl ?_
  intro p e s m args below meth c s₁ B hml hv
  obtain ⟨hargs, hsz, hP, hK, hD0, hEV⟩ := hv
  subst hsz
  have hx := B.exec
  have hb := B.bytes
  have hr := B.returns
  have hts := atoms_spec (ws := v_middleM) B.pre
  have hown : s.vm.findClass RX13 = some m.cls := findClass_of_methodNamed B.named
  have hlocks := B.notSynchronized
  have hinX13 : ∀ w ∈ u_ws RX13 TX13 97, w ∈ v_middleM := fun w h => vA_in _ w (in_X13 w h)
  generalize hAe : va_A (WX 72 ad E) s.heap.size = A at hEV ⊢
  have hA : ∀ q : Nat, s.heap.size ≤ q → A q := fun q h => by rw [← hAe]; exact Or.inr h
  have hD : va_D A (WX 72 ad E) := by rw [← hAe]; exact hD0.self
  have hS : va_S A s.heap s.heap [] := va_S.rf
  have hI := hI0
  have hKp : Kp w_middleM E E := Kp.rf
  have hl := lv_entry ([.ref (ad 0), .int a0, .int a1]) (n := 3) (Nat.le_of_ble_eq_true rfl)
  obtain ⟨Q, hQ⟩ : ∃ Q, Q = MQ below (va_Qi (S := Nat → va_E) (fun r u => IX cT shM spM 72 ad u ∧ Kp w_middleM E u ∧ ((((((0 ≤ a0.toInt ∧ a0.toInt < (xi (E 0) 46).toInt) ∧ (0 ≤ a1.toInt ∧ a1.toInt < (xi (E 0) 8).toInt)) → (MdV (fun o9 => CdM E a0 (nI o9) (xi (E 0) 1) 0) (tmM E a0 (xi (E 0) 1)) (xi (E 0) 8).toNatClampNeg a1.toNatClampNeg ((xi (E 15) a0.toNatClampNeg).toInt = 0 ∧ CdM E a0 a1 (xi (E 0) 1) 0) r)) ∧ (¬ ((0 ≤ a0.toInt ∧ a0.toInt < (xi (E 0) 46).toInt) ∧ (0 ≤ a1.toInt ∧ a1.toInt < (xi (E 0) 8).toInt)) → (r.toInt = -1000000000)))))) (HB dC dI 72 ad) (A)) args s 0 0 (A) := ⟨_, rfl⟩
  rw [← hQ, show entryFrame m args 3 = _ from (congrArg (fun z => entryFrame m z 3) hargs).trans (lg_entry_eq _ _ _)]
  generalize (lg_sl ([.ref (ad 0), .int a0, .int a1]) ++ List.replicate (3 - (lg_sl ([.ref (ad 0), .int a0, .int a1])).length) Slot.unset).toArray = ls at hl ⊢
  have hl : lv_has ls 3 [(0, .ref (ad 0)), (1, .int a0), (2, .int a1)] := hl
  refine lv_aload_n hx hb dX13_middle_0 rfl (lv_at hl 0 rfl) ?_
  refine lv_iconst (v := 0) hx hb dX13_middle_1 (by decide) ?_
  refine th_put (ci := 14) (C := RX13) (T := TX13) (N := 97) (v := .int 0) (ty := .int) hx hb hts hinX13 tyX13 tyX13_ok nmX13 hown hK hP (WX_D hD) hS hI 0 (Nat.le_of_ble_eq_true rfl) rfl rfl 0 (Nat.le_of_ble_eq_true rfl) (hts _ (vA_in _ _ (in_24 _ (zs4 (zs4 (zs1 (zs1 (zs0)))))))) (fun _ h9 => h9) rfl (by decide +kernel) rfl rfl (okI rfl (iv_w ln_0 (by decide))) dX13_middle_2 (fun H locs E1 pw2 hI hP hS => ?_)
  have hKp := hKp.pw pw2 rfl
  refine lv_aload_n hx hb dX13_middle_5 rfl (lv_at hl 0 rfl) ?_
  refine lv_iload_n hx hb dX13_middle_6 rfl (lv_at hl 1 rfl) ?_
  refine th_ri (va_runV (As := [.int a0]) (rest := []) ⟨hx, hb, hml, hown, hts⟩ (q_isRace l dC dI cT ad E1 H.size a0 hI) (cwV 1 hts (gi_V (in_24 _ (zs4 (zs4 (zs4 (zs0))))) (in_24 _ (zs4 (zs4 (zs4 (zs1 (zs0)))))) (in_24 _ (zs4 (zs4 (zs4 (zs1 (zs1 (zs0))))))) (in_24 _ (zs4 (zs4 (zs4 (zs1 (zs1 (zs1 (zs0)))))))) (in_24 _ (zs16 (zs0)))) rfl rfl rfl ⟨rfl, hz_yX13_isRace_1⟩ ⟨Nat.le_of_ble_eq_true rfl, Nat.le_of_ble_eq_true rfl⟩) ⟨HW_bl, va_recv hK hP (ci := 14) (q0 := 0) rfl (hI.ob 0 (Nat.le_of_ble_eq_true rfl) rfl), (HW_wi hP hK (WX_D hD) hS hA hEV)⟩ rfl rfl hl.1 rfl (lv_room (Nat.le_of_ble_eq_true rfl)) dX13_middle_7 ⟨Nat.le_of_ble_eq_true rfl, Nat.le_of_ble_eq_true rfl⟩) hS hP (fun r3 H locs hw hP hS => ?_)
  rcases hw with hw | hw
  · -- isRace, case 0
    obtain ⟨rfl, f4, f5⟩ := hw
    have i6 : 0 ≤ (xi (E 0) 46).toInt ∧ (xi (E 0) 46).toInt ≤ 20 := (show 0 ≤ (xi (E 0) 46).toInt ∧ (xi (E 0) 46).toInt ≤ 20 from hI0.iv 0 (Nat.le_of_ble_eq_true rfl) rfl (Nat.le_of_ble_eq_true rfl) rfl)
    try rw [hKp.ei 0 46 rfl] at f4
    refine lv_if_eq (tgt := 30) hx hb dX13_middle_10 (by decide) (fun c7 => ?_) (fun c7 => ?_)
    · --10 taken
      exact absurd c7 (by decide)
    · --10 not
      refine lv_aload_n hx hb dX13_middle_13 rfl (lv_at hl 0 rfl) ?_
      refine lv_iload_n hx hb dX13_middle_14 rfl (lv_at hl 2 rfl) ?_
      refine th_ri (va_runV (As := [.int a1]) (rest := []) ⟨hx, hb, hml, hown, hts⟩ (q_isBoat l dC dI cT ad E1 H.size a1 hI) (cwV 1 hts (gi_V (in_24 _ (zs16 (zs1 (zs1 (zs0))))) (in_24 _ (zs16 (zs1 (zs1 (zs1 (zs0)))))) (in_24 _ (zs16 (zs4 (zs0)))) (in_24 _ (zs4 (zs4 (zs4 (zs1 (zs1 (zs1 (zs0)))))))) (in_24 _ (zs16 (zs4 (zs1 (zs0)))))) rfl rfl rfl ⟨rfl, hz_yX13_isBoat_1⟩ ⟨Nat.le_of_ble_eq_true rfl, Nat.le_of_ble_eq_true rfl⟩) ⟨HW_bl, va_recv hK hP (ci := 14) (q0 := 0) rfl (hI.ob 0 (Nat.le_of_ble_eq_true rfl) rfl), (HW_wi hP hK (WX_D hD) hS hA hEV)⟩ rfl rfl hl.1 rfl (lv_room (Nat.le_of_ble_eq_true rfl)) dX13_middle_15 ⟨Nat.le_of_ble_eq_true rfl, Nat.le_of_ble_eq_true rfl⟩) hS hP (fun r8 H locs hw hP hS => ?_)
      rcases hw with hw | hw
      · -- isBoat, case 0
        obtain ⟨rfl, f9, f10⟩ := hw
        have i11 : 0 ≤ (xi (E 0) 8).toInt ∧ (xi (E 0) 8).toInt ≤ 16 := (show 0 ≤ (xi (E 0) 8).toInt ∧ (xi (E 0) 8).toInt ≤ 16 from hI0.iv 0 (Nat.le_of_ble_eq_true rfl) rfl (Nat.le_of_ble_eq_true rfl) rfl)
        try rw [hKp.ei 0 8 rfl] at f9
        refine lv_if_eq (tgt := 30) hx hb dX13_middle_18 (by decide) (fun c12 => ?_) (fun c12 => ?_)
        · --18 taken
          exact absurd c12 (by decide)
        · --18 not
          refine lv_aload_n hx hb dX13_middle_21 rfl (lv_at hl 0 rfl) ?_
          refine lv_iload_n hx hb dX13_middle_22 rfl (lv_at hl 1 rfl) ?_
          refine lv_iload_n hx hb dX13_middle_23 rfl (lv_at hl 2 rfl) ?_
          refine th_i (va_runV (As := [.int a0, .int a1]) (rest := []) ⟨hx, hb, hml, hown, hts⟩ (q_middleOfM l dC dI cT ad E1 H.size a0 a1 hI f5 f10 (by exact hh0.cg (fun j9 => hKp.ei 8 j9 rfl) (fun j9 => hKp.ei 9 j9 rfl) (hKp.ei 0 17 rfl))) (cwV 2 hts (gi_V (in_31 _ (zs16 (zs4 (zs0)))) (in_31 _ (zs16 (zs4 (zs1 (zs0))))) (in_31 _ (zs16 (zs4 (zs1 (zs1 (zs0)))))) (in_24 _ (zs4 (zs4 (zs4 (zs1 (zs1 (zs1 (zs0)))))))) (in_31 _ (zs16 (zs4 (zs1 (zs1 (zs1 (zs0)))))))) rfl rfl rfl ⟨rfl, hz_yX13_middleOf_2⟩ ⟨Nat.le_of_ble_eq_true rfl, Nat.le_of_ble_eq_true rfl⟩) ⟨HW_bl, va_recv hK hP (ci := 14) (q0 := 0) rfl (hI.ob 0 (Nat.le_of_ble_eq_true rfl) rfl), (HW_wi hP hK (WX_D hD) hS hA hEV)⟩ rfl rfl hl.1 rfl (lv_room (Nat.le_of_ble_eq_true rfl)) dX13_middle_24 ⟨Nat.le_of_ble_eq_true rfl, Nat.le_of_ble_eq_true rfl⟩) (WX_D hD) hS hA (fun r13 E14 H locs hw hP hS => ?_)
          obtain ⟨hI, kq15, hw⟩ := hw
          have hKb := hKp
          have hKp := hKp.tr kq15 (wl_sub rfl rfl)
          have f16 := hw
          have i17 : 0 ≤ (xi (E 0) 1).toInt ∧ (xi (E 0) 1).toInt ≤ 400 := (show 0 ≤ (xi (E 0) 1).toInt ∧ (xi (E 0) 1).toInt ≤ 400 from hI0.iv 0 (Nat.le_of_ble_eq_true rfl) rfl (Nat.le_of_ble_eq_true rfl) rfl)
          try rw [hKb.ei 0 1 rfl] at f16
          try rw [hKb.ei 0 8 rfl] at f16
          have k19 : KdN E E1 := KdN.of hKb rfl rfl rfl rfl rfl
          have k18 : MdV (fun o9 => CdM E a0 (nI o9) (xi (E 0) 1) 0) (tmM E a0 (xi (E 0) 1)) (xi (E 0) 8).toNatClampNeg a1.toNatClampNeg ((xi (E 15) a0.toNatClampNeg).toInt = 0 ∧ CdM E a0 a1 (xi (E 0) 1) 0) r13 := MdV_kd k19 f16
          refine lv_goto (tgt := 33) hx hb dX13_middle_27 (by decide) ?_
          rw [hQ]
          exact W.iret (v := r13) hx hb hr (fun t ht hW => ⟨⟨r13, E14, rfl, ⟨hI, hKp, ⟨fun _ => k18, fun q9 => by exfalso; omega⟩⟩, by show va_P (dC, dI) vwCl (WX 72 ad E14) t.heap; rw [ht]; exact hP⟩, hS.F ht⟩) hS.2.2 dX13_middle_33
      · -- isBoat, case 1
        obtain ⟨rfl, f20⟩ := hw
        have i21 : 0 ≤ (xi (E 0) 8).toInt ∧ (xi (E 0) 8).toInt ≤ 16 := (show 0 ≤ (xi (E 0) 8).toInt ∧ (xi (E 0) 8).toInt ≤ 16 from hI0.iv 0 (Nat.le_of_ble_eq_true rfl) rfl (Nat.le_of_ble_eq_true rfl) rfl)
        try rw [hKp.ei 0 8 rfl] at f20
        refine lv_if_eq (tgt := 30) hx hb dX13_middle_18 (by decide) (fun c22 => ?_) (fun c22 => ?_)
        · --18 taken
          refine lv_ldcw hx hb hown (hts _ (vA_in _ _ (in_27 _ (zs16 (zs4 (zs1 (zs0))))))) dX13_middle_30 ?_
          rw [hQ]
          exact W.iret (v := (-1000000000)) hx hb hr (fun t ht hW => ⟨⟨(-1000000000), E1, rfl, ⟨hI, hKp, ⟨fun q9 => by exfalso; omega, fun _ => rfl⟩⟩, by show va_P (dC, dI) vwCl (WX 72 ad E1) t.heap; rw [ht]; exact hP⟩, hS.F ht⟩) hS.2.2 dX13_middle_33
        · --18 not
          exact absurd c22 (by decide)
  · -- isRace, case 1
    obtain ⟨rfl, f23⟩ := hw
    have i24 : 0 ≤ (xi (E 0) 46).toInt ∧ (xi (E 0) 46).toInt ≤ 20 := (show 0 ≤ (xi (E 0) 46).toInt ∧ (xi (E 0) 46).toInt ≤ 20 from hI0.iv 0 (Nat.le_of_ble_eq_true rfl) rfl (Nat.le_of_ble_eq_true rfl) rfl)
    try rw [hKp.ei 0 46 rfl] at f23
    refine lv_if_eq (tgt := 30) hx hb dX13_middle_10 (by decide) (fun c25 => ?_) (fun c25 => ?_)
    · --10 taken
      refine lv_ldcw hx hb hown (hts _ (vA_in _ _ (in_27 _ (zs16 (zs4 (zs1 (zs0))))))) dX13_middle_30 ?_
      rw [hQ]
      exact W.iret (v := (-1000000000)) hx hb hr (fun t ht hW => ⟨⟨(-1000000000), E1, rfl, ⟨hI, hKp, ⟨fun q9 => by exfalso; omega, fun _ => rfl⟩⟩, by show va_P (dC, dI) vwCl (WX 72 ad E1) t.heap; rw [ht]; exact hP⟩, hS.F ht⟩) hS.2.2 dX13_middle_33
    · --10 not
      exact absurd c25 (by decide)
section
/-! ===== what was decided ===== -/
def GRp (E EM : Nat → va_E) (p : Nat) : Prop := (¬ (xi (E (64 * (p + 1) + 14)) 5).toInt = -1 → (xi (E (64 * (p + 1) + 14)) 6).toInt = (xi (EM 51) (2 * p)).toInt) ∧ (¬ (xi (E (64 * (p + 1) + 14)) 8).toInt = -1 → (xi (E (64 * (p + 1) + 14)) 9).toInt = (xi (EM 51) (2 * p + 1)).toInt)
def GR (cf : Nat → Nat) (E EM : Nat → va_E) : Prop := ∀ p, p < cf 5 → GRp E EM p
def REL6 (cf : Nat → Nat) (E EM : Nat → va_E) : Prop := REL5 cf E EM ∧ GR cf E EM
theorem GRp.keep {E E' EM EM' : Nat → va_E} {p : Nat} (h : GRp E EM p) (k5 : (xi (E' (64 * (p + 1) + 14)) 5).toInt = (xi (E (64 * (p + 1) + 14)) 5).toInt) (k6 : (xi (E' (64 * (p + 1) + 14)) 6).toInt = (xi (E (64 * (p + 1) + 14)) 6).toInt) (k8 : (xi (E' (64 * (p + 1) + 14)) 8).toInt = (xi (E (64 * (p + 1) + 14)) 8).toInt) (k9 : (xi (E' (64 * (p + 1) + 14)) 9).toInt = (xi (E (64 * (p + 1) + 14)) 9).toInt) (m0 : xi (EM' 51) (2 * p) = xi (EM 51) (2 * p)) (m1 : xi (EM' 51) (2 * p + 1) = xi (EM 51) (2 * p + 1)) : GRp E' EM' p := by
  unfold GRp at h ⊢
  rw [k5, k6, k8, k9, m0, m1]
  exact h
theorem GR.keep {cf cf' : Nat → Nat} {E E' EM EM' : Nat → va_E} (h : GR cf E EM) (hc : cf' 5 = cf 5) (hk : ∀ i j, i < cf 5 → xi (E' (64 * (i + 1) + 14)) j = xi (E (64 * (i + 1) + 14)) j) (m : ∀ j, xi (EM' 51) j = xi (EM 51) j) : GR cf' E' EM' := fun p hp => by
  rw [hc] at hp
  exact (h p hp).keep (by rw [hk p 5 hp]) (by rw [hk p 6 hp]) (by rw [hk p 8 hp]) (by rw [hk p 9 hp]) (m _) (m _)
theorem GR.push {cf cf' : Nat → Nat} {E E' EM EM' : Nat → va_E} (h : GR cf E EM) (hc : cf' 5 = cf 5 + 1) (hk : ∀ i j, i < cf 5 → xi (E' (64 * (i + 1) + 14)) j = xi (E (64 * (i + 1) + 14)) j) (m : ∀ j, xi (EM' 51) j = xi (EM 51) j) (n5 : xi (E' (64 * (cf 5 + 1) + 14)) 5 = -1) (n8 : xi (E' (64 * (cf 5 + 1) + 14)) 8 = -1) : GR cf' E' EM' := fun p hp => by
  rw [hc] at hp
  by_cases e : p = cf 5
  · subst e
    refine ⟨fun q => absurd ?_ q, fun q => absurd ?_ q⟩
    · rw [n5]
      rfl
    · rw [n8]
      rfl
  · have hp' : p < cf 5 := by omega
    exact (h p hp').keep (by rw [hk p 5 hp']) (by rw [hk p 6 hp']) (by rw [hk p 8 hp']) (by rw [hk p 9 hp']) (m _) (m _)
theorem GR.one {cf : Nat → Nat} {E E' EM EM' : Nat → va_E} {a : Nat} (h : GR cf E EM) (hk : ∀ i j, i < cf 5 → i ≠ a → xi (E' (64 * (i + 1) + 14)) j = xi (E (64 * (i + 1) + 14)) j) (m : ∀ j, j ≠ 2 * a → j ≠ 2 * a + 1 → xi (EM' 51) j = xi (EM 51) j) (ha : a < cf 5 → GRp E' EM' a) : GR cf E' EM' := fun p hp => by
  by_cases e : p = a
  · subst e
    exact ha hp
  · exact (h p hp).keep (by rw [hk p 5 hp e]) (by rw [hk p 6 hp e]) (by rw [hk p 8 hp e]) (by rw [hk p 9 hp e]) (m _ (by omega) (by omega)) (m _ (by omega) (by omega))
/-- one is decided -/
theorem GR.decide {cf : Nat → Nat} {E E' EM EM' : Nat → va_E} {a r1 r2 : Int32} (h : GR cf E EM) (hd : DC cf E EM) (ha : 0 ≤ a.toInt ∧ a.toInt < ((cf 5 : Nat) : Int)) (hnd : (xi (EM 55) a.toNatClampNeg).toInt = 0) (hk : ∀ i j, i < cf 5 → i ≠ a.toNatClampNeg → xi (E' (64 * (i + 1) + 14)) j = xi (E (64 * (i + 1) + 14)) j) (hr : r1.toInt = r2.toInt) (y5 : (xi (E (64 * (a.toNatClampNeg + 1) + 14)) 7).toInt = -1 → (xi (E' (64 * (a.toNatClampNeg + 1) + 14)) 6).toInt = r1.toInt ∧ (xi (E' (64 * (a.toNatClampNeg + 1) + 14)) 8).toInt = (xi (E (64 * (a.toNatClampNeg + 1) + 14)) 8).toInt) (y8 : ¬ (xi (E (64 * (a.toNatClampNeg + 1) + 14)) 7).toInt = -1 → (xi (E' (64 * (a.toNatClampNeg + 1) + 14)) 9).toInt = r1.toInt ∧ (xi (E' (64 * (a.toNatClampNeg + 1) + 14)) 5).toInt = (xi (E (64 * (a.toNatClampNeg + 1) + 14)) 5).toInt ∧ (xi (E' (64 * (a.toNatClampNeg + 1) + 14)) 6).toInt = (xi (E (64 * (a.toNatClampNeg + 1) + 14)) 6).toInt) (m51 : xi (EM' 51) = upd (xi (EM 51)) (2 * a.toInt + (xi (EM 54) a.toNatClampNeg).toInt).toNat r2) : GR cf E' EM' := by
  have hA : a.toNatClampNeg < cf 5 := by
    rw [tn_]
    omega
  have dc := (hd a.toNatClampNeg hA).1
  have tA : (a.toNatClampNeg : Int) = a.toInt := by
    rw [tn_]
    omega
  have g := h a.toNatClampNeg hA
  unfold DCp at dc
  dsimp only at dc
  refine h.one hk (fun j h1 h2 => ?_) (fun _ => ?_)
  · rw [m51]
    refine upd_n (fun q => ?_)
    have hD : (xi (EM 54) a.toNatClampNeg).toInt = 0 ∨ (xi (EM 54) a.toNatClampNeg).toInt = 1 := by omega
    omega
  · unfold GRp at g ⊢
    by_cases c : (xi (E (64 * (a.toNatClampNeg + 1) + 14)) 7).toInt = -1
    · obtain ⟨e6, e8⟩ := y5 c
      have hD : (xi (EM 54) a.toNatClampNeg).toInt = 0 ∧ (xi (E (64 * (a.toNatClampNeg + 1) + 14)) 8).toInt = -1 := by
        omega
      have hK : (2 * a.toInt + (xi (EM 54) a.toNatClampNeg).toInt).toNat = 2 * a.toNatClampNeg := by omega
      refine ⟨fun _ => ?_, fun q => ?_⟩
      · rw [m51, hK, pk_us, e6]
        exact hr
      · exfalso
        omega
    · obtain ⟨e9, e5, e6⟩ := y8 c
      have hD : (xi (EM 54) a.toNatClampNeg).toInt = 1 := by
        omega
      have hK : (2 * a.toInt + (xi (EM 54) a.toNatClampNeg).toInt).toNat = 2 * a.toNatClampNeg + 1 := by omega
      refine ⟨fun q => ?_, fun _ => ?_⟩
      · rw [m51, hK, upd_n (show (2 * a.toNatClampNeg) ≠ 2 * a.toNatClampNeg + 1 by omega), e6]
        exact g.1 (by omega)
      · rw [m51, hK, pk_us, e9]
        exact hr
/-- SWIFT as it is known NOW -/
theorem SW.now {cf : Nat → Nat} {E EM : Nat → va_E} {i : Nat} {s : Int32} (h : SW cf E EM) (hi : i < cf 2) (hn : (xi (E 1) 0).toInt ≤ 400) (g : SWq E i (xi (E 1) 0).toInt s) : s.toInt = (xi (EM 19) i).toInt := by
  rcases h i hi with ⟨d, a1, a2, a3, a4, a5⟩ | ⟨a4, a5⟩ <;> rcases g with ⟨d', b1, b2, b3, b4, b5⟩ | ⟨b4, b5⟩
  · rcases Nat.lt_trichotomy d d' with q | q | q
    · exact absurd (a5 d' q (by omega)) b3
    · subst q
      rw [b4]
      exact a4
    · exact absurd (b5 d (by omega) a2) a3
  · exact absurd (b5 d a1 a2) a3
  · exact absurd (a5 d' (by omega)) b3
  · rw [b4, a4]
    rfl
/-- WORTH of a FAULT's label is the same on both sides -/
theorem RuRel.wv {cf : Nat → Nat} {E EM : Nat → va_E} (h : RuRel cf E EM) (h16 : cf 1 ≤ 16) {lab : Int} (hl : ¬ lab = 110) (day q : Int32) (L : Nat → Int32) : wML L EM lab (lawM EM day q) = wV cf E lab (lawC cf E day q) L := by
  rw [h.law h16]
  have hN : (xi (EM 0) 17).toNatClampNeg = cf 1 := by
    have h2 := h.2.1
    rw [tn_]
    omega
  have hr := cO_in (gB := fun _ => 0) (gF := xi (EM 10)) (gT := xi (EM 11)) (boat := 0) (day := day) (q := q) (xi (EM 0) 17).toNatClampNeg (by omega)
  have hr : (lawM EM day q).toInt = -1 ∨ (0 ≤ (lawM EM day q).toInt ∧ (lawM EM day q).toInt < (((xi (EM 0) 17).toNatClampNeg : Nat) : Int)) := hr
  rw [hN] at hr
  unfold wV
  by_cases c : (lawM EM day q).toInt = -1
  · rw [if_pos c]
    unfold wML dfl
    rw [if_pos c, if_neg hl]
  · rw [if_neg c]
    exact (h.worth (by omega) (by omega)).symm
/-- both sides find alike -/
theorem fnd_eq {cf : Nat → Nat} {E EM : Nat → va_E} {i : Nat} {who q : Int32} {s : Int} (hR : REL cf E EM) (hU : RuRel cf E EM) (h16 : cf 1 ≤ 16) (hi : i < cf 5) (hs : s = (xi (EM 19) (mPR EM i)).toInt) : MSure EM i who q ↔ FndC cf E i who q s := by
  have t5 : ∀ j row, (14, j, row) ∈ tb5 → xi (E (64 * (i + 1) + 14)) j = xi (EM row) i := fun j row hm => hR.tb5 (14, j, row) hm i hi
  have hr : ri14 E i = mPR EM i := congrArg Int32.toNatClampNeg (t5 0 46 (by decide))
  have hrl : mPR EM i < cf 2 := by
    rw [← hr]
    exact (hR.er5 (14, 0, 1, 4) (by decide) i hi).1
  have t2 : ∀ j row, (6, j, row) ∈ tb2 → xi (E (64 * (mPR EM i + 1) + 6)) j = xi (EM row) (mPR EM i) := fun j row hm => hR.tb2 (6, j, row) hm _ hrl
  have t4 : ∀ k, k < cf 4 → ∀ j row, (13, j, row) ∈ tb4 → xi (E (64 * (k + 1) + 13)) j = xi (EM row) k := fun k hk j row hm => hR.tb4 (13, j, row) hm k hk
  have hn : nWM EM = cf 4 := by
    have h1 := hR.cnt.2.2.2.1
    show (xi (EM 0) 74).toNatClampNeg = cf 4
    rw [tn_]
    omega
  unfold MSure FndC
  rw [hn, hr, hs]
  have p : ∀ j row, (14, j, row) ∈ tb5 → (xi (EM row) i).toInt = pA E i j := fun j row hm => congrArg Int32.toInt (t5 j row hm).symm
  rw [p 0 46 (by decide), p 1 47 (by decide), p 2 48 (by decide), p 3 49 (by decide), ← t2 4 16 (by decide), ← t2 5 17 (by decide), ← t2 6 18 (by decide), ← t2 1 13 (by decide)]
  refine Sure_cg (fun k hk j hj => ?_) (fun k hk => (t4 k hk 7 44 (by decide)).symm) (fun L => ?_)
  · rcases (show j = 0 ∨ j = 1 ∨ j = 2 ∨ j = 3 ∨ j = 4 ∨ j = 5 ∨ j = 6 by omega) with rfl | rfl | rfl | rfl | rfl | rfl | rfl
    · exact congrArg Int32.toInt (t4 k hk 0 38 (by decide)).symm
    · exact congrArg Int32.toInt (t4 k hk 1 39 (by decide)).symm
    · exact congrArg Int32.toInt (t4 k hk 2 45 (by decide)).symm
    · exact congrArg Int32.toInt (t4 k hk 3 40 (by decide)).symm
    · exact congrArg Int32.toInt (t4 k hk 4 41 (by decide)).symm
    · exact congrArg Int32.toInt (t4 k hk 5 42 (by decide)).symm
    · exact congrArg Int32.toInt (t4 k hk 6 43 (by decide)).symm
  · refine hU.wv h16 ?_ _ q L
    by_cases c : who.toInt = 0
    · rw [if_pos c]
      decide
    · rw [if_neg c]
      decide
/-! ===== CODES alike ===== -/
theorem out_core {e : Nat → Int} {dec isd f0 t0 f1 t1 o0 o1 q bit : Int} (h : DCp e dec isd f0 t0 f1 t1) (hg5 : ¬ e 5 = -1 → e 6 = o0) (hg8 : ¬ e 8 = -1 → e 9 = o1) (hq : 0 ≤ q ∧ q < 1000) : ((1 ≤ dec ∧ hasB bit o0 ∧ f0 ≤ q ∧ q < t0) ∨ (2 ≤ dec ∧ hasB bit o1 ∧ f1 ≤ q ∧ q < t1)) ↔ hasB bit (gCe e q) := by
  unfold DCp at h
  unfold gCe
  rcases h with ⟨d1, d2, d3, d4, d5⟩ | ⟨d1, d2, d3, d4, d5, d6, d7, d8⟩ | ⟨d1, d2, d3, d4, d5, d6, d7, d8⟩ | ⟨d1, d2, d3, d4, d5, d6, d7, d8, d9, d10⟩
  · rw [if_neg (fun w => w.1 d5), if_neg (fun w => w.1 d4), if_neg (fun w => w.1 d3)]
    refine ⟨fun h => ?_, fun h => absurd h hasB_0⟩
    rcases h with ⟨a, -⟩ | ⟨a, -⟩
    · exfalso
      omega
    · exfalso
      omega
  · rw [if_neg (fun w => w.1 d6), if_neg (fun w => w.1 d5)]
    by_cases c : e 5 ≤ q
    · rw [if_pos ⟨show ¬ e 5 = -1 by omega, c⟩, hg5 (by omega)]
      refine ⟨fun h => ?_, fun h => Or.inl ⟨by omega, h, by omega, by omega⟩⟩
      rcases h with ⟨-, b, -⟩ | ⟨a, -⟩
      · exact b
      · exfalso
        omega
    · rw [if_neg (fun w => c w.2)]
      refine ⟨fun h => ?_, fun h => absurd h hasB_0⟩
      rcases h with ⟨-, -, a, -⟩ | ⟨a, -⟩
      · exfalso
        omega
      · exfalso
        omega
  · rw [if_neg (fun w => w.1 d6)]
    by_cases c7 : e 7 ≤ q
    · rw [if_pos ⟨show ¬ e 7 = -1 by omega, c7⟩]
      refine ⟨fun h => ?_, fun h => absurd h hasB_0⟩
      rcases h with ⟨-, -, -, a⟩ | ⟨a, -⟩
      · exfalso
        omega
      · exfalso
        omega
    · rw [if_neg (fun w => c7 w.2)]
      by_cases c : e 5 ≤ q
      · rw [if_pos ⟨show ¬ e 5 = -1 by omega, c⟩, hg5 (by omega)]
        refine ⟨fun h => ?_, fun h => Or.inl ⟨by omega, h, by omega, by omega⟩⟩
        rcases h with ⟨-, b, -⟩ | ⟨a, -⟩
        · exact b
        · exfalso
          omega
      · rw [if_neg (fun w => c w.2)]
        refine ⟨fun h => ?_, fun h => absurd h hasB_0⟩
        rcases h with ⟨-, -, a, -⟩ | ⟨a, -⟩
        · exfalso
          omega
        · exfalso
          omega
  · by_cases c8 : e 8 ≤ q
    · rw [if_pos ⟨show ¬ e 8 = -1 by omega, c8⟩, hg8 (by omega)]
      refine ⟨fun h => ?_, fun h => Or.inr ⟨by omega, h, by omega, by omega⟩⟩
      rcases h with ⟨-, -, -, a⟩ | ⟨-, b, -⟩
      · exfalso
        omega
      · exact b
    · rw [if_neg (fun w => c8 w.2)]
      by_cases c7 : e 7 ≤ q
      · rw [if_pos ⟨show ¬ e 7 = -1 by omega, c7⟩]
        refine ⟨fun h => ?_, fun h => absurd h hasB_0⟩
        rcases h with ⟨-, -, -, a⟩ | ⟨-, -, a, -⟩
        · exfalso
          omega
        · exfalso
          omega
      · rw [if_neg (fun w => c7 w.2)]
        by_cases c : e 5 ≤ q
        · rw [if_pos ⟨show ¬ e 5 = -1 by omega, c⟩, hg5 (by omega)]
          refine ⟨fun h => ?_, fun h => Or.inl ⟨by omega, h, by omega, by omega⟩⟩
          rcases h with ⟨-, b, -⟩ | ⟨-, -, a, -⟩
          · exact b
          · exfalso
            omega
        · rw [if_neg (fun w => c w.2)]
          refine ⟨fun h => ?_, fun h => absurd h hasB_0⟩
          rcases h with ⟨-, -, a, -⟩ | ⟨-, -, a, -⟩
          · exfalso
            omega
          · exfalso
            omega
theorem ex_k {E : Nat → va_E} {bit q d : Int} {p : Nat} (hd : d = 0 ∨ d = 1 ∨ d = 2) : (∃ k : Nat, 2 * p ≤ k ∧ (k : Int) < 2 * (p : Int) + d ∧ kM E bit q k) ↔ ((1 ≤ d ∧ kM E bit q (2 * p)) ∨ (2 ≤ d ∧ kM E bit q (2 * p + 1))) := by
  constructor
  · rintro ⟨k, h1, h2, h3⟩
    by_cases c : k = 2 * p
    · subst c
      exact Or.inl ⟨by omega, h3⟩
    · have e : k = 2 * p + 1 := by omega
      subst e
      exact Or.inr ⟨by omega, h3⟩
  · rintro (⟨h1, h2⟩ | ⟨h1, h2⟩)
    · exact ⟨2 * p, by omega, by omega, h2⟩
    · exact ⟨2 * p + 1, by omega, by omega, h2⟩
theorem dec_in {e : Nat → Int} {dec isd f0 t0 f1 t1 : Int} (h : DCp e dec isd f0 t0 f1 t1) : dec = 0 ∨ dec = 1 ∨ dec = 2 := by
  unfold DCp at h
  omega
theorem out_eq {cf : Nat → Nat} {E EM : Nat → va_E} {p : Nat} {race boat q : Int} (hR : REL cf E EM) (hG : GR cf E EM) (hp : p < cf 5) (hq : 0 ≤ q ∧ q < 1000) : outC E race q boat p ↔ outM EM race q boat p := by
  have t5 : ∀ j row, (14, j, row) ∈ tb5 → (xi (EM row) p).toInt = pA E p j := fun j row hm => congrArg Int32.toInt (hR.tb5 (14, j, row) hm p hp).symm
  have hd : DCp (pA E p) (xi (EM 54) p).toInt (xi (EM 55) p).toInt (xi (EM 52) (2 * p)).toInt (xi (EM 53) (2 * p)).toInt (xi (EM 52) (2 * p + 1)).toInt (xi (EM 53) (2 * p + 1)).toInt := (hR.dc p hp).1
  have hne : ¬ pA E p 1 = pA E p 2 := hR.pne p hp
  have hc : ∀ bit : Int, (∃ k : Nat, 2 * p ≤ k ∧ (k : Int) < 2 * (p : Int) + (xi (EM 54) p).toInt ∧ kM EM bit q k) ↔ hasB bit (gC E p q) := fun bit => (ex_k (dec_in hd)).trans (out_core hd (hG p hp).1 (hG p hp).2 hq)
  unfold outC outM
  rw [t5 0 46 (by decide), t5 1 47 (by decide), t5 2 48 (by decide)]
  by_cases c1 : pA E p 1 = boat
  · rw [if_pos c1, hc 1]
    unfold hasB
    rw [if_pos rfl]
    constructor
    · rintro ⟨a, ⟨b, -⟩ | ⟨-, b⟩⟩
      · exact ⟨a, Or.inl c1, b⟩
      · exact absurd (c1.trans b.symm) hne
    · rintro ⟨a, -, b⟩
      exact ⟨a, Or.inl ⟨b, c1⟩⟩
  · rw [if_neg c1, hc 2]
    unfold hasB
    rw [if_neg (by decide)]
    constructor
    · rintro ⟨a, ⟨-, b⟩ | ⟨b, c⟩⟩
      · exact absurd b c1
      · exact ⟨a, Or.inr c, b⟩
    · rintro ⟨a, b | b, c⟩
      · exact absurd b c1
      · exact ⟨a, Or.inr ⟨c, b⟩⟩
theorem Out_eq {cf : Nat → Nat} {E EM : Nat → va_E} {race boat q : Int} (hR : REL cf E EM) (hG : GR cf E EM) (hq : 0 ≤ q ∧ q < 1000) : exF (outC E race q boat) (cf 5) ↔ OutMx EM race boat q := by
  have h5 : (xi (EM 0) 75).toNatClampNeg = cf 5 := by
    have h1 := hR.cnt.2.2.2.2
    rw [tn_]
    omega
  unfold OutMx
  rw [h5]
  exact ⟨fun ⟨p, h1, h2⟩ => ⟨p, h1, (out_eq hR hG h1 hq).mp h2⟩, fun ⟨p, h1, h2⟩ => ⟨p, h1, (out_eq hR hG h1 hq).mpr h2⟩⟩
/-- who is DISQUALIFIED was entered -/
theorem gC_told {e : Nat → Int} {dec isd f0 t0 f1 t1 q : Int} (hd : DCp e dec isd f0 t0 f1 t1) (h : gCe e q % 2 = 1 ∨ gCe e q / 2 = 1) : e 4 ≤ q := by
  unfold DCp at hd
  unfold gCe at h
  by_cases c8 : ¬ e 8 = -1 ∧ e 8 ≤ q
  · omega
  · rw [if_neg c8] at h
    by_cases c7 : ¬ e 7 = -1 ∧ e 7 ≤ q
    · rw [if_pos c7] at h
      omega
    · rw [if_neg c7] at h
      by_cases c5 : ¬ e 5 = -1 ∧ e 5 ≤ q
      · omega
      · rw [if_neg c5] at h
        omega
theorem out_ent {cf : Nat → Nat} {E EM : Nat → va_E} {p r b : Nat} {q : Int} (hR : REL cf E EM) (hp : p < cf 5) (h : outC E (r : Int) q (b : Int) p) : entCd E r b q := by
  have hd : DCp (pA E p) (xi (EM 54) p).toInt (xi (EM 55) p).toInt (xi (EM 52) (2 * p)).toInt (xi (EM 53) (2 * p)).toInt (xi (EM 52) (2 * p + 1)).toInt (xi (EM 53) (2 * p + 1)).toInt := (hR.dc p hp).1
  obtain ⟨h0, h1⟩ := h
  have h4 : pA E p 4 ≤ q := gC_told hd (h1.imp (fun g => g.1) (fun g => g.1))
  have er : ∀ j, (14, 0, j, 4) ∈ [(14, 0, 1, 4), (14, 0, 2, 4)] → pA E p j = (b : Int) → entCd E r b q := fun j hm hb => by
    obtain ⟨-, -, -, -, e5, e6⟩ := hR.er5 (14, 0, j, 4) hm p hp
    have er : (xi (E (64 * (p + 1) + 14)) 0).toNatClampNeg = r := by
      have h9 : (xi (E (64 * (p + 1) + 14)) 0).toInt = (r : Int) := h0
      rw [tn_]
      omega
    have eb : (xi (E (64 * (p + 1) + 14)) j).toNatClampNeg = b := by
      have h9 : (xi (E (64 * (p + 1) + 14)) j).toInt = (b : Int) := hb
      rw [tn_]
      omega
    have e5' : ¬ (xi (E (64 * ((xi (E (64 * (p + 1) + 14)) 0).toNatClampNeg + 1) + 7)) (xi (E (64 * (p + 1) + 14)) j).toNatClampNeg).toInt = -1 := e5
    have e6' : (xi (E (64 * ((xi (E (64 * (p + 1) + 14)) 0).toNatClampNeg + 1) + 7)) (xi (E (64 * (p + 1) + 14)) j).toNatClampNeg).toInt ≤ (xi (E (64 * (p + 1) + 14)) 4).toInt := e6
    rw [er, eb] at e5' e6'
    exact ⟨e5', Int.le_trans e6' h4⟩
  rcases h1 with ⟨-, h2⟩ | ⟨-, h2⟩
  · exact er 1 (by decide) h2
  · exact er 2 (by decide) h2
theorem lO_cg {gA gB gT gA' gB' gT' : Nat → Int32} {a b q : Int32} : ∀ n : Nat, (∀ k, k < n → gA k = gA' k ∧ gB k = gB' k ∧ gT k = gT' k) → lO gA gB gT a b q n = lO gA' gB' gT' a b q n := by
  intro n
  induction n with
  | zero => exact fun _ => rfl
  | succ n ih =>
    intro h
    obtain ⟨e1, e2, e3⟩ := h n (by omega)
    show (if gA n = a ∧ gB n = b ∧ gT n ≤ q then nI n else lO gA gB gT a b q n) = (if gA' n = a ∧ gB' n = b ∧ gT' n ≤ q then nI n else lO gA' gB' gT' a b q n)
    rw [e1, e2, e3, ih (fun k hk => h k (by omega))]
theorem lO_is {gA gB gT : Nat → Int32} {a b q : Int32} : ∀ n : Nat, lO gA gB gT a b q n = -1 ∨ ∃ k, k < n ∧ lO gA gB gT a b q n = nI k ∧ gA k = a ∧ gB k = b ∧ gT k ≤ q := by
  intro n
  induction n with
  | zero => exact Or.inl rfl
  | succ n ih =>
    by_cases c : gA n = a ∧ gB n = b ∧ gT n ≤ q
    · exact Or.inr ⟨n, by omega, if_pos c, c⟩
    · have e : lO gA gB gT a b q (n + 1) = lO gA gB gT a b q n := if_neg c
      rw [e]
      exact ih.imp id (fun ⟨k, h1, h2⟩ => ⟨k, by omega, h2⟩)
theorem lR_eq {cf : Nat → Nat} {E EM : Nat → va_E} {a b q : Int32} (hR : REL cf E EM) : lRC E a b q (cf 3) = lRM EM a b q := by
  have h3 : (xi (EM 0) 47).toNatClampNeg = cf 3 := by
    have h1 := hR.cnt.2.2.1
    rw [tn_]
    omega
  unfold lRC lRM
  rw [h3]
  exact lO_cg (cf 3) (fun k hk => ⟨hR.tb3 (12, 0, 24) (by decide) k hk, hR.tb3 (12, 1, 25) (by decide) k hk, hR.tb3 (12, 4, 28) (by decide) k hk⟩)
theorem lR_is {cf : Nat → Nat} {E EM : Nat → va_E} {a b q : Int32} (hR : REL cf E EM) (h3 : cf 3 ≤ 300) (ha : 0 ≤ a.toInt) (hb : 0 ≤ b.toInt) : (lRC E a b q (cf 3)).toInt = -1 ∨ ((lRC E a b q (cf 3)).toNatClampNeg < cf 3 ∧ 0 ≤ (lRC E a b q (cf 3)).toInt ∧ entCd E a.toNatClampNeg b.toNatClampNeg q.toInt) := by
  rcases lO_is (gA := fun k => xi (E (64 * (k + 1) + 12)) 0) (gB := fun k => xi (E (64 * (k + 1) + 12)) 1) (gT := fun k => xi (E (64 * (k + 1) + 12)) 4) (a := a) (b := b) (q := q) (cf 3) with h | ⟨k, hk, h, e1, e2, e3⟩
  · refine Or.inl ?_
    unfold lRC
    rw [h]
    rfl
  · refine Or.inr ?_
    have hi : (nI k).toInt = (k : Int) := nI_toInt (by omega)
    have hl : lRC E a b q (cf 3) = nI k := h
    have e1' : xi (E (64 * (k + 1) + 12)) 0 = a := e1
    have e2' : xi (E (64 * (k + 1) + 12)) 1 = b := e2
    have e3' : (xi (E (64 * (k + 1) + 12)) 4).toInt ≤ q.toInt := Int32.le_iff_toInt_le.mp e3
    obtain ⟨-, -, -, -, e5, e6⟩ := hR.er3 (12, 0, 1, 4) (by decide) k hk
    have e5' : ¬ (xi (E (64 * ((xi (E (64 * (k + 1) + 12)) 0).toNatClampNeg + 1) + 7)) (xi (E (64 * (k + 1) + 12)) 1).toNatClampNeg).toInt = -1 := e5
    have e6' : (xi (E (64 * ((xi (E (64 * (k + 1) + 12)) 0).toNatClampNeg + 1) + 7)) (xi (E (64 * (k + 1) + 12)) 1).toNatClampNeg).toInt ≤ (xi (E (64 * (k + 1) + 12)) 4).toInt := e6
    rw [e1', e2'] at e5' e6'
    rw [hl, hi, tn_ (nI k), hi]
    exact ⟨by omega, by omega, e5', Int.le_trans e6' e3'⟩
theorem cd_eq {cf : Nat → Nat} {E EM : Nat → va_E} {a b q : Int32} {c c' : Int} (hR : REL cf E EM) (hG : GR cf E EM) (h3 : cf 3 ≤ 300) (ha : 0 ≤ a.toInt) (hb : 0 ≤ b.toInt) (hq : 0 ≤ q.toInt ∧ q.toInt < 1000) (hen : entCd E a.toNatClampNeg b.toNatClampNeg q.toInt ↔ entMd EM a.toInt b.toInt q.toInt) (h : CdR cf E a q b.toNatClampNeg c) (h' : CdM EM a b q c') : (entMd EM a.toInt b.toInt q.toInt → c = c') ∧ (¬ entMd EM a.toInt b.toInt q.toInt → c = -1 ∧ c' = 2) := by
  have ta : ((a.toNatClampNeg : Nat) : Int) = a.toInt := by
    rw [tn_]
    omega
  have tb : ((b.toNatClampNeg : Nat) : Int) = b.toInt := by
    rw [tn_]
    omega
  have hO := Out_eq (race := a.toInt) (boat := b.toInt) hR hG hq
  unfold CdR cdN at h
  rw [tb, hO, nI_tn hb] at h
  unfold CdM at h'
  rw [← lR_eq hR] at h'
  obtain ⟨h1, h2⟩ := h
  obtain ⟨g1, g2⟩ := h'
  refine ⟨fun en => ?_, fun ne => ?_⟩
  · obtain ⟨g3, g4⟩ := g2 en
    by_cases o : OutMx EM a.toInt b.toInt q.toInt
    · rw [h1 o, g3 o]
    · obtain ⟨h3, h4⟩ := h2 o
      obtain ⟨g5, g6⟩ := g4 o
      by_cases l : (lRC E a b q (cf 3)).toInt = -1
      · rw [(h3 l).1 (hen.mpr en), g5 l]
      · rw [h4 l, g6 l]
        rcases lR_is (q := q) hR (by omega) ha hb with q1 | ⟨q1, -, -⟩
        · exact absurd q1 l
        · exact congrArg Int32.toInt (hR.tb3 (12, 2, 26) (by decide) _ q1)
  · have no : ¬ entCd E a.toNatClampNeg b.toNatClampNeg q.toInt := fun z => ne (hen.mp z)
    have o : ¬ OutMx EM a.toInt b.toInt q.toInt := fun z => by
      obtain ⟨p, hp, z1⟩ := hO.mpr z
      rw [← ta, ← tb] at z1
      exact no (out_ent hR hp z1)
    obtain ⟨h3, -⟩ := h2 o
    rcases lR_is (q := q) hR (by omega) ha hb with q1 | ⟨-, -, q1⟩
    · exact ⟨(h3 q1).2 no, g1 ne⟩
    · exact absurd q1 no
/-- how many are DISQUALIFIED -/
theorem cnt_eq {cf : Nat → Nat} {E EM : Nat → va_E} {c c' : Int} (hR : REL cf E EM) (hG : GR cf E EM) (hn : 0 ≤ (xi (E 1) 0).toInt ∧ (xi (E 1) 0).toInt ≤ 400) (h1 : 0 ≤ (xi (E 1) 1).toInt ∧ (xi (E 1) 1).toInt ≤ 16) (h : Cn2 (fun r9 b9 => exF (outC E ((r9 : Nat) : Int) (xi (E 1) 0).toInt ((b9 : Nat) : Int)) (cf 5)) 16 (cf 2) c) (h' : Cn2 (fun r9 b9 => OutMx EM ((r9 : Nat) : Int) ((b9 : Nat) : Int) (xi (EM 0) 1).toInt) (xi (EM 0) 8).toNatClampNeg (xi (EM 0) 46).toNatClampNeg c') : c = c' := by
  have hN : (xi (EM 0) 46).toNatClampNeg = cf 2 := by
    have h1 := hR.cnt.2.1
    rw [tn_]
    omega
  rw [hN, ← hR.now, ← hR.boats] at h'
  refine Cn2.un (cf 2) c c' h h' (fun k hk d d' g g' => ?_)
  have hb : (xi (E 1) 1).toNatClampNeg ≤ 16 := by
    rw [tn_]
    omega
  have g2 := g.cut hb (fun b hb1 hb2 z => by
    obtain ⟨p, hp, z1⟩ := z
    have z2 := out_ent hR hp z1
    have z3 := hR.eb k b hk hb2
    have z4 : ¬ (xi (E (64 * (k + 1) + 7)) b).toInt = -1 := z2.1
    rw [tn_] at hb1
    omega)
  exact CnR.un _ d d' g2 g' (fun b _ => Out_eq hR hG ⟨hn.1, by omega⟩)
/-! ===== CORRECTED and PLACES alike ===== -/
theorem fn_eq {cT : Nat → ClassId} {cf am : Nat → Nat} {E EM : Nat → va_E} {a q : Int32} (hR : REL cf E EM) (hG : GR cf E EM) (hM : IX cT shM spM 72 am EM) (h20 : cf 2 ≤ 20) (h3 : cf 3 ≤ 300) (ha : 0 ≤ a.toInt ∧ a.toInt < ((cf 2 : Nat) : Int)) (hq : 0 ≤ q.toInt ∧ q.toInt ≤ 400) {o : Nat} (ho : o < 16) : CdR cf E a q o 0 ↔ CdM EM a (nI o) q 0 := by
  have hi : (nI o).toInt = (o : Int) := nI_toInt (by omega)
  have hn : (nI o).toNatClampNeg = o := by
    rw [tn_, hi]
    omega
  have hen := pen (n := q.toInt) hR.en hM hq h20 a (nI o) ha (by omega)
  have key : ∀ c c' : Int, CdR cf E a q o c → CdM EM a (nI o) q c' → (entMd EM a.toInt (nI o).toInt q.toInt → c = c') ∧ (¬ entMd EM a.toInt (nI o).toInt q.toInt → c = -1 ∧ c' = 2) := fun c c' h h' => cd_eq (a := a) (b := nI o) (q := q) hR hG h3 ha.1 (by omega) (by omega) hen (by rw [hn]; exact h) h'
  constructor
  · intro h
    obtain ⟨c', h'⟩ := CdM.tot (E := EM) (race := a) (boat := nI o) (q := q)
    by_cases en : entMd EM a.toInt (nI o).toInt q.toInt
    · rw [(key 0 c' h h').1 en]
      exact h'
    · exact absurd ((key 0 c' h h').2 en).1 (by decide)
  · intro h'
    obtain ⟨c, h⟩ := CdR.tot (cf := cf) (E := E) (race := a) (q := q) (b := o)
    by_cases en : entMd EM a.toInt (nI o).toInt q.toInt
    · rw [← (key c 0 h h').1 en]
      exact h
    · exact absurd ((key c 0 h h').2 en).2 (by decide)
theorem tm_eq {cf : Nat → Nat} {E EM : Nat → va_E} {a q : Int32} (hR : REL cf E EM) (hU : RuRel cf E EM) (h16 : cf 1 ≤ 16) (h80 : cf 0 ≤ 80) (h3 : cf 3 ≤ 300) (ha : 0 ≤ a.toInt ∧ a.toInt < ((cf 2 : Nat) : Int)) {o : Nat} (ho : o < 16) (h : CdR cf E a q o 0) : tmC cf E a q o = tmM EM a q o := by
  have hi : (nI o).toInt = (o : Int) := nI_toInt (by omega)
  have haN : a.toNatClampNeg < cf 2 := by
    rw [tn_]
    omega
  have t2 : ∀ j row, (6, j, row) ∈ tb2 → rcS E a.toNatClampNeg j = xi (EM row) a.toNatClampNeg := fun j row hm => hR.tb2 (6, j, row) hm _ haN
  have hl := CdR_0 h
  have hs : xi (E (64 * ((lRC E a (nI o) q (cf 3)).toNatClampNeg + 1) + 12)) 3 = xi (EM 27) (lRM EM a (nI o) q).toNatClampNeg := by
    rw [← lR_eq hR]
    rcases lR_is (a := a) (b := nI o) (q := q) hR h3 ha.1 (by omega) with q1 | ⟨q1, -, -⟩
    · exact absurd q1 hl
    · exact hR.tb3 (12, 3, 27) (by decide) _ q1
  unfold tmC tmM tmB
  rw [hs, t2 1 13 (by decide), t2 2 14 (by decide), t2 3 15 (by decide), num_eq hU hR.ce h16 h80]
theorem fin_boat {cf : Nat → Nat} {E EM : Nat → va_E} {a q : Int32} (hR : REL cf E EM) (h3 : cf 3 ≤ 300) (ha : 0 ≤ a.toInt ∧ a.toInt < ((cf 2 : Nat) : Int)) {o : Nat} (ho : o < 16) (h : CdR cf E a q o 0) : (o : Int) < (xi (E 1) 1).toInt := by
  have hi : (nI o).toInt = (o : Int) := nI_toInt (by omega)
  rcases lR_is (a := a) (b := nI o) (q := q) hR h3 ha.1 (by omega) with q1 | ⟨-, -, q1⟩
  · exact absurd q1 (CdR_0 h)
  · have hn : (nI o).toNatClampNeg = o := by
      rw [tn_, hi]
      omega
    rw [hn] at q1
    have h9 := hR.eb a.toNatClampNeg o (by rw [tn_]; omega) ho
    have h8 : ¬ (xi (E (64 * (a.toNatClampNeg + 1) + 7)) o).toInt = -1 := q1.1
    omega
theorem pl_eq {cT : Nat → ClassId} {cf am : Nat → Nat} {E EM : Nat → va_E} {a q : Int32} (hR : REL cf E EM) (hG : GR cf E EM) (hU : RuRel cf E EM) (hM : IX cT shM spM 72 am EM) (h16 : cf 1 ≤ 16) (h80 : cf 0 ≤ 80) (h20 : cf 2 ≤ 20) (h3 : cf 3 ≤ 300) (h1 : 0 ≤ (xi (E 1) 1).toInt ∧ (xi (E 1) 1).toInt ≤ 16) (ha : 0 ≤ a.toInt ∧ a.toInt < ((cf 2 : Nat) : Int)) (hq : 0 ≤ q.toInt ∧ q.toInt ≤ 400) {b : Nat} (hb : b < 16) (hf : CdR cf E a q b 0) {p p' : Int} (h : PlS (fun o => CdR cf E a q o 0) (tmC cf E a q) 16 b p) (h' : PlS (fun o => CdM EM a (nI o) q 0) (tmM EM a q) (xi (EM 0) 8).toNatClampNeg b p') : p = p' := by
  have hN : (xi (E 1) 1).toNatClampNeg ≤ 16 := by
    rw [tn_]
    omega
  have hT : ∀ o, o < 16 → CdR cf E a q o 0 → tmC cf E a q o = tmM EM a q o := fun o ho hc => tm_eq hR hU h16 h80 h3 ha ho hc
  have hF : ∀ o, o < 16 → (CdR cf E a q o 0 ↔ CdM EM a (nI o) q 0) := fun o ho => fn_eq hR hG hM h20 h3 ha hq ho
  have hB : ∀ o, (xi (E 1) 1).toNatClampNeg ≤ o → o < 16 → ¬ CdR cf E a q o 0 := fun o h2 h3' hc => by
    have h9 := fin_boat hR h3 ha h3' hc
    rw [tn_] at h2
    omega
  rw [← hR.boats] at h'
  obtain ⟨x, y, g1, g2, g3⟩ := h
  obtain ⟨x', y', k1, k2, k3⟩ := h'
  have e1 : x = x' := CnR.un _ x x' (g1.cut hN (fun k h2 h4 z => hB k h2 h4 z.1)) k1 (fun k hk => by
    have hk16 : k < 16 := by omega
    constructor
    · rintro ⟨z1, z2⟩
      exact ⟨(hF k hk16).mp z1, by rw [← hT k hk16 z1, ← hT b hb hf]; exact z2⟩
    · rintro ⟨z1, z2⟩
      have z3 := (hF k hk16).mpr z1
      exact ⟨z3, by rw [hT k hk16 z3, hT b hb hf]; exact z2⟩)
  have e2 : y = y' := CnR.un _ y y' (g2.cut hN (fun k h2 h4 z => hB k h2 h4 z.1)) k2 (fun k hk => by
    have hk16 : k < 16 := by omega
    constructor
    · rintro ⟨z1, z2⟩
      exact ⟨(hF k hk16).mp z1, by rw [← hT k hk16 z1, ← hT b hb hf]; exact z2⟩
    · rintro ⟨z1, z2⟩
      have z3 := (hF k hk16).mpr z1
      exact ⟨z3, by rw [hT k hk16 z3, hT b hb hf]; exact z2⟩)
  omega
theorem CdM_ent {E : Nat → va_E} {race boat q : Int32} (h : CdM E race boat q 0) : entMd E race.toInt boat.toInt q.toInt := Classical.byContradiction (fun z => absurd (h.1 z) (by decide))
/-! ===== POINTS alike ===== -/
theorem red_eq {cf : Nat → Nat} {E EM : Nat → va_E} {i b : Nat} {q : Int} (hR : REL cf E EM) (hi : i < cf 2) (hb : b < 16) (ht : ∀ k : Nat, (k : Int) < (xi (EM 0) 48).toInt → 0 ≤ (xi (EM 31) k).toInt) : redC E b q i ↔ redM EM (i : Int) (b : Int) q := by
  obtain ⟨h1, h2⟩ := hR.rd i b hi hb
  constructor
  · rintro ⟨z1, z2⟩
    obtain ⟨⟨k, k1, k2, k3⟩, -⟩ := h2 z1
    have h4 := h1 k k1 k2 k3
    exact ⟨k, k1, k2, k3, by omega⟩
  · rintro ⟨k, k1, k2, k3, k4⟩
    have h4 := h1 k k1 k2 k3
    have h5 := ht k k1
    exact ⟨by omega, by omega⟩
theorem entC_cn {g : Nat → Int32} {q : Int} : ∀ n : Nat, CnR (fun o => ¬ (g o).toInt = -1 ∧ (g o).toInt ≤ q) n ((entC g q n : Nat) : Int) := by
  intro n
  induction n with
  | zero => rfl
  | succ n ih =>
    by_cases c : ¬ (g n).toInt = -1 ∧ (g n).toInt ≤ q
    · exact ih.one c (by rw [entC_1 c]; omega) rfl
    · exact ih.no c (by rw [entC_0 c]) rfl
theorem CdM_nn {cT : Nat → ClassId} {cf am : Nat → Nat} {E EM : Nat → va_E} {a b q : Int32} {c : Int} (hR : REL cf E EM) (hM : IX cT shM spM 72 am EM) (h3 : cf 3 ≤ 300) (ha : 0 ≤ a.toInt) (hb : 0 ≤ b.toInt) (h : CdM EM a b q c) : 0 ≤ c := by
  by_cases e : entMd EM a.toInt b.toInt q.toInt
  · by_cases o : OutMx EM a.toInt b.toInt q.toInt
    · rw [(h.2 e).1 o]
      decide
    · by_cases z : (lRM EM a b q).toInt = -1
      · rw [((h.2 e).2 o).1 z]
        decide
      · rw [((h.2 e).2 o).2 z]
        have hz := z
        rw [← lR_eq hR] at hz
        rcases lR_is (q := q) hR h3 ha hb with q1 | ⟨q1, -, -⟩
        · exact absurd q1 hz
        · rw [lR_eq hR] at q1
          have h9 : (0 : Int) ≤ (xi (EM 26) (lRM EM a b q).toNatClampNeg).toInt ∧ (xi (EM 26) (lRM EM a b q).toNatClampNeg).toInt ≤ 4 := hM.iv 26 (Nat.le_of_ble_eq_true rfl) rfl (show (lRM EM a b q).toNatClampNeg < 300 by omega) rfl
          exact h9.1
  · rw [h.1 e]
    decide
theorem pp_eq {cT : Nat → ClassId} {cf am : Nat → Nat} {E EM : Nat → va_E} {a b q : Int32} (hR : REL cf E EM) (hG : GR cf E EM) (hU : RuRel cf E EM) (hM : IX cT shM spM 72 am EM) (h16 : cf 1 ≤ 16) (h80 : cf 0 ≤ 80) (h20 : cf 2 ≤ 20) (h3 : cf 3 ≤ 300) (h1 : 0 ≤ (xi (E 1) 1).toInt ∧ (xi (E 1) 1).toInt ≤ 16) (ha : 0 ≤ a.toInt ∧ a.toInt < ((cf 2 : Nat) : Int)) (hb : 0 ≤ b.toInt ∧ b.toInt < 16) (hq : 0 ≤ q.toInt ∧ q.toInt ≤ 400) {p p' : Int} (h : PpC cf E a q b.toNatClampNeg p) (h' : PpM EM a b q p') : p = p' := by
  have hbn : b.toNatClampNeg < 16 := by
    rw [tn_]
    omega
  have han : a.toNatClampNeg < cf 2 := by
    rw [tn_]
    omega
  have hN : (xi (E 1) 1).toNatClampNeg ≤ 16 := by
    rw [tn_]
    omega
  obtain ⟨c, pl, f, c1, c2, c3, c4, c5⟩ := h
  obtain ⟨c', pl', e', f', m1, m2, m3, m4, m5, m6⟩ := h'
  have hen := pen (n := q.toInt) hR.en hM hq h20 a b ha hb
  have key := cd_eq (a := a) (b := b) (q := q) hR hG h3 ha.1 hb.1 (by omega) hen c1 m1
  have hnn := CdM_nn hR hM h3 ha.1 hb.1 m1
  have hc : (if c = -1 then 2 else c) = c' := by
    by_cases en : entMd EM a.toInt b.toInt q.toInt
    · have h9 := key.1 en
      rw [if_neg (by omega)]
      exact h9
    · have h9 := key.2 en
      rw [if_pos h9.1]
      exact h9.2.symm
  have hc0 : c = 0 ↔ c' = 0 := by
    by_cases en : entMd EM a.toInt b.toInt q.toInt
    · have h9 := key.1 en
      omega
    · have h9 := key.2 en
      omega
  have hpl : pl = pl' := by
    by_cases z : c = 0
    · have z' := hc0.mp z
      subst z
      exact pl_eq hR hG hU hM h16 h80 h20 h3 h1 ha hq hbn c1 (c2 rfl) (m2 z')
    · rw [c3 z, m3 (fun w => z (hc0.mpr w))]
  have hF : ∀ o, o < 16 → (CdR cf E a q o 0 ↔ CdM EM a (nI o) q 0) := fun o ho => fn_eq hR hG hM h20 h3 ha hq ho
  have hf : f = f' := by
    rw [← hR.boats] at m5
    exact CnR.un _ f f' (c4.cut hN (fun k h2 h4 z => by
      have h9 := fin_boat hR h3 ha h4 z
      rw [tn_] at h2
      omega)) m5 (fun k hk => hF k (by omega))
  have he : ((entC (xi (E (64 * (a.toNatClampNeg + 1) + 7))) q.toInt 16 : Nat) : Int) = e' := by
    rw [← hR.boats] at m4
    refine CnR.un _ _ e' ((entC_cn (g := xi (E (64 * (a.toNatClampNeg + 1) + 7))) (q := q.toInt) 16).cut hN (fun k h2 h4 z => ?_)) m4 (fun k hk => ?_)
    · have h9 := hR.eb a.toNatClampNeg k han h4
      have h8 := z.1
      rw [tn_] at h2
      omega
    · have hi : (nI k).toInt = (k : Int) := nI_toInt (by omega)
      have hn : (nI k).toNatClampNeg = k := by
        rw [tn_, hi]
        omega
      have h9 := pen (n := q.toInt) hR.en hM hq h20 a (nI k) ha (by omega)
      rw [hn, hi] at h9
      exact h9
  have hd : rcS E a.toNatClampNeg 1 = xi (EM 13) a.toNatClampNeg := hR.tb2 (6, 1, 13) (by decide) _ han
  rw [c5, m6, hc, hpl, hf, he, hd, hU.wv h16 (by decide)]
theorem pt_eq {cT : Nat → ClassId} {cf am : Nat → Nat} {E EM : Nat → va_E} {a b q : Int32} (hR : REL cf E EM) (hG : GR cf E EM) (hU : RuRel cf E EM) (hM : IX cT shM spM 72 am EM) (h16 : cf 1 ≤ 16) (h80 : cf 0 ≤ 80) (h20 : cf 2 ≤ 20) (h3 : cf 3 ≤ 300) (h1 : 0 ≤ (xi (E 1) 1).toInt ∧ (xi (E 1) 1).toInt ≤ 16) (ha : 0 ≤ a.toInt ∧ a.toInt < ((cf 2 : Nat) : Int)) (hb : 0 ≤ b.toInt ∧ b.toInt < 16) (hq : 0 ≤ q.toInt ∧ q.toInt ≤ 400) (ht : ∀ k : Nat, (k : Int) < (xi (EM 0) 48).toInt → 0 ≤ (xi (EM 31) k).toInt) {p p' : Int} (h : PtC cf E a q b.toNatClampNeg p) (h' : PtM EM a b q p') : p = p' := by
  have hbn : b.toNatClampNeg < 16 := by
    rw [tn_]
    omega
  have han : a.toNatClampNeg < cf 2 := by
    rw [tn_]
    omega
  have ta : ((a.toNatClampNeg : Nat) : Int) = a.toInt := by
    rw [tn_]
    omega
  have tb : ((b.toNatClampNeg : Nat) : Int) = b.toInt := by
    rw [tn_]
    omega
  have hN : (xi (EM 0) 46).toNatClampNeg = cf 2 := by
    have h1 := hR.cnt.2.1
    rw [tn_]
    omega
  have hr := red_eq (q := q.toInt) hR han hbn ht
  rw [ta, tb] at hr
  by_cases r : redC E b.toNatClampNeg q.toInt a.toNatClampNeg
  · obtain ⟨n, s, m, k1, k2, k3, k4⟩ := h.2 r
    obtain ⟨s', m', g1, g2, g3⟩ := h'.2 (hr.mp r)
    rw [hN] at g1 g2
    have hbd := CnR.bd (cf 2) n k1
    have pre := CnR.pre (cf 2) n k1 (fun i k hik hk z => by
      have h9 := hR.rmo i k hik hk
      have z1 : (rcS E k 0).toInt ≤ q.toInt := z
      show (rcS E i 0).toInt ≤ q.toInt
      exact Int.le_trans h9 z1)
    have pq : ∀ k, k < cf 2 → ((¬ (k : Int) = a.toInt ∧ ¬ redC E b.toNatClampNeg q.toInt k) ∧ (rcS E k 0).toInt ≤ q.toInt ↔ PMr EM a b q k) := fun k hk => by
      have h9 := red_eq (q := q.toInt) hR hk hbn ht
      rw [tb] at h9
      have h8 : rcS E k 0 = xi (EM 20) k := hR.tb2 (6, 0, 20) (by decide) k hk
      unfold PMr
      rw [h9, h8]
      constructor
      · rintro ⟨⟨z1, z2⟩, z3⟩
        exact ⟨z1, z3, z2⟩
      · rintro ⟨z1, z3, z2⟩
        exact ⟨⟨z1, z2⟩, z3⟩
    have hin : ∀ k, k < n.toNat → (rcS E k 0).toInt ≤ q.toInt := fun k hk => (pre k (by omega)).mpr (by omega)
    have hout : ∀ k, n.toNat ≤ k → k < n.toNat + (cf 2 - n.toNat) → ¬ ((¬ (k : Int) = a.toInt ∧ ¬ redC E b.toNatClampNeg q.toInt k) ∧ (rcS E k 0).toInt ≤ q.toInt) := fun k h2 h4 z => by
      have h9 := (pre k (by omega)).mp z.2
      omega
    have hcf : n.toNat + (cf 2 - n.toNat) = cf 2 := by omega
    have s1 : SmR (fun k => (¬ (k : Int) = a.toInt ∧ ¬ redC E b.toNatClampNeg q.toInt k) ∧ (rcS E k 0).toInt ≤ q.toInt) (fun o v => PpC cf E (nI o) q b.toNatClampNeg v) (n.toNat + (cf 2 - n.toNat)) s := (k2.cg n.toNat s (fun k hk => ⟨fun z => ⟨z, hin k hk⟩, fun z => z.1⟩) (fun _ _ _ _ hv => hv)).ext _ hout
    have m1 : CnR (fun k => (¬ (k : Int) = a.toInt ∧ ¬ redC E b.toNatClampNeg q.toInt k) ∧ (rcS E k 0).toInt ≤ q.toInt) (n.toNat + (cf 2 - n.toNat)) m := (k3.cg n.toNat m (fun k hk => ⟨fun z => ⟨z, hin k hk⟩, fun z => z.1⟩)).ext _ hout
    rw [hcf] at s1 m1
    have es : s = s' := SmR.un (cf 2) s s' s1 g1 pq (fun k hk _ v v' hv hv' => by
      have hi : (nI k).toInt = (k : Int) := nI_toInt (by omega)
      exact pp_eq hR hG hU hM h16 h80 h20 h3 h1 (by omega) hb hq hv hv')
    have em : m = m' := CnR.un (cf 2) m m' m1 g2 pq
    rw [k4, g3, es, em]
  · exact pp_eq hR hG hU hM h16 h80 h20 h3 h1 ha hb hq (h.1 r) (h'.1 (fun z => r (hr.mpr z)))
/-! ===== MIDDLE alike ===== -/
theorem md_eq {cT : Nat → ClassId} {cf am : Nat → Nat} {E EM : Nat → va_E} {a b q r r' : Int32} (hR : REL cf E EM) (hG : GR cf E EM) (hU : RuRel cf E EM) (hM : IX cT shM spM 72 am EM) (h16 : cf 1 ≤ 16) (h80 : cf 0 ≤ 80) (h20 : cf 2 ≤ 20) (h3 : cf 3 ≤ 300) (h1 : 0 ≤ (xi (E 1) 1).toInt ∧ (xi (E 1) 1).toInt ≤ 16) (ha : 0 ≤ a.toInt ∧ a.toInt < ((cf 2 : Nat) : Int)) (hb : 0 ≤ b.toInt ∧ b.toInt < 16) (hq : 0 ≤ q.toInt ∧ q.toInt ≤ 400) (h : MdC cf E a q b.toNatClampNeg r) (h' : MdV (fun o9 => CdM EM a (nI o9) q 0) (tmM EM a q) (xi (EM 0) 8).toNatClampNeg b.toNatClampNeg ((xi (EM 15) a.toNatClampNeg).toInt = 0 ∧ CdM EM a b q 0) r') : r.toInt = r'.toInt := by
  have hbn : b.toNatClampNeg < 16 := by
    rw [tn_]
    omega
  have han : a.toNatClampNeg < cf 2 := by
    rw [tn_]
    omega
  have hF : ∀ o, o < 16 → (CdR cf E a q o 0 ↔ CdM EM a (nI o) q 0) := fun o ho => fn_eq hR hG hM h20 h3 ha hq ho
  have hw : rcS E a.toNatClampNeg 3 = xi (EM 15) a.toNatClampNeg := hR.tb2 (6, 3, 15) (by decide) _ han
  have hbF := hF b.toNatClampNeg hbn
  rw [nI_tn hb.1] at hbF
  rw [← hR.boats] at h'
  exact MdV.un h h' (by rw [tn_]; omega) (by rw [hw, hbF]) hF (fun i hi z => tm_eq hR hU h16 h80 h3 ha hi z) (fun i h2 h4 z => by
    have h9 := fin_boat hR h3 ha h4 z
    rw [tn_] at h2
    omega)
end

