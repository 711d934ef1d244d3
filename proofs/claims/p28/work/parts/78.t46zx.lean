

def v_gatherX : List Cond := .code yX3_gather cX3_gather 6 (some .int) :: vA
abbrev rm_gatherX : Room := { frames := 4, cells := 0, slots := 0, locals := 160 }
def w_gatherX : Nat → Nat → Bool := wl [47, 48, 51] []
set_option maxHeartbeats 4000000 in
set_option maxRecDepth 100000 in
theorem q_gatherX (l : Launch) (dC : Nat → ClassId) (dI : Nat → Nat → Nat) (cT : Nat → ClassId) (cf : Nat → Nat) (hC : CF cf) (ad : Nat → Nat) (E : Nat → va_E) (sz : Nat) (a0 : Int32) (hI0 : IXL cT (shC cf) (spC cf) (LC cf) ad E) (hh0 : 0 ≤ a0.toInt ∧ a0.toInt ≤ 15) : Met l yX3_gather v_gatherX rm_gatherX (va_Pc [.ref (ad 6), .int a0] (HWL dC dI (TYC cT) cf ad E sz)) (va_Qi (S := Nat → va_E) (fun r u => IXL cT (shC cf) (spC cf) (LC cf) ad u ∧ Kp w_gatherX E u ∧ ((0 ≤ r.toInt ∧ r.toInt ≤ 20) ∧ (GaG E a0.toNatClampNeg (cf 2) r.toNatClampNeg (xi (u 47)) (xi (u 48))))) (HBL dC dI (LC cf) ad) (va_A (WL (LC cf) ad E) sz)) 0 0 (va_A (WL (LC cf) ad E) sz) := by
  obtain ⟨⟨hc0, hc1, hc2, hc3, hc4, hc5⟩, hcr⟩ := id hC
  refine Met.ofW (cc := cX3_gather) (maxL := 6) (ret := (some .int)) (by decide) rfl ?_
  intro p e s m args below meth c s₁ B hml hv
  obtain ⟨hargs, hsz, hP, hK, hD0, hEV⟩ := hv
  subst hsz
  have hx := B.exec
  have hb := B.bytes
  have hr := B.returns
  have hts := atoms_spec (ws := v_gatherX) B.pre
  have hown : s.vm.findClass RX3 = some m.cls := findClass_of_methodNamed B.named
  have hlocks := B.notSynchronized
  have hinX0 : ∀ w ∈ u_ws RX0 TX0 11, w ∈ v_gatherX := fun w h => vA_in _ w (in_X0 w h)
  have hinX3 : ∀ w ∈ u_ws RX3 TX3 18, w ∈ v_gatherX := fun w h => vA_in _ w (in_X3 w h)
  have hinX5 : ∀ w ∈ u_ws RX5 TX5 12, w ∈ v_gatherX := fun w h => vA_in _ w (in_X5 w h)
  generalize hAe : va_A (WL (LC cf) ad E) s.heap.size = A at hEV ⊢
  have hA : ∀ q : Nat, s.heap.size ≤ q → A q := fun q h => by rw [← hAe]; exact Or.inr h
  have hD : va_D A (WL (LC cf) ad E) := by rw [← hAe]; exact hD0.self
  have hS : va_S A s.heap s.heap [] := va_S.rf
  have hI := hI0
  have hKp : Kp w_gatherX E E := Kp.rf
  have hl := lv_entry ([.ref (ad 6), .int a0]) (n := 6) (Nat.le_of_ble_eq_true rfl)
  obtain ⟨Q, hQ⟩ : ∃ Q, Q = MQ below (va_Qi (S := Nat → va_E) (fun r u => IXL cT (shC cf) (spC cf) (LC cf) ad u ∧ Kp w_gatherX E u ∧ ((0 ≤ r.toInt ∧ r.toInt ≤ 20) ∧ (GaG E a0.toNatClampNeg (cf 2) r.toNatClampNeg (xi (u 47)) (xi (u 48))))) (HBL dC dI (LC cf) ad) (A)) args s 0 0 (A) := ⟨_, rfl⟩
  rw [← hQ, show entryFrame m args 6 = _ from (congrArg (fun z => entryFrame m z 6) hargs).trans (lg_entry_eq _ _ _)]
  generalize (lg_sl ([.ref (ad 6), .int a0]) ++ List.replicate (6 - (lg_sl ([.ref (ad 6), .int a0])).length) Slot.unset).toArray = ls at hl ⊢
  have hl : lv_has ls 6 [(0, .ref (ad 6)), (1, .int a0)] := hl
  obtain ⟨g1, hg1⟩ : ∃ g, xi (E 47) = g := ⟨_, rfl⟩
  obtain ⟨g2, hg2⟩ : ∃ g, xi (E 48) = g := ⟨_, rfl⟩
  have z0z : (0 : Int32).toInt = 0 := rfl
  refine lv_iconst (v := 0) hx hb dX3_gather_0 (by decide) ?_
  refine lv_istore_n (lv' := [(2, .int 0), (0, .ref (ad 6)), (1, .int a0)]) hx hb dX3_gather_1 rfl hl (by decide) rfl (fun ls hl => ?_)
  refine lv_iconst (v := 0) hx hb dX3_gather_2 (by decide) ?_
  refine lv_istore_n (lv' := [(3, .int 0), (2, .int 0), (0, .ref (ad 6)), (1, .int a0)]) hx hb dX3_gather_3 rfl hl (by decide) rfl (fun ls hl => ?_)
  have hL4 : ∀ d : Nat, ∀ (g4_47 : Nat → Int32) (g4_48 : Nat → Int32) (v4_3 : Int32) (v4_2 : Int32) (E4_ : Nat → va_E) (H : Heap) (locs : List Loc) (ls : Array Slot), 0 ≤ v4_3.toInt ∧ v4_3.toInt ≤ 20 → 0 ≤ v4_2.toInt ∧ v4_2.toInt ≤ 20 → GaG E a0.toNatClampNeg v4_3.toNatClampNeg v4_2.toNatClampNeg g4_47 g4_48 → v4_2.toInt ≤ v4_3.toInt → v4_3.toInt ≤ ((cf 2 : Nat) : Int) → 20 - v4_3.toInt < (d : Int) → IXL cT (shC cf) (spC cf) (LC cf) ad E4_ → Kp w_gatherX E E4_ → xi (E4_ 47) = g4_47 → xi (E4_ 48) = g4_48 → va_P (dC, dI) vwCl (WL (LC cf) ad E4_) H → va_S A s.heap H locs → lv_has ls 6 [(3, .int v4_3), (2, .int v4_2), (0, .ref (ad 6)), (1, .int a0)] → W p l e (headSpec v_gatherX rm_gatherX).room s m args below meth c H locs 0 0 Q (F0 m 4 ls []) := by
    intro d
    induction d with
    | zero =>
      intro g4_47 g4_48 v4_3 v4_2 E4_ H locs ls hv4_3 hv4_2 hx4_0 hx4_1 hx4_2 hx4_3 hI hKp hr4_47 hr4_48 hP hS hl
      exact absurd hx4_3 (by omega)
    | succ d ih4 =>
      intro g4_47 g4_48 v4_3 v4_2 E4_ H locs ls hv4_3 hv4_2 hx4_0 hx4_1 hx4_2 hx4_3 hI hKp hr4_47 hr4_48 hP hS hl
      refine lv_iload_n hx hb dX3_gather_4 rfl (lv_at hl 0 rfl) ?_
      refine lv_aload_n hx hb dX3_gather_5 rfl (lv_at hl 2 rfl) ?_
      refine th_getL (ci := 4) (C := RX3) (T := TX3) (N := 18) (v := .ref (ad 1)) hx hb hts hinX3 hown hK hP hI 6 (mF 6 rfl) rfl rfl 0 (Nat.le_of_ble_eq_true rfl) (hts _ (vA_in _ _ (in_11 _ (List.mem_of_getElem? (i := 17) rfl)))) (fun _ h9 => h9) (hI.fr 6 (mF 6 rfl) rfl (Nat.le_of_ble_eq_true rfl) 1 rfl) dX3_gather_6 ?_
      refine th_getL (ci := 1) (C := RX0) (T := TX0) (N := 11) (v := .ref (ad 9)) hx hb hts hinX0 hown hK hP hI 1 (mF 1 rfl) rfl rfl 5 (Nat.le_of_ble_eq_true rfl) (hts _ (vA_in _ _ (in_11 _ (List.mem_of_getElem? (i := 18) rfl)))) (fun _ h9 => h9) (hI.fr 1 (mF 1 rfl) rfl (Nat.le_of_ble_eq_true rfl) 9 rfl) dX3_gather_9 ?_
      refine th_riL (va_runV (As := []) (rest := [.int v4_3]) ⟨hx, hb, hml, hown, hts⟩ (q_size2 l dC dI cT cf hC ad E4_ H.size hI) (cwV 0 hts (gi_V (in_11 _ (List.mem_of_getElem? (i := 19) rfl)) (in_4 _ (List.mem_of_getElem? (i := 35) rfl)) (in_4 _ (List.mem_of_getElem? (i := 36) rfl)) (in_3 _ (List.mem_of_getElem? (i := 18) rfl)) (in_4 _ (List.mem_of_getElem? (i := 19) rfl))) rfl rfl rfl (by decide +kernel) ⟨Nat.le_of_ble_eq_true rfl, Nat.le_of_ble_eq_true rfl⟩) ⟨HWL_bl, va_recv hK hP (ci := 0) (q0 := posL 9 (LC cf)) rfl (hI.ob 9 (mF 9 rfl) rfl), (HWL_wi hP hK (WL_D hD) hS hA hEV)⟩ rfl rfl hl.1 rfl (lv_room (Nat.le_of_ble_eq_true rfl)) dX3_gather_12 ⟨Nat.le_of_ble_eq_true rfl, Nat.le_of_ble_eq_true rfl⟩) hS hP (fun r3 H locs hw hP hS => ?_)
      obtain ⟨f4, f5⟩ := hw
      refine lv_icmp_ge (tgt := 153) hx hb dX3_gather_15 (by decide) (fun c6 => ?_) (fun c6 => ?_)
      · --15 taken
        have t7 : r3.toInt ≤ v4_3.toInt := ti_le c6
        refine lv_iload_n hx hb dX3_gather_153 rfl (lv_at hl 1 rfl) ?_
        rw [hQ]
        exact W.iret (v := v4_2) hx hb hr (fun t ht hW => ⟨⟨v4_2, E4_, rfl, ⟨hI, hKp, ⟨hv4_2, (by rw [(show xi (E4_ 47) = g4_47 from hr4_47), (show xi (E4_ 48) = g4_48 from hr4_48)]; have h9 := hx4_0; rw [show v4_3.toNatClampNeg = cf 2 by rw [tn_]; omega] at h9; exact h9)⟩⟩, by show va_P (dC, dI) vwCl (WL (LC cf) ad E4_) t.heap; rw [ht]; exact hP⟩, hS.F ht⟩) hS.2.2 dX3_gather_154
      · --15 not
        have t8 : v4_3.toInt < r3.toInt := ti_nle c6
        have i9 : 0 ≤ v4_3.toInt ∧ v4_3.toInt ≤ 19 := iv_lt_l t8 hv4_3 f4 (by decide)
        have i10 : 1 ≤ r3.toInt ∧ r3.toInt ≤ 20 := iv_lt_r t8 hv4_3 f4 (by decide)
        have i11 : 0 ≤ v4_2.toInt ∧ v4_2.toInt ≤ 19 := by omega
        refine lv_aload_n hx hb dX3_gather_18 rfl (lv_at hl 2 rfl) ?_
        refine lv_iload_n hx hb dX3_gather_19 rfl (lv_at hl 0 rfl) ?_
        refine lv_iload_n hx hb dX3_gather_20 rfl (lv_at hl 3 rfl) ?_
        refine th_iL (va_runV (As := [.int v4_3, .int a0]) (rest := []) ⟨hx, hb, hml, hown, hts⟩ (q_middleOfX l dC dI cT cf hC ad E4_ H.size v4_3 a0 hI i9 (by omega) hh0) (cwV 2 hts (gi_V (in_17 _ (List.mem_of_getElem? (i := 18) rfl)) (in_17 _ (List.mem_of_getElem? (i := 19) rfl)) (in_17 _ (List.mem_of_getElem? (i := 20) rfl)) (in_11 _ (List.mem_of_getElem? (i := 15) rfl)) (in_17 _ (List.mem_of_getElem? (i := 21) rfl))) rfl rfl rfl (by decide +kernel) ⟨Nat.le_of_ble_eq_true rfl, Nat.le_of_ble_eq_true rfl⟩) ⟨HWL_bl, va_recv hK hP (ci := 4) (q0 := posL 6 (LC cf)) rfl (hI.ob 6 (mF 6 rfl) rfl), (HWL_wi hP hK (WL_D hD) hS hA hEV)⟩ rfl rfl hl.1 rfl (lv_room (Nat.le_of_ble_eq_true rfl)) dX3_gather_21 ⟨Nat.le_of_ble_eq_true rfl, Nat.le_of_ble_eq_true rfl⟩) (WL_D hD) hS hA (fun r12 E13 H locs hw hP hS => ?_)
        obtain ⟨hI, kq14, hw⟩ := hw
        have hKb := hKp
        have hKp := hKp.tr kq14 (wl_sub rfl rfl)
        obtain ⟨f15, f16, f17⟩ := hw
        have k18 : MdO E v4_3.toNatClampNeg a0.toNatClampNeg r12 := by have h9 := f17; rw [MdO_cg (E := E) (K64.of hKb (fun o9 ho9 j9 => wl_p rfl rfl ho9)) (hKb.ef 43 (fun _ => rfl)) (hKb.ef 46 (fun _ => rfl))] at h9; exact h9
        refine lv_istore (lv' := [(4, .int r12), (3, .int v4_3), (2, .int v4_2), (0, .ref (ad 6)), (1, .int a0)]) hx hb dX3_gather_24 hl (by decide) rfl (fun ls hl => ?_)
        refine lv_iload hx hb dX3_gather_26 (lv_at hl 0 rfl) ?_
        refine lv_ldc hx hb hown (hts _ (vA_in _ _ (in_13 _ (List.mem_of_getElem? (i := 34) rfl)))) dX3_gather_28 ?_
        refine lv_icmp_ne (tgt := 36) hx hb dX3_gather_30 (by decide) (fun c19 => ?_) (fun c19 => ?_)
        · --30 taken
          have t20 : ¬ r12.toInt = -1000000000 := ti_ne c19
          have i21 : -999999999 ≤ r12.toInt ∧ r12.toInt ≤ 400000 := iv_ne_l t20 f15 (il_ (-1000000000))
          have i22 : -100000 ≤ r12.toInt ∧ r12.toInt ≤ 400000 := by omega
          refine lv_iload_n hx hb dX3_gather_36 rfl (lv_at hl 2 rfl) ?_
          refine lv_istore (lv' := [(5, .int v4_2), (4, .int r12), (3, .int v4_3), (2, .int v4_2), (0, .ref (ad 6)), (1, .int a0)]) hx hb dX3_gather_37 hl (by decide) rfl (fun ls hl => ?_)
          have hL39 : ∀ d : Nat, ∀ (g39_47 : Nat → Int32) (g39_48 : Nat → Int32) (v39_5 : Int32) (E39_ : Nat → va_E) (H : Heap) (locs : List Loc) (ls : Array Slot), 0 ≤ v39_5.toInt ∧ v39_5.toInt ≤ 19 → shI g4_47 g39_47 v4_2.toNatClampNeg v39_5.toNatClampNeg → shI g4_48 g39_48 v4_2.toNatClampNeg v39_5.toNatClampNeg → (∀ i9 : Nat, v39_5.toNatClampNeg ≤ i9 → i9 < v4_2.toNatClampNeg → dyC E v4_3.toNatClampNeg < dyC E (g4_47 i9).toNatClampNeg) → v39_5.toInt ≤ v4_2.toInt → v39_5.toInt - 0 < (d : Int) → IXL cT (shC cf) (spC cf) (LC cf) ad E39_ → Kp w_gatherX E E39_ → xi (E39_ 47) = g39_47 → xi (E39_ 48) = g39_48 → va_P (dC, dI) vwCl (WL (LC cf) ad E39_) H → va_S A s.heap H locs → lv_has ls 6 [(5, .int v39_5), (4, .int r12), (3, .int v4_3), (2, .int v4_2), (0, .ref (ad 6)), (1, .int a0)] → W p l e (headSpec v_gatherX rm_gatherX).room s m args below meth c H locs 0 0 Q (F0 m 39 ls []) := by
            intro d
            induction d with
            | zero =>
              intro g39_47 g39_48 v39_5 E39_ H locs ls hv39_5 hx39_0 hx39_1 hx39_2 hx39_3 hx39_4 hI hKp hr39_47 hr39_48 hP hS hl
              exact absurd hx39_4 (by omega)
            | succ d ih39 =>
              intro g39_47 g39_48 v39_5 E39_ H locs ls hv39_5 hx39_0 hx39_1 hx39_2 hx39_3 hx39_4 hI hKp hr39_47 hr39_48 hP hS hl
              refine lv_iload hx hb dX3_gather_39 (lv_at hl 0 rfl) ?_
              refine lv_if_le (tgt := 127) hx hb dX3_gather_41 (by decide) (fun c23 => ?_) (fun c23 => ?_)
              · --41 taken
                have t24 : v39_5.toInt ≤ 0 := ti_le c23
                have i25 : 0 ≤ v39_5.toInt ∧ v39_5.toInt ≤ 0 := iv_le_l t24 hv39_5 (il_ 0) (by decide)
                refine lv_aload_n hx hb dX3_gather_127 rfl (lv_at hl 4 rfl) ?_
                refine th_getL (ci := 4) (C := RX3) (T := TX3) (N := 18) (v := .ref (ad 47)) hx hb hts hinX3 hown hK hP hI 6 (mF 6 rfl) rfl rfl 6 (Nat.le_of_ble_eq_true rfl) (hts _ (vA_in _ _ (in_17 _ (List.mem_of_getElem? (i := 11) rfl)))) (fun _ h9 => h9) (hI.fr 6 (mF 6 rfl) rfl (Nat.le_of_ble_eq_true rfl) 47 rfl) dX3_gather_128 ?_
                refine lv_iload hx hb dX3_gather_131 (lv_at hl 0 rfl) ?_
                refine lv_iload_n hx hb dX3_gather_133 rfl (lv_at hl 2 rfl) ?_
                have n26 : vp_in v39_5 20 := (iv_in (n := 20) i25 (by decide))
                refine th_iastL hx hb hK hP (WL_D hD) hS hI 47 (mF 47 rfl) rfl rfl n26 (okI (lo := 0) (hi := ((cf 2 - 1 : Nat) : Int)) rfl (by omega)) dX3_gather_134 (fun H locs E27 pw28 hI hP hS => ?_)
                have hKp := hKp.pw pw28 rfl
                obtain ⟨g29, eg29⟩ : ∃ z : Nat → Int32, z = upd g39_47 v39_5.toNatClampNeg v4_3 := ⟨_, rfl⟩
                have hg29 : xi (E27 47) = g29 := by rw [pw28.eu, hr39_47, eg29]
                refine lv_aload_n hx hb dX3_gather_135 rfl (lv_at hl 4 rfl) ?_
                refine th_getL (ci := 4) (C := RX3) (T := TX3) (N := 18) (v := .ref (ad 48)) hx hb hts hinX3 hown hK hP hI 6 (mF 6 rfl) rfl rfl 7 (Nat.le_of_ble_eq_true rfl) (hts _ (vA_in _ _ (in_17 _ (List.mem_of_getElem? (i := 12) rfl)))) (fun _ h9 => h9) (hI.fr 6 (mF 6 rfl) rfl (Nat.le_of_ble_eq_true rfl) 48 rfl) dX3_gather_136 ?_
                refine lv_iload hx hb dX3_gather_139 (lv_at hl 0 rfl) ?_
                refine lv_iload hx hb dX3_gather_141 (lv_at hl 1 rfl) ?_
                have n30 : vp_in v39_5 20 := (iv_in (n := 20) i25 (by decide))
                refine th_iastL hx hb hK hP (WL_D hD) hS hI 48 (mF 48 rfl) rfl rfl n30 (okI rfl i22) dX3_gather_143 (fun H locs E31 pw32 hI hP hS => ?_)
                have hKp := hKp.pw pw32 rfl
                obtain ⟨g33, eg33⟩ : ∃ z : Nat → Int32, z = upd g39_48 v39_5.toNatClampNeg r12 := ⟨_, rfl⟩
                have hg33 : xi (E31 48) = g33 := by rw [pw32.eu, ((pw28.ef 48 (Nat.ne_of_beq_eq_false rfl)).trans hr39_48), eg33]
                obtain ⟨y34, ey34⟩ : ∃ y : Int32, y = v4_2 + (1 : Int32) := ⟨_, rfl⟩
                obtain ⟨ty34, iy34⟩ := ti_add (e := 1) (f := 20) i11 ln_1 ey34 (by decide)
                have ty34 : y34.toInt = v4_2.toInt + 1 := ty34
                have iy34 : 1 ≤ y34.toInt ∧ y34.toInt ≤ 20 := iy34
                refine lv_iinc (v := y34) (lv' := [(2, .int y34), (5, .int v39_5), (4, .int r12), (3, .int v4_3), (0, .ref (ad 6)), (1, .int a0)]) hx hb dX3_gather_144 hl (k := 3) rfl (by rw [ey34]; rfl) (by decide) rfl (fun ls hl => ?_)
                obtain ⟨y35, ey35⟩ : ∃ y : Int32, y = v4_3 + (1 : Int32) := ⟨_, rfl⟩
                obtain ⟨ty35, iy35⟩ := ti_add (e := 1) (f := 20) i9 ln_1 ey35 (by decide)
                have ty35 : y35.toInt = v4_3.toInt + 1 := ty35
                have iy35 : 1 ≤ y35.toInt ∧ y35.toInt ≤ 20 := iy35
                refine lv_iinc (v := y35) (lv' := [(3, .int y35), (2, .int y34), (5, .int v39_5), (4, .int r12), (0, .ref (ad 6)), (1, .int a0)]) hx hb dX3_gather_147 hl (k := 3) rfl (by rw [ey35]; rfl) (by decide) rfl (fun ls hl => ?_)
                refine lv_goto (tgt := 4) hx hb dX3_gather_150 (by decide) ?_
                exact ih4 g29 g33 y35 y34 E31 _ _ _ (iv_w iy35 (by decide)) (iv_w iy34 (by decide)) (hx4_0.yes k18 (by omega) (by rw [tn_, tn_]; omega) (hx39_0.fin eg29 rfl) (hx39_1.fin eg33 rfl) rfl (fun i9 h9 => by exfalso; rw [tn_] at h9; omega) hx39_2 (by rw [tn_ y35, tn_ v4_3]; omega) (by rw [tn_ y34, tn_ v4_2]; omega)) (by omega) (by omega) (by omega) hI hKp ((pw32.ef 47 (Nat.ne_of_beq_eq_false rfl)).trans hg29) hg33 hP hS (lv_sub hl [0, 1, 4, 5] rfl)
              · --41 not
                have t36 : (0 : Int) < v39_5.toInt := ti_nle c23
                have i37 : 1 ≤ v39_5.toInt ∧ v39_5.toInt ≤ 19 := iv_lt_r t36 (il_ 0) hv39_5 (by decide)
                refine lv_aload_n hx hb dX3_gather_44 rfl (lv_at hl 4 rfl) ?_
                refine th_getL (ci := 4) (C := RX3) (T := TX3) (N := 18) (v := .ref (ad 1)) hx hb hts hinX3 hown hK hP hI 6 (mF 6 rfl) rfl rfl 0 (Nat.le_of_ble_eq_true rfl) (hts _ (vA_in _ _ (in_11 _ (List.mem_of_getElem? (i := 17) rfl)))) (fun _ h9 => h9) (hI.fr 6 (mF 6 rfl) rfl (Nat.le_of_ble_eq_true rfl) 1 rfl) dX3_gather_45 ?_
                refine th_getL (ci := 1) (C := RX0) (T := TX0) (N := 11) (v := .ref (ad 9)) hx hb hts hinX0 hown hK hP hI 1 (mF 1 rfl) rfl rfl 5 (Nat.le_of_ble_eq_true rfl) (hts _ (vA_in _ _ (in_11 _ (List.mem_of_getElem? (i := 18) rfl)))) (fun _ h9 => h9) (hI.fr 1 (mF 1 rfl) rfl (Nat.le_of_ble_eq_true rfl) 9 rfl) dX3_gather_48 ?_
                refine lv_aload_n hx hb dX3_gather_51 rfl (lv_at hl 4 rfl) ?_
                refine th_getL (ci := 4) (C := RX3) (T := TX3) (N := 18) (v := .ref (ad 47)) hx hb hts hinX3 hown hK hP hI 6 (mF 6 rfl) rfl rfl 6 (Nat.le_of_ble_eq_true rfl) (hts _ (vA_in _ _ (in_17 _ (List.mem_of_getElem? (i := 11) rfl)))) (fun _ h9 => h9) (hI.fr 6 (mF 6 rfl) rfl (Nat.le_of_ble_eq_true rfl) 47 rfl) dX3_gather_52 ?_
                refine lv_iload hx hb dX3_gather_55 (lv_at hl 0 rfl) ?_
                refine lv_iconst (v := 1) hx hb dX3_gather_57 (by decide) ?_
                refine lv_isub hx hb dX3_gather_58 ?_
                refine lv_topi (fun y38 ey38 => ?_)
                obtain ⟨ty38, iy38⟩ := ti_sub (e := 0) (f := 18) i37 ln_1 ey38 (by decide)
                have ty38 : y38.toInt = v39_5.toInt - 1 := ty38
                have iy38 : 0 ≤ y38.toInt ∧ y38.toInt ≤ 18 := iy38
                have n40 : vp_in y38 20 := (iv_in (n := 20) iy38 (by decide))
                refine th_ialdL hx hb hK hP hI 47 (mF 47 rfl) rfl rfl n40 dX3_gather_59 (fun y39 ey39 => ?_)
                have jy39 : 0 ≤ y39.toInt ∧ y39.toInt ≤ ((cf 2 - 1 : Nat) : Int) := hI.el 47 (mF 47 rfl) rfl n40 (fun _ => rfl) ey39
                have iy39 : 0 ≤ y39.toInt ∧ y39.toInt ≤ 19 := by omega
                have ey39 := ey39.trans (congrFun hr39_47 _)
                refine th_rrL (va_runV (As := [.int y39]) (rest := []) ⟨hx, hb, hml, hown, hts⟩ (q_get2 l dC dI cT cf hC ad E39_ H.size y39 hI (by omega)) (cwV 1 hts (gi_V (in_13 _ (List.mem_of_getElem? (i := 21) rfl)) (in_4 _ (List.mem_of_getElem? (i := 38) rfl)) (in_4 _ (List.mem_of_getElem? (i := 39) rfl)) (in_3 _ (List.mem_of_getElem? (i := 18) rfl)) (in_3 _ (List.mem_of_getElem? (i := 39) rfl))) rfl rfl rfl (by decide +kernel) ⟨Nat.le_of_ble_eq_true rfl, Nat.le_of_ble_eq_true rfl⟩) ⟨HWL_bl, va_recv hK hP (ci := 0) (q0 := posL 9 (LC cf)) rfl (hI.ob 9 (mF 9 rfl) rfl), (HWL_wi hP hK (WL_D hD) hS hA hEV)⟩ rfl rfl hl.1 rfl (lv_room (Nat.le_of_ble_eq_true rfl)) dX3_gather_60 ⟨Nat.le_of_ble_eq_true rfl, Nat.le_of_ble_eq_true rfl⟩) hS hP (fun r41 H locs hw hP hS => ?_)
                obtain rfl := hw
                have lv42 : y39.toNatClampNeg < cf 2 := by rw [tn_]; omega
                refine va_castS (cC := dC 6) hx hb hown (hts _ (vA_in _ _ (in_13 _ (List.mem_of_getElem? (i := 17) rfl)))) (hK.1 6 _ rfl).2 (va_recv hK hP (ci := 6) (q0 := posL (64 * (y39.toNatClampNeg + 1) + 6) (LC cf)) rfl (hI.ob (64 * (y39.toNatClampNeg + 1) + 6) (mP 6 y39.toNatClampNeg (by decide) lv42 (kl_le hC 2 (by decide))) (shC_p 6 y39.toNatClampNeg (by decide)))) dX3_gather_63 ?_
                have i43 : 0 ≤ (xi (E (64 * (y39.toNatClampNeg + 1) + 6)) 1).toInt ∧ (xi (E (64 * (y39.toNatClampNeg + 1) + 6)) 1).toInt ≤ 400 := hI0.iv (64 * (y39.toNatClampNeg + 1) + 6) (mP 6 y39.toNatClampNeg (by decide) lv42 (kl_le hC 2 (by decide))) (shC_p 6 y39.toNatClampNeg (by decide)) (Nat.le_of_ble_eq_true rfl) (spC_p 6 y39.toNatClampNeg (by decide) 1)
                refine th_getL (ci := 6) (C := RX5) (T := TX5) (N := 12) (v := .int (xi (E (64 * (y39.toNatClampNeg + 1) + 6)) 1)) hx hb hts hinX5 hown hK hP hI (64 * (y39.toNatClampNeg + 1) + 6) (mP 6 y39.toNatClampNeg (by decide) lv42 (kl_le hC 2 (by decide))) (shC_p 6 y39.toNatClampNeg (by decide)) rfl 1 (Nat.le_of_ble_eq_true rfl) (hts _ (vA_in _ _ (in_17 _ (List.mem_of_getElem? (i := 17) rfl)))) (fun _ h9 => h9) (th_v0L hKp hI0 (64 * (y39.toNatClampNeg + 1) + 6) (mP 6 y39.toNatClampNeg (by decide) lv42 (kl_le hC 2 (by decide))) (shC_p 6 y39.toNatClampNeg (by decide)) (Nat.le_of_ble_eq_true rfl) (spC_p 6 y39.toNatClampNeg (by decide) 1) (wl_p rfl rfl (by omega))) dX3_gather_66 ?_
                refine lv_aload_n hx hb dX3_gather_69 rfl (lv_at hl 4 rfl) ?_
                refine th_getL (ci := 4) (C := RX3) (T := TX3) (N := 18) (v := .ref (ad 1)) hx hb hts hinX3 hown hK hP hI 6 (mF 6 rfl) rfl rfl 0 (Nat.le_of_ble_eq_true rfl) (hts _ (vA_in _ _ (in_11 _ (List.mem_of_getElem? (i := 17) rfl)))) (fun _ h9 => h9) (hI.fr 6 (mF 6 rfl) rfl (Nat.le_of_ble_eq_true rfl) 1 rfl) dX3_gather_70 ?_
                refine th_getL (ci := 1) (C := RX0) (T := TX0) (N := 11) (v := .ref (ad 9)) hx hb hts hinX0 hown hK hP hI 1 (mF 1 rfl) rfl rfl 5 (Nat.le_of_ble_eq_true rfl) (hts _ (vA_in _ _ (in_11 _ (List.mem_of_getElem? (i := 18) rfl)))) (fun _ h9 => h9) (hI.fr 1 (mF 1 rfl) rfl (Nat.le_of_ble_eq_true rfl) 9 rfl) dX3_gather_73 ?_
                refine lv_iload_n hx hb dX3_gather_76 rfl (lv_at hl 2 rfl) ?_
                refine th_rrL (va_runV (As := [.int v4_3]) (rest := [.int (xi (E (64 * (y39.toNatClampNeg + 1) + 6)) 1)]) ⟨hx, hb, hml, hown, hts⟩ (q_get2 l dC dI cT cf hC ad E39_ H.size v4_3 hI (by omega)) (cwV 1 hts (gi_V (in_13 _ (List.mem_of_getElem? (i := 21) rfl)) (in_4 _ (List.mem_of_getElem? (i := 38) rfl)) (in_4 _ (List.mem_of_getElem? (i := 39) rfl)) (in_3 _ (List.mem_of_getElem? (i := 18) rfl)) (in_3 _ (List.mem_of_getElem? (i := 39) rfl))) rfl rfl rfl (by decide +kernel) ⟨Nat.le_of_ble_eq_true rfl, Nat.le_of_ble_eq_true rfl⟩) ⟨HWL_bl, va_recv hK hP (ci := 0) (q0 := posL 9 (LC cf)) rfl (hI.ob 9 (mF 9 rfl) rfl), (HWL_wi hP hK (WL_D hD) hS hA hEV)⟩ rfl rfl hl.1 rfl (lv_room (Nat.le_of_ble_eq_true rfl)) dX3_gather_77 ⟨Nat.le_of_ble_eq_true rfl, Nat.le_of_ble_eq_true rfl⟩) hS hP (fun r44 H locs hw hP hS => ?_)
                obtain rfl := hw
                have lv45 : v4_3.toNatClampNeg < cf 2 := by rw [tn_]; omega
                refine va_castS (cC := dC 6) hx hb hown (hts _ (vA_in _ _ (in_13 _ (List.mem_of_getElem? (i := 17) rfl)))) (hK.1 6 _ rfl).2 (va_recv hK hP (ci := 6) (q0 := posL (64 * (v4_3.toNatClampNeg + 1) + 6) (LC cf)) rfl (hI.ob (64 * (v4_3.toNatClampNeg + 1) + 6) (mP 6 v4_3.toNatClampNeg (by decide) lv45 (kl_le hC 2 (by decide))) (shC_p 6 v4_3.toNatClampNeg (by decide)))) dX3_gather_80 ?_
                have i46 : 0 ≤ (xi (E (64 * (v4_3.toNatClampNeg + 1) + 6)) 1).toInt ∧ (xi (E (64 * (v4_3.toNatClampNeg + 1) + 6)) 1).toInt ≤ 400 := hI0.iv (64 * (v4_3.toNatClampNeg + 1) + 6) (mP 6 v4_3.toNatClampNeg (by decide) lv45 (kl_le hC 2 (by decide))) (shC_p 6 v4_3.toNatClampNeg (by decide)) (Nat.le_of_ble_eq_true rfl) (spC_p 6 v4_3.toNatClampNeg (by decide) 1)
                refine th_getL (ci := 6) (C := RX5) (T := TX5) (N := 12) (v := .int (xi (E (64 * (v4_3.toNatClampNeg + 1) + 6)) 1)) hx hb hts hinX5 hown hK hP hI (64 * (v4_3.toNatClampNeg + 1) + 6) (mP 6 v4_3.toNatClampNeg (by decide) lv45 (kl_le hC 2 (by decide))) (shC_p 6 v4_3.toNatClampNeg (by decide)) rfl 1 (Nat.le_of_ble_eq_true rfl) (hts _ (vA_in _ _ (in_17 _ (List.mem_of_getElem? (i := 17) rfl)))) (fun _ h9 => h9) (th_v0L hKp hI0 (64 * (v4_3.toNatClampNeg + 1) + 6) (mP 6 v4_3.toNatClampNeg (by decide) lv45 (kl_le hC 2 (by decide))) (shC_p 6 v4_3.toNatClampNeg (by decide)) (Nat.le_of_ble_eq_true rfl) (spC_p 6 v4_3.toNatClampNeg (by decide) 1) (wl_p rfl rfl (by omega))) dX3_gather_83 ?_
                refine lv_icmp_le (tgt := 127) hx hb dX3_gather_86 (by decide) (fun c47 => ?_) (fun c47 => ?_)
                · --86 taken
                  have t48 : (xi (E (64 * (y39.toNatClampNeg + 1) + 6)) 1).toInt ≤ (xi (E (64 * (v4_3.toNatClampNeg + 1) + 6)) 1).toInt := ti_le c47
                  refine lv_aload_n hx hb dX3_gather_127 rfl (lv_at hl 4 rfl) ?_
                  refine th_getL (ci := 4) (C := RX3) (T := TX3) (N := 18) (v := .ref (ad 47)) hx hb hts hinX3 hown hK hP hI 6 (mF 6 rfl) rfl rfl 6 (Nat.le_of_ble_eq_true rfl) (hts _ (vA_in _ _ (in_17 _ (List.mem_of_getElem? (i := 11) rfl)))) (fun _ h9 => h9) (hI.fr 6 (mF 6 rfl) rfl (Nat.le_of_ble_eq_true rfl) 47 rfl) dX3_gather_128 ?_
                  refine lv_iload hx hb dX3_gather_131 (lv_at hl 0 rfl) ?_
                  refine lv_iload_n hx hb dX3_gather_133 rfl (lv_at hl 2 rfl) ?_
                  have n49 : vp_in v39_5 20 := (iv_in (n := 20) i37 (by decide))
                  refine th_iastL hx hb hK hP (WL_D hD) hS hI 47 (mF 47 rfl) rfl rfl n49 (okI (lo := 0) (hi := ((cf 2 - 1 : Nat) : Int)) rfl (by omega)) dX3_gather_134 (fun H locs E50 pw51 hI hP hS => ?_)
                  have hKp := hKp.pw pw51 rfl
                  obtain ⟨g52, eg52⟩ : ∃ z : Nat → Int32, z = upd g39_47 v39_5.toNatClampNeg v4_3 := ⟨_, rfl⟩
                  have hg52 : xi (E50 47) = g52 := by rw [pw51.eu, hr39_47, eg52]
                  refine lv_aload_n hx hb dX3_gather_135 rfl (lv_at hl 4 rfl) ?_
                  refine th_getL (ci := 4) (C := RX3) (T := TX3) (N := 18) (v := .ref (ad 48)) hx hb hts hinX3 hown hK hP hI 6 (mF 6 rfl) rfl rfl 7 (Nat.le_of_ble_eq_true rfl) (hts _ (vA_in _ _ (in_17 _ (List.mem_of_getElem? (i := 12) rfl)))) (fun _ h9 => h9) (hI.fr 6 (mF 6 rfl) rfl (Nat.le_of_ble_eq_true rfl) 48 rfl) dX3_gather_136 ?_
                  refine lv_iload hx hb dX3_gather_139 (lv_at hl 0 rfl) ?_
                  refine lv_iload hx hb dX3_gather_141 (lv_at hl 1 rfl) ?_
                  have n53 : vp_in v39_5 20 := (iv_in (n := 20) i37 (by decide))
                  refine th_iastL hx hb hK hP (WL_D hD) hS hI 48 (mF 48 rfl) rfl rfl n53 (okI rfl i22) dX3_gather_143 (fun H locs E54 pw55 hI hP hS => ?_)
                  have hKp := hKp.pw pw55 rfl
                  obtain ⟨g56, eg56⟩ : ∃ z : Nat → Int32, z = upd g39_48 v39_5.toNatClampNeg r12 := ⟨_, rfl⟩
                  have hg56 : xi (E54 48) = g56 := by rw [pw55.eu, ((pw51.ef 48 (Nat.ne_of_beq_eq_false rfl)).trans hr39_48), eg56]
                  obtain ⟨y57, ey57⟩ : ∃ y : Int32, y = v4_2 + (1 : Int32) := ⟨_, rfl⟩
                  obtain ⟨ty57, iy57⟩ := ti_add (e := 1) (f := 20) i11 ln_1 ey57 (by decide)
                  have ty57 : y57.toInt = v4_2.toInt + 1 := ty57
                  have iy57 : 1 ≤ y57.toInt ∧ y57.toInt ≤ 20 := iy57
                  refine lv_iinc (v := y57) (lv' := [(2, .int y57), (5, .int v39_5), (4, .int r12), (3, .int v4_3), (0, .ref (ad 6)), (1, .int a0)]) hx hb dX3_gather_144 hl (k := 3) rfl (by rw [ey57]; rfl) (by decide) rfl (fun ls hl => ?_)
                  obtain ⟨y58, ey58⟩ : ∃ y : Int32, y = v4_3 + (1 : Int32) := ⟨_, rfl⟩
                  obtain ⟨ty58, iy58⟩ := ti_add (e := 1) (f := 20) i9 ln_1 ey58 (by decide)
                  have ty58 : y58.toInt = v4_3.toInt + 1 := ty58
                  have iy58 : 1 ≤ y58.toInt ∧ y58.toInt ≤ 20 := iy58
                  refine lv_iinc (v := y58) (lv' := [(3, .int y58), (2, .int y57), (5, .int v39_5), (4, .int r12), (0, .ref (ad 6)), (1, .int a0)]) hx hb dX3_gather_147 hl (k := 3) rfl (by rw [ey58]; rfl) (by decide) rfl (fun ls hl => ?_)
                  refine lv_goto (tgt := 4) hx hb dX3_gather_150 (by decide) ?_
                  exact ih4 g52 g56 y58 y57 E54 _ _ _ (iv_w iy58 (by decide)) (iv_w iy57 (by decide)) (hx4_0.yes k18 (by omega) (by rw [tn_, tn_]; omega) (hx39_0.fin eg52 rfl) (hx39_1.fin eg56 rfl) rfl (fun i9 h9 => by have q7 : dyC E (g4_47 y38.toNatClampNeg).toNatClampNeg ≤ dyC E v4_3.toNatClampNeg := (by rw [← hx39_0.1 y38.toNatClampNeg (by rw [tn_, tn_]; omega), ← ey39]; show (xi (E (64 * (y39.toNatClampNeg + 1) + 6)) 1).toInt ≤ (xi (E (64 * (v4_3.toNatClampNeg + 1) + 6)) 1).toInt; omega); exact dite (i9 = y38.toNatClampNeg) (fun q9 => by rw [q9]; exact q7) (fun q9 => by have q8 : kLt (dyC E) (g4_47 i9).toNatClampNeg (g4_47 y38.toNatClampNeg).toNatClampNeg := hx4_0.2.1 i9 y38.toNatClampNeg (by rw [tn_] at h9 q9 ⊢; omega) (by rw [tn_, tn_]; omega); unfold kLt at q8; omega)) hx39_2 (by rw [tn_ y58, tn_ v4_3]; omega) (by rw [tn_ y57, tn_ v4_2]; omega)) (by omega) (by omega) (by omega) hI hKp ((pw55.ef 47 (Nat.ne_of_beq_eq_false rfl)).trans hg52) hg56 hP hS (lv_sub hl [0, 1, 4, 5] rfl)
                · --86 not
                  have t59 : (xi (E (64 * (v4_3.toNatClampNeg + 1) + 6)) 1).toInt < (xi (E (64 * (y39.toNatClampNeg + 1) + 6)) 1).toInt := ti_nle c47
                  have i60 : 0 ≤ (xi (E (64 * (v4_3.toNatClampNeg + 1) + 6)) 1).toInt ∧ (xi (E (64 * (v4_3.toNatClampNeg + 1) + 6)) 1).toInt ≤ 399 := iv_lt_l t59 i46 i43 (by decide)
                  have i61 : 1 ≤ (xi (E (64 * (y39.toNatClampNeg + 1) + 6)) 1).toInt ∧ (xi (E (64 * (y39.toNatClampNeg + 1) + 6)) 1).toInt ≤ 400 := iv_lt_r t59 i46 i43 (by decide)
                  refine lv_aload_n hx hb dX3_gather_89 rfl (lv_at hl 4 rfl) ?_
                  refine th_getL (ci := 4) (C := RX3) (T := TX3) (N := 18) (v := .ref (ad 47)) hx hb hts hinX3 hown hK hP hI 6 (mF 6 rfl) rfl rfl 6 (Nat.le_of_ble_eq_true rfl) (hts _ (vA_in _ _ (in_17 _ (List.mem_of_getElem? (i := 11) rfl)))) (fun _ h9 => h9) (hI.fr 6 (mF 6 rfl) rfl (Nat.le_of_ble_eq_true rfl) 47 rfl) dX3_gather_90 ?_
                  refine lv_iload hx hb dX3_gather_93 (lv_at hl 0 rfl) ?_
                  refine lv_aload_n hx hb dX3_gather_95 rfl (lv_at hl 4 rfl) ?_
                  refine th_getL (ci := 4) (C := RX3) (T := TX3) (N := 18) (v := .ref (ad 47)) hx hb hts hinX3 hown hK hP hI 6 (mF 6 rfl) rfl rfl 6 (Nat.le_of_ble_eq_true rfl) (hts _ (vA_in _ _ (in_17 _ (List.mem_of_getElem? (i := 11) rfl)))) (fun _ h9 => h9) (hI.fr 6 (mF 6 rfl) rfl (Nat.le_of_ble_eq_true rfl) 47 rfl) dX3_gather_96 ?_
                  refine lv_iload hx hb dX3_gather_99 (lv_at hl 0 rfl) ?_
                  refine lv_iconst (v := 1) hx hb dX3_gather_101 (by decide) ?_
                  refine lv_isub hx hb dX3_gather_102 ?_
                  refine lv_topi (fun y62 ey62 => ?_)
                  obtain ⟨ty62, iy62⟩ := ti_sub (e := 0) (f := 18) i37 ln_1 ey62 (by decide)
                  have ty62 : y62.toInt = v39_5.toInt - 1 := ty62
                  have iy62 : 0 ≤ y62.toInt ∧ y62.toInt ≤ 18 := iy62
                  have n64 : vp_in y62 20 := (iv_in (n := 20) iy62 (by decide))
                  refine th_ialdL hx hb hK hP hI 47 (mF 47 rfl) rfl rfl n64 dX3_gather_103 (fun y63 ey63 => ?_)
                  have jy63 : 0 ≤ y63.toInt ∧ y63.toInt ≤ ((cf 2 - 1 : Nat) : Int) := hI.el 47 (mF 47 rfl) rfl n64 (fun _ => rfl) ey63
                  have iy63 : 0 ≤ y63.toInt ∧ y63.toInt ≤ 19 := by omega
                  have ey63 := ey63.trans (congrFun hr39_47 _)
                  have n65 : vp_in v39_5 20 := (iv_in (n := 20) i37 (by decide))
                  refine th_iastL hx hb hK hP (WL_D hD) hS hI 47 (mF 47 rfl) rfl rfl n65 (okI (lo := 0) (hi := ((cf 2 - 1 : Nat) : Int)) rfl (by omega)) dX3_gather_104 (fun H locs E66 pw67 hI hP hS => ?_)
                  have hKp := hKp.pw pw67 rfl
                  obtain ⟨g68, eg68⟩ : ∃ z : Nat → Int32, z = upd g39_47 v39_5.toNatClampNeg y63 := ⟨_, rfl⟩
                  have hg68 : xi (E66 47) = g68 := by rw [pw67.eu, hr39_47, eg68]
                  refine lv_aload_n hx hb dX3_gather_105 rfl (lv_at hl 4 rfl) ?_
                  refine th_getL (ci := 4) (C := RX3) (T := TX3) (N := 18) (v := .ref (ad 48)) hx hb hts hinX3 hown hK hP hI 6 (mF 6 rfl) rfl rfl 7 (Nat.le_of_ble_eq_true rfl) (hts _ (vA_in _ _ (in_17 _ (List.mem_of_getElem? (i := 12) rfl)))) (fun _ h9 => h9) (hI.fr 6 (mF 6 rfl) rfl (Nat.le_of_ble_eq_true rfl) 48 rfl) dX3_gather_106 ?_
                  refine lv_iload hx hb dX3_gather_109 (lv_at hl 0 rfl) ?_
                  refine lv_aload_n hx hb dX3_gather_111 rfl (lv_at hl 4 rfl) ?_
                  refine th_getL (ci := 4) (C := RX3) (T := TX3) (N := 18) (v := .ref (ad 48)) hx hb hts hinX3 hown hK hP hI 6 (mF 6 rfl) rfl rfl 7 (Nat.le_of_ble_eq_true rfl) (hts _ (vA_in _ _ (in_17 _ (List.mem_of_getElem? (i := 12) rfl)))) (fun _ h9 => h9) (hI.fr 6 (mF 6 rfl) rfl (Nat.le_of_ble_eq_true rfl) 48 rfl) dX3_gather_112 ?_
                  refine lv_iload hx hb dX3_gather_115 (lv_at hl 0 rfl) ?_
                  refine lv_iconst (v := 1) hx hb dX3_gather_117 (by decide) ?_
                  refine lv_isub hx hb dX3_gather_118 ?_
                  refine lv_topi (fun y69 ey69 => ?_)
                  obtain ⟨ty69, iy69⟩ := ti_sub (e := 0) (f := 18) i37 ln_1 ey69 (by decide)
                  have ty69 : y69.toInt = v39_5.toInt - 1 := ty69
                  have iy69 : 0 ≤ y69.toInt ∧ y69.toInt ≤ 18 := iy69
                  have n71 : vp_in y69 20 := (iv_in (n := 20) iy69 (by decide))
                  refine th_ialdL hx hb hK hP hI 48 (mF 48 rfl) rfl rfl n71 dX3_gather_119 (fun y70 ey70 => ?_)
                  have iy70 : -100000 ≤ y70.toInt ∧ y70.toInt ≤ 400000 := hI.el 48 (mF 48 rfl) rfl n71 (fun _ => rfl) ey70
                  have ey70 := ey70.trans (congrFun ((pw67.ef 48 (Nat.ne_of_beq_eq_false rfl)).trans hr39_48) _)
                  have n72 : vp_in v39_5 20 := (iv_in (n := 20) i37 (by decide))
                  refine th_iastL hx hb hK hP (WL_D hD) hS hI 48 (mF 48 rfl) rfl rfl n72 (okI rfl iy70) dX3_gather_120 (fun H locs E73 pw74 hI hP hS => ?_)
                  have hKp := hKp.pw pw74 rfl
                  obtain ⟨g75, eg75⟩ : ∃ z : Nat → Int32, z = upd g39_48 v39_5.toNatClampNeg y70 := ⟨_, rfl⟩
                  have hg75 : xi (E73 48) = g75 := by rw [pw74.eu, ((pw67.ef 48 (Nat.ne_of_beq_eq_false rfl)).trans hr39_48), eg75]
                  obtain ⟨y76, ey76⟩ : ∃ y : Int32, y = v39_5 + (-1 : Int32) := ⟨_, rfl⟩
                  obtain ⟨ty76, iy76⟩ := ti_add (e := 0) (f := 18) i37 ln_m1 ey76 (by decide)
                  have ty76 : y76.toInt = v39_5.toInt + (-1) := ty76
                  have iy76 : 0 ≤ y76.toInt ∧ y76.toInt ≤ 18 := iy76
                  refine lv_iinc (v := y76) (lv' := [(5, .int y76), (4, .int r12), (3, .int v4_3), (2, .int v4_2), (0, .ref (ad 6)), (1, .int a0)]) hx hb dX3_gather_121 hl (k := 0) rfl (by rw [ey76]; rfl) (by decide) rfl (fun ls hl => ?_)
                  refine lv_goto (tgt := 39) hx hb dX3_gather_124 (by decide) ?_
                  exact ih39 g68 g75 y76 E73 _ _ _ (iv_w iy76 (by decide)) (hx39_0.step (show v39_5.toNatClampNeg = y76.toNatClampNeg + 1 by rw [tn_ v39_5, tn_ y76]; omega) (by rw [tn_, tn_]; omega) eg68 rfl (by rw [ey63, (show y62.toNatClampNeg = y76.toNatClampNeg by rw [tn_ y62, tn_ y76]; omega)])) (hx39_1.step (show v39_5.toNatClampNeg = y76.toNatClampNeg + 1 by rw [tn_ v39_5, tn_ y76]; omega) (by rw [tn_, tn_]; omega) eg75 rfl (by rw [ey70, (show y69.toNatClampNeg = y76.toNatClampNeg by rw [tn_ y69, tn_ y76]; omega)])) (fun i9 h8 h9 => dite (i9 = y76.toNatClampNeg) (fun q9 => by rw [q9, ← hx39_0.1 y76.toNatClampNeg (by rw [tn_, tn_]; omega), ← (show y38.toNatClampNeg = y76.toNatClampNeg by rw [tn_ y38, tn_ y76]; omega), ← ey39]; show (xi (E (64 * (v4_3.toNatClampNeg + 1) + 6)) 1).toInt < (xi (E (64 * (y39.toNatClampNeg + 1) + 6)) 1).toInt; omega) (fun q9 => hx39_2 i9 (by have q8 := (show v39_5.toNatClampNeg = y76.toNatClampNeg + 1 by rw [tn_ v39_5, tn_ y76]; omega); omega) h9)) (by omega) (by omega) hI hKp ((pw74.ef 47 (Nat.ne_of_beq_eq_false rfl)).trans hg68) hg75 hP hS (lv_sub hl [0, 1, 2, 3, 4, 5] rfl)
          exact hL39 (20) g4_47 g4_48 v4_2 E13 _ _ _ i11 shI.start shI.start (fun i9 h8 h9 => absurd h9 (Nat.not_lt.mpr h8)) (by omega) (by have h9 := i11; omega) hI hKp ((kq14.ef 47 (fun _ => rfl)).trans hr4_47) ((kq14.ef 48 (fun _ => rfl)).trans hr4_48) hP hS (lv_sub hl [0, 1, 2, 3, 4, 5] rfl)
        · --30 not
          have t77 : r12.toInt = -1000000000 := ti_eq c19
          have i78 : -1000000000 ≤ r12.toInt ∧ r12.toInt ≤ -1000000000 := iv_eqi t77 f15 (il_ (-1000000000)) (by decide)
          refine lv_goto (tgt := 147) hx hb dX3_gather_33 (by decide) ?_
          obtain ⟨y79, ey79⟩ : ∃ y : Int32, y = v4_3 + (1 : Int32) := ⟨_, rfl⟩
          obtain ⟨ty79, iy79⟩ := ti_add (e := 1) (f := 20) i9 ln_1 ey79 (by decide)
          have ty79 : y79.toInt = v4_3.toInt + 1 := ty79
          have iy79 : 1 ≤ y79.toInt ∧ y79.toInt ≤ 20 := iy79
          refine lv_iinc (v := y79) (lv' := [(3, .int y79), (4, .int r12), (2, .int v4_2), (0, .ref (ad 6)), (1, .int a0)]) hx hb dX3_gather_147 hl (k := 1) rfl (by rw [ey79]; rfl) (by decide) rfl (fun ls hl => ?_)
          refine lv_goto (tgt := 4) hx hb dX3_gather_150 (by decide) ?_
          exact ih4 g4_47 g4_48 y79 v4_2 E13 _ _ _ (iv_w iy79 (by decide)) (iv_w i11 (by decide)) (hx4_0.no k18 (by omega) (by rw [tn_ y79, tn_ v4_3]; omega)) (by omega) (by omega) (by omega) hI hKp ((kq14.ef 47 (fun _ => rfl)).trans hr4_47) ((kq14.ef 48 (fun _ => rfl)).trans hr4_48) hP hS (lv_sub hl [0, 2, 3, 4] rfl)
  exact hL4 (21) g1 g2 (0 : Int32) (0 : Int32) E _ _ _ (iv_w ln_0 (by decide)) (iv_w ln_0 (by decide)) (show GaG E a0.toNatClampNeg 0 0 _ _ from ⟨⟨fun i9 h9 => absurd h9 (Nat.not_lt_zero i9), fun r9 h9 => absurd h9 (Nat.not_lt_zero r9), fun i9 j9 _ h9 => absurd h9 (Nat.not_lt_zero j9)⟩, fun i9 j9 _ h9 => absurd h9 (Nat.not_lt_zero j9), fun i9 h9 => absurd h9 (Nat.not_lt_zero i9)⟩) (by have z9 := ln_0; omega) (by have z9 := ln_0; omega) (by have h9 := ln_0; omega) hI hKp hg1 hg2 hP hS (lv_sub hl [0, 1, 2, 3] rfl)
